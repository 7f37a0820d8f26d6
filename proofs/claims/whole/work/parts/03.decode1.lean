theorem dX0_init_0 : decode cX0_init 0 = .ok (.aload_n 0, 1) := by decide +kernel
theorem dX0_init_1 : decode cX0_init 1 = .ok (.invokespecial 3, 3) := by decide +kernel
theorem dX0_init_4 : decode cX0_init 4 = .ok (.aload_n 0, 1) := by decide +kernel
theorem dX0_init_5 : decode cX0_init 5 = .ok (.iconst 0, 1) := by decide +kernel
theorem dX0_init_6 : decode cX0_init 6 = .ok (.putfield 9, 3) := by decide +kernel
theorem dX0_init_9 : decode cX0_init 9 = .ok (.aload_n 0, 1) := by decide +kernel
theorem dX0_init_10 : decode cX0_init 10 = .ok (.iconst 2, 1) := by decide +kernel
theorem dX0_init_11 : decode cX0_init 11 = .ok (.putfield 15, 3) := by decide +kernel
theorem dX0_init_14 : decode cX0_init 14 = .ok (.aload_n 0, 1) := by decide +kernel
theorem dX0_init_15 : decode cX0_init 15 = .ok (.iconst 0, 1) := by decide +kernel
theorem dX0_init_16 : decode cX0_init 16 = .ok (.putfield 18, 3) := by decide +kernel
theorem dX0_init_19 : decode cX0_init 19 = .ok (.aload_n 0, 1) := by decide +kernel
theorem dX0_init_20 : decode cX0_init 20 = .ok (.bipush 6, 2) := by decide +kernel
theorem dX0_init_22 : decode cX0_init 22 = .ok (.newarray .int, 2) := by decide +kernel
theorem dX0_init_24 : decode cX0_init 24 = .ok (.putfield 21, 3) := by decide +kernel
theorem dX0_init_27 : decode cX0_init 27 = .ok (.aload_n 0, 1) := by decide +kernel
theorem dX0_init_28 : decode cX0_init 28 = .ok (.bipush 6, 2) := by decide +kernel
theorem dX0_init_30 : decode cX0_init 30 = .ok (.newarray .int, 2) := by decide +kernel
theorem dX0_init_32 : decode cX0_init 32 = .ok (.putfield 25, 3) := by decide +kernel
theorem dX0_init_35 : decode cX0_init 35 = .ok (.aload_n 0, 1) := by decide +kernel
theorem dX0_init_36 : decode cX0_init 36 = .ok (.iconst 3, 1) := by decide +kernel
theorem dX0_init_37 : decode cX0_init 37 = .ok (.newarray .int, 2) := by decide +kernel
theorem dX0_init_39 : decode cX0_init 39 = .ok (.putfield 28, 3) := by decide +kernel
theorem dX0_init_42 : decode cX0_init 42 = .ok (.aload_n 0, 1) := by decide +kernel
theorem dX0_init_43 : decode cX0_init 43 = .ok (.iconst 0, 1) := by decide +kernel
theorem dX0_init_44 : decode cX0_init 44 = .ok (.putfield 31, 3) := by decide +kernel
theorem dX0_init_47 : decode cX0_init 47 = .ok (.aload_n 0, 1) := by decide +kernel
theorem dX0_init_48 : decode cX0_init 48 = .ok (.iconst 0, 1) := by decide +kernel
theorem dX0_init_49 : decode cX0_init 49 = .ok (.putfield 34, 3) := by decide +kernel
theorem dX0_init_52 : decode cX0_init 52 = .ok (.aload_n 0, 1) := by decide +kernel
theorem dX0_init_53 : decode cX0_init 53 = .ok (.iconst 0, 1) := by decide +kernel
theorem dX0_init_54 : decode cX0_init 54 = .ok (.putfield 37, 3) := by decide +kernel
theorem dX0_init_57 : decode cX0_init 57 = .ok (.aload_n 0, 1) := by decide +kernel
theorem dX0_init_58 : decode cX0_init 58 = .ok (.new 41, 3) := by decide +kernel
theorem dX0_init_61 : decode cX0_init 61 = .ok (.dup, 1) := by decide +kernel
theorem dX0_init_62 : decode cX0_init 62 = .ok (.invokespecial 43, 3) := by decide +kernel
theorem dX0_init_65 : decode cX0_init 65 = .ok (.putfield 44, 3) := by decide +kernel
theorem dX0_init_68 : decode cX0_init 68 = .ok (.aload_n 0, 1) := by decide +kernel
theorem dX0_init_69 : decode cX0_init 69 = .ok (.bipush 48, 2) := by decide +kernel
theorem dX0_init_71 : decode cX0_init 71 = .ok (.newarray .int, 2) := by decide +kernel
theorem dX0_init_73 : decode cX0_init 73 = .ok (.putfield 48, 3) := by decide +kernel
theorem dX0_init_76 : decode cX0_init 76 = .ok (.aload_n 0, 1) := by decide +kernel
theorem dX0_init_77 : decode cX0_init 77 = .ok (.iconst 0, 1) := by decide +kernel
theorem dX0_init_78 : decode cX0_init 78 = .ok (.putfield 51, 3) := by decide +kernel
theorem dX0_init_81 : decode cX0_init 81 = .ok (.return_, 1) := by decide +kernel
theorem dX0_begin_0 : decode cX0_begin 0 = .ok (.aload_n 0, 1) := by decide +kernel
theorem dX0_begin_1 : decode cX0_begin 1 = .ok (.iload_n 1, 1) := by decide +kernel
theorem dX0_begin_2 : decode cX0_begin 2 = .ok (.putfield 9, 3) := by decide +kernel
theorem dX0_begin_5 : decode cX0_begin 5 = .ok (.aload_n 0, 1) := by decide +kernel
theorem dX0_begin_6 : decode cX0_begin 6 = .ok (.iload_n 2, 1) := by decide +kernel
theorem dX0_begin_7 : decode cX0_begin 7 = .ok (.putfield 15, 3) := by decide +kernel
theorem dX0_begin_10 : decode cX0_begin 10 = .ok (.aload_n 0, 1) := by decide +kernel
theorem dX0_begin_11 : decode cX0_begin 11 = .ok (.iconst 0, 1) := by decide +kernel
theorem dX0_begin_12 : decode cX0_begin 12 = .ok (.putfield 18, 3) := by decide +kernel
theorem dX0_begin_15 : decode cX0_begin 15 = .ok (.aload_n 0, 1) := by decide +kernel
theorem dX0_begin_16 : decode cX0_begin 16 = .ok (.getfield 28, 3) := by decide +kernel
theorem dX0_begin_19 : decode cX0_begin 19 = .ok (.iconst 0, 1) := by decide +kernel
theorem dX0_begin_20 : decode cX0_begin 20 = .ok (.invokestatic 54, 3) := by decide +kernel
theorem dX0_begin_23 : decode cX0_begin 23 = .ok (.aload_n 0, 1) := by decide +kernel
theorem dX0_begin_24 : decode cX0_begin 24 = .ok (.iconst 0, 1) := by decide +kernel
theorem dX0_begin_25 : decode cX0_begin 25 = .ok (.putfield 31, 3) := by decide +kernel
theorem dX0_begin_28 : decode cX0_begin 28 = .ok (.aload_n 0, 1) := by decide +kernel
theorem dX0_begin_29 : decode cX0_begin 29 = .ok (.iconst 0, 1) := by decide +kernel
theorem dX0_begin_30 : decode cX0_begin 30 = .ok (.putfield 34, 3) := by decide +kernel
theorem dX0_begin_33 : decode cX0_begin 33 = .ok (.aload_n 0, 1) := by decide +kernel
theorem dX0_begin_34 : decode cX0_begin 34 = .ok (.iconst 0, 1) := by decide +kernel
theorem dX0_begin_35 : decode cX0_begin 35 = .ok (.putfield 37, 3) := by decide +kernel
theorem dX0_begin_38 : decode cX0_begin 38 = .ok (.aload_n 0, 1) := by decide +kernel
theorem dX0_begin_39 : decode cX0_begin 39 = .ok (.getfield 44, 3) := by decide +kernel
theorem dX0_begin_42 : decode cX0_begin 42 = .ok (.invokevirtual 60, 3) := by decide +kernel
theorem dX0_begin_45 : decode cX0_begin 45 = .ok (.aload_n 0, 1) := by decide +kernel
theorem dX0_begin_46 : decode cX0_begin 46 = .ok (.iconst 0, 1) := by decide +kernel
theorem dX0_begin_47 : decode cX0_begin 47 = .ok (.putfield 51, 3) := by decide +kernel
theorem dX0_begin_50 : decode cX0_begin 50 = .ok (.return_, 1) := by decide +kernel
theorem dX0_copyFrom_0 : decode cX0_copyFrom 0 = .ok (.aload_n 0, 1) := by decide +kernel
theorem dX0_copyFrom_1 : decode cX0_copyFrom 1 = .ok (.aload_n 1, 1) := by decide +kernel
theorem dX0_copyFrom_2 : decode cX0_copyFrom 2 = .ok (.getfield 9, 3) := by decide +kernel
theorem dX0_copyFrom_5 : decode cX0_copyFrom 5 = .ok (.putfield 9, 3) := by decide +kernel
theorem dX0_copyFrom_8 : decode cX0_copyFrom 8 = .ok (.aload_n 0, 1) := by decide +kernel
theorem dX0_copyFrom_9 : decode cX0_copyFrom 9 = .ok (.aload_n 1, 1) := by decide +kernel
theorem dX0_copyFrom_10 : decode cX0_copyFrom 10 = .ok (.getfield 15, 3) := by decide +kernel
theorem dX0_copyFrom_13 : decode cX0_copyFrom 13 = .ok (.putfield 15, 3) := by decide +kernel
theorem dX0_copyFrom_16 : decode cX0_copyFrom 16 = .ok (.aload_n 0, 1) := by decide +kernel
theorem dX0_copyFrom_17 : decode cX0_copyFrom 17 = .ok (.aload_n 1, 1) := by decide +kernel
theorem dX0_copyFrom_18 : decode cX0_copyFrom 18 = .ok (.getfield 18, 3) := by decide +kernel
theorem dX0_copyFrom_21 : decode cX0_copyFrom 21 = .ok (.putfield 18, 3) := by decide +kernel
theorem dX0_copyFrom_24 : decode cX0_copyFrom 24 = .ok (.aload_n 1, 1) := by decide +kernel
theorem dX0_copyFrom_25 : decode cX0_copyFrom 25 = .ok (.getfield 21, 3) := by decide +kernel
theorem dX0_copyFrom_28 : decode cX0_copyFrom 28 = .ok (.iconst 0, 1) := by decide +kernel
theorem dX0_copyFrom_29 : decode cX0_copyFrom 29 = .ok (.aload_n 0, 1) := by decide +kernel
theorem dX0_copyFrom_30 : decode cX0_copyFrom 30 = .ok (.getfield 21, 3) := by decide +kernel
theorem dX0_copyFrom_33 : decode cX0_copyFrom 33 = .ok (.iconst 0, 1) := by decide +kernel
theorem dX0_copyFrom_34 : decode cX0_copyFrom 34 = .ok (.bipush 6, 2) := by decide +kernel
theorem dX0_copyFrom_36 : decode cX0_copyFrom 36 = .ok (.invokestatic 63, 3) := by decide +kernel
theorem dX0_copyFrom_39 : decode cX0_copyFrom 39 = .ok (.aload_n 1, 1) := by decide +kernel
theorem dX0_copyFrom_40 : decode cX0_copyFrom 40 = .ok (.getfield 25, 3) := by decide +kernel
theorem dX0_copyFrom_43 : decode cX0_copyFrom 43 = .ok (.iconst 0, 1) := by decide +kernel
theorem dX0_copyFrom_44 : decode cX0_copyFrom 44 = .ok (.aload_n 0, 1) := by decide +kernel
theorem dX0_copyFrom_45 : decode cX0_copyFrom 45 = .ok (.getfield 25, 3) := by decide +kernel
theorem dX0_copyFrom_48 : decode cX0_copyFrom 48 = .ok (.iconst 0, 1) := by decide +kernel
theorem dX0_copyFrom_49 : decode cX0_copyFrom 49 = .ok (.bipush 6, 2) := by decide +kernel
theorem dX0_copyFrom_51 : decode cX0_copyFrom 51 = .ok (.invokestatic 63, 3) := by decide +kernel
theorem dX0_copyFrom_54 : decode cX0_copyFrom 54 = .ok (.aload_n 1, 1) := by decide +kernel
theorem dX0_copyFrom_55 : decode cX0_copyFrom 55 = .ok (.getfield 28, 3) := by decide +kernel
theorem dX0_copyFrom_58 : decode cX0_copyFrom 58 = .ok (.iconst 0, 1) := by decide +kernel
theorem dX0_copyFrom_59 : decode cX0_copyFrom 59 = .ok (.aload_n 0, 1) := by decide +kernel
theorem dX0_copyFrom_60 : decode cX0_copyFrom 60 = .ok (.getfield 28, 3) := by decide +kernel
theorem dX0_copyFrom_63 : decode cX0_copyFrom 63 = .ok (.iconst 0, 1) := by decide +kernel
theorem dX0_copyFrom_64 : decode cX0_copyFrom 64 = .ok (.iconst 3, 1) := by decide +kernel
theorem dX0_copyFrom_65 : decode cX0_copyFrom 65 = .ok (.invokestatic 63, 3) := by decide +kernel
theorem dX0_copyFrom_68 : decode cX0_copyFrom 68 = .ok (.aload_n 0, 1) := by decide +kernel
theorem dX0_copyFrom_69 : decode cX0_copyFrom 69 = .ok (.aload_n 1, 1) := by decide +kernel
theorem dX0_copyFrom_70 : decode cX0_copyFrom 70 = .ok (.getfield 31, 3) := by decide +kernel
theorem dX0_copyFrom_73 : decode cX0_copyFrom 73 = .ok (.putfield 31, 3) := by decide +kernel
theorem dX0_copyFrom_76 : decode cX0_copyFrom 76 = .ok (.aload_n 0, 1) := by decide +kernel
theorem dX0_copyFrom_77 : decode cX0_copyFrom 77 = .ok (.aload_n 1, 1) := by decide +kernel
theorem dX0_copyFrom_78 : decode cX0_copyFrom 78 = .ok (.getfield 34, 3) := by decide +kernel
theorem dX0_copyFrom_81 : decode cX0_copyFrom 81 = .ok (.putfield 34, 3) := by decide +kernel
theorem dX0_copyFrom_84 : decode cX0_copyFrom 84 = .ok (.aload_n 0, 1) := by decide +kernel
theorem dX0_copyFrom_85 : decode cX0_copyFrom 85 = .ok (.aload_n 1, 1) := by decide +kernel
theorem dX0_copyFrom_86 : decode cX0_copyFrom 86 = .ok (.getfield 37, 3) := by decide +kernel
theorem dX0_copyFrom_89 : decode cX0_copyFrom 89 = .ok (.putfield 37, 3) := by decide +kernel
theorem dX0_copyFrom_92 : decode cX0_copyFrom 92 = .ok (.aload_n 0, 1) := by decide +kernel
theorem dX0_copyFrom_93 : decode cX0_copyFrom 93 = .ok (.getfield 44, 3) := by decide +kernel
theorem dX0_copyFrom_96 : decode cX0_copyFrom 96 = .ok (.aload_n 1, 1) := by decide +kernel
theorem dX0_copyFrom_97 : decode cX0_copyFrom 97 = .ok (.getfield 44, 3) := by decide +kernel
theorem dX0_copyFrom_100 : decode cX0_copyFrom 100 = .ok (.iconst 0, 1) := by decide +kernel
theorem dX0_copyFrom_101 : decode cX0_copyFrom 101 = .ok (.invokevirtual 69, 3) := by decide +kernel
theorem dX0_copyFrom_104 : decode cX0_copyFrom 104 = .ok (.aload_n 1, 1) := by decide +kernel
theorem dX0_copyFrom_105 : decode cX0_copyFrom 105 = .ok (.getfield 48, 3) := by decide +kernel
theorem dX0_copyFrom_108 : decode cX0_copyFrom 108 = .ok (.iconst 0, 1) := by decide +kernel
theorem dX0_copyFrom_109 : decode cX0_copyFrom 109 = .ok (.aload_n 0, 1) := by decide +kernel
theorem dX0_copyFrom_110 : decode cX0_copyFrom 110 = .ok (.getfield 48, 3) := by decide +kernel
theorem dX0_copyFrom_113 : decode cX0_copyFrom 113 = .ok (.iconst 0, 1) := by decide +kernel
theorem dX0_copyFrom_114 : decode cX0_copyFrom 114 = .ok (.bipush 48, 2) := by decide +kernel
theorem dX0_copyFrom_116 : decode cX0_copyFrom 116 = .ok (.invokestatic 63, 3) := by decide +kernel
theorem dX0_copyFrom_119 : decode cX0_copyFrom 119 = .ok (.aload_n 0, 1) := by decide +kernel
theorem dX0_copyFrom_120 : decode cX0_copyFrom 120 = .ok (.aload_n 1, 1) := by decide +kernel
theorem dX0_copyFrom_121 : decode cX0_copyFrom 121 = .ok (.getfield 51, 3) := by decide +kernel
theorem dX0_copyFrom_124 : decode cX0_copyFrom 124 = .ok (.putfield 51, 3) := by decide +kernel
theorem dX0_copyFrom_127 : decode cX0_copyFrom 127 = .ok (.return_, 1) := by decide +kernel
theorem dX0_isFull_0 : decode cX0_isFull 0 = .ok (.aload_n 0, 1) := by decide +kernel
theorem dX0_isFull_1 : decode cX0_isFull 1 = .ok (.getfield 18, 3) := by decide +kernel
theorem dX0_isFull_4 : decode cX0_isFull 4 = .ok (.bipush 6, 2) := by decide +kernel
theorem dX0_isFull_6 : decode cX0_isFull 6 = .ok (.if_icmp .lt 7, 3) := by decide +kernel
theorem dX0_isFull_9 : decode cX0_isFull 9 = .ok (.iconst 1, 1) := by decide +kernel
theorem dX0_isFull_10 : decode cX0_isFull 10 = .ok (.goto 4, 3) := by decide +kernel
theorem dX0_isFull_13 : decode cX0_isFull 13 = .ok (.iconst 0, 1) := by decide +kernel
theorem dX0_isFull_14 : decode cX0_isFull 14 = .ok (.ireturn, 1) := by decide +kernel
theorem dX0_addHolder_0 : decode cX0_addHolder 0 = .ok (.aload_n 0, 1) := by decide +kernel
theorem dX0_addHolder_1 : decode cX0_addHolder 1 = .ok (.getfield 18, 3) := by decide +kernel
theorem dX0_addHolder_4 : decode cX0_addHolder 4 = .ok (.ifCond .lt 42, 3) := by decide +kernel
theorem dX0_addHolder_7 : decode cX0_addHolder 7 = .ok (.aload_n 0, 1) := by decide +kernel
theorem dX0_addHolder_8 : decode cX0_addHolder 8 = .ok (.getfield 18, 3) := by decide +kernel
theorem dX0_addHolder_11 : decode cX0_addHolder 11 = .ok (.bipush 6, 2) := by decide +kernel
theorem dX0_addHolder_13 : decode cX0_addHolder 13 = .ok (.if_icmp .ge 33, 3) := by decide +kernel
theorem dX0_addHolder_16 : decode cX0_addHolder 16 = .ok (.aload_n 0, 1) := by decide +kernel
theorem dX0_addHolder_17 : decode cX0_addHolder 17 = .ok (.getfield 21, 3) := by decide +kernel
theorem dX0_addHolder_20 : decode cX0_addHolder 20 = .ok (.aload_n 0, 1) := by decide +kernel
theorem dX0_addHolder_21 : decode cX0_addHolder 21 = .ok (.getfield 18, 3) := by decide +kernel
theorem dX0_addHolder_24 : decode cX0_addHolder 24 = .ok (.iload_n 1, 1) := by decide +kernel
theorem dX0_addHolder_25 : decode cX0_addHolder 25 = .ok (.iastore, 1) := by decide +kernel
theorem dX0_addHolder_26 : decode cX0_addHolder 26 = .ok (.aload_n 0, 1) := by decide +kernel
theorem dX0_addHolder_27 : decode cX0_addHolder 27 = .ok (.getfield 25, 3) := by decide +kernel
theorem dX0_addHolder_30 : decode cX0_addHolder 30 = .ok (.aload_n 0, 1) := by decide +kernel
theorem dX0_addHolder_31 : decode cX0_addHolder 31 = .ok (.getfield 18, 3) := by decide +kernel
theorem dX0_addHolder_34 : decode cX0_addHolder 34 = .ok (.iload_n 2, 1) := by decide +kernel
theorem dX0_addHolder_35 : decode cX0_addHolder 35 = .ok (.iastore, 1) := by decide +kernel
theorem dX0_addHolder_36 : decode cX0_addHolder 36 = .ok (.aload_n 0, 1) := by decide +kernel
theorem dX0_addHolder_37 : decode cX0_addHolder 37 = .ok (.dup, 1) := by decide +kernel
theorem dX0_addHolder_38 : decode cX0_addHolder 38 = .ok (.getfield 18, 3) := by decide +kernel
theorem dX0_addHolder_41 : decode cX0_addHolder 41 = .ok (.iconst 1, 1) := by decide +kernel
theorem dX0_addHolder_42 : decode cX0_addHolder 42 = .ok (.iadd, 1) := by decide +kernel
theorem dX0_addHolder_43 : decode cX0_addHolder 43 = .ok (.putfield 18, 3) := by decide +kernel
theorem dX0_addHolder_46 : decode cX0_addHolder 46 = .ok (.return_, 1) := by decide +kernel
theorem dX0_hasHolder_0 : decode cX0_hasHolder 0 = .ok (.iload_n 1, 1) := by decide +kernel
theorem dX0_hasHolder_1 : decode cX0_hasHolder 1 = .ok (.ifCond .lt 15, 3) := by decide +kernel
theorem dX0_hasHolder_4 : decode cX0_hasHolder 4 = .ok (.iload_n 1, 1) := by decide +kernel
theorem dX0_hasHolder_5 : decode cX0_hasHolder 5 = .ok (.aload_n 0, 1) := by decide +kernel
theorem dX0_hasHolder_6 : decode cX0_hasHolder 6 = .ok (.getfield 18, 3) := by decide +kernel
theorem dX0_hasHolder_9 : decode cX0_hasHolder 9 = .ok (.if_icmp .ge 7, 3) := by decide +kernel
theorem dX0_hasHolder_12 : decode cX0_hasHolder 12 = .ok (.iconst 1, 1) := by decide +kernel
theorem dX0_hasHolder_13 : decode cX0_hasHolder 13 = .ok (.goto 4, 3) := by decide +kernel
theorem dX0_hasHolder_16 : decode cX0_hasHolder 16 = .ok (.iconst 0, 1) := by decide +kernel
theorem dX0_hasHolder_17 : decode cX0_hasHolder 17 = .ok (.ireturn, 1) := by decide +kernel
theorem dX0_hasAll_0 : decode cX0_hasAll 0 = .ok (.iload_n 1, 1) := by decide +kernel
theorem dX0_hasAll_1 : decode cX0_hasAll 1 = .ok (.ifCond .lt 15, 3) := by decide +kernel
theorem dX0_hasAll_4 : decode cX0_hasAll 4 = .ok (.iload_n 1, 1) := by decide +kernel
theorem dX0_hasAll_5 : decode cX0_hasAll 5 = .ok (.aload_n 0, 1) := by decide +kernel
theorem dX0_hasAll_6 : decode cX0_hasAll 6 = .ok (.invokevirtual 73, 3) := by decide +kernel
theorem dX0_hasAll_9 : decode cX0_hasAll 9 = .ok (.if_icmp .gt 7, 3) := by decide +kernel
theorem dX0_hasAll_12 : decode cX0_hasAll 12 = .ok (.iconst 1, 1) := by decide +kernel
theorem dX0_hasAll_13 : decode cX0_hasAll 13 = .ok (.goto 4, 3) := by decide +kernel
theorem dX0_hasAll_16 : decode cX0_hasAll 16 = .ok (.iconst 0, 1) := by decide +kernel
theorem dX0_hasAll_17 : decode cX0_hasAll 17 = .ok (.ireturn, 1) := by decide +kernel
theorem dX0_everyone_0 : decode cX0_everyone 0 = .ok (.iconst 1, 1) := by decide +kernel
theorem dX0_everyone_1 : decode cX0_everyone 1 = .ok (.aload_n 0, 1) := by decide +kernel
theorem dX0_everyone_2 : decode cX0_everyone 2 = .ok (.getfield 18, 3) := by decide +kernel
theorem dX0_everyone_5 : decode cX0_everyone 5 = .ok (.ishl, 1) := by decide +kernel
theorem dX0_everyone_6 : decode cX0_everyone 6 = .ok (.iconst 1, 1) := by decide +kernel
theorem dX0_everyone_7 : decode cX0_everyone 7 = .ok (.isub, 1) := by decide +kernel
theorem dX0_everyone_8 : decode cX0_everyone 8 = .ok (.ireturn, 1) := by decide +kernel
theorem dX0_kindOf_0 : decode cX0_kindOf 0 = .ok (.iload_n 1, 1) := by decide +kernel
theorem dX0_kindOf_1 : decode cX0_kindOf 1 = .ok (.ifCond .lt 21, 3) := by decide +kernel
theorem dX0_kindOf_4 : decode cX0_kindOf 4 = .ok (.iload_n 1, 1) := by decide +kernel
theorem dX0_kindOf_5 : decode cX0_kindOf 5 = .ok (.aload_n 0, 1) := by decide +kernel
theorem dX0_kindOf_6 : decode cX0_kindOf 6 = .ok (.getfield 21, 3) := by decide +kernel
theorem dX0_kindOf_9 : decode cX0_kindOf 9 = .ok (.arraylength, 1) := by decide +kernel
theorem dX0_kindOf_10 : decode cX0_kindOf 10 = .ok (.if_icmp .ge 12, 3) := by decide +kernel
theorem dX0_kindOf_13 : decode cX0_kindOf 13 = .ok (.aload_n 0, 1) := by decide +kernel
theorem dX0_kindOf_14 : decode cX0_kindOf 14 = .ok (.getfield 21, 3) := by decide +kernel
theorem dX0_kindOf_17 : decode cX0_kindOf 17 = .ok (.iload_n 1, 1) := by decide +kernel
theorem dX0_kindOf_18 : decode cX0_kindOf 18 = .ok (.iaload, 1) := by decide +kernel
theorem dX0_kindOf_19 : decode cX0_kindOf 19 = .ok (.goto 4, 3) := by decide +kernel
theorem dX0_kindOf_22 : decode cX0_kindOf 22 = .ok (.iconst 0, 1) := by decide +kernel
theorem dX0_kindOf_23 : decode cX0_kindOf 23 = .ok (.ireturn, 1) := by decide +kernel
theorem dX0_extraOf_0 : decode cX0_extraOf 0 = .ok (.iload_n 1, 1) := by decide +kernel
theorem dX0_extraOf_1 : decode cX0_extraOf 1 = .ok (.ifCond .lt 21, 3) := by decide +kernel
theorem dX0_extraOf_4 : decode cX0_extraOf 4 = .ok (.iload_n 1, 1) := by decide +kernel
theorem dX0_extraOf_5 : decode cX0_extraOf 5 = .ok (.aload_n 0, 1) := by decide +kernel
theorem dX0_extraOf_6 : decode cX0_extraOf 6 = .ok (.getfield 25, 3) := by decide +kernel
theorem dX0_extraOf_9 : decode cX0_extraOf 9 = .ok (.arraylength, 1) := by decide +kernel
theorem dX0_extraOf_10 : decode cX0_extraOf 10 = .ok (.if_icmp .ge 12, 3) := by decide +kernel
theorem dX0_extraOf_13 : decode cX0_extraOf 13 = .ok (.aload_n 0, 1) := by decide +kernel
theorem dX0_extraOf_14 : decode cX0_extraOf 14 = .ok (.getfield 25, 3) := by decide +kernel
theorem dX0_extraOf_17 : decode cX0_extraOf 17 = .ok (.iload_n 1, 1) := by decide +kernel
theorem dX0_extraOf_18 : decode cX0_extraOf 18 = .ok (.iaload, 1) := by decide +kernel
theorem dX0_extraOf_19 : decode cX0_extraOf 19 = .ok (.goto 4, 3) := by decide +kernel
theorem dX0_extraOf_22 : decode cX0_extraOf 22 = .ok (.iconst 0, 1) := by decide +kernel
theorem dX0_extraOf_23 : decode cX0_extraOf 23 = .ok (.ireturn, 1) := by decide +kernel
theorem dX0_factor_0 : decode cX0_factor 0 = .ok (.iload_n 1, 1) := by decide +kernel
theorem dX0_factor_1 : decode cX0_factor 1 = .ok (.iconst 1, 1) := by decide +kernel
theorem dX0_factor_2 : decode cX0_factor 2 = .ok (.if_icmp .lt 23, 3) := by decide +kernel
theorem dX0_factor_5 : decode cX0_factor 5 = .ok (.iload_n 1, 1) := by decide +kernel
theorem dX0_factor_6 : decode cX0_factor 6 = .ok (.aload_n 0, 1) := by decide +kernel
theorem dX0_factor_7 : decode cX0_factor 7 = .ok (.getfield 28, 3) := by decide +kernel
theorem dX0_factor_10 : decode cX0_factor 10 = .ok (.arraylength, 1) := by decide +kernel
theorem dX0_factor_11 : decode cX0_factor 11 = .ok (.if_icmp .gt 14, 3) := by decide +kernel
theorem dX0_factor_14 : decode cX0_factor 14 = .ok (.aload_n 0, 1) := by decide +kernel
theorem dX0_factor_15 : decode cX0_factor 15 = .ok (.getfield 28, 3) := by decide +kernel
theorem dX0_factor_18 : decode cX0_factor 18 = .ok (.iload_n 1, 1) := by decide +kernel
theorem dX0_factor_19 : decode cX0_factor 19 = .ok (.iconst 1, 1) := by decide +kernel
theorem dX0_factor_20 : decode cX0_factor 20 = .ok (.isub, 1) := by decide +kernel
theorem dX0_factor_21 : decode cX0_factor 21 = .ok (.iaload, 1) := by decide +kernel
theorem dX0_factor_22 : decode cX0_factor 22 = .ok (.goto 4, 3) := by decide +kernel
theorem dX0_factor_25 : decode cX0_factor 25 = .ok (.iconst 0, 1) := by decide +kernel
theorem dX0_factor_26 : decode cX0_factor 26 = .ok (.ireturn, 1) := by decide +kernel
theorem dX0_putFactor_0 : decode cX0_putFactor 0 = .ok (.iload_n 1, 1) := by decide +kernel
theorem dX0_putFactor_1 : decode cX0_putFactor 1 = .ok (.iconst 1, 1) := by decide +kernel
theorem dX0_putFactor_2 : decode cX0_putFactor 2 = .ok (.if_icmp .lt 21, 3) := by decide +kernel
theorem dX0_putFactor_5 : decode cX0_putFactor 5 = .ok (.iload_n 1, 1) := by decide +kernel
theorem dX0_putFactor_6 : decode cX0_putFactor 6 = .ok (.aload_n 0, 1) := by decide +kernel
theorem dX0_putFactor_7 : decode cX0_putFactor 7 = .ok (.getfield 28, 3) := by decide +kernel
theorem dX0_putFactor_10 : decode cX0_putFactor 10 = .ok (.arraylength, 1) := by decide +kernel
theorem dX0_putFactor_11 : decode cX0_putFactor 11 = .ok (.if_icmp .gt 12, 3) := by decide +kernel
theorem dX0_putFactor_14 : decode cX0_putFactor 14 = .ok (.aload_n 0, 1) := by decide +kernel
theorem dX0_putFactor_15 : decode cX0_putFactor 15 = .ok (.getfield 28, 3) := by decide +kernel
theorem dX0_putFactor_18 : decode cX0_putFactor 18 = .ok (.iload_n 1, 1) := by decide +kernel
theorem dX0_putFactor_19 : decode cX0_putFactor 19 = .ok (.iconst 1, 1) := by decide +kernel
theorem dX0_putFactor_20 : decode cX0_putFactor 20 = .ok (.isub, 1) := by decide +kernel
theorem dX0_putFactor_21 : decode cX0_putFactor 21 = .ok (.iload_n 2, 1) := by decide +kernel
theorem dX0_putFactor_22 : decode cX0_putFactor 22 = .ok (.iastore, 1) := by decide +kernel
theorem dX0_putFactor_23 : decode cX0_putFactor 23 = .ok (.return_, 1) := by decide +kernel
theorem dX0_shareOf_0 : decode cX0_shareOf 0 = .ok (.iconst 0, 1) := by decide +kernel
theorem dX0_shareOf_1 : decode cX0_shareOf 1 = .ok (.istore_n 2, 1) := by decide +kernel
theorem dX0_shareOf_2 : decode cX0_shareOf 2 = .ok (.aload_n 0, 1) := by decide +kernel
theorem dX0_shareOf_3 : decode cX0_shareOf 3 = .ok (.getfield 15, 3) := by decide +kernel
theorem dX0_shareOf_6 : decode cX0_shareOf 6 = .ok (.iconst 1, 1) := by decide +kernel
theorem dX0_shareOf_7 : decode cX0_shareOf 7 = .ok (.isub, 1) := by decide +kernel
theorem dX0_shareOf_8 : decode cX0_shareOf 8 = .ok (.istore_n 3, 1) := by decide +kernel
theorem dX0_shareOf_9 : decode cX0_shareOf 9 = .ok (.iload_n 3, 1) := by decide +kernel
theorem dX0_shareOf_10 : decode cX0_shareOf 10 = .ok (.iconst 1, 1) := by decide +kernel
theorem dX0_shareOf_11 : decode cX0_shareOf 11 = .ok (.if_icmp .lt 24, 3) := by decide +kernel
theorem dX0_shareOf_14 : decode cX0_shareOf 14 = .ok (.iload_n 2, 1) := by decide +kernel
theorem dX0_shareOf_15 : decode cX0_shareOf 15 = .ok (.aload_n 0, 1) := by decide +kernel
theorem dX0_shareOf_16 : decode cX0_shareOf 16 = .ok (.iload_n 3, 1) := by decide +kernel
theorem dX0_shareOf_17 : decode cX0_shareOf 17 = .ok (.invokevirtual 77, 3) := by decide +kernel
theorem dX0_shareOf_20 : decode cX0_shareOf 20 = .ok (.iadd, 1) := by decide +kernel
theorem dX0_shareOf_21 : decode cX0_shareOf 21 = .ok (.iload_n 1, 1) := by decide +kernel
theorem dX0_shareOf_22 : decode cX0_shareOf 22 = .ok (.iconst 1, 1) := by decide +kernel
theorem dX0_shareOf_23 : decode cX0_shareOf 23 = .ok (.iadd, 1) := by decide +kernel
theorem dX0_shareOf_24 : decode cX0_shareOf 24 = .ok (.imul, 1) := by decide +kernel
theorem dX0_shareOf_25 : decode cX0_shareOf 25 = .ok (.invokestatic 81, 3) := by decide +kernel
theorem dX0_shareOf_28 : decode cX0_shareOf 28 = .ok (.istore_n 2, 1) := by decide +kernel
theorem dX0_shareOf_29 : decode cX0_shareOf 29 = .ok (.iinc 3 (-1), 3) := by decide +kernel
theorem dX0_shareOf_32 : decode cX0_shareOf 32 = .ok (.goto (-23), 3) := by decide +kernel
theorem dX0_shareOf_35 : decode cX0_shareOf 35 = .ok (.iload_n 2, 1) := by decide +kernel
theorem dX0_shareOf_36 : decode cX0_shareOf 36 = .ok (.aload_n 0, 1) := by decide +kernel
theorem dX0_shareOf_37 : decode cX0_shareOf 37 = .ok (.getfield 9, 3) := by decide +kernel
theorem dX0_shareOf_40 : decode cX0_shareOf 40 = .ok (.iadd, 1) := by decide +kernel
theorem dX0_shareOf_41 : decode cX0_shareOf 41 = .ok (.invokestatic 81, 3) := by decide +kernel
theorem dX0_shareOf_44 : decode cX0_shareOf 44 = .ok (.ireturn, 1) := by decide +kernel
theorem dX0_wordOf_0 : decode cX0_wordOf 0 = .ok (.aload_n 0, 1) := by decide +kernel
theorem dX0_wordOf_1 : decode cX0_wordOf 1 = .ok (.iload_n 1, 1) := by decide +kernel
theorem dX0_wordOf_2 : decode cX0_wordOf 2 = .ok (.invokevirtual 84, 3) := by decide +kernel
theorem dX0_wordOf_5 : decode cX0_wordOf 5 = .ok (.istore 4, 2) := by decide +kernel
theorem dX0_wordOf_7 : decode cX0_wordOf 7 = .ok (.aload_n 0, 1) := by decide +kernel
theorem dX0_wordOf_8 : decode cX0_wordOf 8 = .ok (.iload_n 1, 1) := by decide +kernel
theorem dX0_wordOf_9 : decode cX0_wordOf 9 = .ok (.invokevirtual 87, 3) := by decide +kernel
theorem dX0_wordOf_12 : decode cX0_wordOf 12 = .ok (.istore 5, 2) := by decide +kernel
theorem dX0_wordOf_14 : decode cX0_wordOf 14 = .ok (.aload_n 0, 1) := by decide +kernel
theorem dX0_wordOf_15 : decode cX0_wordOf 15 = .ok (.iload_n 1, 1) := by decide +kernel
theorem dX0_wordOf_16 : decode cX0_wordOf 16 = .ok (.invokevirtual 90, 3) := by decide +kernel
theorem dX0_wordOf_19 : decode cX0_wordOf 19 = .ok (.tableswitch 110 1 5 #[33, 49, 58, 77, 99], 33) := by decide +kernel
theorem dX0_wordOf_52 : decode cX0_wordOf 52 = .ok (.iload 5, 2) := by decide +kernel
theorem dX0_wordOf_54 : decode cX0_wordOf 54 = .ok (.iload_n 2, 1) := by decide +kernel
theorem dX0_wordOf_55 : decode cX0_wordOf 55 = .ok (.invokestatic 93, 3) := by decide +kernel
theorem dX0_wordOf_58 : decode cX0_wordOf 58 = .ok (.ifCond .eq 7, 3) := by decide +kernel
theorem dX0_wordOf_61 : decode cX0_wordOf 61 = .ok (.iconst (-1), 1) := by decide +kernel
theorem dX0_wordOf_62 : decode cX0_wordOf 62 = .ok (.goto 5, 3) := by decide +kernel
theorem dX0_wordOf_65 : decode cX0_wordOf 65 = .ok (.iload 4, 2) := by decide +kernel
theorem dX0_wordOf_67 : decode cX0_wordOf 67 = .ok (.ireturn, 1) := by decide +kernel
theorem dX0_wordOf_68 : decode cX0_wordOf 68 = .ok (.iload 4, 2) := by decide +kernel
theorem dX0_wordOf_70 : decode cX0_wordOf 70 = .ok (.iload 5, 2) := by decide +kernel
theorem dX0_wordOf_72 : decode cX0_wordOf 72 = .ok (.iadd, 1) := by decide +kernel
theorem dX0_wordOf_73 : decode cX0_wordOf 73 = .ok (.invokestatic 81, 3) := by decide +kernel
theorem dX0_wordOf_76 : decode cX0_wordOf 76 = .ok (.ireturn, 1) := by decide +kernel
theorem dX0_wordOf_77 : decode cX0_wordOf 77 = .ok (.iload_n 3, 1) := by decide +kernel
theorem dX0_wordOf_78 : decode cX0_wordOf 78 = .ok (.iconst 3, 1) := by decide +kernel
theorem dX0_wordOf_79 : decode cX0_wordOf 79 = .ok (.if_icmp .ge 14, 3) := by decide +kernel
theorem dX0_wordOf_82 : decode cX0_wordOf 82 = .ok (.iload 4, 2) := by decide +kernel
theorem dX0_wordOf_84 : decode cX0_wordOf 84 = .ok (.iload 5, 2) := by decide +kernel
theorem dX0_wordOf_86 : decode cX0_wordOf 86 = .ok (.iadd, 1) := by decide +kernel
theorem dX0_wordOf_87 : decode cX0_wordOf 87 = .ok (.invokestatic 81, 3) := by decide +kernel
theorem dX0_wordOf_90 : decode cX0_wordOf 90 = .ok (.goto 5, 3) := by decide +kernel
theorem dX0_wordOf_93 : decode cX0_wordOf 93 = .ok (.iload 4, 2) := by decide +kernel
theorem dX0_wordOf_95 : decode cX0_wordOf 95 = .ok (.ireturn, 1) := by decide +kernel
theorem dX0_wordOf_96 : decode cX0_wordOf 96 = .ok (.iload 5, 2) := by decide +kernel
theorem dX0_wordOf_98 : decode cX0_wordOf 98 = .ok (.iload_n 2, 1) := by decide +kernel
theorem dX0_wordOf_99 : decode cX0_wordOf 99 = .ok (.invokestatic 93, 3) := by decide +kernel
theorem dX0_wordOf_102 : decode cX0_wordOf 102 = .ok (.ifCond .ne 9, 3) := by decide +kernel
theorem dX0_wordOf_105 : decode cX0_wordOf 105 = .ok (.iload_n 2, 1) := by decide +kernel
theorem dX0_wordOf_106 : decode cX0_wordOf 106 = .ok (.iconst 2, 1) := by decide +kernel
theorem dX0_wordOf_107 : decode cX0_wordOf 107 = .ok (.irem, 1) := by decide +kernel
theorem dX0_wordOf_108 : decode cX0_wordOf 108 = .ok (.ifCond .eq 7, 3) := by decide +kernel
theorem dX0_wordOf_111 : decode cX0_wordOf 111 = .ok (.iconst (-1), 1) := by decide +kernel
theorem dX0_wordOf_112 : decode cX0_wordOf 112 = .ok (.goto 5, 3) := by decide +kernel
theorem dX0_wordOf_115 : decode cX0_wordOf 115 = .ok (.iload 4, 2) := by decide +kernel
theorem dX0_wordOf_117 : decode cX0_wordOf 117 = .ok (.ireturn, 1) := by decide +kernel
theorem dX0_wordOf_118 : decode cX0_wordOf 118 = .ok (.iload 4, 2) := by decide +kernel
theorem dX0_wordOf_120 : decode cX0_wordOf 120 = .ok (.iload 5, 2) := by decide +kernel
theorem dX0_wordOf_122 : decode cX0_wordOf 122 = .ok (.iadd, 1) := by decide +kernel
theorem dX0_wordOf_123 : decode cX0_wordOf 123 = .ok (.iload_n 2, 1) := by decide +kernel
theorem dX0_wordOf_124 : decode cX0_wordOf 124 = .ok (.iadd, 1) := by decide +kernel
theorem dX0_wordOf_125 : decode cX0_wordOf 125 = .ok (.invokestatic 81, 3) := by decide +kernel
theorem dX0_wordOf_128 : decode cX0_wordOf 128 = .ok (.ireturn, 1) := by decide +kernel
theorem dX0_wordOf_129 : decode cX0_wordOf 129 = .ok (.iload 4, 2) := by decide +kernel
theorem dX0_wordOf_131 : decode cX0_wordOf 131 = .ok (.ireturn, 1) := by decide +kernel
theorem dX0_putShares_0 : decode cX0_putShares 0 = .ok (.iconst 0, 1) := by decide +kernel
theorem dX0_putShares_1 : decode cX0_putShares 1 = .ok (.istore_n 3, 1) := by decide +kernel
theorem dX0_putShares_2 : decode cX0_putShares 2 = .ok (.iload_n 3, 1) := by decide +kernel
theorem dX0_putShares_3 : decode cX0_putShares 3 = .ok (.bipush 6, 2) := by decide +kernel
theorem dX0_putShares_5 : decode cX0_putShares 5 = .ok (.if_icmp .ge 27, 3) := by decide +kernel
theorem dX0_putShares_8 : decode cX0_putShares 8 = .ok (.iload_n 1, 1) := by decide +kernel
theorem dX0_putShares_9 : decode cX0_putShares 9 = .ok (.iload_n 3, 1) := by decide +kernel
theorem dX0_putShares_10 : decode cX0_putShares 10 = .ok (.invokestatic 97, 3) := by decide +kernel
theorem dX0_putShares_13 : decode cX0_putShares 13 = .ok (.ifCond .eq 13, 3) := by decide +kernel
theorem dX0_putShares_16 : decode cX0_putShares 16 = .ok (.aload_n 2, 1) := by decide +kernel
theorem dX0_putShares_17 : decode cX0_putShares 17 = .ok (.iload_n 3, 1) := by decide +kernel
theorem dX0_putShares_18 : decode cX0_putShares 18 = .ok (.aload_n 0, 1) := by decide +kernel
theorem dX0_putShares_19 : decode cX0_putShares 19 = .ok (.iload_n 3, 1) := by decide +kernel
theorem dX0_putShares_20 : decode cX0_putShares 20 = .ok (.invokevirtual 84, 3) := by decide +kernel
theorem dX0_putShares_23 : decode cX0_putShares 23 = .ok (.invokevirtual 100, 3) := by decide +kernel
theorem dX0_putShares_26 : decode cX0_putShares 26 = .ok (.iinc 3 1, 3) := by decide +kernel
theorem dX0_putShares_29 : decode cX0_putShares 29 = .ok (.goto (-27), 3) := by decide +kernel
theorem dX0_putShares_32 : decode cX0_putShares 32 = .ok (.return_, 1) := by decide +kernel
theorem dX0_collect_0 : decode cX0_collect 0 = .ok (.iload_n 1, 1) := by decide +kernel
theorem dX0_collect_1 : decode cX0_collect 1 = .ok (.invokestatic 104, 3) := by decide +kernel
theorem dX0_collect_4 : decode cX0_collect 4 = .ok (.istore 4, 2) := by decide +kernel
theorem dX0_collect_6 : decode cX0_collect 6 = .ok (.iconst 0, 1) := by decide +kernel
theorem dX0_collect_7 : decode cX0_collect 7 = .ok (.istore 5, 2) := by decide +kernel
theorem dX0_collect_9 : decode cX0_collect 9 = .ok (.iload 5, 2) := by decide +kernel
theorem dX0_collect_11 : decode cX0_collect 11 = .ok (.bipush 6, 2) := by decide +kernel
theorem dX0_collect_13 : decode cX0_collect 13 = .ok (.if_icmp .ge 37, 3) := by decide +kernel
theorem dX0_collect_16 : decode cX0_collect 16 = .ok (.aload_n 3, 1) := by decide +kernel
theorem dX0_collect_17 : decode cX0_collect 17 = .ok (.iload 5, 2) := by decide +kernel
theorem dX0_collect_19 : decode cX0_collect 19 = .ok (.iload_n 1, 1) := by decide +kernel
theorem dX0_collect_20 : decode cX0_collect 20 = .ok (.iload 5, 2) := by decide +kernel
theorem dX0_collect_22 : decode cX0_collect 22 = .ok (.invokestatic 97, 3) := by decide +kernel
theorem dX0_collect_25 : decode cX0_collect 25 = .ok (.ifCond .eq 15, 3) := by decide +kernel
theorem dX0_collect_28 : decode cX0_collect 28 = .ok (.aload_n 0, 1) := by decide +kernel
theorem dX0_collect_29 : decode cX0_collect 29 = .ok (.iload 5, 2) := by decide +kernel
theorem dX0_collect_31 : decode cX0_collect 31 = .ok (.iload_n 2, 1) := by decide +kernel
theorem dX0_collect_32 : decode cX0_collect 32 = .ok (.iload 4, 2) := by decide +kernel
theorem dX0_collect_34 : decode cX0_collect 34 = .ok (.invokevirtual 109, 3) := by decide +kernel
theorem dX0_collect_37 : decode cX0_collect 37 = .ok (.goto 4, 3) := by decide +kernel
theorem dX0_collect_40 : decode cX0_collect 40 = .ok (.iconst (-1), 1) := by decide +kernel
theorem dX0_collect_41 : decode cX0_collect 41 = .ok (.invokevirtual 100, 3) := by decide +kernel
theorem dX0_collect_44 : decode cX0_collect 44 = .ok (.iinc 5 1, 3) := by decide +kernel
theorem dX0_collect_47 : decode cX0_collect 47 = .ok (.goto (-38), 3) := by decide +kernel
theorem dX0_collect_50 : decode cX0_collect 50 = .ok (.return_, 1) := by decide +kernel
theorem dX0_outcome_0 : decode cX0_outcome 0 = .ok (.aload_n 0, 1) := by decide +kernel
theorem dX0_outcome_1 : decode cX0_outcome 1 = .ok (.iload_n 1, 1) := by decide +kernel
theorem dX0_outcome_2 : decode cX0_outcome 2 = .ok (.iload_n 2, 1) := by decide +kernel
theorem dX0_outcome_3 : decode cX0_outcome 3 = .ok (.aload_n 3, 1) := by decide +kernel
theorem dX0_outcome_4 : decode cX0_outcome 4 = .ok (.invokevirtual 113, 3) := by decide +kernel
theorem dX0_outcome_7 : decode cX0_outcome 7 = .ok (.aload_n 3, 1) := by decide +kernel
theorem dX0_outcome_8 : decode cX0_outcome 8 = .ok (.aload_n 0, 1) := by decide +kernel
theorem dX0_outcome_9 : decode cX0_outcome 9 = .ok (.getfield 15, 3) := by decide +kernel
theorem dX0_outcome_12 : decode cX0_outcome 12 = .ok (.invokevirtual 117, 3) := by decide +kernel
theorem dX0_outcome_15 : decode cX0_outcome 15 = .ok (.istore 4, 2) := by decide +kernel
theorem dX0_outcome_17 : decode cX0_outcome 17 = .ok (.iload 4, 2) := by decide +kernel
theorem dX0_outcome_19 : decode cX0_outcome 19 = .ok (.iconst (-1), 1) := by decide +kernel
theorem dX0_outcome_20 : decode cX0_outcome 20 = .ok (.if_icmp .ne 5, 3) := by decide +kernel
theorem dX0_outcome_23 : decode cX0_outcome 23 = .ok (.iconst 0, 1) := by decide +kernel
theorem dX0_outcome_24 : decode cX0_outcome 24 = .ok (.ireturn, 1) := by decide +kernel
theorem dX0_outcome_25 : decode cX0_outcome 25 = .ok (.iload 4, 2) := by decide +kernel
theorem dX0_outcome_27 : decode cX0_outcome 27 = .ok (.aload_n 0, 1) := by decide +kernel
theorem dX0_outcome_28 : decode cX0_outcome 28 = .ok (.getfield 9, 3) := by decide +kernel
theorem dX0_outcome_31 : decode cX0_outcome 31 = .ok (.if_icmp .ne 7, 3) := by decide +kernel
theorem dX0_outcome_34 : decode cX0_outcome 34 = .ok (.iconst 1, 1) := by decide +kernel
theorem dX0_outcome_35 : decode cX0_outcome 35 = .ok (.goto 4, 3) := by decide +kernel
theorem dX0_outcome_38 : decode cX0_outcome 38 = .ok (.iconst 2, 1) := by decide +kernel
theorem dX0_outcome_39 : decode cX0_outcome 39 = .ok (.ireturn, 1) := by decide +kernel
theorem dX0_passDay_0 : decode cX0_passDay 0 = .ok (.aload_n 0, 1) := by decide +kernel
theorem dX0_passDay_1 : decode cX0_passDay 1 = .ok (.getfield 37, 3) := by decide +kernel
theorem dX0_passDay_4 : decode cX0_passDay 4 = .ok (.ifCond .eq 7, 3) := by decide +kernel
theorem dX0_passDay_7 : decode cX0_passDay 7 = .ok (.iconst 3, 1) := by decide +kernel
theorem dX0_passDay_8 : decode cX0_passDay 8 = .ok (.goto 13, 3) := by decide +kernel
theorem dX0_passDay_11 : decode cX0_passDay 11 = .ok (.aload_n 0, 1) := by decide +kernel
theorem dX0_passDay_12 : decode cX0_passDay 12 = .ok (.iload_n 1, 1) := by decide +kernel
theorem dX0_passDay_13 : decode cX0_passDay 13 = .ok (.aload_n 0, 1) := by decide +kernel
theorem dX0_passDay_14 : decode cX0_passDay 14 = .ok (.getfield 31, 3) := by decide +kernel
theorem dX0_passDay_17 : decode cX0_passDay 17 = .ok (.aload_n 2, 1) := by decide +kernel
theorem dX0_passDay_18 : decode cX0_passDay 18 = .ok (.invokevirtual 120, 3) := by decide +kernel
theorem dX0_passDay_21 : decode cX0_passDay 21 = .ok (.istore_n 3, 1) := by decide +kernel
theorem dX0_passDay_22 : decode cX0_passDay 22 = .ok (.aload_n 0, 1) := by decide +kernel
theorem dX0_passDay_23 : decode cX0_passDay 23 = .ok (.iconst 0, 1) := by decide +kernel
theorem dX0_passDay_24 : decode cX0_passDay 24 = .ok (.putfield 37, 3) := by decide +kernel
theorem dX0_passDay_27 : decode cX0_passDay 27 = .ok (.iload_n 3, 1) := by decide +kernel
theorem dX0_passDay_28 : decode cX0_passDay 28 = .ok (.iconst 1, 1) := by decide +kernel
theorem dX0_passDay_29 : decode cX0_passDay 29 = .ok (.if_icmp .ne 8, 3) := by decide +kernel
theorem dX0_passDay_32 : decode cX0_passDay 32 = .ok (.aload_n 0, 1) := by decide +kernel
theorem dX0_passDay_33 : decode cX0_passDay 33 = .ok (.iconst 0, 1) := by decide +kernel
theorem dX0_passDay_34 : decode cX0_passDay 34 = .ok (.putfield 34, 3) := by decide +kernel
theorem dX0_passDay_37 : decode cX0_passDay 37 = .ok (.iload_n 3, 1) := by decide +kernel
theorem dX0_passDay_38 : decode cX0_passDay 38 = .ok (.iconst 2, 1) := by decide +kernel
theorem dX0_passDay_39 : decode cX0_passDay 39 = .ok (.if_icmp .ne 7, 3) := by decide +kernel
theorem dX0_passDay_42 : decode cX0_passDay 42 = .ok (.aload_n 0, 1) := by decide +kernel
theorem dX0_passDay_43 : decode cX0_passDay 43 = .ok (.invokevirtual 124, 3) := by decide +kernel
theorem dX0_passDay_46 : decode cX0_passDay 46 = .ok (.aload_n 0, 1) := by decide +kernel
theorem dX0_passDay_47 : decode cX0_passDay 47 = .ok (.dup, 1) := by decide +kernel
theorem dX0_passDay_48 : decode cX0_passDay 48 = .ok (.getfield 31, 3) := by decide +kernel
theorem dX0_passDay_51 : decode cX0_passDay 51 = .ok (.iconst 1, 1) := by decide +kernel
theorem dX0_passDay_52 : decode cX0_passDay 52 = .ok (.iadd, 1) := by decide +kernel
theorem dX0_passDay_53 : decode cX0_passDay 53 = .ok (.putfield 31, 3) := by decide +kernel
theorem dX0_passDay_56 : decode cX0_passDay 56 = .ok (.iload_n 3, 1) := by decide +kernel
theorem dX0_passDay_57 : decode cX0_passDay 57 = .ok (.ireturn, 1) := by decide +kernel
theorem dX0_changeWay_0 : decode cX0_changeWay 0 = .ok (.iload_n 1, 1) := by decide +kernel
theorem dX0_changeWay_1 : decode cX0_changeWay 1 = .ok (.i2l, 1) := by decide +kernel
theorem dX0_changeWay_2 : decode cX0_changeWay 2 = .ok (.lstore_n 2, 1) := by decide +kernel
theorem dX0_changeWay_3 : decode cX0_changeWay 3 = .ok (.iconst 1, 1) := by decide +kernel
theorem dX0_changeWay_4 : decode cX0_changeWay 4 = .ok (.istore 4, 2) := by decide +kernel
theorem dX0_changeWay_6 : decode cX0_changeWay 6 = .ok (.iload 4, 2) := by decide +kernel
theorem dX0_changeWay_8 : decode cX0_changeWay 8 = .ok (.aload_n 0, 1) := by decide +kernel
theorem dX0_changeWay_9 : decode cX0_changeWay 9 = .ok (.getfield 15, 3) := by decide +kernel
theorem dX0_changeWay_12 : decode cX0_changeWay 12 = .ok (.if_icmp .ge 36, 3) := by decide +kernel
theorem dX0_changeWay_15 : decode cX0_changeWay 15 = .ok (.lload_n 2, 1) := by decide +kernel
theorem dX0_changeWay_16 : decode cX0_changeWay 16 = .ok (.invokestatic 127, 3) := by decide +kernel
theorem dX0_changeWay_19 : decode cX0_changeWay 19 = .ok (.lstore_n 2, 1) := by decide +kernel
theorem dX0_changeWay_20 : decode cX0_changeWay 20 = .ok (.aload_n 0, 1) := by decide +kernel
theorem dX0_changeWay_21 : decode cX0_changeWay 21 = .ok (.iload 4, 2) := by decide +kernel
theorem dX0_changeWay_23 : decode cX0_changeWay 23 = .ok (.aload_n 0, 1) := by decide +kernel
theorem dX0_changeWay_24 : decode cX0_changeWay 24 = .ok (.iload 4, 2) := by decide +kernel
theorem dX0_changeWay_26 : decode cX0_changeWay 26 = .ok (.invokevirtual 77, 3) := by decide +kernel
theorem dX0_changeWay_29 : decode cX0_changeWay 29 = .ok (.lload_n 2, 1) := by decide +kernel
theorem dX0_changeWay_30 : decode cX0_changeWay 30 = .ok (.bipush 97, 2) := by decide +kernel
theorem dX0_changeWay_32 : decode cX0_changeWay 32 = .ok (.invokestatic 131, 3) := by decide +kernel
theorem dX0_changeWay_35 : decode cX0_changeWay 35 = .ok (.iadd, 1) := by decide +kernel
theorem dX0_changeWay_36 : decode cX0_changeWay 36 = .ok (.invokestatic 81, 3) := by decide +kernel
theorem dX0_changeWay_39 : decode cX0_changeWay 39 = .ok (.invokevirtual 135, 3) := by decide +kernel
theorem dX0_changeWay_42 : decode cX0_changeWay 42 = .ok (.iinc 4 1, 3) := by decide +kernel
theorem dX0_changeWay_45 : decode cX0_changeWay 45 = .ok (.goto (-39), 3) := by decide +kernel
theorem dX0_changeWay_48 : decode cX0_changeWay 48 = .ok (.aload_n 0, 1) := by decide +kernel
theorem dX0_changeWay_49 : decode cX0_changeWay 49 = .ok (.getfield 15, 3) := by decide +kernel
theorem dX0_changeWay_52 : decode cX0_changeWay 52 = .ok (.iconst 1, 1) := by decide +kernel
theorem dX0_changeWay_53 : decode cX0_changeWay 53 = .ok (.isub, 1) := by decide +kernel
theorem dX0_changeWay_54 : decode cX0_changeWay 54 = .ok (.ireturn, 1) := by decide +kernel
theorem dX0_remember_0 : decode cX0_remember 0 = .ok (.aload_n 0, 1) := by decide +kernel
theorem dX0_remember_1 : decode cX0_remember 1 = .ok (.getfield 51, 3) := by decide +kernel
theorem dX0_remember_4 : decode cX0_remember 4 = .ok (.bipush 8, 2) := by decide +kernel
theorem dX0_remember_6 : decode cX0_remember 6 = .ok (.if_icmp .lt 25, 3) := by decide +kernel
theorem dX0_remember_9 : decode cX0_remember 9 = .ok (.aload_n 0, 1) := by decide +kernel
theorem dX0_remember_10 : decode cX0_remember 10 = .ok (.getfield 48, 3) := by decide +kernel
theorem dX0_remember_13 : decode cX0_remember 13 = .ok (.bipush 6, 2) := by decide +kernel
theorem dX0_remember_15 : decode cX0_remember 15 = .ok (.aload_n 0, 1) := by decide +kernel
theorem dX0_remember_16 : decode cX0_remember 16 = .ok (.getfield 48, 3) := by decide +kernel
theorem dX0_remember_19 : decode cX0_remember 19 = .ok (.iconst 0, 1) := by decide +kernel
theorem dX0_remember_20 : decode cX0_remember 20 = .ok (.bipush 42, 2) := by decide +kernel
theorem dX0_remember_22 : decode cX0_remember 22 = .ok (.invokestatic 63, 3) := by decide +kernel
theorem dX0_remember_25 : decode cX0_remember 25 = .ok (.aload_n 0, 1) := by decide +kernel
theorem dX0_remember_26 : decode cX0_remember 26 = .ok (.bipush 7, 2) := by decide +kernel
theorem dX0_remember_28 : decode cX0_remember 28 = .ok (.putfield 51, 3) := by decide +kernel
theorem dX0_remember_31 : decode cX0_remember 31 = .ok (.aload_n 0, 1) := by decide +kernel
theorem dX0_remember_32 : decode cX0_remember 32 = .ok (.getfield 51, 3) := by decide +kernel
theorem dX0_remember_35 : decode cX0_remember 35 = .ok (.bipush 6, 2) := by decide +kernel
theorem dX0_remember_37 : decode cX0_remember 37 = .ok (.imul, 1) := by decide +kernel
theorem dX0_remember_38 : decode cX0_remember 38 = .ok (.istore_n 1, 1) := by decide +kernel
theorem dX0_remember_39 : decode cX0_remember 39 = .ok (.iload_n 1, 1) := by decide +kernel
theorem dX0_remember_40 : decode cX0_remember 40 = .ok (.ifCond .lt 83, 3) := by decide +kernel
theorem dX0_remember_43 : decode cX0_remember 43 = .ok (.iload_n 1, 1) := by decide +kernel
theorem dX0_remember_44 : decode cX0_remember 44 = .ok (.bipush 6, 2) := by decide +kernel
theorem dX0_remember_46 : decode cX0_remember 46 = .ok (.iadd, 1) := by decide +kernel
theorem dX0_remember_47 : decode cX0_remember 47 = .ok (.aload_n 0, 1) := by decide +kernel
theorem dX0_remember_48 : decode cX0_remember 48 = .ok (.getfield 48, 3) := by decide +kernel
theorem dX0_remember_51 : decode cX0_remember 51 = .ok (.arraylength, 1) := by decide +kernel
theorem dX0_remember_52 : decode cX0_remember 52 = .ok (.if_icmp .gt 71, 3) := by decide +kernel
theorem dX0_remember_55 : decode cX0_remember 55 = .ok (.aload_n 0, 1) := by decide +kernel
theorem dX0_remember_56 : decode cX0_remember 56 = .ok (.getfield 48, 3) := by decide +kernel
theorem dX0_remember_59 : decode cX0_remember 59 = .ok (.iload_n 1, 1) := by decide +kernel
theorem dX0_remember_60 : decode cX0_remember 60 = .ok (.aload_n 0, 1) := by decide +kernel
theorem dX0_remember_61 : decode cX0_remember 61 = .ok (.getfield 31, 3) := by decide +kernel
theorem dX0_remember_64 : decode cX0_remember 64 = .ok (.iastore, 1) := by decide +kernel
theorem dX0_remember_65 : decode cX0_remember 65 = .ok (.aload_n 0, 1) := by decide +kernel
theorem dX0_remember_66 : decode cX0_remember 66 = .ok (.getfield 48, 3) := by decide +kernel
theorem dX0_remember_69 : decode cX0_remember 69 = .ok (.iload_n 1, 1) := by decide +kernel
theorem dX0_remember_70 : decode cX0_remember 70 = .ok (.iconst 1, 1) := by decide +kernel
theorem dX0_remember_71 : decode cX0_remember 71 = .ok (.iadd, 1) := by decide +kernel
theorem dX0_remember_72 : decode cX0_remember 72 = .ok (.aload_n 0, 1) := by decide +kernel
theorem dX0_remember_73 : decode cX0_remember 73 = .ok (.getfield 34, 3) := by decide +kernel
theorem dX0_remember_76 : decode cX0_remember 76 = .ok (.iastore, 1) := by decide +kernel
theorem dX0_remember_77 : decode cX0_remember 77 = .ok (.aload_n 0, 1) := by decide +kernel
theorem dX0_remember_78 : decode cX0_remember 78 = .ok (.getfield 48, 3) := by decide +kernel
theorem dX0_remember_81 : decode cX0_remember 81 = .ok (.iload_n 1, 1) := by decide +kernel
theorem dX0_remember_82 : decode cX0_remember 82 = .ok (.iconst 2, 1) := by decide +kernel
theorem dX0_remember_83 : decode cX0_remember 83 = .ok (.iadd, 1) := by decide +kernel
theorem dX0_remember_84 : decode cX0_remember 84 = .ok (.aload_n 0, 1) := by decide +kernel
theorem dX0_remember_85 : decode cX0_remember 85 = .ok (.getfield 37, 3) := by decide +kernel
theorem dX0_remember_88 : decode cX0_remember 88 = .ok (.ifCond .eq 7, 3) := by decide +kernel
theorem dX0_remember_91 : decode cX0_remember 91 = .ok (.iconst 1, 1) := by decide +kernel
theorem dX0_remember_92 : decode cX0_remember 92 = .ok (.goto 4, 3) := by decide +kernel
theorem dX0_remember_95 : decode cX0_remember 95 = .ok (.iconst 0, 1) := by decide +kernel
theorem dX0_remember_96 : decode cX0_remember 96 = .ok (.iastore, 1) := by decide +kernel
theorem dX0_remember_97 : decode cX0_remember 97 = .ok (.aload_n 0, 1) := by decide +kernel
theorem dX0_remember_98 : decode cX0_remember 98 = .ok (.getfield 28, 3) := by decide +kernel
theorem dX0_remember_101 : decode cX0_remember 101 = .ok (.iconst 0, 1) := by decide +kernel
theorem dX0_remember_102 : decode cX0_remember 102 = .ok (.aload_n 0, 1) := by decide +kernel
theorem dX0_remember_103 : decode cX0_remember 103 = .ok (.getfield 48, 3) := by decide +kernel
theorem dX0_remember_106 : decode cX0_remember 106 = .ok (.iload_n 1, 1) := by decide +kernel
theorem dX0_remember_107 : decode cX0_remember 107 = .ok (.iconst 3, 1) := by decide +kernel
theorem dX0_remember_108 : decode cX0_remember 108 = .ok (.iadd, 1) := by decide +kernel
theorem dX0_remember_109 : decode cX0_remember 109 = .ok (.iconst 3, 1) := by decide +kernel
theorem dX0_remember_110 : decode cX0_remember 110 = .ok (.invokestatic 63, 3) := by decide +kernel
theorem dX0_remember_113 : decode cX0_remember 113 = .ok (.aload_n 0, 1) := by decide +kernel
theorem dX0_remember_114 : decode cX0_remember 114 = .ok (.dup, 1) := by decide +kernel
theorem dX0_remember_115 : decode cX0_remember 115 = .ok (.getfield 51, 3) := by decide +kernel
theorem dX0_remember_118 : decode cX0_remember 118 = .ok (.iconst 1, 1) := by decide +kernel
theorem dX0_remember_119 : decode cX0_remember 119 = .ok (.iadd, 1) := by decide +kernel
theorem dX0_remember_120 : decode cX0_remember 120 = .ok (.putfield 51, 3) := by decide +kernel
theorem dX0_remember_123 : decode cX0_remember 123 = .ok (.return_, 1) := by decide +kernel
theorem dX0_goBack_0 : decode cX0_goBack 0 = .ok (.aload_n 0, 1) := by decide +kernel
theorem dX0_goBack_1 : decode cX0_goBack 1 = .ok (.getfield 51, 3) := by decide +kernel
theorem dX0_goBack_4 : decode cX0_goBack 4 = .ok (.iconst 1, 1) := by decide +kernel
theorem dX0_goBack_5 : decode cX0_goBack 5 = .ok (.isub, 1) := by decide +kernel
theorem dX0_goBack_6 : decode cX0_goBack 6 = .ok (.bipush 6, 2) := by decide +kernel
theorem dX0_goBack_8 : decode cX0_goBack 8 = .ok (.imul, 1) := by decide +kernel
theorem dX0_goBack_9 : decode cX0_goBack 9 = .ok (.istore_n 1, 1) := by decide +kernel
theorem dX0_goBack_10 : decode cX0_goBack 10 = .ok (.iload_n 1, 1) := by decide +kernel
theorem dX0_goBack_11 : decode cX0_goBack 11 = .ok (.ifCond .lt 84, 3) := by decide +kernel
theorem dX0_goBack_14 : decode cX0_goBack 14 = .ok (.iload_n 1, 1) := by decide +kernel
theorem dX0_goBack_15 : decode cX0_goBack 15 = .ok (.bipush 6, 2) := by decide +kernel
theorem dX0_goBack_17 : decode cX0_goBack 17 = .ok (.iadd, 1) := by decide +kernel
theorem dX0_goBack_18 : decode cX0_goBack 18 = .ok (.aload_n 0, 1) := by decide +kernel
theorem dX0_goBack_19 : decode cX0_goBack 19 = .ok (.getfield 48, 3) := by decide +kernel
theorem dX0_goBack_22 : decode cX0_goBack 22 = .ok (.arraylength, 1) := by decide +kernel
theorem dX0_goBack_23 : decode cX0_goBack 23 = .ok (.if_icmp .gt 72, 3) := by decide +kernel
theorem dX0_goBack_26 : decode cX0_goBack 26 = .ok (.aload_n 0, 1) := by decide +kernel
theorem dX0_goBack_27 : decode cX0_goBack 27 = .ok (.aload_n 0, 1) := by decide +kernel
theorem dX0_goBack_28 : decode cX0_goBack 28 = .ok (.getfield 48, 3) := by decide +kernel
theorem dX0_goBack_31 : decode cX0_goBack 31 = .ok (.iload_n 1, 1) := by decide +kernel
theorem dX0_goBack_32 : decode cX0_goBack 32 = .ok (.iaload, 1) := by decide +kernel
theorem dX0_goBack_33 : decode cX0_goBack 33 = .ok (.putfield 31, 3) := by decide +kernel
theorem dX0_goBack_36 : decode cX0_goBack 36 = .ok (.aload_n 0, 1) := by decide +kernel
theorem dX0_goBack_37 : decode cX0_goBack 37 = .ok (.aload_n 0, 1) := by decide +kernel
theorem dX0_goBack_38 : decode cX0_goBack 38 = .ok (.getfield 48, 3) := by decide +kernel
theorem dX0_goBack_41 : decode cX0_goBack 41 = .ok (.iload_n 1, 1) := by decide +kernel
theorem dX0_goBack_42 : decode cX0_goBack 42 = .ok (.iconst 1, 1) := by decide +kernel
theorem dX0_goBack_43 : decode cX0_goBack 43 = .ok (.iadd, 1) := by decide +kernel
theorem dX0_goBack_44 : decode cX0_goBack 44 = .ok (.iaload, 1) := by decide +kernel
theorem dX0_goBack_45 : decode cX0_goBack 45 = .ok (.putfield 34, 3) := by decide +kernel
theorem dX0_goBack_48 : decode cX0_goBack 48 = .ok (.aload_n 0, 1) := by decide +kernel
theorem dX0_goBack_49 : decode cX0_goBack 49 = .ok (.aload_n 0, 1) := by decide +kernel
theorem dX0_goBack_50 : decode cX0_goBack 50 = .ok (.getfield 48, 3) := by decide +kernel
theorem dX0_goBack_53 : decode cX0_goBack 53 = .ok (.iload_n 1, 1) := by decide +kernel
theorem dX0_goBack_54 : decode cX0_goBack 54 = .ok (.iconst 2, 1) := by decide +kernel
theorem dX0_goBack_55 : decode cX0_goBack 55 = .ok (.iadd, 1) := by decide +kernel
theorem dX0_goBack_56 : decode cX0_goBack 56 = .ok (.iaload, 1) := by decide +kernel
theorem dX0_goBack_57 : decode cX0_goBack 57 = .ok (.iconst 1, 1) := by decide +kernel
theorem dX0_goBack_58 : decode cX0_goBack 58 = .ok (.if_icmp .ne 7, 3) := by decide +kernel
theorem dX0_goBack_61 : decode cX0_goBack 61 = .ok (.iconst 1, 1) := by decide +kernel
theorem dX0_goBack_62 : decode cX0_goBack 62 = .ok (.goto 4, 3) := by decide +kernel
theorem dX0_goBack_65 : decode cX0_goBack 65 = .ok (.iconst 0, 1) := by decide +kernel
theorem dX0_goBack_66 : decode cX0_goBack 66 = .ok (.putfield 37, 3) := by decide +kernel
theorem dX0_goBack_69 : decode cX0_goBack 69 = .ok (.aload_n 0, 1) := by decide +kernel
theorem dX0_goBack_70 : decode cX0_goBack 70 = .ok (.getfield 48, 3) := by decide +kernel
theorem dX0_goBack_73 : decode cX0_goBack 73 = .ok (.iload_n 1, 1) := by decide +kernel
theorem dX0_goBack_74 : decode cX0_goBack 74 = .ok (.iconst 3, 1) := by decide +kernel
theorem dX0_goBack_75 : decode cX0_goBack 75 = .ok (.iadd, 1) := by decide +kernel
theorem dX0_goBack_76 : decode cX0_goBack 76 = .ok (.aload_n 0, 1) := by decide +kernel
theorem dX0_goBack_77 : decode cX0_goBack 77 = .ok (.getfield 28, 3) := by decide +kernel
theorem dX0_goBack_80 : decode cX0_goBack 80 = .ok (.iconst 0, 1) := by decide +kernel
theorem dX0_goBack_81 : decode cX0_goBack 81 = .ok (.iconst 3, 1) := by decide +kernel
theorem dX0_goBack_82 : decode cX0_goBack 82 = .ok (.invokestatic 63, 3) := by decide +kernel
theorem dX0_goBack_85 : decode cX0_goBack 85 = .ok (.aload_n 0, 1) := by decide +kernel
theorem dX0_goBack_86 : decode cX0_goBack 86 = .ok (.dup, 1) := by decide +kernel
theorem dX0_goBack_87 : decode cX0_goBack 87 = .ok (.getfield 51, 3) := by decide +kernel
theorem dX0_goBack_90 : decode cX0_goBack 90 = .ok (.iconst 1, 1) := by decide +kernel
theorem dX0_goBack_91 : decode cX0_goBack 91 = .ok (.isub, 1) := by decide +kernel
theorem dX0_goBack_92 : decode cX0_goBack 92 = .ok (.putfield 51, 3) := by decide +kernel
theorem dX0_goBack_95 : decode cX0_goBack 95 = .ok (.return_, 1) := by decide +kernel
theorem dX0_mixInto_0 : decode cX0_mixInto 0 = .ok (.ldc2_w 138, 3) := by decide +kernel
theorem dX0_mixInto_3 : decode cX0_mixInto 3 = .ok (.lload_n 1, 1) := by decide +kernel
theorem dX0_mixInto_4 : decode cX0_mixInto 4 = .ok (.lmul, 1) := by decide +kernel
theorem dX0_mixInto_5 : decode cX0_mixInto 5 = .ok (.aload_n 0, 1) := by decide +kernel
theorem dX0_mixInto_6 : decode cX0_mixInto 6 = .ok (.getfield 9, 3) := by decide +kernel
theorem dX0_mixInto_9 : decode cX0_mixInto 9 = .ok (.i2l, 1) := by decide +kernel
theorem dX0_mixInto_10 : decode cX0_mixInto 10 = .ok (.ladd, 1) := by decide +kernel
theorem dX0_mixInto_11 : decode cX0_mixInto 11 = .ok (.lstore_n 3, 1) := by decide +kernel
theorem dX0_mixInto_12 : decode cX0_mixInto 12 = .ok (.iconst 1, 1) := by decide +kernel
theorem dX0_mixInto_13 : decode cX0_mixInto 13 = .ok (.istore 5, 2) := by decide +kernel
theorem dX0_mixInto_15 : decode cX0_mixInto 15 = .ok (.iload 5, 2) := by decide +kernel
theorem dX0_mixInto_17 : decode cX0_mixInto 17 = .ok (.iconst 3, 1) := by decide +kernel
theorem dX0_mixInto_18 : decode cX0_mixInto 18 = .ok (.if_icmp .gt 23, 3) := by decide +kernel
theorem dX0_mixInto_21 : decode cX0_mixInto 21 = .ok (.ldc2_w 138, 3) := by decide +kernel
theorem dX0_mixInto_24 : decode cX0_mixInto 24 = .ok (.lload_n 3, 1) := by decide +kernel
theorem dX0_mixInto_25 : decode cX0_mixInto 25 = .ok (.lmul, 1) := by decide +kernel
theorem dX0_mixInto_26 : decode cX0_mixInto 26 = .ok (.aload_n 0, 1) := by decide +kernel
theorem dX0_mixInto_27 : decode cX0_mixInto 27 = .ok (.iload 5, 2) := by decide +kernel
theorem dX0_mixInto_29 : decode cX0_mixInto 29 = .ok (.invokevirtual 77, 3) := by decide +kernel
theorem dX0_mixInto_32 : decode cX0_mixInto 32 = .ok (.i2l, 1) := by decide +kernel
theorem dX0_mixInto_33 : decode cX0_mixInto 33 = .ok (.ladd, 1) := by decide +kernel
theorem dX0_mixInto_34 : decode cX0_mixInto 34 = .ok (.lstore_n 3, 1) := by decide +kernel
theorem dX0_mixInto_35 : decode cX0_mixInto 35 = .ok (.iinc 5 1, 3) := by decide +kernel
theorem dX0_mixInto_38 : decode cX0_mixInto 38 = .ok (.goto (-23), 3) := by decide +kernel
theorem dX0_mixInto_41 : decode cX0_mixInto 41 = .ok (.iconst 0, 1) := by decide +kernel
theorem dX0_mixInto_42 : decode cX0_mixInto 42 = .ok (.istore 5, 2) := by decide +kernel
theorem dX0_mixInto_44 : decode cX0_mixInto 44 = .ok (.iload 5, 2) := by decide +kernel
theorem dX0_mixInto_46 : decode cX0_mixInto 46 = .ok (.aload_n 0, 1) := by decide +kernel
theorem dX0_mixInto_47 : decode cX0_mixInto 47 = .ok (.getfield 18, 3) := by decide +kernel
theorem dX0_mixInto_50 : decode cX0_mixInto 50 = .ok (.if_icmp .ge 37, 3) := by decide +kernel
theorem dX0_mixInto_53 : decode cX0_mixInto 53 = .ok (.ldc2_w 138, 3) := by decide +kernel
theorem dX0_mixInto_56 : decode cX0_mixInto 56 = .ok (.lload_n 3, 1) := by decide +kernel
theorem dX0_mixInto_57 : decode cX0_mixInto 57 = .ok (.lmul, 1) := by decide +kernel
theorem dX0_mixInto_58 : decode cX0_mixInto 58 = .ok (.aload_n 0, 1) := by decide +kernel
theorem dX0_mixInto_59 : decode cX0_mixInto 59 = .ok (.iload 5, 2) := by decide +kernel
theorem dX0_mixInto_61 : decode cX0_mixInto 61 = .ok (.invokevirtual 90, 3) := by decide +kernel
theorem dX0_mixInto_64 : decode cX0_mixInto 64 = .ok (.i2l, 1) := by decide +kernel
theorem dX0_mixInto_65 : decode cX0_mixInto 65 = .ok (.ladd, 1) := by decide +kernel
theorem dX0_mixInto_66 : decode cX0_mixInto 66 = .ok (.lstore_n 3, 1) := by decide +kernel
theorem dX0_mixInto_67 : decode cX0_mixInto 67 = .ok (.ldc2_w 138, 3) := by decide +kernel
theorem dX0_mixInto_70 : decode cX0_mixInto 70 = .ok (.lload_n 3, 1) := by decide +kernel
theorem dX0_mixInto_71 : decode cX0_mixInto 71 = .ok (.lmul, 1) := by decide +kernel
theorem dX0_mixInto_72 : decode cX0_mixInto 72 = .ok (.aload_n 0, 1) := by decide +kernel
theorem dX0_mixInto_73 : decode cX0_mixInto 73 = .ok (.iload 5, 2) := by decide +kernel
theorem dX0_mixInto_75 : decode cX0_mixInto 75 = .ok (.invokevirtual 87, 3) := by decide +kernel
theorem dX0_mixInto_78 : decode cX0_mixInto 78 = .ok (.i2l, 1) := by decide +kernel
theorem dX0_mixInto_79 : decode cX0_mixInto 79 = .ok (.ladd, 1) := by decide +kernel
theorem dX0_mixInto_80 : decode cX0_mixInto 80 = .ok (.lstore_n 3, 1) := by decide +kernel
theorem dX0_mixInto_81 : decode cX0_mixInto 81 = .ok (.iinc 5 1, 3) := by decide +kernel
theorem dX0_mixInto_84 : decode cX0_mixInto 84 = .ok (.goto (-40), 3) := by decide +kernel
theorem dX0_mixInto_87 : decode cX0_mixInto 87 = .ok (.iconst 0, 1) := by decide +kernel
theorem dX0_mixInto_88 : decode cX0_mixInto 88 = .ok (.istore 5, 2) := by decide +kernel
theorem dX0_mixInto_90 : decode cX0_mixInto 90 = .ok (.iload 5, 2) := by decide +kernel
theorem dX0_mixInto_92 : decode cX0_mixInto 92 = .ok (.bipush 6, 2) := by decide +kernel
theorem dX0_mixInto_94 : decode cX0_mixInto 94 = .ok (.if_icmp .ge 26, 3) := by decide +kernel
theorem dX0_mixInto_97 : decode cX0_mixInto 97 = .ok (.ldc2_w 138, 3) := by decide +kernel
theorem dX0_mixInto_100 : decode cX0_mixInto 100 = .ok (.lload_n 3, 1) := by decide +kernel
theorem dX0_mixInto_101 : decode cX0_mixInto 101 = .ok (.lmul, 1) := by decide +kernel
theorem dX0_mixInto_102 : decode cX0_mixInto 102 = .ok (.aload_n 0, 1) := by decide +kernel
theorem dX0_mixInto_103 : decode cX0_mixInto 103 = .ok (.getfield 44, 3) := by decide +kernel
theorem dX0_mixInto_106 : decode cX0_mixInto 106 = .ok (.iload 5, 2) := by decide +kernel
theorem dX0_mixInto_108 : decode cX0_mixInto 108 = .ok (.invokevirtual 140, 3) := by decide +kernel
theorem dX0_mixInto_111 : decode cX0_mixInto 111 = .ok (.i2l, 1) := by decide +kernel
theorem dX0_mixInto_112 : decode cX0_mixInto 112 = .ok (.ladd, 1) := by decide +kernel
theorem dX0_mixInto_113 : decode cX0_mixInto 113 = .ok (.lstore_n 3, 1) := by decide +kernel
theorem dX0_mixInto_114 : decode cX0_mixInto 114 = .ok (.iinc 5 1, 3) := by decide +kernel
theorem dX0_mixInto_117 : decode cX0_mixInto 117 = .ok (.goto (-27), 3) := by decide +kernel
theorem dX0_mixInto_120 : decode cX0_mixInto 120 = .ok (.lload_n 3, 1) := by decide +kernel
theorem dX0_mixInto_121 : decode cX0_mixInto 121 = .ok (.lreturn, 1) := by decide +kernel
theorem dX0_countWrongTry_0 : decode cX0_countWrongTry 0 = .ok (.aload_n 0, 1) := by decide +kernel
theorem dX0_countWrongTry_1 : decode cX0_countWrongTry 1 = .ok (.dup, 1) := by decide +kernel
theorem dX0_countWrongTry_2 : decode cX0_countWrongTry 2 = .ok (.getfield 34, 3) := by decide +kernel
theorem dX0_countWrongTry_5 : decode cX0_countWrongTry 5 = .ok (.iconst 1, 1) := by decide +kernel
theorem dX0_countWrongTry_6 : decode cX0_countWrongTry 6 = .ok (.iadd, 1) := by decide +kernel
theorem dX0_countWrongTry_7 : decode cX0_countWrongTry 7 = .ok (.putfield 34, 3) := by decide +kernel
theorem dX0_countWrongTry_10 : decode cX0_countWrongTry 10 = .ok (.aload_n 0, 1) := by decide +kernel
theorem dX0_countWrongTry_11 : decode cX0_countWrongTry 11 = .ok (.getfield 34, 3) := by decide +kernel
theorem dX0_countWrongTry_14 : decode cX0_countWrongTry 14 = .ok (.iconst 3, 1) := by decide +kernel
theorem dX0_countWrongTry_15 : decode cX0_countWrongTry 15 = .ok (.if_icmp .lt 13, 3) := by decide +kernel
theorem dX0_countWrongTry_18 : decode cX0_countWrongTry 18 = .ok (.aload_n 0, 1) := by decide +kernel
theorem dX0_countWrongTry_19 : decode cX0_countWrongTry 19 = .ok (.iconst 0, 1) := by decide +kernel
theorem dX0_countWrongTry_20 : decode cX0_countWrongTry 20 = .ok (.putfield 34, 3) := by decide +kernel
theorem dX0_countWrongTry_23 : decode cX0_countWrongTry 23 = .ok (.aload_n 0, 1) := by decide +kernel
theorem dX0_countWrongTry_24 : decode cX0_countWrongTry 24 = .ok (.iconst 1, 1) := by decide +kernel
theorem dX0_countWrongTry_25 : decode cX0_countWrongTry 25 = .ok (.putfield 37, 3) := by decide +kernel
theorem dX0_countWrongTry_28 : decode cX0_countWrongTry 28 = .ok (.return_, 1) := by decide +kernel
theorem dX0_isForgotten_0 : decode cX0_isForgotten 0 = .ok (.iload_n 0, 1) := by decide +kernel
theorem dX0_isForgotten_1 : decode cX0_isForgotten 1 = .ok (.iconst 5, 1) := by decide +kernel
theorem dX0_isForgotten_2 : decode cX0_isForgotten 2 = .ok (.invokestatic 143, 3) := by decide +kernel
theorem dX0_isForgotten_5 : decode cX0_isForgotten 5 = .ok (.iconst 2, 1) := by decide +kernel
theorem dX0_isForgotten_6 : decode cX0_isForgotten 6 = .ok (.iadd, 1) := by decide +kernel
theorem dX0_isForgotten_7 : decode cX0_isForgotten 7 = .ok (.istore_n 2, 1) := by decide +kernel
theorem dX0_isForgotten_8 : decode cX0_isForgotten 8 = .ok (.iload_n 2, 1) := by decide +kernel
theorem dX0_isForgotten_9 : decode cX0_isForgotten 9 = .ok (.ifCond .le 13, 3) := by decide +kernel
theorem dX0_isForgotten_12 : decode cX0_isForgotten 12 = .ok (.iload_n 1, 1) := by decide +kernel
theorem dX0_isForgotten_13 : decode cX0_isForgotten 13 = .ok (.iload_n 2, 1) := by decide +kernel
theorem dX0_isForgotten_14 : decode cX0_isForgotten 14 = .ok (.irem, 1) := by decide +kernel
theorem dX0_isForgotten_15 : decode cX0_isForgotten 15 = .ok (.ifCond .ne 7, 3) := by decide +kernel
theorem dX0_isForgotten_18 : decode cX0_isForgotten 18 = .ok (.iconst 1, 1) := by decide +kernel
theorem dX0_isForgotten_19 : decode cX0_isForgotten 19 = .ok (.goto 4, 3) := by decide +kernel
theorem dX0_isForgotten_22 : decode cX0_isForgotten 22 = .ok (.iconst 0, 1) := by decide +kernel
theorem dX0_isForgotten_23 : decode cX0_isForgotten 23 = .ok (.ireturn, 1) := by decide +kernel
theorem dX1_init_0 : decode cX1_init 0 = .ok (.aload_n 0, 1) := by decide +kernel
theorem dX1_init_1 : decode cX1_init 1 = .ok (.invokespecial 3, 3) := by decide +kernel
theorem dX1_init_4 : decode cX1_init 4 = .ok (.aload_n 0, 1) := by decide +kernel
theorem dX1_init_5 : decode cX1_init 5 = .ok (.sipush 150, 3) := by decide +kernel
theorem dX1_init_8 : decode cX1_init 8 = .ok (.newarray .byte, 2) := by decide +kernel
theorem dX1_init_10 : decode cX1_init 10 = .ok (.putfield 9, 3) := by decide +kernel
theorem dX1_init_13 : decode cX1_init 13 = .ok (.aload_n 0, 1) := by decide +kernel
theorem dX1_init_14 : decode cX1_init 14 = .ok (.iconst 0, 1) := by decide +kernel
theorem dX1_init_15 : decode cX1_init 15 = .ok (.putfield 15, 3) := by decide +kernel
theorem dX1_init_18 : decode cX1_init 18 = .ok (.aload_n 0, 1) := by decide +kernel
theorem dX1_init_19 : decode cX1_init 19 = .ok (.iconst 0, 1) := by decide +kernel
theorem dX1_init_20 : decode cX1_init 20 = .ok (.putfield 19, 3) := by decide +kernel
theorem dX1_init_23 : decode cX1_init 23 = .ok (.aload_n 0, 1) := by decide +kernel
theorem dX1_init_24 : decode cX1_init 24 = .ok (.iconst 0, 1) := by decide +kernel
theorem dX1_init_25 : decode cX1_init 25 = .ok (.putfield 22, 3) := by decide +kernel
theorem dX1_init_28 : decode cX1_init 28 = .ok (.aload_n 0, 1) := by decide +kernel
theorem dX1_init_29 : decode cX1_init 29 = .ok (.iconst 0, 1) := by decide +kernel
theorem dX1_init_30 : decode cX1_init 30 = .ok (.putfield 25, 3) := by decide +kernel
theorem dX1_init_33 : decode cX1_init 33 = .ok (.return_, 1) := by decide +kernel
theorem dX1_append_0 : decode cX1_append 0 = .ok (.aload_n 0, 1) := by decide +kernel
theorem dX1_append_1 : decode cX1_append 1 = .ok (.getfield 15, 3) := by decide +kernel
theorem dX1_append_4 : decode cX1_append 4 = .ok (.ifCond .lt 36, 3) := by decide +kernel
theorem dX1_append_7 : decode cX1_append 7 = .ok (.aload_n 0, 1) := by decide +kernel
theorem dX1_append_8 : decode cX1_append 8 = .ok (.getfield 15, 3) := by decide +kernel
theorem dX1_append_11 : decode cX1_append 11 = .ok (.aload_n 0, 1) := by decide +kernel
theorem dX1_append_12 : decode cX1_append 12 = .ok (.getfield 9, 3) := by decide +kernel
theorem dX1_append_15 : decode cX1_append 15 = .ok (.arraylength, 1) := by decide +kernel
theorem dX1_append_16 : decode cX1_append 16 = .ok (.if_icmp .ge 24, 3) := by decide +kernel
theorem dX1_append_19 : decode cX1_append 19 = .ok (.aload_n 0, 1) := by decide +kernel
theorem dX1_append_20 : decode cX1_append 20 = .ok (.getfield 9, 3) := by decide +kernel
theorem dX1_append_23 : decode cX1_append 23 = .ok (.aload_n 0, 1) := by decide +kernel
theorem dX1_append_24 : decode cX1_append 24 = .ok (.getfield 15, 3) := by decide +kernel
theorem dX1_append_27 : decode cX1_append 27 = .ok (.iload_n 1, 1) := by decide +kernel
theorem dX1_append_28 : decode cX1_append 28 = .ok (.i2b, 1) := by decide +kernel
theorem dX1_append_29 : decode cX1_append 29 = .ok (.bastore, 1) := by decide +kernel
theorem dX1_append_30 : decode cX1_append 30 = .ok (.aload_n 0, 1) := by decide +kernel
theorem dX1_append_31 : decode cX1_append 31 = .ok (.dup, 1) := by decide +kernel
theorem dX1_append_32 : decode cX1_append 32 = .ok (.getfield 15, 3) := by decide +kernel
theorem dX1_append_35 : decode cX1_append 35 = .ok (.iconst 1, 1) := by decide +kernel
theorem dX1_append_36 : decode cX1_append 36 = .ok (.iadd, 1) := by decide +kernel
theorem dX1_append_37 : decode cX1_append 37 = .ok (.putfield 15, 3) := by decide +kernel
theorem dX1_append_40 : decode cX1_append 40 = .ok (.return_, 1) := by decide +kernel
theorem dX1_parseInto_0 : decode cX1_parseInto 0 = .ok (.aload_n 0, 1) := by decide +kernel
theorem dX1_parseInto_1 : decode cX1_parseInto 1 = .ok (.iconst 0, 1) := by decide +kernel
theorem dX1_parseInto_2 : decode cX1_parseInto 2 = .ok (.putfield 22, 3) := by decide +kernel
theorem dX1_parseInto_5 : decode cX1_parseInto 5 = .ok (.aload_n 0, 1) := by decide +kernel
theorem dX1_parseInto_6 : decode cX1_parseInto 6 = .ok (.aload_n 1, 1) := by decide +kernel
theorem dX1_parseInto_7 : decode cX1_parseInto 7 = .ok (.invokevirtual 28, 3) := by decide +kernel
theorem dX1_parseInto_10 : decode cX1_parseInto 10 = .ok (.ifCond .ne 5, 3) := by decide +kernel
theorem dX1_parseInto_13 : decode cX1_parseInto 13 = .ok (.iconst (-1), 1) := by decide +kernel
theorem dX1_parseInto_14 : decode cX1_parseInto 14 = .ok (.ireturn, 1) := by decide +kernel
theorem dX1_parseInto_15 : decode cX1_parseInto 15 = .ok (.iconst 1, 1) := by decide +kernel
theorem dX1_parseInto_16 : decode cX1_parseInto 16 = .ok (.istore_n 2, 1) := by decide +kernel
theorem dX1_parseInto_17 : decode cX1_parseInto 17 = .ok (.aload_n 0, 1) := by decide +kernel
theorem dX1_parseInto_18 : decode cX1_parseInto 18 = .ok (.invokevirtual 32, 3) := by decide +kernel
theorem dX1_parseInto_21 : decode cX1_parseInto 21 = .ok (.iconst 0, 1) := by decide +kernel
theorem dX1_parseInto_22 : decode cX1_parseInto 22 = .ok (.istore_n 3, 1) := by decide +kernel
theorem dX1_parseInto_23 : decode cX1_parseInto 23 = .ok (.iload_n 3, 1) := by decide +kernel
theorem dX1_parseInto_24 : decode cX1_parseInto 24 = .ok (.sipush 150, 3) := by decide +kernel
theorem dX1_parseInto_27 : decode cX1_parseInto 27 = .ok (.if_icmp .ge 33, 3) := by decide +kernel
theorem dX1_parseInto_30 : decode cX1_parseInto 30 = .ok (.aload_n 0, 1) := by decide +kernel
theorem dX1_parseInto_31 : decode cX1_parseInto 31 = .ok (.getfield 25, 3) := by decide +kernel
theorem dX1_parseInto_34 : decode cX1_parseInto 34 = .ok (.ifCond .eq 26, 3) := by decide +kernel
theorem dX1_parseInto_37 : decode cX1_parseInto 37 = .ok (.aload_n 0, 1) := by decide +kernel
theorem dX1_parseInto_38 : decode cX1_parseInto 38 = .ok (.aload_n 1, 1) := by decide +kernel
theorem dX1_parseInto_39 : decode cX1_parseInto 39 = .ok (.invokevirtual 35, 3) := by decide +kernel
theorem dX1_parseInto_42 : decode cX1_parseInto 42 = .ok (.ifCond .ne 5, 3) := by decide +kernel
theorem dX1_parseInto_45 : decode cX1_parseInto 45 = .ok (.iconst (-1), 1) := by decide +kernel
theorem dX1_parseInto_46 : decode cX1_parseInto 46 = .ok (.ireturn, 1) := by decide +kernel
theorem dX1_parseInto_47 : decode cX1_parseInto 47 = .ok (.iinc 2 1, 3) := by decide +kernel
theorem dX1_parseInto_50 : decode cX1_parseInto 50 = .ok (.aload_n 0, 1) := by decide +kernel
theorem dX1_parseInto_51 : decode cX1_parseInto 51 = .ok (.invokevirtual 32, 3) := by decide +kernel
theorem dX1_parseInto_54 : decode cX1_parseInto 54 = .ok (.iinc 3 1, 3) := by decide +kernel
theorem dX1_parseInto_57 : decode cX1_parseInto 57 = .ok (.goto (-34), 3) := by decide +kernel
theorem dX1_parseInto_60 : decode cX1_parseInto 60 = .ok (.iload_n 2, 1) := by decide +kernel
theorem dX1_parseInto_61 : decode cX1_parseInto 61 = .ok (.ireturn, 1) := by decide +kernel
theorem dX1_readSafeItem_0 : decode cX1_readSafeItem 0 = .ok (.aload_n 0, 1) := by decide +kernel
theorem dX1_readSafeItem_1 : decode cX1_readSafeItem 1 = .ok (.invokevirtual 32, 3) := by decide +kernel
theorem dX1_readSafeItem_4 : decode cX1_readSafeItem 4 = .ok (.aload_n 0, 1) := by decide +kernel
theorem dX1_readSafeItem_5 : decode cX1_readSafeItem 5 = .ok (.ldc 38, 2) := by decide +kernel
theorem dX1_readSafeItem_7 : decode cX1_readSafeItem 7 = .ok (.invokevirtual 40, 3) := by decide +kernel
theorem dX1_readSafeItem_10 : decode cX1_readSafeItem 10 = .ok (.ifCond .ne 5, 3) := by decide +kernel
theorem dX1_readSafeItem_13 : decode cX1_readSafeItem 13 = .ok (.iconst 0, 1) := by decide +kernel
theorem dX1_readSafeItem_14 : decode cX1_readSafeItem 14 = .ok (.ireturn, 1) := by decide +kernel
theorem dX1_readSafeItem_15 : decode cX1_readSafeItem 15 = .ok (.aload_n 0, 1) := by decide +kernel
theorem dX1_readSafeItem_16 : decode cX1_readSafeItem 16 = .ok (.iconst 0, 1) := by decide +kernel
theorem dX1_readSafeItem_17 : decode cX1_readSafeItem 17 = .ok (.bipush 96, 2) := by decide +kernel
theorem dX1_readSafeItem_19 : decode cX1_readSafeItem 19 = .ok (.invokevirtual 44, 3) := by decide +kernel
theorem dX1_readSafeItem_22 : decode cX1_readSafeItem 22 = .ok (.istore_n 2, 1) := by decide +kernel
theorem dX1_readSafeItem_23 : decode cX1_readSafeItem 23 = .ok (.iload_n 2, 1) := by decide +kernel
theorem dX1_readSafeItem_24 : decode cX1_readSafeItem 24 = .ok (.iconst (-1), 1) := by decide +kernel
theorem dX1_readSafeItem_25 : decode cX1_readSafeItem 25 = .ok (.if_icmp .ne 5, 3) := by decide +kernel
theorem dX1_readSafeItem_28 : decode cX1_readSafeItem 28 = .ok (.iconst 0, 1) := by decide +kernel
theorem dX1_readSafeItem_29 : decode cX1_readSafeItem 29 = .ok (.ireturn, 1) := by decide +kernel
theorem dX1_readSafeItem_30 : decode cX1_readSafeItem 30 = .ok (.aload_n 0, 1) := by decide +kernel
theorem dX1_readSafeItem_31 : decode cX1_readSafeItem 31 = .ok (.iconst 1, 1) := by decide +kernel
theorem dX1_readSafeItem_32 : decode cX1_readSafeItem 32 = .ok (.iconst 4, 1) := by decide +kernel
theorem dX1_readSafeItem_33 : decode cX1_readSafeItem 33 = .ok (.invokevirtual 44, 3) := by decide +kernel
theorem dX1_readSafeItem_36 : decode cX1_readSafeItem 36 = .ok (.istore_n 3, 1) := by decide +kernel
theorem dX1_readSafeItem_37 : decode cX1_readSafeItem 37 = .ok (.iload_n 3, 1) := by decide +kernel
theorem dX1_readSafeItem_38 : decode cX1_readSafeItem 38 = .ok (.iconst (-1), 1) := by decide +kernel
theorem dX1_readSafeItem_39 : decode cX1_readSafeItem 39 = .ok (.if_icmp .ne 5, 3) := by decide +kernel
theorem dX1_readSafeItem_42 : decode cX1_readSafeItem 42 = .ok (.iconst 0, 1) := by decide +kernel
theorem dX1_readSafeItem_43 : decode cX1_readSafeItem 43 = .ok (.ireturn, 1) := by decide +kernel
theorem dX1_readSafeItem_44 : decode cX1_readSafeItem 44 = .ok (.aload_n 1, 1) := by decide +kernel
theorem dX1_readSafeItem_45 : decode cX1_readSafeItem 45 = .ok (.iload_n 2, 1) := by decide +kernel
theorem dX1_readSafeItem_46 : decode cX1_readSafeItem 46 = .ok (.iload_n 3, 1) := by decide +kernel
theorem dX1_readSafeItem_47 : decode cX1_readSafeItem 47 = .ok (.invokevirtual 48, 3) := by decide +kernel
theorem dX1_readSafeItem_50 : decode cX1_readSafeItem 50 = .ok (.aload_n 0, 1) := by decide +kernel
theorem dX1_readSafeItem_51 : decode cX1_readSafeItem 51 = .ok (.invokevirtual 54, 3) := by decide +kernel
theorem dX1_readSafeItem_54 : decode cX1_readSafeItem 54 = .ok (.ireturn, 1) := by decide +kernel
theorem dX1_readOtherItem_0 : decode cX1_readOtherItem 0 = .ok (.aload_n 0, 1) := by decide +kernel
theorem dX1_readOtherItem_1 : decode cX1_readOtherItem 1 = .ok (.ldc 58, 2) := by decide +kernel
theorem dX1_readOtherItem_3 : decode cX1_readOtherItem 3 = .ok (.invokevirtual 40, 3) := by decide +kernel
theorem dX1_readOtherItem_6 : decode cX1_readOtherItem 6 = .ok (.ifCond .eq 9, 3) := by decide +kernel
theorem dX1_readOtherItem_9 : decode cX1_readOtherItem 9 = .ok (.aload_n 0, 1) := by decide +kernel
theorem dX1_readOtherItem_10 : decode cX1_readOtherItem 10 = .ok (.aload_n 1, 1) := by decide +kernel
theorem dX1_readOtherItem_11 : decode cX1_readOtherItem 11 = .ok (.invokevirtual 60, 3) := by decide +kernel
theorem dX1_readOtherItem_14 : decode cX1_readOtherItem 14 = .ok (.ireturn, 1) := by decide +kernel
theorem dX1_readOtherItem_15 : decode cX1_readOtherItem 15 = .ok (.aload_n 0, 1) := by decide +kernel
theorem dX1_readOtherItem_16 : decode cX1_readOtherItem 16 = .ok (.ldc 63, 2) := by decide +kernel
theorem dX1_readOtherItem_18 : decode cX1_readOtherItem 18 = .ok (.invokevirtual 40, 3) := by decide +kernel
theorem dX1_readOtherItem_21 : decode cX1_readOtherItem 21 = .ok (.ifCond .eq 22, 3) := by decide +kernel
theorem dX1_readOtherItem_24 : decode cX1_readOtherItem 24 = .ok (.aload_n 1, 1) := by decide +kernel
theorem dX1_readOtherItem_25 : decode cX1_readOtherItem 25 = .ok (.invokevirtual 65, 3) := by decide +kernel
theorem dX1_readOtherItem_28 : decode cX1_readOtherItem 28 = .ok (.ifCond .ne 15, 3) := by decide +kernel
theorem dX1_readOtherItem_31 : decode cX1_readOtherItem 31 = .ok (.aload_n 0, 1) := by decide +kernel
theorem dX1_readOtherItem_32 : decode cX1_readOtherItem 32 = .ok (.aload_n 1, 1) := by decide +kernel
theorem dX1_readOtherItem_33 : decode cX1_readOtherItem 33 = .ok (.invokevirtual 68, 3) := by decide +kernel
theorem dX1_readOtherItem_36 : decode cX1_readOtherItem 36 = .ok (.ifCond .eq 7, 3) := by decide +kernel
theorem dX1_readOtherItem_39 : decode cX1_readOtherItem 39 = .ok (.iconst 1, 1) := by decide +kernel
theorem dX1_readOtherItem_40 : decode cX1_readOtherItem 40 = .ok (.goto 4, 3) := by decide +kernel
theorem dX1_readOtherItem_43 : decode cX1_readOtherItem 43 = .ok (.iconst 0, 1) := by decide +kernel
theorem dX1_readOtherItem_44 : decode cX1_readOtherItem 44 = .ok (.ireturn, 1) := by decide +kernel
theorem dX1_readWay_0 : decode cX1_readWay 0 = .ok (.aload_n 0, 1) := by decide +kernel
theorem dX1_readWay_1 : decode cX1_readWay 1 = .ok (.iconst 1, 1) := by decide +kernel
theorem dX1_readWay_2 : decode cX1_readWay 2 = .ok (.iconst 3, 1) := by decide +kernel
theorem dX1_readWay_3 : decode cX1_readWay 3 = .ok (.invokevirtual 44, 3) := by decide +kernel
theorem dX1_readWay_6 : decode cX1_readWay 6 = .ok (.istore_n 2, 1) := by decide +kernel
theorem dX1_readWay_7 : decode cX1_readWay 7 = .ok (.iload_n 2, 1) := by decide +kernel
theorem dX1_readWay_8 : decode cX1_readWay 8 = .ok (.iconst (-1), 1) := by decide +kernel
theorem dX1_readWay_9 : decode cX1_readWay 9 = .ok (.if_icmp .ne 5, 3) := by decide +kernel
theorem dX1_readWay_12 : decode cX1_readWay 12 = .ok (.iconst 0, 1) := by decide +kernel
theorem dX1_readWay_13 : decode cX1_readWay 13 = .ok (.ireturn, 1) := by decide +kernel
theorem dX1_readWay_14 : decode cX1_readWay 14 = .ok (.aload_n 0, 1) := by decide +kernel
theorem dX1_readWay_15 : decode cX1_readWay 15 = .ok (.iconst 0, 1) := by decide +kernel
theorem dX1_readWay_16 : decode cX1_readWay 16 = .ok (.bipush 96, 2) := by decide +kernel
theorem dX1_readWay_18 : decode cX1_readWay 18 = .ok (.invokevirtual 44, 3) := by decide +kernel
theorem dX1_readWay_21 : decode cX1_readWay 21 = .ok (.istore_n 3, 1) := by decide +kernel
theorem dX1_readWay_22 : decode cX1_readWay 22 = .ok (.iload_n 3, 1) := by decide +kernel
theorem dX1_readWay_23 : decode cX1_readWay 23 = .ok (.iconst (-1), 1) := by decide +kernel
theorem dX1_readWay_24 : decode cX1_readWay 24 = .ok (.if_icmp .ne 5, 3) := by decide +kernel
theorem dX1_readWay_27 : decode cX1_readWay 27 = .ok (.iconst 0, 1) := by decide +kernel
theorem dX1_readWay_28 : decode cX1_readWay 28 = .ok (.ireturn, 1) := by decide +kernel
theorem dX1_readWay_29 : decode cX1_readWay 29 = .ok (.aload_n 1, 1) := by decide +kernel
theorem dX1_readWay_30 : decode cX1_readWay 30 = .ok (.iload_n 2, 1) := by decide +kernel
theorem dX1_readWay_31 : decode cX1_readWay 31 = .ok (.iload_n 3, 1) := by decide +kernel
theorem dX1_readWay_32 : decode cX1_readWay 32 = .ok (.invokevirtual 71, 3) := by decide +kernel
theorem dX1_readWay_35 : decode cX1_readWay 35 = .ok (.aload_n 0, 1) := by decide +kernel
theorem dX1_readWay_36 : decode cX1_readWay 36 = .ok (.invokevirtual 54, 3) := by decide +kernel
theorem dX1_readWay_39 : decode cX1_readWay 39 = .ok (.ireturn, 1) := by decide +kernel
theorem dX1_readHolder_0 : decode cX1_readHolder 0 = .ok (.aload_n 0, 1) := by decide +kernel
theorem dX1_readHolder_1 : decode cX1_readHolder 1 = .ok (.iconst 0, 1) := by decide +kernel
theorem dX1_readHolder_2 : decode cX1_readHolder 2 = .ok (.iconst 5, 1) := by decide +kernel
theorem dX1_readHolder_3 : decode cX1_readHolder 3 = .ok (.invokevirtual 44, 3) := by decide +kernel
theorem dX1_readHolder_6 : decode cX1_readHolder 6 = .ok (.istore_n 2, 1) := by decide +kernel
theorem dX1_readHolder_7 : decode cX1_readHolder 7 = .ok (.iload_n 2, 1) := by decide +kernel
theorem dX1_readHolder_8 : decode cX1_readHolder 8 = .ok (.iconst (-1), 1) := by decide +kernel
theorem dX1_readHolder_9 : decode cX1_readHolder 9 = .ok (.if_icmp .ne 5, 3) := by decide +kernel
theorem dX1_readHolder_12 : decode cX1_readHolder 12 = .ok (.iconst 0, 1) := by decide +kernel
theorem dX1_readHolder_13 : decode cX1_readHolder 13 = .ok (.ireturn, 1) := by decide +kernel
theorem dX1_readHolder_14 : decode cX1_readHolder 14 = .ok (.aload_n 0, 1) := by decide +kernel
theorem dX1_readHolder_15 : decode cX1_readHolder 15 = .ok (.iconst 0, 1) := by decide +kernel
theorem dX1_readHolder_16 : decode cX1_readHolder 16 = .ok (.bipush 96, 2) := by decide +kernel
theorem dX1_readHolder_18 : decode cX1_readHolder 18 = .ok (.invokevirtual 44, 3) := by decide +kernel
theorem dX1_readHolder_21 : decode cX1_readHolder 21 = .ok (.istore_n 3, 1) := by decide +kernel
theorem dX1_readHolder_22 : decode cX1_readHolder 22 = .ok (.iload_n 3, 1) := by decide +kernel
theorem dX1_readHolder_23 : decode cX1_readHolder 23 = .ok (.iconst (-1), 1) := by decide +kernel
theorem dX1_readHolder_24 : decode cX1_readHolder 24 = .ok (.if_icmp .ne 5, 3) := by decide +kernel
theorem dX1_readHolder_27 : decode cX1_readHolder 27 = .ok (.iconst 0, 1) := by decide +kernel
theorem dX1_readHolder_28 : decode cX1_readHolder 28 = .ok (.ireturn, 1) := by decide +kernel
theorem dX1_readHolder_29 : decode cX1_readHolder 29 = .ok (.aload_n 1, 1) := by decide +kernel
theorem dX1_readHolder_30 : decode cX1_readHolder 30 = .ok (.iload_n 2, 1) := by decide +kernel
theorem dX1_readHolder_31 : decode cX1_readHolder 31 = .ok (.iload_n 3, 1) := by decide +kernel
theorem dX1_readHolder_32 : decode cX1_readHolder 32 = .ok (.invokevirtual 74, 3) := by decide +kernel
theorem dX1_readHolder_35 : decode cX1_readHolder 35 = .ok (.aload_n 0, 1) := by decide +kernel
theorem dX1_readHolder_36 : decode cX1_readHolder 36 = .ok (.invokevirtual 54, 3) := by decide +kernel
theorem dX1_readHolder_39 : decode cX1_readHolder 39 = .ok (.ireturn, 1) := by decide +kernel
theorem dX1_nextIsStop_0 : decode cX1_nextIsStop 0 = .ok (.aload_n 0, 1) := by decide +kernel
theorem dX1_nextIsStop_1 : decode cX1_nextIsStop 1 = .ok (.invokevirtual 32, 3) := by decide +kernel
theorem dX1_nextIsStop_4 : decode cX1_nextIsStop 4 = .ok (.aload_n 0, 1) := by decide +kernel
theorem dX1_nextIsStop_5 : decode cX1_nextIsStop 5 = .ok (.getfield 25, 3) := by decide +kernel
theorem dX1_nextIsStop_8 : decode cX1_nextIsStop 8 = .ok (.iconst 3, 1) := by decide +kernel
theorem dX1_nextIsStop_9 : decode cX1_nextIsStop 9 = .ok (.if_icmp .ne 7, 3) := by decide +kernel
theorem dX1_nextIsStop_12 : decode cX1_nextIsStop 12 = .ok (.iconst 1, 1) := by decide +kernel
theorem dX1_nextIsStop_13 : decode cX1_nextIsStop 13 = .ok (.goto 4, 3) := by decide +kernel
theorem dX1_nextIsStop_16 : decode cX1_nextIsStop 16 = .ok (.iconst 0, 1) := by decide +kernel
theorem dX1_nextIsStop_17 : decode cX1_nextIsStop 17 = .ok (.ireturn, 1) := by decide +kernel
theorem dX1_nextNumber_0 : decode cX1_nextNumber 0 = .ok (.aload_n 0, 1) := by decide +kernel
theorem dX1_nextNumber_1 : decode cX1_nextNumber 1 = .ok (.invokevirtual 32, 3) := by decide +kernel
theorem dX1_nextNumber_4 : decode cX1_nextNumber 4 = .ok (.aload_n 0, 1) := by decide +kernel
theorem dX1_nextNumber_5 : decode cX1_nextNumber 5 = .ok (.getfield 25, 3) := by decide +kernel
theorem dX1_nextNumber_8 : decode cX1_nextNumber 8 = .ok (.iconst 2, 1) := by decide +kernel
theorem dX1_nextNumber_9 : decode cX1_nextNumber 9 = .ok (.if_icmp .ne 16, 3) := by decide +kernel
theorem dX1_nextNumber_12 : decode cX1_nextNumber 12 = .ok (.aload_n 0, 1) := by decide +kernel
theorem dX1_nextNumber_13 : decode cX1_nextNumber 13 = .ok (.getfield 22, 3) := by decide +kernel
theorem dX1_nextNumber_16 : decode cX1_nextNumber 16 = .ok (.aload_n 0, 1) := by decide +kernel
theorem dX1_nextNumber_17 : decode cX1_nextNumber 17 = .ok (.getfield 19, 3) := by decide +kernel
theorem dX1_nextNumber_20 : decode cX1_nextNumber 20 = .ok (.isub, 1) := by decide +kernel
theorem dX1_nextNumber_21 : decode cX1_nextNumber 21 = .ok (.iconst 2, 1) := by decide +kernel
theorem dX1_nextNumber_22 : decode cX1_nextNumber 22 = .ok (.if_icmp .le 5, 3) := by decide +kernel
theorem dX1_nextNumber_25 : decode cX1_nextNumber 25 = .ok (.iconst (-1), 1) := by decide +kernel
theorem dX1_nextNumber_26 : decode cX1_nextNumber 26 = .ok (.ireturn, 1) := by decide +kernel
theorem dX1_nextNumber_27 : decode cX1_nextNumber 27 = .ok (.iconst 0, 1) := by decide +kernel
theorem dX1_nextNumber_28 : decode cX1_nextNumber 28 = .ok (.istore_n 3, 1) := by decide +kernel
theorem dX1_nextNumber_29 : decode cX1_nextNumber 29 = .ok (.aload_n 0, 1) := by decide +kernel
theorem dX1_nextNumber_30 : decode cX1_nextNumber 30 = .ok (.getfield 19, 3) := by decide +kernel
theorem dX1_nextNumber_33 : decode cX1_nextNumber 33 = .ok (.istore 4, 2) := by decide +kernel
theorem dX1_nextNumber_35 : decode cX1_nextNumber 35 = .ok (.iload 4, 2) := by decide +kernel
theorem dX1_nextNumber_37 : decode cX1_nextNumber 37 = .ok (.aload_n 0, 1) := by decide +kernel
theorem dX1_nextNumber_38 : decode cX1_nextNumber 38 = .ok (.getfield 22, 3) := by decide +kernel
theorem dX1_nextNumber_41 : decode cX1_nextNumber 41 = .ok (.if_icmp .ge 24, 3) := by decide +kernel
theorem dX1_nextNumber_44 : decode cX1_nextNumber 44 = .ok (.iload_n 3, 1) := by decide +kernel
theorem dX1_nextNumber_45 : decode cX1_nextNumber 45 = .ok (.bipush 10, 2) := by decide +kernel
theorem dX1_nextNumber_47 : decode cX1_nextNumber 47 = .ok (.imul, 1) := by decide +kernel
theorem dX1_nextNumber_48 : decode cX1_nextNumber 48 = .ok (.aload_n 0, 1) := by decide +kernel
theorem dX1_nextNumber_49 : decode cX1_nextNumber 49 = .ok (.iload 4, 2) := by decide +kernel
theorem dX1_nextNumber_51 : decode cX1_nextNumber 51 = .ok (.invokevirtual 77, 3) := by decide +kernel
theorem dX1_nextNumber_54 : decode cX1_nextNumber 54 = .ok (.iadd, 1) := by decide +kernel
theorem dX1_nextNumber_55 : decode cX1_nextNumber 55 = .ok (.bipush 48, 2) := by decide +kernel
theorem dX1_nextNumber_57 : decode cX1_nextNumber 57 = .ok (.isub, 1) := by decide +kernel
theorem dX1_nextNumber_58 : decode cX1_nextNumber 58 = .ok (.istore_n 3, 1) := by decide +kernel
theorem dX1_nextNumber_59 : decode cX1_nextNumber 59 = .ok (.iinc 4 1, 3) := by decide +kernel
theorem dX1_nextNumber_62 : decode cX1_nextNumber 62 = .ok (.goto (-27), 3) := by decide +kernel
theorem dX1_nextNumber_65 : decode cX1_nextNumber 65 = .ok (.iload_n 3, 1) := by decide +kernel
theorem dX1_nextNumber_66 : decode cX1_nextNumber 66 = .ok (.iload_n 1, 1) := by decide +kernel
theorem dX1_nextNumber_67 : decode cX1_nextNumber 67 = .ok (.iload_n 2, 1) := by decide +kernel
theorem dX1_nextNumber_68 : decode cX1_nextNumber 68 = .ok (.invokestatic 81, 3) := by decide +kernel
theorem dX1_nextNumber_71 : decode cX1_nextNumber 71 = .ok (.ifCond .eq 7, 3) := by decide +kernel
theorem dX1_nextNumber_74 : decode cX1_nextNumber 74 = .ok (.iload_n 3, 1) := by decide +kernel
theorem dX1_nextNumber_75 : decode cX1_nextNumber 75 = .ok (.goto 4, 3) := by decide +kernel
theorem dX1_nextNumber_78 : decode cX1_nextNumber 78 = .ok (.iconst (-1), 1) := by decide +kernel
theorem dX1_nextNumber_79 : decode cX1_nextNumber 79 = .ok (.ireturn, 1) := by decide +kernel
theorem dX1_isWord_0 : decode cX1_isWord 0 = .ok (.aload_n 0, 1) := by decide +kernel
theorem dX1_isWord_1 : decode cX1_isWord 1 = .ok (.getfield 25, 3) := by decide +kernel
theorem dX1_isWord_4 : decode cX1_isWord 4 = .ok (.iconst 1, 1) := by decide +kernel
theorem dX1_isWord_5 : decode cX1_isWord 5 = .ok (.if_icmp .ne 19, 3) := by decide +kernel
theorem dX1_isWord_8 : decode cX1_isWord 8 = .ok (.aload_n 0, 1) := by decide +kernel
theorem dX1_isWord_9 : decode cX1_isWord 9 = .ok (.getfield 22, 3) := by decide +kernel
theorem dX1_isWord_12 : decode cX1_isWord 12 = .ok (.aload_n 0, 1) := by decide +kernel
theorem dX1_isWord_13 : decode cX1_isWord 13 = .ok (.getfield 19, 3) := by decide +kernel
theorem dX1_isWord_16 : decode cX1_isWord 16 = .ok (.isub, 1) := by decide +kernel
theorem dX1_isWord_17 : decode cX1_isWord 17 = .ok (.aload_n 1, 1) := by decide +kernel
theorem dX1_isWord_18 : decode cX1_isWord 18 = .ok (.invokevirtual 85, 3) := by decide +kernel
theorem dX1_isWord_21 : decode cX1_isWord 21 = .ok (.if_icmp .eq 5, 3) := by decide +kernel
theorem dX1_isWord_24 : decode cX1_isWord 24 = .ok (.iconst 0, 1) := by decide +kernel
theorem dX1_isWord_25 : decode cX1_isWord 25 = .ok (.ireturn, 1) := by decide +kernel
theorem dX1_isWord_26 : decode cX1_isWord 26 = .ok (.iconst 0, 1) := by decide +kernel
theorem dX1_isWord_27 : decode cX1_isWord 27 = .ok (.istore_n 2, 1) := by decide +kernel
theorem dX1_isWord_28 : decode cX1_isWord 28 = .ok (.iload_n 2, 1) := by decide +kernel
theorem dX1_isWord_29 : decode cX1_isWord 29 = .ok (.aload_n 1, 1) := by decide +kernel
theorem dX1_isWord_30 : decode cX1_isWord 30 = .ok (.invokevirtual 85, 3) := by decide +kernel
theorem dX1_isWord_33 : decode cX1_isWord 33 = .ok (.if_icmp .ge 29, 3) := by decide +kernel
theorem dX1_isWord_36 : decode cX1_isWord 36 = .ok (.aload_n 0, 1) := by decide +kernel
theorem dX1_isWord_37 : decode cX1_isWord 37 = .ok (.aload_n 0, 1) := by decide +kernel
theorem dX1_isWord_38 : decode cX1_isWord 38 = .ok (.getfield 19, 3) := by decide +kernel
theorem dX1_isWord_41 : decode cX1_isWord 41 = .ok (.iload_n 2, 1) := by decide +kernel
theorem dX1_isWord_42 : decode cX1_isWord 42 = .ok (.iadd, 1) := by decide +kernel
theorem dX1_isWord_43 : decode cX1_isWord 43 = .ok (.invokevirtual 77, 3) := by decide +kernel
theorem dX1_isWord_46 : decode cX1_isWord 46 = .ok (.aload_n 1, 1) := by decide +kernel
theorem dX1_isWord_47 : decode cX1_isWord 47 = .ok (.iload_n 2, 1) := by decide +kernel
theorem dX1_isWord_48 : decode cX1_isWord 48 = .ok (.invokevirtual 90, 3) := by decide +kernel
theorem dX1_isWord_51 : decode cX1_isWord 51 = .ok (.if_icmp .eq 5, 3) := by decide +kernel
theorem dX1_isWord_54 : decode cX1_isWord 54 = .ok (.iconst 0, 1) := by decide +kernel
theorem dX1_isWord_55 : decode cX1_isWord 55 = .ok (.ireturn, 1) := by decide +kernel
theorem dX1_isWord_56 : decode cX1_isWord 56 = .ok (.iinc 2 1, 3) := by decide +kernel
theorem dX1_isWord_59 : decode cX1_isWord 59 = .ok (.goto (-31), 3) := by decide +kernel
theorem dX1_isWord_62 : decode cX1_isWord 62 = .ok (.iconst 1, 1) := by decide +kernel
theorem dX1_isWord_63 : decode cX1_isWord 63 = .ok (.ireturn, 1) := by decide +kernel
theorem dX1_nextToken_0 : decode cX1_nextToken 0 = .ok (.aload_n 0, 1) := by decide +kernel
theorem dX1_nextToken_1 : decode cX1_nextToken 1 = .ok (.getfield 22, 3) := by decide +kernel
theorem dX1_nextToken_4 : decode cX1_nextToken 4 = .ok (.istore_n 1, 1) := by decide +kernel
theorem dX1_nextToken_5 : decode cX1_nextToken 5 = .ok (.iload_n 1, 1) := by decide +kernel
theorem dX1_nextToken_6 : decode cX1_nextToken 6 = .ok (.aload_n 0, 1) := by decide +kernel
theorem dX1_nextToken_7 : decode cX1_nextToken 7 = .ok (.getfield 15, 3) := by decide +kernel
theorem dX1_nextToken_10 : decode cX1_nextToken 10 = .ok (.if_icmp .ge 19, 3) := by decide +kernel
theorem dX1_nextToken_13 : decode cX1_nextToken 13 = .ok (.aload_n 0, 1) := by decide +kernel
theorem dX1_nextToken_14 : decode cX1_nextToken 14 = .ok (.iload_n 1, 1) := by decide +kernel
theorem dX1_nextToken_15 : decode cX1_nextToken 15 = .ok (.invokevirtual 77, 3) := by decide +kernel
theorem dX1_nextToken_18 : decode cX1_nextToken 18 = .ok (.bipush 32, 2) := by decide +kernel
theorem dX1_nextToken_20 : decode cX1_nextToken 20 = .ok (.if_icmp .ne 9, 3) := by decide +kernel
theorem dX1_nextToken_23 : decode cX1_nextToken 23 = .ok (.iinc 1 1, 3) := by decide +kernel
theorem dX1_nextToken_26 : decode cX1_nextToken 26 = .ok (.goto (-21), 3) := by decide +kernel
theorem dX1_nextToken_29 : decode cX1_nextToken 29 = .ok (.aload_n 0, 1) := by decide +kernel
theorem dX1_nextToken_30 : decode cX1_nextToken 30 = .ok (.iload_n 1, 1) := by decide +kernel
theorem dX1_nextToken_31 : decode cX1_nextToken 31 = .ok (.aload_n 0, 1) := by decide +kernel
theorem dX1_nextToken_32 : decode cX1_nextToken 32 = .ok (.getfield 15, 3) := by decide +kernel
theorem dX1_nextToken_35 : decode cX1_nextToken 35 = .ok (.if_icmp .ge 14, 3) := by decide +kernel
theorem dX1_nextToken_38 : decode cX1_nextToken 38 = .ok (.aload_n 0, 1) := by decide +kernel
theorem dX1_nextToken_39 : decode cX1_nextToken 39 = .ok (.iload_n 1, 1) := by decide +kernel
theorem dX1_nextToken_40 : decode cX1_nextToken 40 = .ok (.invokevirtual 77, 3) := by decide +kernel
theorem dX1_nextToken_43 : decode cX1_nextToken 43 = .ok (.invokestatic 94, 3) := by decide +kernel
theorem dX1_nextToken_46 : decode cX1_nextToken 46 = .ok (.goto 4, 3) := by decide +kernel
theorem dX1_nextToken_49 : decode cX1_nextToken 49 = .ok (.iconst 0, 1) := by decide +kernel
theorem dX1_nextToken_50 : decode cX1_nextToken 50 = .ok (.putfield 25, 3) := by decide +kernel
theorem dX1_nextToken_53 : decode cX1_nextToken 53 = .ok (.aload_n 0, 1) := by decide +kernel
theorem dX1_nextToken_54 : decode cX1_nextToken 54 = .ok (.iload_n 1, 1) := by decide +kernel
theorem dX1_nextToken_55 : decode cX1_nextToken 55 = .ok (.putfield 19, 3) := by decide +kernel
theorem dX1_nextToken_58 : decode cX1_nextToken 58 = .ok (.aload_n 0, 1) := by decide +kernel
theorem dX1_nextToken_59 : decode cX1_nextToken 59 = .ok (.getfield 25, 3) := by decide +kernel
theorem dX1_nextToken_62 : decode cX1_nextToken 62 = .ok (.ifCond .ne 7, 3) := by decide +kernel
theorem dX1_nextToken_65 : decode cX1_nextToken 65 = .ok (.iload_n 1, 1) := by decide +kernel
theorem dX1_nextToken_66 : decode cX1_nextToken 66 = .ok (.goto 6, 3) := by decide +kernel
theorem dX1_nextToken_69 : decode cX1_nextToken 69 = .ok (.iload_n 1, 1) := by decide +kernel
theorem dX1_nextToken_70 : decode cX1_nextToken 70 = .ok (.iconst 1, 1) := by decide +kernel
theorem dX1_nextToken_71 : decode cX1_nextToken 71 = .ok (.iadd, 1) := by decide +kernel
theorem dX1_nextToken_72 : decode cX1_nextToken 72 = .ok (.istore_n 2, 1) := by decide +kernel
theorem dX1_nextToken_73 : decode cX1_nextToken 73 = .ok (.iload_n 2, 1) := by decide +kernel
theorem dX1_nextToken_74 : decode cX1_nextToken 74 = .ok (.aload_n 0, 1) := by decide +kernel
theorem dX1_nextToken_75 : decode cX1_nextToken 75 = .ok (.getfield 15, 3) := by decide +kernel
theorem dX1_nextToken_78 : decode cX1_nextToken 78 = .ok (.if_icmp .ge 34, 3) := by decide +kernel
theorem dX1_nextToken_81 : decode cX1_nextToken 81 = .ok (.aload_n 0, 1) := by decide +kernel
theorem dX1_nextToken_82 : decode cX1_nextToken 82 = .ok (.getfield 25, 3) := by decide +kernel
theorem dX1_nextToken_85 : decode cX1_nextToken 85 = .ok (.invokestatic 97, 3) := by decide +kernel
theorem dX1_nextToken_88 : decode cX1_nextToken 88 = .ok (.ifCond .eq 24, 3) := by decide +kernel
theorem dX1_nextToken_91 : decode cX1_nextToken 91 = .ok (.aload_n 0, 1) := by decide +kernel
theorem dX1_nextToken_92 : decode cX1_nextToken 92 = .ok (.iload_n 2, 1) := by decide +kernel
theorem dX1_nextToken_93 : decode cX1_nextToken 93 = .ok (.invokevirtual 77, 3) := by decide +kernel
theorem dX1_nextToken_96 : decode cX1_nextToken 96 = .ok (.invokestatic 94, 3) := by decide +kernel
theorem dX1_nextToken_99 : decode cX1_nextToken 99 = .ok (.aload_n 0, 1) := by decide +kernel
theorem dX1_nextToken_100 : decode cX1_nextToken 100 = .ok (.getfield 25, 3) := by decide +kernel
theorem dX1_nextToken_103 : decode cX1_nextToken 103 = .ok (.if_icmp .ne 9, 3) := by decide +kernel
theorem dX1_nextToken_106 : decode cX1_nextToken 106 = .ok (.iinc 2 1, 3) := by decide +kernel
theorem dX1_nextToken_109 : decode cX1_nextToken 109 = .ok (.goto (-36), 3) := by decide +kernel
theorem dX1_nextToken_112 : decode cX1_nextToken 112 = .ok (.aload_n 0, 1) := by decide +kernel
theorem dX1_nextToken_113 : decode cX1_nextToken 113 = .ok (.iload_n 2, 1) := by decide +kernel
theorem dX1_nextToken_114 : decode cX1_nextToken 114 = .ok (.putfield 22, 3) := by decide +kernel
theorem dX1_nextToken_117 : decode cX1_nextToken 117 = .ok (.return_, 1) := by decide +kernel
theorem dX1_byteAt_0 : decode cX1_byteAt 0 = .ok (.iload_n 1, 1) := by decide +kernel
theorem dX1_byteAt_1 : decode cX1_byteAt 1 = .ok (.ifCond .lt 21, 3) := by decide +kernel
theorem dX1_byteAt_4 : decode cX1_byteAt 4 = .ok (.iload_n 1, 1) := by decide +kernel
theorem dX1_byteAt_5 : decode cX1_byteAt 5 = .ok (.aload_n 0, 1) := by decide +kernel
theorem dX1_byteAt_6 : decode cX1_byteAt 6 = .ok (.getfield 9, 3) := by decide +kernel
theorem dX1_byteAt_9 : decode cX1_byteAt 9 = .ok (.arraylength, 1) := by decide +kernel
theorem dX1_byteAt_10 : decode cX1_byteAt 10 = .ok (.if_icmp .ge 12, 3) := by decide +kernel
theorem dX1_byteAt_13 : decode cX1_byteAt 13 = .ok (.aload_n 0, 1) := by decide +kernel
theorem dX1_byteAt_14 : decode cX1_byteAt 14 = .ok (.getfield 9, 3) := by decide +kernel
theorem dX1_byteAt_17 : decode cX1_byteAt 17 = .ok (.iload_n 1, 1) := by decide +kernel
theorem dX1_byteAt_18 : decode cX1_byteAt 18 = .ok (.baload, 1) := by decide +kernel
theorem dX1_byteAt_19 : decode cX1_byteAt 19 = .ok (.goto 4, 3) := by decide +kernel
theorem dX1_byteAt_22 : decode cX1_byteAt 22 = .ok (.iconst 0, 1) := by decide +kernel
theorem dX1_byteAt_23 : decode cX1_byteAt 23 = .ok (.ireturn, 1) := by decide +kernel
theorem dX1_isLong_0 : decode cX1_isLong 0 = .ok (.iload_n 0, 1) := by decide +kernel
theorem dX1_isLong_1 : decode cX1_isLong 1 = .ok (.iconst 1, 1) := by decide +kernel
theorem dX1_isLong_2 : decode cX1_isLong 2 = .ok (.if_icmp .eq 8, 3) := by decide +kernel
theorem dX1_isLong_5 : decode cX1_isLong 5 = .ok (.iload_n 0, 1) := by decide +kernel
theorem dX1_isLong_6 : decode cX1_isLong 6 = .ok (.iconst 2, 1) := by decide +kernel
theorem dX1_isLong_7 : decode cX1_isLong 7 = .ok (.if_icmp .ne 7, 3) := by decide +kernel
theorem dX1_isLong_10 : decode cX1_isLong 10 = .ok (.iconst 1, 1) := by decide +kernel
theorem dX1_isLong_11 : decode cX1_isLong 11 = .ok (.goto 4, 3) := by decide +kernel
theorem dX1_isLong_14 : decode cX1_isLong 14 = .ok (.iconst 0, 1) := by decide +kernel
theorem dX1_isLong_15 : decode cX1_isLong 15 = .ok (.ireturn, 1) := by decide +kernel
theorem dX1_tokenBegunBy_0 : decode cX1_tokenBegunBy 0 = .ok (.iload_n 0, 1) := by decide +kernel
theorem dX1_tokenBegunBy_1 : decode cX1_tokenBegunBy 1 = .ok (.bipush 97, 2) := by decide +kernel
theorem dX1_tokenBegunBy_3 : decode cX1_tokenBegunBy 3 = .ok (.if_icmp .lt 11, 3) := by decide +kernel
theorem dX1_tokenBegunBy_6 : decode cX1_tokenBegunBy 6 = .ok (.iload_n 0, 1) := by decide +kernel
theorem dX1_tokenBegunBy_7 : decode cX1_tokenBegunBy 7 = .ok (.bipush 122, 2) := by decide +kernel
theorem dX1_tokenBegunBy_9 : decode cX1_tokenBegunBy 9 = .ok (.if_icmp .gt 5, 3) := by decide +kernel
theorem dX1_tokenBegunBy_12 : decode cX1_tokenBegunBy 12 = .ok (.iconst 1, 1) := by decide +kernel
theorem dX1_tokenBegunBy_13 : decode cX1_tokenBegunBy 13 = .ok (.ireturn, 1) := by decide +kernel
theorem dX1_tokenBegunBy_14 : decode cX1_tokenBegunBy 14 = .ok (.iload_n 0, 1) := by decide +kernel
theorem dX1_tokenBegunBy_15 : decode cX1_tokenBegunBy 15 = .ok (.bipush 48, 2) := by decide +kernel
theorem dX1_tokenBegunBy_17 : decode cX1_tokenBegunBy 17 = .ok (.if_icmp .lt 11, 3) := by decide +kernel
theorem dX1_tokenBegunBy_20 : decode cX1_tokenBegunBy 20 = .ok (.iload_n 0, 1) := by decide +kernel
theorem dX1_tokenBegunBy_21 : decode cX1_tokenBegunBy 21 = .ok (.bipush 57, 2) := by decide +kernel
theorem dX1_tokenBegunBy_23 : decode cX1_tokenBegunBy 23 = .ok (.if_icmp .gt 5, 3) := by decide +kernel
theorem dX1_tokenBegunBy_26 : decode cX1_tokenBegunBy 26 = .ok (.iconst 2, 1) := by decide +kernel
theorem dX1_tokenBegunBy_27 : decode cX1_tokenBegunBy 27 = .ok (.ireturn, 1) := by decide +kernel
theorem dX1_tokenBegunBy_28 : decode cX1_tokenBegunBy 28 = .ok (.iload_n 0, 1) := by decide +kernel
theorem dX1_tokenBegunBy_29 : decode cX1_tokenBegunBy 29 = .ok (.bipush 59, 2) := by decide +kernel
theorem dX1_tokenBegunBy_31 : decode cX1_tokenBegunBy 31 = .ok (.if_icmp .ne 7, 3) := by decide +kernel
theorem dX1_tokenBegunBy_34 : decode cX1_tokenBegunBy 34 = .ok (.iconst 3, 1) := by decide +kernel
theorem dX1_tokenBegunBy_35 : decode cX1_tokenBegunBy 35 = .ok (.goto 4, 3) := by decide +kernel
theorem dX1_tokenBegunBy_38 : decode cX1_tokenBegunBy 38 = .ok (.iconst 4, 1) := by decide +kernel
theorem dX1_tokenBegunBy_39 : decode cX1_tokenBegunBy 39 = .ok (.ireturn, 1) := by decide +kernel
theorem dX2_init_0 : decode cX2_init 0 = .ok (.aload_n 0, 1) := by decide +kernel
theorem dX2_init_1 : decode cX2_init 1 = .ok (.invokespecial 3, 3) := by decide +kernel
theorem dX2_init_4 : decode cX2_init 4 = .ok (.aload_n 0, 1) := by decide +kernel
theorem dX2_init_5 : decode cX2_init 5 = .ok (.bipush 6, 2) := by decide +kernel
theorem dX2_init_7 : decode cX2_init 7 = .ok (.newarray .int, 2) := by decide +kernel
theorem dX2_init_9 : decode cX2_init 9 = .ok (.putfield 9, 3) := by decide +kernel
theorem dX2_init_12 : decode cX2_init 12 = .ok (.aload_n 0, 1) := by decide +kernel
theorem dX2_init_13 : decode cX2_init 13 = .ok (.getfield 9, 3) := by decide +kernel
theorem dX2_init_16 : decode cX2_init 16 = .ok (.iconst (-1), 1) := by decide +kernel
theorem dX2_init_17 : decode cX2_init 17 = .ok (.invokestatic 15, 3) := by decide +kernel
theorem dX2_init_20 : decode cX2_init 20 = .ok (.return_, 1) := by decide +kernel
theorem dX2_empty_0 : decode cX2_empty 0 = .ok (.aload_n 0, 1) := by decide +kernel
theorem dX2_empty_1 : decode cX2_empty 1 = .ok (.getfield 9, 3) := by decide +kernel
theorem dX2_empty_4 : decode cX2_empty 4 = .ok (.iconst (-1), 1) := by decide +kernel
theorem dX2_empty_5 : decode cX2_empty 5 = .ok (.invokestatic 15, 3) := by decide +kernel
theorem dX2_empty_8 : decode cX2_empty 8 = .ok (.return_, 1) := by decide +kernel
theorem dX2_put_0 : decode cX2_put 0 = .ok (.iload_n 1, 1) := by decide +kernel
theorem dX2_put_1 : decode cX2_put 1 = .ok (.ifCond .lt 19, 3) := by decide +kernel
theorem dX2_put_4 : decode cX2_put 4 = .ok (.iload_n 1, 1) := by decide +kernel
theorem dX2_put_5 : decode cX2_put 5 = .ok (.aload_n 0, 1) := by decide +kernel
theorem dX2_put_6 : decode cX2_put 6 = .ok (.getfield 9, 3) := by decide +kernel
theorem dX2_put_9 : decode cX2_put 9 = .ok (.arraylength, 1) := by decide +kernel
theorem dX2_put_10 : decode cX2_put 10 = .ok (.if_icmp .ge 10, 3) := by decide +kernel
theorem dX2_put_13 : decode cX2_put 13 = .ok (.aload_n 0, 1) := by decide +kernel
theorem dX2_put_14 : decode cX2_put 14 = .ok (.getfield 9, 3) := by decide +kernel
theorem dX2_put_17 : decode cX2_put 17 = .ok (.iload_n 1, 1) := by decide +kernel
theorem dX2_put_18 : decode cX2_put 18 = .ok (.iload_n 2, 1) := by decide +kernel
theorem dX2_put_19 : decode cX2_put 19 = .ok (.iastore, 1) := by decide +kernel
theorem dX2_put_20 : decode cX2_put 20 = .ok (.return_, 1) := by decide +kernel
theorem dX2_numberAt_0 : decode cX2_numberAt 0 = .ok (.iload_n 1, 1) := by decide +kernel
theorem dX2_numberAt_1 : decode cX2_numberAt 1 = .ok (.ifCond .lt 21, 3) := by decide +kernel
theorem dX2_numberAt_4 : decode cX2_numberAt 4 = .ok (.iload_n 1, 1) := by decide +kernel
theorem dX2_numberAt_5 : decode cX2_numberAt 5 = .ok (.aload_n 0, 1) := by decide +kernel
theorem dX2_numberAt_6 : decode cX2_numberAt 6 = .ok (.getfield 9, 3) := by decide +kernel
theorem dX2_numberAt_9 : decode cX2_numberAt 9 = .ok (.arraylength, 1) := by decide +kernel
theorem dX2_numberAt_10 : decode cX2_numberAt 10 = .ok (.if_icmp .ge 12, 3) := by decide +kernel
theorem dX2_numberAt_13 : decode cX2_numberAt 13 = .ok (.aload_n 0, 1) := by decide +kernel
theorem dX2_numberAt_14 : decode cX2_numberAt 14 = .ok (.getfield 9, 3) := by decide +kernel
theorem dX2_numberAt_17 : decode cX2_numberAt 17 = .ok (.iload_n 1, 1) := by decide +kernel
theorem dX2_numberAt_18 : decode cX2_numberAt 18 = .ok (.iaload, 1) := by decide +kernel
theorem dX2_numberAt_19 : decode cX2_numberAt 19 = .ok (.goto 4, 3) := by decide +kernel
theorem dX2_numberAt_22 : decode cX2_numberAt 22 = .ok (.iconst (-1), 1) := by decide +kernel
theorem dX2_numberAt_23 : decode cX2_numberAt 23 = .ok (.ireturn, 1) := by decide +kernel
theorem dX2_size_0 : decode cX2_size 0 = .ok (.aload_n 0, 1) := by decide +kernel
theorem dX2_size_1 : decode cX2_size 1 = .ok (.invokevirtual 21, 3) := by decide +kernel
theorem dX2_size_4 : decode cX2_size 4 = .ok (.invokestatic 25, 3) := by decide +kernel
theorem dX2_size_7 : decode cX2_size 7 = .ok (.ireturn, 1) := by decide +kernel
theorem dX2_copyWithout_0 : decode cX2_copyWithout 0 = .ok (.iconst 0, 1) := by decide +kernel
theorem dX2_copyWithout_1 : decode cX2_copyWithout 1 = .ok (.istore_n 3, 1) := by decide +kernel
theorem dX2_copyWithout_2 : decode cX2_copyWithout 2 = .ok (.iload_n 3, 1) := by decide +kernel
theorem dX2_copyWithout_3 : decode cX2_copyWithout 3 = .ok (.aload_n 0, 1) := by decide +kernel
theorem dX2_copyWithout_4 : decode cX2_copyWithout 4 = .ok (.getfield 9, 3) := by decide +kernel
theorem dX2_copyWithout_7 : decode cX2_copyWithout 7 = .ok (.arraylength, 1) := by decide +kernel
theorem dX2_copyWithout_8 : decode cX2_copyWithout 8 = .ok (.if_icmp .ge 32, 3) := by decide +kernel
theorem dX2_copyWithout_11 : decode cX2_copyWithout 11 = .ok (.aload_n 0, 1) := by decide +kernel
theorem dX2_copyWithout_12 : decode cX2_copyWithout 12 = .ok (.getfield 9, 3) := by decide +kernel
theorem dX2_copyWithout_15 : decode cX2_copyWithout 15 = .ok (.iload_n 3, 1) := by decide +kernel
theorem dX2_copyWithout_16 : decode cX2_copyWithout 16 = .ok (.iload_n 2, 1) := by decide +kernel
theorem dX2_copyWithout_17 : decode cX2_copyWithout 17 = .ok (.iload_n 3, 1) := by decide +kernel
theorem dX2_copyWithout_18 : decode cX2_copyWithout 18 = .ok (.invokestatic 31, 3) := by decide +kernel
theorem dX2_copyWithout_21 : decode cX2_copyWithout 21 = .ok (.ifCond .eq 7, 3) := by decide +kernel
theorem dX2_copyWithout_24 : decode cX2_copyWithout 24 = .ok (.iconst (-1), 1) := by decide +kernel
theorem dX2_copyWithout_25 : decode cX2_copyWithout 25 = .ok (.goto 8, 3) := by decide +kernel
theorem dX2_copyWithout_28 : decode cX2_copyWithout 28 = .ok (.aload_n 1, 1) := by decide +kernel
theorem dX2_copyWithout_29 : decode cX2_copyWithout 29 = .ok (.iload_n 3, 1) := by decide +kernel
theorem dX2_copyWithout_30 : decode cX2_copyWithout 30 = .ok (.invokevirtual 35, 3) := by decide +kernel
theorem dX2_copyWithout_33 : decode cX2_copyWithout 33 = .ok (.iastore, 1) := by decide +kernel
theorem dX2_copyWithout_34 : decode cX2_copyWithout 34 = .ok (.iinc 3 1, 3) := by decide +kernel
theorem dX2_copyWithout_37 : decode cX2_copyWithout 37 = .ok (.goto (-35), 3) := by decide +kernel
theorem dX2_copyWithout_40 : decode cX2_copyWithout 40 = .ok (.return_, 1) := by decide +kernel
theorem dX2_foundBy_0 : decode cX2_foundBy 0 = .ok (.aload_n 0, 1) := by decide +kernel
theorem dX2_foundBy_1 : decode cX2_foundBy 1 = .ok (.iload_n 1, 1) := by decide +kernel
theorem dX2_foundBy_2 : decode cX2_foundBy 2 = .ok (.invokevirtual 38, 3) := by decide +kernel
theorem dX2_foundBy_5 : decode cX2_foundBy 5 = .ok (.istore_n 2, 1) := by decide +kernel
theorem dX2_foundBy_6 : decode cX2_foundBy 6 = .ok (.iload_n 2, 1) := by decide +kernel
theorem dX2_foundBy_7 : decode cX2_foundBy 7 = .ok (.iconst (-1), 1) := by decide +kernel
theorem dX2_foundBy_8 : decode cX2_foundBy 8 = .ok (.if_icmp .ne 7, 3) := by decide +kernel
theorem dX2_foundBy_11 : decode cX2_foundBy 11 = .ok (.iconst (-1), 1) := by decide +kernel
theorem dX2_foundBy_12 : decode cX2_foundBy 12 = .ok (.goto 9, 3) := by decide +kernel
theorem dX2_foundBy_15 : decode cX2_foundBy 15 = .ok (.aload_n 0, 1) := by decide +kernel
theorem dX2_foundBy_16 : decode cX2_foundBy 16 = .ok (.iload_n 2, 1) := by decide +kernel
theorem dX2_foundBy_17 : decode cX2_foundBy 17 = .ok (.iconst 0, 1) := by decide +kernel
theorem dX2_foundBy_18 : decode cX2_foundBy 18 = .ok (.invokevirtual 41, 3) := by decide +kernel
theorem dX2_foundBy_21 : decode cX2_foundBy 21 = .ok (.ireturn, 1) := by decide +kernel
theorem dX2_agreesBy_0 : decode cX2_agreesBy 0 = .ok (.aload_n 0, 1) := by decide +kernel
theorem dX2_agreesBy_1 : decode cX2_agreesBy 1 = .ok (.iload_n 1, 1) := by decide +kernel
theorem dX2_agreesBy_2 : decode cX2_agreesBy 2 = .ok (.invokevirtual 38, 3) := by decide +kernel
theorem dX2_agreesBy_5 : decode cX2_agreesBy 5 = .ok (.istore_n 2, 1) := by decide +kernel
theorem dX2_agreesBy_6 : decode cX2_agreesBy 6 = .ok (.iload_n 2, 1) := by decide +kernel
theorem dX2_agreesBy_7 : decode cX2_agreesBy 7 = .ok (.iconst (-1), 1) := by decide +kernel
theorem dX2_agreesBy_8 : decode cX2_agreesBy 8 = .ok (.if_icmp .ne 5, 3) := by decide +kernel
theorem dX2_agreesBy_11 : decode cX2_agreesBy 11 = .ok (.iconst 0, 1) := by decide +kernel
theorem dX2_agreesBy_12 : decode cX2_agreesBy 12 = .ok (.ireturn, 1) := by decide +kernel
theorem dX2_agreesBy_13 : decode cX2_agreesBy 13 = .ok (.iconst 0, 1) := by decide +kernel
theorem dX2_agreesBy_14 : decode cX2_agreesBy 14 = .ok (.istore_n 3, 1) := by decide +kernel
theorem dX2_agreesBy_15 : decode cX2_agreesBy 15 = .ok (.iload_n 3, 1) := by decide +kernel
theorem dX2_agreesBy_16 : decode cX2_agreesBy 16 = .ok (.aload_n 0, 1) := by decide +kernel
theorem dX2_agreesBy_17 : decode cX2_agreesBy 17 = .ok (.getfield 9, 3) := by decide +kernel
theorem dX2_agreesBy_20 : decode cX2_agreesBy 20 = .ok (.arraylength, 1) := by decide +kernel
theorem dX2_agreesBy_21 : decode cX2_agreesBy 21 = .ok (.if_icmp .ge 38, 3) := by decide +kernel
theorem dX2_agreesBy_24 : decode cX2_agreesBy 24 = .ok (.aload_n 0, 1) := by decide +kernel
theorem dX2_agreesBy_25 : decode cX2_agreesBy 25 = .ok (.getfield 9, 3) := by decide +kernel
theorem dX2_agreesBy_28 : decode cX2_agreesBy 28 = .ok (.iload_n 3, 1) := by decide +kernel
theorem dX2_agreesBy_29 : decode cX2_agreesBy 29 = .ok (.iaload, 1) := by decide +kernel
theorem dX2_agreesBy_30 : decode cX2_agreesBy 30 = .ok (.iconst (-1), 1) := by decide +kernel
theorem dX2_agreesBy_31 : decode cX2_agreesBy 31 = .ok (.if_icmp .eq 22, 3) := by decide +kernel
theorem dX2_agreesBy_34 : decode cX2_agreesBy 34 = .ok (.aload_n 0, 1) := by decide +kernel
theorem dX2_agreesBy_35 : decode cX2_agreesBy 35 = .ok (.getfield 9, 3) := by decide +kernel
theorem dX2_agreesBy_38 : decode cX2_agreesBy 38 = .ok (.iload_n 3, 1) := by decide +kernel
theorem dX2_agreesBy_39 : decode cX2_agreesBy 39 = .ok (.iaload, 1) := by decide +kernel
theorem dX2_agreesBy_40 : decode cX2_agreesBy 40 = .ok (.aload_n 0, 1) := by decide +kernel
theorem dX2_agreesBy_41 : decode cX2_agreesBy 41 = .ok (.iload_n 2, 1) := by decide +kernel
theorem dX2_agreesBy_42 : decode cX2_agreesBy 42 = .ok (.iload_n 3, 1) := by decide +kernel
theorem dX2_agreesBy_43 : decode cX2_agreesBy 43 = .ok (.iconst 1, 1) := by decide +kernel
theorem dX2_agreesBy_44 : decode cX2_agreesBy 44 = .ok (.iadd, 1) := by decide +kernel
theorem dX2_agreesBy_45 : decode cX2_agreesBy 45 = .ok (.invokevirtual 41, 3) := by decide +kernel
theorem dX2_agreesBy_48 : decode cX2_agreesBy 48 = .ok (.if_icmp .eq 5, 3) := by decide +kernel
theorem dX2_agreesBy_51 : decode cX2_agreesBy 51 = .ok (.iconst 0, 1) := by decide +kernel
theorem dX2_agreesBy_52 : decode cX2_agreesBy 52 = .ok (.ireturn, 1) := by decide +kernel
theorem dX2_agreesBy_53 : decode cX2_agreesBy 53 = .ok (.iinc 3 1, 3) := by decide +kernel
theorem dX2_agreesBy_56 : decode cX2_agreesBy 56 = .ok (.goto (-41), 3) := by decide +kernel
theorem dX2_agreesBy_59 : decode cX2_agreesBy 59 = .ok (.iconst 1, 1) := by decide +kernel
theorem dX2_agreesBy_60 : decode cX2_agreesBy 60 = .ok (.ireturn, 1) := by decide +kernel
theorem dX2_liarBits_0 : decode cX2_liarBits 0 = .ok (.aload_n 0, 1) := by decide +kernel
theorem dX2_liarBits_1 : decode cX2_liarBits 1 = .ok (.invokevirtual 21, 3) := by decide +kernel
theorem dX2_liarBits_4 : decode cX2_liarBits 4 = .ok (.istore_n 3, 1) := by decide +kernel
theorem dX2_liarBits_5 : decode cX2_liarBits 5 = .ok (.iconst (-1), 1) := by decide +kernel
theorem dX2_liarBits_6 : decode cX2_liarBits 6 = .ok (.istore 4, 2) := by decide +kernel
theorem dX2_liarBits_8 : decode cX2_liarBits 8 = .ok (.iconst 0, 1) := by decide +kernel
theorem dX2_liarBits_9 : decode cX2_liarBits 9 = .ok (.istore 5, 2) := by decide +kernel
theorem dX2_liarBits_11 : decode cX2_liarBits 11 = .ok (.iload 5, 2) := by decide +kernel
theorem dX2_liarBits_13 : decode cX2_liarBits 13 = .ok (.iload_n 3, 1) := by decide +kernel
theorem dX2_liarBits_14 : decode cX2_liarBits 14 = .ok (.if_icmp .gt 81, 3) := by decide +kernel
theorem dX2_liarBits_17 : decode cX2_liarBits 17 = .ok (.iload 4, 2) := by decide +kernel
theorem dX2_liarBits_19 : decode cX2_liarBits 19 = .ok (.iconst (-1), 1) := by decide +kernel
theorem dX2_liarBits_20 : decode cX2_liarBits 20 = .ok (.if_icmp .eq 16, 3) := by decide +kernel
theorem dX2_liarBits_23 : decode cX2_liarBits 23 = .ok (.iload 5, 2) := by decide +kernel
theorem dX2_liarBits_25 : decode cX2_liarBits 25 = .ok (.invokestatic 25, 3) := by decide +kernel
theorem dX2_liarBits_28 : decode cX2_liarBits 28 = .ok (.iload 4, 2) := by decide +kernel
theorem dX2_liarBits_30 : decode cX2_liarBits 30 = .ok (.invokestatic 25, 3) := by decide +kernel
theorem dX2_liarBits_33 : decode cX2_liarBits 33 = .ok (.if_icmp .ge 7, 3) := by decide +kernel
theorem dX2_liarBits_36 : decode cX2_liarBits 36 = .ok (.iconst 1, 1) := by decide +kernel
theorem dX2_liarBits_37 : decode cX2_liarBits 37 = .ok (.goto 4, 3) := by decide +kernel
theorem dX2_liarBits_40 : decode cX2_liarBits 40 = .ok (.iconst 0, 1) := by decide +kernel
theorem dX2_liarBits_41 : decode cX2_liarBits 41 = .ok (.istore 6, 2) := by decide +kernel
theorem dX2_liarBits_43 : decode cX2_liarBits 43 = .ok (.iload 6, 2) := by decide +kernel
theorem dX2_liarBits_45 : decode cX2_liarBits 45 = .ok (.ifCond .eq 44, 3) := by decide +kernel
theorem dX2_liarBits_48 : decode cX2_liarBits 48 = .ok (.iload 5, 2) := by decide +kernel
theorem dX2_liarBits_50 : decode cX2_liarBits 50 = .ok (.iload_n 3, 1) := by decide +kernel
theorem dX2_liarBits_51 : decode cX2_liarBits 51 = .ok (.iconst (-1), 1) := by decide +kernel
theorem dX2_liarBits_52 : decode cX2_liarBits 52 = .ok (.ixor, 1) := by decide +kernel
theorem dX2_liarBits_53 : decode cX2_liarBits 53 = .ok (.iand, 1) := by decide +kernel
theorem dX2_liarBits_54 : decode cX2_liarBits 54 = .ok (.ifCond .ne 35, 3) := by decide +kernel
theorem dX2_liarBits_57 : decode cX2_liarBits 57 = .ok (.iload_n 3, 1) := by decide +kernel
theorem dX2_liarBits_58 : decode cX2_liarBits 58 = .ok (.iload 5, 2) := by decide +kernel
theorem dX2_liarBits_60 : decode cX2_liarBits 60 = .ok (.iconst (-1), 1) := by decide +kernel
theorem dX2_liarBits_61 : decode cX2_liarBits 61 = .ok (.ixor, 1) := by decide +kernel
theorem dX2_liarBits_62 : decode cX2_liarBits 62 = .ok (.iand, 1) := by decide +kernel
theorem dX2_liarBits_63 : decode cX2_liarBits 63 = .ok (.invokestatic 25, 3) := by decide +kernel
theorem dX2_liarBits_66 : decode cX2_liarBits 66 = .ok (.iload_n 1, 1) := by decide +kernel
theorem dX2_liarBits_67 : decode cX2_liarBits 67 = .ok (.if_icmp .le 22, 3) := by decide +kernel
theorem dX2_liarBits_70 : decode cX2_liarBits 70 = .ok (.aload_n 2, 1) := by decide +kernel
theorem dX2_liarBits_71 : decode cX2_liarBits 71 = .ok (.aload_n 0, 1) := by decide +kernel
theorem dX2_liarBits_72 : decode cX2_liarBits 72 = .ok (.iload 5, 2) := by decide +kernel
theorem dX2_liarBits_74 : decode cX2_liarBits 74 = .ok (.invokevirtual 45, 3) := by decide +kernel
theorem dX2_liarBits_77 : decode cX2_liarBits 77 = .ok (.aload_n 2, 1) := by decide +kernel
theorem dX2_liarBits_78 : decode cX2_liarBits 78 = .ok (.iload_n 1, 1) := by decide +kernel
theorem dX2_liarBits_79 : decode cX2_liarBits 79 = .ok (.invokevirtual 49, 3) := by decide +kernel
theorem dX2_liarBits_82 : decode cX2_liarBits 82 = .ok (.ifCond .eq 7, 3) := by decide +kernel
theorem dX2_liarBits_85 : decode cX2_liarBits 85 = .ok (.iload 5, 2) := by decide +kernel
theorem dX2_liarBits_87 : decode cX2_liarBits 87 = .ok (.istore 4, 2) := by decide +kernel
theorem dX2_liarBits_89 : decode cX2_liarBits 89 = .ok (.iinc 5 1, 3) := by decide +kernel
theorem dX2_liarBits_92 : decode cX2_liarBits 92 = .ok (.goto (-81), 3) := by decide +kernel
theorem dX2_liarBits_95 : decode cX2_liarBits 95 = .ok (.iload 4, 2) := by decide +kernel
theorem dX2_liarBits_97 : decode cX2_liarBits 97 = .ok (.ireturn, 1) := by decide +kernel
theorem dX2_bits_0 : decode cX2_bits 0 = .ok (.iconst 0, 1) := by decide +kernel
theorem dX2_bits_1 : decode cX2_bits 1 = .ok (.istore_n 1, 1) := by decide +kernel
theorem dX2_bits_2 : decode cX2_bits 2 = .ok (.iconst 0, 1) := by decide +kernel
theorem dX2_bits_3 : decode cX2_bits 3 = .ok (.istore_n 2, 1) := by decide +kernel
theorem dX2_bits_4 : decode cX2_bits 4 = .ok (.iload_n 2, 1) := by decide +kernel
theorem dX2_bits_5 : decode cX2_bits 5 = .ok (.aload_n 0, 1) := by decide +kernel
theorem dX2_bits_6 : decode cX2_bits 6 = .ok (.getfield 9, 3) := by decide +kernel
theorem dX2_bits_9 : decode cX2_bits 9 = .ok (.arraylength, 1) := by decide +kernel
theorem dX2_bits_10 : decode cX2_bits 10 = .ok (.if_icmp .ge 25, 3) := by decide +kernel
theorem dX2_bits_13 : decode cX2_bits 13 = .ok (.aload_n 0, 1) := by decide +kernel
theorem dX2_bits_14 : decode cX2_bits 14 = .ok (.getfield 9, 3) := by decide +kernel
theorem dX2_bits_17 : decode cX2_bits 17 = .ok (.iload_n 2, 1) := by decide +kernel
theorem dX2_bits_18 : decode cX2_bits 18 = .ok (.iaload, 1) := by decide +kernel
theorem dX2_bits_19 : decode cX2_bits 19 = .ok (.iconst (-1), 1) := by decide +kernel
theorem dX2_bits_20 : decode cX2_bits 20 = .ok (.if_icmp .eq 9, 3) := by decide +kernel
theorem dX2_bits_23 : decode cX2_bits 23 = .ok (.iload_n 1, 1) := by decide +kernel
theorem dX2_bits_24 : decode cX2_bits 24 = .ok (.iconst 1, 1) := by decide +kernel
theorem dX2_bits_25 : decode cX2_bits 25 = .ok (.iload_n 2, 1) := by decide +kernel
theorem dX2_bits_26 : decode cX2_bits 26 = .ok (.ishl, 1) := by decide +kernel
theorem dX2_bits_27 : decode cX2_bits 27 = .ok (.ior, 1) := by decide +kernel
theorem dX2_bits_28 : decode cX2_bits 28 = .ok (.istore_n 1, 1) := by decide +kernel
theorem dX2_bits_29 : decode cX2_bits 29 = .ok (.iinc 2 1, 3) := by decide +kernel
theorem dX2_bits_32 : decode cX2_bits 32 = .ok (.goto (-28), 3) := by decide +kernel
theorem dX2_bits_35 : decode cX2_bits 35 = .ok (.iload_n 1, 1) := by decide +kernel
theorem dX2_bits_36 : decode cX2_bits 36 = .ok (.ireturn, 1) := by decide +kernel
theorem dX2_firstBits_0 : decode cX2_firstBits 0 = .ok (.iconst 0, 1) := by decide +kernel
theorem dX2_firstBits_1 : decode cX2_firstBits 1 = .ok (.istore_n 2, 1) := by decide +kernel
theorem dX2_firstBits_2 : decode cX2_firstBits 2 = .ok (.iconst 0, 1) := by decide +kernel
theorem dX2_firstBits_3 : decode cX2_firstBits 3 = .ok (.istore_n 3, 1) := by decide +kernel
theorem dX2_firstBits_4 : decode cX2_firstBits 4 = .ok (.iconst 0, 1) := by decide +kernel
theorem dX2_firstBits_5 : decode cX2_firstBits 5 = .ok (.istore 4, 2) := by decide +kernel
theorem dX2_firstBits_7 : decode cX2_firstBits 7 = .ok (.iload 4, 2) := by decide +kernel
theorem dX2_firstBits_9 : decode cX2_firstBits 9 = .ok (.aload_n 0, 1) := by decide +kernel
theorem dX2_firstBits_10 : decode cX2_firstBits 10 = .ok (.getfield 9, 3) := by decide +kernel
theorem dX2_firstBits_13 : decode cX2_firstBits 13 = .ok (.arraylength, 1) := by decide +kernel
theorem dX2_firstBits_14 : decode cX2_firstBits 14 = .ok (.if_icmp .ge 35, 3) := by decide +kernel
theorem dX2_firstBits_17 : decode cX2_firstBits 17 = .ok (.iload_n 3, 1) := by decide +kernel
theorem dX2_firstBits_18 : decode cX2_firstBits 18 = .ok (.iload_n 1, 1) := by decide +kernel
theorem dX2_firstBits_19 : decode cX2_firstBits 19 = .ok (.if_icmp .ge 30, 3) := by decide +kernel
theorem dX2_firstBits_22 : decode cX2_firstBits 22 = .ok (.aload_n 0, 1) := by decide +kernel
theorem dX2_firstBits_23 : decode cX2_firstBits 23 = .ok (.getfield 9, 3) := by decide +kernel
theorem dX2_firstBits_26 : decode cX2_firstBits 26 = .ok (.iload 4, 2) := by decide +kernel
theorem dX2_firstBits_28 : decode cX2_firstBits 28 = .ok (.iaload, 1) := by decide +kernel
theorem dX2_firstBits_29 : decode cX2_firstBits 29 = .ok (.iconst (-1), 1) := by decide +kernel
theorem dX2_firstBits_30 : decode cX2_firstBits 30 = .ok (.if_icmp .eq 13, 3) := by decide +kernel
theorem dX2_firstBits_33 : decode cX2_firstBits 33 = .ok (.iload_n 2, 1) := by decide +kernel
theorem dX2_firstBits_34 : decode cX2_firstBits 34 = .ok (.iconst 1, 1) := by decide +kernel
theorem dX2_firstBits_35 : decode cX2_firstBits 35 = .ok (.iload 4, 2) := by decide +kernel
theorem dX2_firstBits_37 : decode cX2_firstBits 37 = .ok (.ishl, 1) := by decide +kernel
theorem dX2_firstBits_38 : decode cX2_firstBits 38 = .ok (.ior, 1) := by decide +kernel
theorem dX2_firstBits_39 : decode cX2_firstBits 39 = .ok (.istore_n 2, 1) := by decide +kernel
theorem dX2_firstBits_40 : decode cX2_firstBits 40 = .ok (.iinc 3 1, 3) := by decide +kernel
theorem dX2_firstBits_43 : decode cX2_firstBits 43 = .ok (.iinc 4 1, 3) := by decide +kernel
theorem dX2_firstBits_46 : decode cX2_firstBits 46 = .ok (.goto (-39), 3) := by decide +kernel
theorem dX2_firstBits_49 : decode cX2_firstBits 49 = .ok (.iload_n 3, 1) := by decide +kernel
theorem dX2_firstBits_50 : decode cX2_firstBits 50 = .ok (.iload_n 1, 1) := by decide +kernel
theorem dX2_firstBits_51 : decode cX2_firstBits 51 = .ok (.if_icmp .ge 7, 3) := by decide +kernel
theorem dX2_firstBits_54 : decode cX2_firstBits 54 = .ok (.iconst (-1), 1) := by decide +kernel
theorem dX2_firstBits_55 : decode cX2_firstBits 55 = .ok (.goto 4, 3) := by decide +kernel
theorem dX2_firstBits_58 : decode cX2_firstBits 58 = .ok (.iload_n 2, 1) := by decide +kernel
theorem dX2_firstBits_59 : decode cX2_firstBits 59 = .ok (.ireturn, 1) := by decide +kernel
theorem dX2_valueAt_0 : decode cX2_valueAt 0 = .ok (.iconst 0, 1) := by decide +kernel
theorem dX2_valueAt_1 : decode cX2_valueAt 1 = .ok (.istore_n 3, 1) := by decide +kernel
theorem dX2_valueAt_2 : decode cX2_valueAt 2 = .ok (.iconst 0, 1) := by decide +kernel
theorem dX2_valueAt_3 : decode cX2_valueAt 3 = .ok (.istore 4, 2) := by decide +kernel
theorem dX2_valueAt_5 : decode cX2_valueAt 5 = .ok (.iload 4, 2) := by decide +kernel
theorem dX2_valueAt_7 : decode cX2_valueAt 7 = .ok (.aload_n 0, 1) := by decide +kernel
theorem dX2_valueAt_8 : decode cX2_valueAt 8 = .ok (.getfield 9, 3) := by decide +kernel
theorem dX2_valueAt_11 : decode cX2_valueAt 11 = .ok (.arraylength, 1) := by decide +kernel
theorem dX2_valueAt_12 : decode cX2_valueAt 12 = .ok (.if_icmp .ge 37, 3) := by decide +kernel
theorem dX2_valueAt_15 : decode cX2_valueAt 15 = .ok (.iload_n 1, 1) := by decide +kernel
theorem dX2_valueAt_16 : decode cX2_valueAt 16 = .ok (.iload 4, 2) := by decide +kernel
theorem dX2_valueAt_18 : decode cX2_valueAt 18 = .ok (.invokestatic 31, 3) := by decide +kernel
theorem dX2_valueAt_21 : decode cX2_valueAt 21 = .ok (.ifCond .eq 22, 3) := by decide +kernel
theorem dX2_valueAt_24 : decode cX2_valueAt 24 = .ok (.iload_n 3, 1) := by decide +kernel
theorem dX2_valueAt_25 : decode cX2_valueAt 25 = .ok (.aload_n 0, 1) := by decide +kernel
theorem dX2_valueAt_26 : decode cX2_valueAt 26 = .ok (.getfield 9, 3) := by decide +kernel
theorem dX2_valueAt_29 : decode cX2_valueAt 29 = .ok (.iload 4, 2) := by decide +kernel
theorem dX2_valueAt_31 : decode cX2_valueAt 31 = .ok (.iaload, 1) := by decide +kernel
theorem dX2_valueAt_32 : decode cX2_valueAt 32 = .ok (.aload_n 0, 1) := by decide +kernel
theorem dX2_valueAt_33 : decode cX2_valueAt 33 = .ok (.iload_n 1, 1) := by decide +kernel
theorem dX2_valueAt_34 : decode cX2_valueAt 34 = .ok (.iload 4, 2) := by decide +kernel
theorem dX2_valueAt_36 : decode cX2_valueAt 36 = .ok (.iload_n 2, 1) := by decide +kernel
theorem dX2_valueAt_37 : decode cX2_valueAt 37 = .ok (.invokevirtual 53, 3) := by decide +kernel
theorem dX2_valueAt_40 : decode cX2_valueAt 40 = .ok (.imul, 1) := by decide +kernel
theorem dX2_valueAt_41 : decode cX2_valueAt 41 = .ok (.iadd, 1) := by decide +kernel
theorem dX2_valueAt_42 : decode cX2_valueAt 42 = .ok (.istore_n 3, 1) := by decide +kernel
theorem dX2_valueAt_43 : decode cX2_valueAt 43 = .ok (.iinc 4 1, 3) := by decide +kernel
theorem dX2_valueAt_46 : decode cX2_valueAt 46 = .ok (.goto (-41), 3) := by decide +kernel
theorem dX2_valueAt_49 : decode cX2_valueAt 49 = .ok (.iload_n 3, 1) := by decide +kernel
theorem dX2_valueAt_50 : decode cX2_valueAt 50 = .ok (.invokestatic 57, 3) := by decide +kernel
theorem dX2_valueAt_53 : decode cX2_valueAt 53 = .ok (.ireturn, 1) := by decide +kernel
theorem dX2_weight_0 : decode cX2_weight 0 = .ok (.iconst 1, 1) := by decide +kernel
theorem dX2_weight_1 : decode cX2_weight 1 = .ok (.istore 4, 2) := by decide +kernel
theorem dX2_weight_3 : decode cX2_weight 3 = .ok (.iconst 0, 1) := by decide +kernel
theorem dX2_weight_4 : decode cX2_weight 4 = .ok (.istore 5, 2) := by decide +kernel
theorem dX2_weight_6 : decode cX2_weight 6 = .ok (.iload 5, 2) := by decide +kernel
theorem dX2_weight_8 : decode cX2_weight 8 = .ok (.aload_n 0, 1) := by decide +kernel
theorem dX2_weight_9 : decode cX2_weight 9 = .ok (.getfield 9, 3) := by decide +kernel
theorem dX2_weight_12 : decode cX2_weight 12 = .ok (.arraylength, 1) := by decide +kernel
theorem dX2_weight_13 : decode cX2_weight 13 = .ok (.if_icmp .ge 53, 3) := by decide +kernel
theorem dX2_weight_16 : decode cX2_weight 16 = .ok (.iload 5, 2) := by decide +kernel
theorem dX2_weight_18 : decode cX2_weight 18 = .ok (.iload_n 2, 1) := by decide +kernel
theorem dX2_weight_19 : decode cX2_weight 19 = .ok (.if_icmp .eq 41, 3) := by decide +kernel
theorem dX2_weight_22 : decode cX2_weight 22 = .ok (.iload_n 1, 1) := by decide +kernel
theorem dX2_weight_23 : decode cX2_weight 23 = .ok (.iload 5, 2) := by decide +kernel
theorem dX2_weight_25 : decode cX2_weight 25 = .ok (.invokestatic 31, 3) := by decide +kernel
theorem dX2_weight_28 : decode cX2_weight 28 = .ok (.ifCond .eq 32, 3) := by decide +kernel
theorem dX2_weight_31 : decode cX2_weight 31 = .ok (.iload 4, 2) := by decide +kernel
theorem dX2_weight_33 : decode cX2_weight 33 = .ok (.iload_n 3, 1) := by decide +kernel
theorem dX2_weight_34 : decode cX2_weight 34 = .ok (.iload 5, 2) := by decide +kernel
theorem dX2_weight_36 : decode cX2_weight 36 = .ok (.isub, 1) := by decide +kernel
theorem dX2_weight_37 : decode cX2_weight 37 = .ok (.iconst 1, 1) := by decide +kernel
theorem dX2_weight_38 : decode cX2_weight 38 = .ok (.isub, 1) := by decide +kernel
theorem dX2_weight_39 : decode cX2_weight 39 = .ok (.imul, 1) := by decide +kernel
theorem dX2_weight_40 : decode cX2_weight 40 = .ok (.invokestatic 57, 3) := by decide +kernel
theorem dX2_weight_43 : decode cX2_weight 43 = .ok (.istore 4, 2) := by decide +kernel
theorem dX2_weight_45 : decode cX2_weight 45 = .ok (.iload 4, 2) := by decide +kernel
theorem dX2_weight_47 : decode cX2_weight 47 = .ok (.iload_n 2, 1) := by decide +kernel
theorem dX2_weight_48 : decode cX2_weight 48 = .ok (.iload 5, 2) := by decide +kernel
theorem dX2_weight_50 : decode cX2_weight 50 = .ok (.isub, 1) := by decide +kernel
theorem dX2_weight_51 : decode cX2_weight 51 = .ok (.invokestatic 60, 3) := by decide +kernel
theorem dX2_weight_54 : decode cX2_weight 54 = .ok (.imul, 1) := by decide +kernel
theorem dX2_weight_55 : decode cX2_weight 55 = .ok (.invokestatic 57, 3) := by decide +kernel
theorem dX2_weight_58 : decode cX2_weight 58 = .ok (.istore 4, 2) := by decide +kernel
theorem dX2_weight_60 : decode cX2_weight 60 = .ok (.iinc 5 1, 3) := by decide +kernel
theorem dX2_weight_63 : decode cX2_weight 63 = .ok (.goto (-57), 3) := by decide +kernel
theorem dX2_weight_66 : decode cX2_weight 66 = .ok (.iload 4, 2) := by decide +kernel
theorem dX2_weight_68 : decode cX2_weight 68 = .ok (.ireturn, 1) := by decide +kernel
theorem dX2_inverse_0 : decode cX2_inverse 0 = .ok (.iload_n 0, 1) := by decide +kernel
theorem dX2_inverse_1 : decode cX2_inverse 1 = .ok (.ifCond .ge 8, 3) := by decide +kernel
theorem dX2_inverse_4 : decode cX2_inverse 4 = .ok (.iload_n 0, 1) := by decide +kernel
theorem dX2_inverse_5 : decode cX2_inverse 5 = .ok (.ineg, 1) := by decide +kernel
theorem dX2_inverse_6 : decode cX2_inverse 6 = .ok (.goto 4, 3) := by decide +kernel
theorem dX2_inverse_9 : decode cX2_inverse 9 = .ok (.iload_n 0, 1) := by decide +kernel
theorem dX2_inverse_10 : decode cX2_inverse 10 = .ok (.istore_n 1, 1) := by decide +kernel
theorem dX2_inverse_11 : decode cX2_inverse 11 = .ok (.iload_n 1, 1) := by decide +kernel
theorem dX2_inverse_12 : decode cX2_inverse 12 = .ok (.ifCond .lt 11, 3) := by decide +kernel
theorem dX2_inverse_15 : decode cX2_inverse 15 = .ok (.iload_n 1, 1) := by decide +kernel
theorem dX2_inverse_16 : decode cX2_inverse 16 = .ok (.getstatic 63, 3) := by decide +kernel
theorem dX2_inverse_19 : decode cX2_inverse 19 = .ok (.arraylength, 1) := by decide +kernel
theorem dX2_inverse_20 : decode cX2_inverse 20 = .ok (.if_icmp .lt 5, 3) := by decide +kernel
theorem dX2_inverse_23 : decode cX2_inverse 23 = .ok (.iconst 0, 1) := by decide +kernel
theorem dX2_inverse_24 : decode cX2_inverse 24 = .ok (.ireturn, 1) := by decide +kernel
theorem dX2_inverse_25 : decode cX2_inverse 25 = .ok (.iload_n 0, 1) := by decide +kernel
theorem dX2_inverse_26 : decode cX2_inverse 26 = .ok (.ifCond .ge 12, 3) := by decide +kernel
theorem dX2_inverse_29 : decode cX2_inverse 29 = .ok (.getstatic 63, 3) := by decide +kernel
theorem dX2_inverse_32 : decode cX2_inverse 32 = .ok (.iload_n 1, 1) := by decide +kernel
theorem dX2_inverse_33 : decode cX2_inverse 33 = .ok (.iaload, 1) := by decide +kernel
theorem dX2_inverse_34 : decode cX2_inverse 34 = .ok (.ineg, 1) := by decide +kernel
theorem dX2_inverse_35 : decode cX2_inverse 35 = .ok (.goto 8, 3) := by decide +kernel
theorem dX2_inverse_38 : decode cX2_inverse 38 = .ok (.getstatic 63, 3) := by decide +kernel
theorem dX2_inverse_41 : decode cX2_inverse 41 = .ok (.iload_n 1, 1) := by decide +kernel
theorem dX2_inverse_42 : decode cX2_inverse 42 = .ok (.iaload, 1) := by decide +kernel
theorem dX2_inverse_43 : decode cX2_inverse 43 = .ok (.ireturn, 1) := by decide +kernel
theorem dX3_init_0 : decode cX3_init 0 = .ok (.aload_n 0, 1) := by decide +kernel
theorem dX3_init_1 : decode cX3_init 1 = .ok (.invokespecial 1, 3) := by decide +kernel
theorem dX3_init_4 : decode cX3_init 4 = .ok (.aload_n 0, 1) := by decide +kernel
theorem dX3_init_5 : decode cX3_init 5 = .ok (.new 7, 3) := by decide +kernel
theorem dX3_init_8 : decode cX3_init 8 = .ok (.dup, 1) := by decide +kernel
theorem dX3_init_9 : decode cX3_init 9 = .ok (.invokespecial 9, 3) := by decide +kernel
theorem dX3_init_12 : decode cX3_init 12 = .ok (.putfield 10, 3) := by decide +kernel
theorem dX3_init_15 : decode cX3_init 15 = .ok (.aload_n 0, 1) := by decide +kernel
theorem dX3_init_16 : decode cX3_init 16 = .ok (.new 7, 3) := by decide +kernel
theorem dX3_init_19 : decode cX3_init 19 = .ok (.dup, 1) := by decide +kernel
theorem dX3_init_20 : decode cX3_init 20 = .ok (.invokespecial 9, 3) := by decide +kernel
theorem dX3_init_23 : decode cX3_init 23 = .ok (.putfield 16, 3) := by decide +kernel
theorem dX3_init_26 : decode cX3_init 26 = .ok (.aload_n 0, 1) := by decide +kernel
theorem dX3_init_27 : decode cX3_init 27 = .ok (.new 7, 3) := by decide +kernel
theorem dX3_init_30 : decode cX3_init 30 = .ok (.dup, 1) := by decide +kernel
theorem dX3_init_31 : decode cX3_init 31 = .ok (.invokespecial 9, 3) := by decide +kernel
theorem dX3_init_34 : decode cX3_init 34 = .ok (.putfield 19, 3) := by decide +kernel
theorem dX3_init_37 : decode cX3_init 37 = .ok (.aload_n 0, 1) := by decide +kernel
theorem dX3_init_38 : decode cX3_init 38 = .ok (.new 7, 3) := by decide +kernel
theorem dX3_init_41 : decode cX3_init 41 = .ok (.dup, 1) := by decide +kernel
theorem dX3_init_42 : decode cX3_init 42 = .ok (.invokespecial 9, 3) := by decide +kernel
theorem dX3_init_45 : decode cX3_init 45 = .ok (.putfield 22, 3) := by decide +kernel
theorem dX3_init_48 : decode cX3_init 48 = .ok (.aload_n 0, 1) := by decide +kernel
theorem dX3_init_49 : decode cX3_init 49 = .ok (.new 25, 3) := by decide +kernel
theorem dX3_init_52 : decode cX3_init 52 = .ok (.dup, 1) := by decide +kernel
theorem dX3_init_53 : decode cX3_init 53 = .ok (.invokespecial 27, 3) := by decide +kernel
theorem dX3_init_56 : decode cX3_init 56 = .ok (.putfield 28, 3) := by decide +kernel
theorem dX3_init_59 : decode cX3_init 59 = .ok (.aload_n 0, 1) := by decide +kernel
theorem dX3_init_60 : decode cX3_init 60 = .ok (.new 32, 3) := by decide +kernel
theorem dX3_init_63 : decode cX3_init 63 = .ok (.dup, 1) := by decide +kernel
theorem dX3_init_64 : decode cX3_init 64 = .ok (.invokespecial 34, 3) := by decide +kernel
theorem dX3_init_67 : decode cX3_init 67 = .ok (.putfield 35, 3) := by decide +kernel
theorem dX3_init_70 : decode cX3_init 70 = .ok (.aload_n 0, 1) := by decide +kernel
theorem dX3_init_71 : decode cX3_init 71 = .ok (.iconst 0, 1) := by decide +kernel
theorem dX3_init_72 : decode cX3_init 72 = .ok (.putfield 39, 3) := by decide +kernel
theorem dX3_init_75 : decode cX3_init 75 = .ok (.aload_n 0, 1) := by decide +kernel
theorem dX3_init_76 : decode cX3_init 76 = .ok (.iconst 0, 1) := by decide +kernel
theorem dX3_init_77 : decode cX3_init 77 = .ok (.putfield 43, 3) := by decide +kernel
theorem dX3_init_80 : decode cX3_init 80 = .ok (.aload_n 0, 1) := by decide +kernel
theorem dX3_init_81 : decode cX3_init 81 = .ok (.iconst 0, 1) := by decide +kernel
theorem dX3_init_82 : decode cX3_init 82 = .ok (.putfield 46, 3) := by decide +kernel
theorem dX3_init_85 : decode cX3_init 85 = .ok (.aload_n 0, 1) := by decide +kernel
theorem dX3_init_86 : decode cX3_init 86 = .ok (.iconst 0, 1) := by decide +kernel
theorem dX3_init_87 : decode cX3_init 87 = .ok (.putfield 50, 3) := by decide +kernel
theorem dX3_init_90 : decode cX3_init 90 = .ok (.aload_n 0, 1) := by decide +kernel
theorem dX3_init_91 : decode cX3_init 91 = .ok (.iconst 0, 1) := by decide +kernel
theorem dX3_init_92 : decode cX3_init 92 = .ok (.putfield 53, 3) := by decide +kernel
theorem dX3_init_95 : decode cX3_init 95 = .ok (.aload_n 0, 1) := by decide +kernel
theorem dX3_init_96 : decode cX3_init 96 = .ok (.lconst 0, 1) := by decide +kernel
theorem dX3_init_97 : decode cX3_init 97 = .ok (.putfield 56, 3) := by decide +kernel
theorem dX3_init_100 : decode cX3_init 100 = .ok (.aload_n 0, 1) := by decide +kernel
theorem dX3_init_101 : decode cX3_init 101 = .ok (.lconst 1, 1) := by decide +kernel
theorem dX3_init_102 : decode cX3_init 102 = .ok (.putfield 60, 3) := by decide +kernel
theorem dX3_init_105 : decode cX3_init 105 = .ok (.return_, 1) := by decide +kernel
theorem dX3_safe_0 : decode cX3_safe 0 = .ok (.iload_n 1, 1) := by decide +kernel
theorem dX3_safe_1 : decode cX3_safe 1 = .ok (.iconst 0, 1) := by decide +kernel
theorem dX3_safe_2 : decode cX3_safe 2 = .ok (.bipush 96, 2) := by decide +kernel
theorem dX3_safe_4 : decode cX3_safe 4 = .ok (.invokestatic 63, 3) := by decide +kernel
theorem dX3_safe_7 : decode cX3_safe 7 = .ok (.ifCond .eq 12, 3) := by decide +kernel
theorem dX3_safe_10 : decode cX3_safe 10 = .ok (.iload_n 2, 1) := by decide +kernel
theorem dX3_safe_11 : decode cX3_safe 11 = .ok (.iconst 1, 1) := by decide +kernel
theorem dX3_safe_12 : decode cX3_safe 12 = .ok (.iconst 4, 1) := by decide +kernel
theorem dX3_safe_13 : decode cX3_safe 13 = .ok (.invokestatic 63, 3) := by decide +kernel
theorem dX3_safe_16 : decode cX3_safe 16 = .ok (.ifCond .ne 8, 3) := by decide +kernel
theorem dX3_safe_19 : decode cX3_safe 19 = .ok (.aload_n 0, 1) := by decide +kernel
theorem dX3_safe_20 : decode cX3_safe 20 = .ok (.invokevirtual 67, 3) := by decide +kernel
theorem dX3_safe_23 : decode cX3_safe 23 = .ok (.ireturn, 1) := by decide +kernel
theorem dX3_safe_24 : decode cX3_safe 24 = .ok (.aload_n 0, 1) := by decide +kernel
theorem dX3_safe_25 : decode cX3_safe 25 = .ok (.getfield 10, 3) := by decide +kernel
theorem dX3_safe_28 : decode cX3_safe 28 = .ok (.getfield 71, 3) := by decide +kernel
theorem dX3_safe_31 : decode cX3_safe 31 = .ok (.istore_n 3, 1) := by decide +kernel
theorem dX3_safe_32 : decode cX3_safe 32 = .ok (.aload_n 0, 1) := by decide +kernel
theorem dX3_safe_33 : decode cX3_safe 33 = .ok (.getfield 10, 3) := by decide +kernel
theorem dX3_safe_36 : decode cX3_safe 36 = .ok (.iload_n 1, 1) := by decide +kernel
theorem dX3_safe_37 : decode cX3_safe 37 = .ok (.iload_n 2, 1) := by decide +kernel
theorem dX3_safe_38 : decode cX3_safe 38 = .ok (.invokevirtual 74, 3) := by decide +kernel
theorem dX3_safe_41 : decode cX3_safe 41 = .ok (.iload_n 3, 1) := by decide +kernel
theorem dX3_safe_42 : decode cX3_safe 42 = .ok (.ireturn, 1) := by decide +kernel
theorem dX3_holder_0 : decode cX3_holder 0 = .ok (.iload_n 1, 1) := by decide +kernel
theorem dX3_holder_1 : decode cX3_holder 1 = .ok (.iconst 0, 1) := by decide +kernel
theorem dX3_holder_2 : decode cX3_holder 2 = .ok (.iconst 5, 1) := by decide +kernel
theorem dX3_holder_3 : decode cX3_holder 3 = .ok (.invokestatic 63, 3) := by decide +kernel
theorem dX3_holder_6 : decode cX3_holder 6 = .ok (.ifCond .eq 13, 3) := by decide +kernel
theorem dX3_holder_9 : decode cX3_holder 9 = .ok (.iload_n 2, 1) := by decide +kernel
theorem dX3_holder_10 : decode cX3_holder 10 = .ok (.iconst 0, 1) := by decide +kernel
theorem dX3_holder_11 : decode cX3_holder 11 = .ok (.bipush 96, 2) := by decide +kernel
theorem dX3_holder_13 : decode cX3_holder 13 = .ok (.invokestatic 63, 3) := by decide +kernel
theorem dX3_holder_16 : decode cX3_holder 16 = .ok (.ifCond .ne 8, 3) := by decide +kernel
theorem dX3_holder_19 : decode cX3_holder 19 = .ok (.aload_n 0, 1) := by decide +kernel
theorem dX3_holder_20 : decode cX3_holder 20 = .ok (.invokevirtual 67, 3) := by decide +kernel
theorem dX3_holder_23 : decode cX3_holder 23 = .ok (.ireturn, 1) := by decide +kernel
theorem dX3_holder_24 : decode cX3_holder 24 = .ok (.aload_n 0, 1) := by decide +kernel
theorem dX3_holder_25 : decode cX3_holder 25 = .ok (.getfield 10, 3) := by decide +kernel
theorem dX3_holder_28 : decode cX3_holder 28 = .ok (.invokevirtual 78, 3) := by decide +kernel
theorem dX3_holder_31 : decode cX3_holder 31 = .ok (.ifCond .eq 8, 3) := by decide +kernel
theorem dX3_holder_34 : decode cX3_holder 34 = .ok (.aload_n 0, 1) := by decide +kernel
theorem dX3_holder_35 : decode cX3_holder 35 = .ok (.invokevirtual 82, 3) := by decide +kernel
theorem dX3_holder_38 : decode cX3_holder 38 = .ok (.ireturn, 1) := by decide +kernel
theorem dX3_holder_39 : decode cX3_holder 39 = .ok (.aload_n 0, 1) := by decide +kernel
