theorem dX2_init_0 : decode cX2_init 0 = .ok (.aload_n 0, 1) := by decide +kernel
theorem dX2_init_1 : decode cX2_init 1 = .ok (.invokespecial 3, 3) := by decide +kernel
theorem dX2_init_4 : decode cX2_init 4 = .ok (.aload_n 0, 1) := by decide +kernel
theorem dX2_init_5 : decode cX2_init 5 = .ok (.bipush 14, 2) := by decide +kernel
theorem dX2_init_7 : decode cX2_init 7 = .ok (.newarray .int, 2) := by decide +kernel
theorem dX2_init_9 : decode cX2_init 9 = .ok (.putfield 9, 3) := by decide +kernel
theorem dX2_init_12 : decode cX2_init 12 = .ok (.aload_n 0, 1) := by decide +kernel
theorem dX2_init_13 : decode cX2_init 13 = .ok (.bipush 14, 2) := by decide +kernel
theorem dX2_init_15 : decode cX2_init 15 = .ok (.newarray .int, 2) := by decide +kernel
theorem dX2_init_17 : decode cX2_init 17 = .ok (.putfield 15, 3) := by decide +kernel
theorem dX2_init_20 : decode cX2_init 20 = .ok (.aload_n 0, 1) := by decide +kernel
theorem dX2_init_21 : decode cX2_init 21 = .ok (.bipush 14, 2) := by decide +kernel
theorem dX2_init_23 : decode cX2_init 23 = .ok (.newarray .int, 2) := by decide +kernel
theorem dX2_init_25 : decode cX2_init 25 = .ok (.putfield 18, 3) := by decide +kernel
theorem dX2_init_28 : decode cX2_init 28 = .ok (.aload_n 0, 1) := by decide +kernel
theorem dX2_init_29 : decode cX2_init 29 = .ok (.bipush 14, 2) := by decide +kernel
theorem dX2_init_31 : decode cX2_init 31 = .ok (.newarray .int, 2) := by decide +kernel
theorem dX2_init_33 : decode cX2_init 33 = .ok (.putfield 21, 3) := by decide +kernel
theorem dX2_init_36 : decode cX2_init 36 = .ok (.aload_n 0, 1) := by decide +kernel
theorem dX2_init_37 : decode cX2_init 37 = .ok (.iconst 0, 1) := by decide +kernel
theorem dX2_init_38 : decode cX2_init 38 = .ok (.putfield 24, 3) := by decide +kernel
theorem dX2_init_41 : decode cX2_init 41 = .ok (.aload_n 0, 1) := by decide +kernel
theorem dX2_init_42 : decode cX2_init 42 = .ok (.iconst 0, 1) := by decide +kernel
theorem dX2_init_43 : decode cX2_init 43 = .ok (.putfield 28, 3) := by decide +kernel
theorem dX2_init_46 : decode cX2_init 46 = .ok (.aload_n 0, 1) := by decide +kernel
theorem dX2_init_47 : decode cX2_init 47 = .ok (.iconst 0, 1) := by decide +kernel
theorem dX2_init_48 : decode cX2_init 48 = .ok (.putfield 31, 3) := by decide +kernel
theorem dX2_init_51 : decode cX2_init 51 = .ok (.aload_n 0, 1) := by decide +kernel
theorem dX2_init_52 : decode cX2_init 52 = .ok (.iconst 0, 1) := by decide +kernel
theorem dX2_init_53 : decode cX2_init 53 = .ok (.putfield 34, 3) := by decide +kernel
theorem dX2_init_56 : decode cX2_init 56 = .ok (.aload_n 0, 1) := by decide +kernel
theorem dX2_init_57 : decode cX2_init 57 = .ok (.iconst 0, 1) := by decide +kernel
theorem dX2_init_58 : decode cX2_init 58 = .ok (.putfield 37, 3) := by decide +kernel
theorem dX2_init_61 : decode cX2_init 61 = .ok (.return_, 1) := by decide +kernel
theorem dX2_reset_0 : decode cX2_reset 0 = .ok (.aload_n 0, 1) := by decide +kernel
theorem dX2_reset_1 : decode cX2_reset 1 = .ok (.iconst 0, 1) := by decide +kernel
theorem dX2_reset_2 : decode cX2_reset 2 = .ok (.putfield 24, 3) := by decide +kernel
theorem dX2_reset_5 : decode cX2_reset 5 = .ok (.aload_n 0, 1) := by decide +kernel
theorem dX2_reset_6 : decode cX2_reset 6 = .ok (.iload_n 1, 1) := by decide +kernel
theorem dX2_reset_7 : decode cX2_reset 7 = .ok (.putfield 28, 3) := by decide +kernel
theorem dX2_reset_10 : decode cX2_reset 10 = .ok (.aload_n 0, 1) := by decide +kernel
theorem dX2_reset_11 : decode cX2_reset 11 = .ok (.iconst 0, 1) := by decide +kernel
theorem dX2_reset_12 : decode cX2_reset 12 = .ok (.putfield 31, 3) := by decide +kernel
theorem dX2_reset_15 : decode cX2_reset 15 = .ok (.aload_n 0, 1) := by decide +kernel
theorem dX2_reset_16 : decode cX2_reset 16 = .ok (.iconst 0, 1) := by decide +kernel
theorem dX2_reset_17 : decode cX2_reset 17 = .ok (.putfield 34, 3) := by decide +kernel
theorem dX2_reset_20 : decode cX2_reset 20 = .ok (.aload_n 0, 1) := by decide +kernel
theorem dX2_reset_21 : decode cX2_reset 21 = .ok (.iconst 0, 1) := by decide +kernel
theorem dX2_reset_22 : decode cX2_reset 22 = .ok (.putfield 37, 3) := by decide +kernel
theorem dX2_reset_25 : decode cX2_reset 25 = .ok (.return_, 1) := by decide +kernel
theorem dX2_copyFrom_0 : decode cX2_copyFrom 0 = .ok (.aload_n 1, 1) := by decide +kernel
theorem dX2_copyFrom_1 : decode cX2_copyFrom 1 = .ok (.getfield 9, 3) := by decide +kernel
theorem dX2_copyFrom_4 : decode cX2_copyFrom 4 = .ok (.iconst 0, 1) := by decide +kernel
theorem dX2_copyFrom_5 : decode cX2_copyFrom 5 = .ok (.aload_n 0, 1) := by decide +kernel
theorem dX2_copyFrom_6 : decode cX2_copyFrom 6 = .ok (.getfield 9, 3) := by decide +kernel
theorem dX2_copyFrom_9 : decode cX2_copyFrom 9 = .ok (.iconst 0, 1) := by decide +kernel
theorem dX2_copyFrom_10 : decode cX2_copyFrom 10 = .ok (.bipush 14, 2) := by decide +kernel
theorem dX2_copyFrom_12 : decode cX2_copyFrom 12 = .ok (.invokestatic 40, 3) := by decide +kernel
theorem dX2_copyFrom_15 : decode cX2_copyFrom 15 = .ok (.aload_n 1, 1) := by decide +kernel
theorem dX2_copyFrom_16 : decode cX2_copyFrom 16 = .ok (.getfield 15, 3) := by decide +kernel
theorem dX2_copyFrom_19 : decode cX2_copyFrom 19 = .ok (.iconst 0, 1) := by decide +kernel
theorem dX2_copyFrom_20 : decode cX2_copyFrom 20 = .ok (.aload_n 0, 1) := by decide +kernel
theorem dX2_copyFrom_21 : decode cX2_copyFrom 21 = .ok (.getfield 15, 3) := by decide +kernel
theorem dX2_copyFrom_24 : decode cX2_copyFrom 24 = .ok (.iconst 0, 1) := by decide +kernel
theorem dX2_copyFrom_25 : decode cX2_copyFrom 25 = .ok (.bipush 14, 2) := by decide +kernel
theorem dX2_copyFrom_27 : decode cX2_copyFrom 27 = .ok (.invokestatic 40, 3) := by decide +kernel
theorem dX2_copyFrom_30 : decode cX2_copyFrom 30 = .ok (.aload_n 1, 1) := by decide +kernel
theorem dX2_copyFrom_31 : decode cX2_copyFrom 31 = .ok (.getfield 18, 3) := by decide +kernel
theorem dX2_copyFrom_34 : decode cX2_copyFrom 34 = .ok (.iconst 0, 1) := by decide +kernel
theorem dX2_copyFrom_35 : decode cX2_copyFrom 35 = .ok (.aload_n 0, 1) := by decide +kernel
theorem dX2_copyFrom_36 : decode cX2_copyFrom 36 = .ok (.getfield 18, 3) := by decide +kernel
theorem dX2_copyFrom_39 : decode cX2_copyFrom 39 = .ok (.iconst 0, 1) := by decide +kernel
theorem dX2_copyFrom_40 : decode cX2_copyFrom 40 = .ok (.bipush 14, 2) := by decide +kernel
theorem dX2_copyFrom_42 : decode cX2_copyFrom 42 = .ok (.invokestatic 40, 3) := by decide +kernel
theorem dX2_copyFrom_45 : decode cX2_copyFrom 45 = .ok (.aload_n 1, 1) := by decide +kernel
theorem dX2_copyFrom_46 : decode cX2_copyFrom 46 = .ok (.getfield 21, 3) := by decide +kernel
theorem dX2_copyFrom_49 : decode cX2_copyFrom 49 = .ok (.iconst 0, 1) := by decide +kernel
theorem dX2_copyFrom_50 : decode cX2_copyFrom 50 = .ok (.aload_n 0, 1) := by decide +kernel
theorem dX2_copyFrom_51 : decode cX2_copyFrom 51 = .ok (.getfield 21, 3) := by decide +kernel
theorem dX2_copyFrom_54 : decode cX2_copyFrom 54 = .ok (.iconst 0, 1) := by decide +kernel
theorem dX2_copyFrom_55 : decode cX2_copyFrom 55 = .ok (.bipush 14, 2) := by decide +kernel
theorem dX2_copyFrom_57 : decode cX2_copyFrom 57 = .ok (.invokestatic 40, 3) := by decide +kernel
theorem dX2_copyFrom_60 : decode cX2_copyFrom 60 = .ok (.aload_n 0, 1) := by decide +kernel
theorem dX2_copyFrom_61 : decode cX2_copyFrom 61 = .ok (.aload_n 1, 1) := by decide +kernel
theorem dX2_copyFrom_62 : decode cX2_copyFrom 62 = .ok (.getfield 24, 3) := by decide +kernel
theorem dX2_copyFrom_65 : decode cX2_copyFrom 65 = .ok (.putfield 24, 3) := by decide +kernel
theorem dX2_copyFrom_68 : decode cX2_copyFrom 68 = .ok (.aload_n 0, 1) := by decide +kernel
theorem dX2_copyFrom_69 : decode cX2_copyFrom 69 = .ok (.aload_n 1, 1) := by decide +kernel
theorem dX2_copyFrom_70 : decode cX2_copyFrom 70 = .ok (.getfield 28, 3) := by decide +kernel
theorem dX2_copyFrom_73 : decode cX2_copyFrom 73 = .ok (.putfield 28, 3) := by decide +kernel
theorem dX2_copyFrom_76 : decode cX2_copyFrom 76 = .ok (.aload_n 0, 1) := by decide +kernel
theorem dX2_copyFrom_77 : decode cX2_copyFrom 77 = .ok (.aload_n 1, 1) := by decide +kernel
theorem dX2_copyFrom_78 : decode cX2_copyFrom 78 = .ok (.getfield 31, 3) := by decide +kernel
theorem dX2_copyFrom_81 : decode cX2_copyFrom 81 = .ok (.putfield 31, 3) := by decide +kernel
theorem dX2_copyFrom_84 : decode cX2_copyFrom 84 = .ok (.aload_n 0, 1) := by decide +kernel
theorem dX2_copyFrom_85 : decode cX2_copyFrom 85 = .ok (.aload_n 1, 1) := by decide +kernel
theorem dX2_copyFrom_86 : decode cX2_copyFrom 86 = .ok (.getfield 34, 3) := by decide +kernel
theorem dX2_copyFrom_89 : decode cX2_copyFrom 89 = .ok (.putfield 34, 3) := by decide +kernel
theorem dX2_copyFrom_92 : decode cX2_copyFrom 92 = .ok (.aload_n 0, 1) := by decide +kernel
theorem dX2_copyFrom_93 : decode cX2_copyFrom 93 = .ok (.aload_n 1, 1) := by decide +kernel
theorem dX2_copyFrom_94 : decode cX2_copyFrom 94 = .ok (.getfield 37, 3) := by decide +kernel
theorem dX2_copyFrom_97 : decode cX2_copyFrom 97 = .ok (.putfield 37, 3) := by decide +kernel
theorem dX2_copyFrom_100 : decode cX2_copyFrom 100 = .ok (.return_, 1) := by decide +kernel
theorem dX2_add_0 : decode cX2_add 0 = .ok (.aload_n 0, 1) := by decide +kernel
theorem dX2_add_1 : decode cX2_add 1 = .ok (.getfield 24, 3) := by decide +kernel
theorem dX2_add_4 : decode cX2_add 4 = .ok (.bipush 14, 2) := by decide +kernel
theorem dX2_add_6 : decode cX2_add 6 = .ok (.if_icmp .ge 53, 3) := by decide +kernel
theorem dX2_add_9 : decode cX2_add 9 = .ok (.aload_n 0, 1) := by decide +kernel
theorem dX2_add_10 : decode cX2_add 10 = .ok (.getfield 9, 3) := by decide +kernel
theorem dX2_add_13 : decode cX2_add 13 = .ok (.aload_n 0, 1) := by decide +kernel
theorem dX2_add_14 : decode cX2_add 14 = .ok (.getfield 24, 3) := by decide +kernel
theorem dX2_add_17 : decode cX2_add 17 = .ok (.iload_n 1, 1) := by decide +kernel
theorem dX2_add_18 : decode cX2_add 18 = .ok (.iastore, 1) := by decide +kernel
theorem dX2_add_19 : decode cX2_add 19 = .ok (.aload_n 0, 1) := by decide +kernel
theorem dX2_add_20 : decode cX2_add 20 = .ok (.getfield 15, 3) := by decide +kernel
theorem dX2_add_23 : decode cX2_add 23 = .ok (.aload_n 0, 1) := by decide +kernel
theorem dX2_add_24 : decode cX2_add 24 = .ok (.getfield 24, 3) := by decide +kernel
theorem dX2_add_27 : decode cX2_add 27 = .ok (.iload_n 2, 1) := by decide +kernel
theorem dX2_add_28 : decode cX2_add 28 = .ok (.iastore, 1) := by decide +kernel
theorem dX2_add_29 : decode cX2_add 29 = .ok (.aload_n 0, 1) := by decide +kernel
theorem dX2_add_30 : decode cX2_add 30 = .ok (.getfield 18, 3) := by decide +kernel
theorem dX2_add_33 : decode cX2_add 33 = .ok (.aload_n 0, 1) := by decide +kernel
theorem dX2_add_34 : decode cX2_add 34 = .ok (.getfield 24, 3) := by decide +kernel
theorem dX2_add_37 : decode cX2_add 37 = .ok (.iconst 0, 1) := by decide +kernel
theorem dX2_add_38 : decode cX2_add 38 = .ok (.iastore, 1) := by decide +kernel
theorem dX2_add_39 : decode cX2_add 39 = .ok (.aload_n 0, 1) := by decide +kernel
theorem dX2_add_40 : decode cX2_add 40 = .ok (.getfield 21, 3) := by decide +kernel
theorem dX2_add_43 : decode cX2_add 43 = .ok (.aload_n 0, 1) := by decide +kernel
theorem dX2_add_44 : decode cX2_add 44 = .ok (.getfield 24, 3) := by decide +kernel
theorem dX2_add_47 : decode cX2_add 47 = .ok (.iconst 0, 1) := by decide +kernel
theorem dX2_add_48 : decode cX2_add 48 = .ok (.iastore, 1) := by decide +kernel
theorem dX2_add_49 : decode cX2_add 49 = .ok (.aload_n 0, 1) := by decide +kernel
theorem dX2_add_50 : decode cX2_add 50 = .ok (.dup, 1) := by decide +kernel
theorem dX2_add_51 : decode cX2_add 51 = .ok (.getfield 24, 3) := by decide +kernel
theorem dX2_add_54 : decode cX2_add 54 = .ok (.iconst 1, 1) := by decide +kernel
theorem dX2_add_55 : decode cX2_add 55 = .ok (.iadd, 1) := by decide +kernel
theorem dX2_add_56 : decode cX2_add 56 = .ok (.putfield 24, 3) := by decide +kernel
theorem dX2_add_59 : decode cX2_add 59 = .ok (.return_, 1) := by decide +kernel
theorem dX2_drop_0 : decode cX2_drop 0 = .ok (.iload_n 1, 1) := by decide +kernel
theorem dX2_drop_1 : decode cX2_drop 1 = .ok (.iconst 1, 1) := by decide +kernel
theorem dX2_drop_2 : decode cX2_drop 2 = .ok (.iadd, 1) := by decide +kernel
theorem dX2_drop_3 : decode cX2_drop 3 = .ok (.istore_n 2, 1) := by decide +kernel
theorem dX2_drop_4 : decode cX2_drop 4 = .ok (.iload_n 2, 1) := by decide +kernel
theorem dX2_drop_5 : decode cX2_drop 5 = .ok (.aload_n 0, 1) := by decide +kernel
theorem dX2_drop_6 : decode cX2_drop 6 = .ok (.getfield 24, 3) := by decide +kernel
theorem dX2_drop_9 : decode cX2_drop 9 = .ok (.if_icmp .ge 65, 3) := by decide +kernel
theorem dX2_drop_12 : decode cX2_drop 12 = .ok (.aload_n 0, 1) := by decide +kernel
theorem dX2_drop_13 : decode cX2_drop 13 = .ok (.getfield 9, 3) := by decide +kernel
theorem dX2_drop_16 : decode cX2_drop 16 = .ok (.iload_n 2, 1) := by decide +kernel
theorem dX2_drop_17 : decode cX2_drop 17 = .ok (.iconst 1, 1) := by decide +kernel
theorem dX2_drop_18 : decode cX2_drop 18 = .ok (.isub, 1) := by decide +kernel
theorem dX2_drop_19 : decode cX2_drop 19 = .ok (.aload_n 0, 1) := by decide +kernel
theorem dX2_drop_20 : decode cX2_drop 20 = .ok (.getfield 9, 3) := by decide +kernel
theorem dX2_drop_23 : decode cX2_drop 23 = .ok (.iload_n 2, 1) := by decide +kernel
theorem dX2_drop_24 : decode cX2_drop 24 = .ok (.iaload, 1) := by decide +kernel
theorem dX2_drop_25 : decode cX2_drop 25 = .ok (.iastore, 1) := by decide +kernel
theorem dX2_drop_26 : decode cX2_drop 26 = .ok (.aload_n 0, 1) := by decide +kernel
theorem dX2_drop_27 : decode cX2_drop 27 = .ok (.getfield 15, 3) := by decide +kernel
theorem dX2_drop_30 : decode cX2_drop 30 = .ok (.iload_n 2, 1) := by decide +kernel
theorem dX2_drop_31 : decode cX2_drop 31 = .ok (.iconst 1, 1) := by decide +kernel
theorem dX2_drop_32 : decode cX2_drop 32 = .ok (.isub, 1) := by decide +kernel
theorem dX2_drop_33 : decode cX2_drop 33 = .ok (.aload_n 0, 1) := by decide +kernel
theorem dX2_drop_34 : decode cX2_drop 34 = .ok (.getfield 15, 3) := by decide +kernel
theorem dX2_drop_37 : decode cX2_drop 37 = .ok (.iload_n 2, 1) := by decide +kernel
theorem dX2_drop_38 : decode cX2_drop 38 = .ok (.iaload, 1) := by decide +kernel
theorem dX2_drop_39 : decode cX2_drop 39 = .ok (.iastore, 1) := by decide +kernel
theorem dX2_drop_40 : decode cX2_drop 40 = .ok (.aload_n 0, 1) := by decide +kernel
theorem dX2_drop_41 : decode cX2_drop 41 = .ok (.getfield 18, 3) := by decide +kernel
theorem dX2_drop_44 : decode cX2_drop 44 = .ok (.iload_n 2, 1) := by decide +kernel
theorem dX2_drop_45 : decode cX2_drop 45 = .ok (.iconst 1, 1) := by decide +kernel
theorem dX2_drop_46 : decode cX2_drop 46 = .ok (.isub, 1) := by decide +kernel
theorem dX2_drop_47 : decode cX2_drop 47 = .ok (.aload_n 0, 1) := by decide +kernel
theorem dX2_drop_48 : decode cX2_drop 48 = .ok (.getfield 18, 3) := by decide +kernel
theorem dX2_drop_51 : decode cX2_drop 51 = .ok (.iload_n 2, 1) := by decide +kernel
theorem dX2_drop_52 : decode cX2_drop 52 = .ok (.iaload, 1) := by decide +kernel
theorem dX2_drop_53 : decode cX2_drop 53 = .ok (.iastore, 1) := by decide +kernel
theorem dX2_drop_54 : decode cX2_drop 54 = .ok (.aload_n 0, 1) := by decide +kernel
theorem dX2_drop_55 : decode cX2_drop 55 = .ok (.getfield 21, 3) := by decide +kernel
theorem dX2_drop_58 : decode cX2_drop 58 = .ok (.iload_n 2, 1) := by decide +kernel
theorem dX2_drop_59 : decode cX2_drop 59 = .ok (.iconst 1, 1) := by decide +kernel
theorem dX2_drop_60 : decode cX2_drop 60 = .ok (.isub, 1) := by decide +kernel
theorem dX2_drop_61 : decode cX2_drop 61 = .ok (.aload_n 0, 1) := by decide +kernel
theorem dX2_drop_62 : decode cX2_drop 62 = .ok (.getfield 21, 3) := by decide +kernel
theorem dX2_drop_65 : decode cX2_drop 65 = .ok (.iload_n 2, 1) := by decide +kernel
theorem dX2_drop_66 : decode cX2_drop 66 = .ok (.iaload, 1) := by decide +kernel
theorem dX2_drop_67 : decode cX2_drop 67 = .ok (.iastore, 1) := by decide +kernel
theorem dX2_drop_68 : decode cX2_drop 68 = .ok (.iinc 2 1, 3) := by decide +kernel
theorem dX2_drop_71 : decode cX2_drop 71 = .ok (.goto (-67), 3) := by decide +kernel
theorem dX2_drop_74 : decode cX2_drop 74 = .ok (.aload_n 0, 1) := by decide +kernel
theorem dX2_drop_75 : decode cX2_drop 75 = .ok (.dup, 1) := by decide +kernel
theorem dX2_drop_76 : decode cX2_drop 76 = .ok (.getfield 24, 3) := by decide +kernel
theorem dX2_drop_79 : decode cX2_drop 79 = .ok (.iconst 1, 1) := by decide +kernel
theorem dX2_drop_80 : decode cX2_drop 80 = .ok (.isub, 1) := by decide +kernel
theorem dX2_drop_81 : decode cX2_drop 81 = .ok (.putfield 24, 3) := by decide +kernel
theorem dX2_drop_84 : decode cX2_drop 84 = .ok (.return_, 1) := by decide +kernel
theorem dX2_weightOf_0 : decode cX2_weightOf 0 = .ok (.aload_n 0, 1) := by decide +kernel
theorem dX2_weightOf_1 : decode cX2_weightOf 1 = .ok (.getfield 15, 3) := by decide +kernel
theorem dX2_weightOf_4 : decode cX2_weightOf 4 = .ok (.iload_n 1, 1) := by decide +kernel
theorem dX2_weightOf_5 : decode cX2_weightOf 5 = .ok (.iaload, 1) := by decide +kernel
theorem dX2_weightOf_6 : decode cX2_weightOf 6 = .ok (.iconst 1, 1) := by decide +kernel
theorem dX2_weightOf_7 : decode cX2_weightOf 7 = .ok (.aload_n 0, 1) := by decide +kernel
theorem dX2_weightOf_8 : decode cX2_weightOf 8 = .ok (.getfield 18, 3) := by decide +kernel
theorem dX2_weightOf_11 : decode cX2_weightOf 11 = .ok (.iload_n 1, 1) := by decide +kernel
theorem dX2_weightOf_12 : decode cX2_weightOf 12 = .ok (.iaload, 1) := by decide +kernel
theorem dX2_weightOf_13 : decode cX2_weightOf 13 = .ok (.iadd, 1) := by decide +kernel
theorem dX2_weightOf_14 : decode cX2_weightOf 14 = .ok (.imul, 1) := by decide +kernel
theorem dX2_weightOf_15 : decode cX2_weightOf 15 = .ok (.ireturn, 1) := by decide +kernel
theorem dX2_setOf_0 : decode cX2_setOf 0 = .ok (.iconst 0, 1) := by decide +kernel
theorem dX2_setOf_1 : decode cX2_setOf 1 = .ok (.istore_n 2, 1) := by decide +kernel
theorem dX2_setOf_2 : decode cX2_setOf 2 = .ok (.iconst 0, 1) := by decide +kernel
theorem dX2_setOf_3 : decode cX2_setOf 3 = .ok (.istore_n 3, 1) := by decide +kernel
theorem dX2_setOf_4 : decode cX2_setOf 4 = .ok (.iload_n 3, 1) := by decide +kernel
theorem dX2_setOf_5 : decode cX2_setOf 5 = .ok (.aload_n 0, 1) := by decide +kernel
theorem dX2_setOf_6 : decode cX2_setOf 6 = .ok (.getfield 24, 3) := by decide +kernel
theorem dX2_setOf_9 : decode cX2_setOf 9 = .ok (.if_icmp .ge 25, 3) := by decide +kernel
theorem dX2_setOf_12 : decode cX2_setOf 12 = .ok (.aload_n 0, 1) := by decide +kernel
theorem dX2_setOf_13 : decode cX2_setOf 13 = .ok (.getfield 21, 3) := by decide +kernel
theorem dX2_setOf_16 : decode cX2_setOf 16 = .ok (.iload_n 3, 1) := by decide +kernel
theorem dX2_setOf_17 : decode cX2_setOf 17 = .ok (.iaload, 1) := by decide +kernel
theorem dX2_setOf_18 : decode cX2_setOf 18 = .ok (.iload_n 1, 1) := by decide +kernel
theorem dX2_setOf_19 : decode cX2_setOf 19 = .ok (.if_icmp .ne 9, 3) := by decide +kernel
theorem dX2_setOf_22 : decode cX2_setOf 22 = .ok (.iload_n 2, 1) := by decide +kernel
theorem dX2_setOf_23 : decode cX2_setOf 23 = .ok (.iconst 1, 1) := by decide +kernel
theorem dX2_setOf_24 : decode cX2_setOf 24 = .ok (.iload_n 3, 1) := by decide +kernel
theorem dX2_setOf_25 : decode cX2_setOf 25 = .ok (.ishl, 1) := by decide +kernel
theorem dX2_setOf_26 : decode cX2_setOf 26 = .ok (.ior, 1) := by decide +kernel
theorem dX2_setOf_27 : decode cX2_setOf 27 = .ok (.istore_n 2, 1) := by decide +kernel
theorem dX2_setOf_28 : decode cX2_setOf 28 = .ok (.iinc 3 1, 3) := by decide +kernel
theorem dX2_setOf_31 : decode cX2_setOf 31 = .ok (.goto (-27), 3) := by decide +kernel
theorem dX2_setOf_34 : decode cX2_setOf 34 = .ok (.iload_n 2, 1) := by decide +kernel
theorem dX2_setOf_35 : decode cX2_setOf 35 = .ok (.ireturn, 1) := by decide +kernel
theorem dX2_totalSize_0 : decode cX2_totalSize 0 = .ok (.iconst 0, 1) := by decide +kernel
theorem dX2_totalSize_1 : decode cX2_totalSize 1 = .ok (.istore_n 2, 1) := by decide +kernel
theorem dX2_totalSize_2 : decode cX2_totalSize 2 = .ok (.iconst 0, 1) := by decide +kernel
theorem dX2_totalSize_3 : decode cX2_totalSize 3 = .ok (.istore_n 3, 1) := by decide +kernel
theorem dX2_totalSize_4 : decode cX2_totalSize 4 = .ok (.iload_n 3, 1) := by decide +kernel
theorem dX2_totalSize_5 : decode cX2_totalSize 5 = .ok (.aload_n 0, 1) := by decide +kernel
theorem dX2_totalSize_6 : decode cX2_totalSize 6 = .ok (.getfield 24, 3) := by decide +kernel
theorem dX2_totalSize_9 : decode cX2_totalSize 9 = .ok (.if_icmp .ge 26, 3) := by decide +kernel
theorem dX2_totalSize_12 : decode cX2_totalSize 12 = .ok (.iload_n 1, 1) := by decide +kernel
theorem dX2_totalSize_13 : decode cX2_totalSize 13 = .ok (.iload_n 3, 1) := by decide +kernel
theorem dX2_totalSize_14 : decode cX2_totalSize 14 = .ok (.invokestatic 46, 3) := by decide +kernel
theorem dX2_totalSize_17 : decode cX2_totalSize 17 = .ok (.ifCond .eq 12, 3) := by decide +kernel
theorem dX2_totalSize_20 : decode cX2_totalSize 20 = .ok (.iload_n 2, 1) := by decide +kernel
theorem dX2_totalSize_21 : decode cX2_totalSize 21 = .ok (.aload_n 0, 1) := by decide +kernel
theorem dX2_totalSize_22 : decode cX2_totalSize 22 = .ok (.getfield 9, 3) := by decide +kernel
theorem dX2_totalSize_25 : decode cX2_totalSize 25 = .ok (.iload_n 3, 1) := by decide +kernel
theorem dX2_totalSize_26 : decode cX2_totalSize 26 = .ok (.iaload, 1) := by decide +kernel
theorem dX2_totalSize_27 : decode cX2_totalSize 27 = .ok (.iadd, 1) := by decide +kernel
theorem dX2_totalSize_28 : decode cX2_totalSize 28 = .ok (.istore_n 2, 1) := by decide +kernel
theorem dX2_totalSize_29 : decode cX2_totalSize 29 = .ok (.iinc 3 1, 3) := by decide +kernel
theorem dX2_totalSize_32 : decode cX2_totalSize 32 = .ok (.goto (-28), 3) := by decide +kernel
theorem dX2_totalSize_35 : decode cX2_totalSize 35 = .ok (.iload_n 2, 1) := by decide +kernel
theorem dX2_totalSize_36 : decode cX2_totalSize 36 = .ok (.ireturn, 1) := by decide +kernel
theorem dX2_totalWeight_0 : decode cX2_totalWeight 0 = .ok (.iconst 0, 1) := by decide +kernel
theorem dX2_totalWeight_1 : decode cX2_totalWeight 1 = .ok (.istore_n 2, 1) := by decide +kernel
theorem dX2_totalWeight_2 : decode cX2_totalWeight 2 = .ok (.iconst 0, 1) := by decide +kernel
theorem dX2_totalWeight_3 : decode cX2_totalWeight 3 = .ok (.istore_n 3, 1) := by decide +kernel
theorem dX2_totalWeight_4 : decode cX2_totalWeight 4 = .ok (.iload_n 3, 1) := by decide +kernel
theorem dX2_totalWeight_5 : decode cX2_totalWeight 5 = .ok (.aload_n 0, 1) := by decide +kernel
theorem dX2_totalWeight_6 : decode cX2_totalWeight 6 = .ok (.getfield 24, 3) := by decide +kernel
theorem dX2_totalWeight_9 : decode cX2_totalWeight 9 = .ok (.if_icmp .ge 25, 3) := by decide +kernel
theorem dX2_totalWeight_12 : decode cX2_totalWeight 12 = .ok (.iload_n 1, 1) := by decide +kernel
theorem dX2_totalWeight_13 : decode cX2_totalWeight 13 = .ok (.iload_n 3, 1) := by decide +kernel
theorem dX2_totalWeight_14 : decode cX2_totalWeight 14 = .ok (.invokestatic 46, 3) := by decide +kernel
theorem dX2_totalWeight_17 : decode cX2_totalWeight 17 = .ok (.ifCond .eq 11, 3) := by decide +kernel
theorem dX2_totalWeight_20 : decode cX2_totalWeight 20 = .ok (.iload_n 2, 1) := by decide +kernel
theorem dX2_totalWeight_21 : decode cX2_totalWeight 21 = .ok (.aload_n 0, 1) := by decide +kernel
theorem dX2_totalWeight_22 : decode cX2_totalWeight 22 = .ok (.iload_n 3, 1) := by decide +kernel
theorem dX2_totalWeight_23 : decode cX2_totalWeight 23 = .ok (.invokevirtual 50, 3) := by decide +kernel
theorem dX2_totalWeight_26 : decode cX2_totalWeight 26 = .ok (.iadd, 1) := by decide +kernel
theorem dX2_totalWeight_27 : decode cX2_totalWeight 27 = .ok (.istore_n 2, 1) := by decide +kernel
theorem dX2_totalWeight_28 : decode cX2_totalWeight 28 = .ok (.iinc 3 1, 3) := by decide +kernel
theorem dX2_totalWeight_31 : decode cX2_totalWeight 31 = .ok (.goto (-27), 3) := by decide +kernel
theorem dX2_totalWeight_34 : decode cX2_totalWeight 34 = .ok (.iload_n 2, 1) := by decide +kernel
theorem dX2_totalWeight_35 : decode cX2_totalWeight 35 = .ok (.ireturn, 1) := by decide +kernel
theorem dX2_room_0 : decode cX2_room 0 = .ok (.aload_n 0, 1) := by decide +kernel
theorem dX2_room_1 : decode cX2_room 1 = .ok (.getfield 28, 3) := by decide +kernel
theorem dX2_room_4 : decode cX2_room 4 = .ok (.aload_n 0, 1) := by decide +kernel
theorem dX2_room_5 : decode cX2_room 5 = .ok (.aload_n 0, 1) := by decide +kernel
theorem dX2_room_6 : decode cX2_room 6 = .ok (.iconst 1, 1) := by decide +kernel
theorem dX2_room_7 : decode cX2_room 7 = .ok (.invokevirtual 54, 3) := by decide +kernel
theorem dX2_room_10 : decode cX2_room 10 = .ok (.invokevirtual 57, 3) := by decide +kernel
theorem dX2_room_13 : decode cX2_room 13 = .ok (.isub, 1) := by decide +kernel
theorem dX2_room_14 : decode cX2_room 14 = .ok (.ireturn, 1) := by decide +kernel
theorem dX2_keep_0 : decode cX2_keep 0 = .ok (.iconst 0, 1) := by decide +kernel
theorem dX2_keep_1 : decode cX2_keep 1 = .ok (.istore_n 2, 1) := by decide +kernel
theorem dX2_keep_2 : decode cX2_keep 2 = .ok (.iconst 0, 1) := by decide +kernel
theorem dX2_keep_3 : decode cX2_keep 3 = .ok (.istore_n 3, 1) := by decide +kernel
theorem dX2_keep_4 : decode cX2_keep 4 = .ok (.iload_n 3, 1) := by decide +kernel
theorem dX2_keep_5 : decode cX2_keep 5 = .ok (.aload_n 0, 1) := by decide +kernel
theorem dX2_keep_6 : decode cX2_keep 6 = .ok (.getfield 24, 3) := by decide +kernel
theorem dX2_keep_9 : decode cX2_keep 9 = .ok (.if_icmp .ge 37, 3) := by decide +kernel
theorem dX2_keep_12 : decode cX2_keep 12 = .ok (.iload_n 1, 1) := by decide +kernel
theorem dX2_keep_13 : decode cX2_keep 13 = .ok (.iload_n 3, 1) := by decide +kernel
theorem dX2_keep_14 : decode cX2_keep 14 = .ok (.invokestatic 46, 3) := by decide +kernel
theorem dX2_keep_17 : decode cX2_keep 17 = .ok (.ifCond .eq 23, 3) := by decide +kernel
theorem dX2_keep_20 : decode cX2_keep 20 = .ok (.aload_n 0, 1) := by decide +kernel
theorem dX2_keep_21 : decode cX2_keep 21 = .ok (.getfield 21, 3) := by decide +kernel
theorem dX2_keep_24 : decode cX2_keep 24 = .ok (.iload_n 3, 1) := by decide +kernel
theorem dX2_keep_25 : decode cX2_keep 25 = .ok (.iaload, 1) := by decide +kernel
theorem dX2_keep_26 : decode cX2_keep 26 = .ok (.iconst 1, 1) := by decide +kernel
theorem dX2_keep_27 : decode cX2_keep 27 = .ok (.if_icmp .eq 13, 3) := by decide +kernel
theorem dX2_keep_30 : decode cX2_keep 30 = .ok (.aload_n 0, 1) := by decide +kernel
theorem dX2_keep_31 : decode cX2_keep 31 = .ok (.getfield 21, 3) := by decide +kernel
theorem dX2_keep_34 : decode cX2_keep 34 = .ok (.iload_n 3, 1) := by decide +kernel
theorem dX2_keep_35 : decode cX2_keep 35 = .ok (.iconst 1, 1) := by decide +kernel
theorem dX2_keep_36 : decode cX2_keep 36 = .ok (.iastore, 1) := by decide +kernel
theorem dX2_keep_37 : decode cX2_keep 37 = .ok (.iinc 2 1, 3) := by decide +kernel
theorem dX2_keep_40 : decode cX2_keep 40 = .ok (.iinc 3 1, 3) := by decide +kernel
theorem dX2_keep_43 : decode cX2_keep 43 = .ok (.goto (-39), 3) := by decide +kernel
theorem dX2_keep_46 : decode cX2_keep 46 = .ok (.iload_n 2, 1) := by decide +kernel
theorem dX2_keep_47 : decode cX2_keep 47 = .ok (.ireturn, 1) := by decide +kernel
theorem dX2_backUp_0 : decode cX2_backUp 0 = .ok (.aload_n 1, 1) := by decide +kernel
theorem dX2_backUp_1 : decode cX2_backUp 1 = .ok (.aload_n 0, 1) := by decide +kernel
theorem dX2_backUp_2 : decode cX2_backUp 2 = .ok (.aload_n 0, 1) := by decide +kernel
theorem dX2_backUp_3 : decode cX2_backUp 3 = .ok (.getfield 28, 3) := by decide +kernel
theorem dX2_backUp_6 : decode cX2_backUp 6 = .ok (.invokevirtual 60, 3) := by decide +kernel
theorem dX2_backUp_9 : decode cX2_backUp 9 = .ok (.aload_n 1, 1) := by decide +kernel
theorem dX2_backUp_10 : decode cX2_backUp 10 = .ok (.aload_n 0, 1) := by decide +kernel
theorem dX2_backUp_11 : decode cX2_backUp 11 = .ok (.getfield 28, 3) := by decide +kernel
theorem dX2_backUp_14 : decode cX2_backUp 14 = .ok (.invokevirtual 66, 3) := by decide +kernel
theorem dX2_backUp_17 : decode cX2_backUp 17 = .ok (.invokestatic 70, 3) := by decide +kernel
theorem dX2_backUp_20 : decode cX2_backUp 20 = .ok (.istore_n 2, 1) := by decide +kernel
theorem dX2_backUp_21 : decode cX2_backUp 21 = .ok (.aload_n 0, 1) := by decide +kernel
theorem dX2_backUp_22 : decode cX2_backUp 22 = .ok (.dup, 1) := by decide +kernel
theorem dX2_backUp_23 : decode cX2_backUp 23 = .ok (.getfield 31, 3) := by decide +kernel
theorem dX2_backUp_26 : decode cX2_backUp 26 = .ok (.iconst 1, 1) := by decide +kernel
theorem dX2_backUp_27 : decode cX2_backUp 27 = .ok (.iadd, 1) := by decide +kernel
theorem dX2_backUp_28 : decode cX2_backUp 28 = .ok (.putfield 31, 3) := by decide +kernel
theorem dX2_backUp_31 : decode cX2_backUp 31 = .ok (.aload_n 0, 1) := by decide +kernel
theorem dX2_backUp_32 : decode cX2_backUp 32 = .ok (.dup, 1) := by decide +kernel
theorem dX2_backUp_33 : decode cX2_backUp 33 = .ok (.getfield 34, 3) := by decide +kernel
theorem dX2_backUp_36 : decode cX2_backUp 36 = .ok (.aload_n 0, 1) := by decide +kernel
theorem dX2_backUp_37 : decode cX2_backUp 37 = .ok (.iload_n 2, 1) := by decide +kernel
theorem dX2_backUp_38 : decode cX2_backUp 38 = .ok (.invokevirtual 57, 3) := by decide +kernel
theorem dX2_backUp_41 : decode cX2_backUp 41 = .ok (.iadd, 1) := by decide +kernel
theorem dX2_backUp_42 : decode cX2_backUp 42 = .ok (.putfield 34, 3) := by decide +kernel
theorem dX2_backUp_45 : decode cX2_backUp 45 = .ok (.aload_n 0, 1) := by decide +kernel
theorem dX2_backUp_46 : decode cX2_backUp 46 = .ok (.dup, 1) := by decide +kernel
theorem dX2_backUp_47 : decode cX2_backUp 47 = .ok (.getfield 37, 3) := by decide +kernel
theorem dX2_backUp_50 : decode cX2_backUp 50 = .ok (.aload_n 0, 1) := by decide +kernel
theorem dX2_backUp_51 : decode cX2_backUp 51 = .ok (.iload_n 2, 1) := by decide +kernel
theorem dX2_backUp_52 : decode cX2_backUp 52 = .ok (.invokevirtual 74, 3) := by decide +kernel
theorem dX2_backUp_55 : decode cX2_backUp 55 = .ok (.iadd, 1) := by decide +kernel
theorem dX2_backUp_56 : decode cX2_backUp 56 = .ok (.putfield 37, 3) := by decide +kernel
theorem dX2_backUp_59 : decode cX2_backUp 59 = .ok (.iconst 0, 1) := by decide +kernel
theorem dX2_backUp_60 : decode cX2_backUp 60 = .ok (.istore_n 3, 1) := by decide +kernel
theorem dX2_backUp_61 : decode cX2_backUp 61 = .ok (.iload_n 3, 1) := by decide +kernel
theorem dX2_backUp_62 : decode cX2_backUp 62 = .ok (.aload_n 0, 1) := by decide +kernel
theorem dX2_backUp_63 : decode cX2_backUp 63 = .ok (.getfield 24, 3) := by decide +kernel
theorem dX2_backUp_66 : decode cX2_backUp 66 = .ok (.if_icmp .ge 48, 3) := by decide +kernel
theorem dX2_backUp_69 : decode cX2_backUp 69 = .ok (.iload_n 2, 1) := by decide +kernel
theorem dX2_backUp_70 : decode cX2_backUp 70 = .ok (.iload_n 3, 1) := by decide +kernel
theorem dX2_backUp_71 : decode cX2_backUp 71 = .ok (.invokestatic 46, 3) := by decide +kernel
theorem dX2_backUp_74 : decode cX2_backUp 74 = .ok (.ifCond .eq 13, 3) := by decide +kernel
theorem dX2_backUp_77 : decode cX2_backUp 77 = .ok (.aload_n 0, 1) := by decide +kernel
theorem dX2_backUp_78 : decode cX2_backUp 78 = .ok (.getfield 18, 3) := by decide +kernel
theorem dX2_backUp_81 : decode cX2_backUp 81 = .ok (.iload_n 3, 1) := by decide +kernel
theorem dX2_backUp_82 : decode cX2_backUp 82 = .ok (.iconst 0, 1) := by decide +kernel
theorem dX2_backUp_83 : decode cX2_backUp 83 = .ok (.iastore, 1) := by decide +kernel
theorem dX2_backUp_84 : decode cX2_backUp 84 = .ok (.goto 24, 3) := by decide +kernel
theorem dX2_backUp_87 : decode cX2_backUp 87 = .ok (.aload_n 0, 1) := by decide +kernel
theorem dX2_backUp_88 : decode cX2_backUp 88 = .ok (.getfield 18, 3) := by decide +kernel
theorem dX2_backUp_91 : decode cX2_backUp 91 = .ok (.iload_n 3, 1) := by decide +kernel
theorem dX2_backUp_92 : decode cX2_backUp 92 = .ok (.iaload, 1) := by decide +kernel
theorem dX2_backUp_93 : decode cX2_backUp 93 = .ok (.bipush 9, 2) := by decide +kernel
theorem dX2_backUp_95 : decode cX2_backUp 95 = .ok (.if_icmp .ge 13, 3) := by decide +kernel
theorem dX2_backUp_98 : decode cX2_backUp 98 = .ok (.aload_n 0, 1) := by decide +kernel
theorem dX2_backUp_99 : decode cX2_backUp 99 = .ok (.getfield 18, 3) := by decide +kernel
theorem dX2_backUp_102 : decode cX2_backUp 102 = .ok (.iload_n 3, 1) := by decide +kernel
theorem dX2_backUp_103 : decode cX2_backUp 103 = .ok (.dup2, 1) := by decide +kernel
theorem dX2_backUp_104 : decode cX2_backUp 104 = .ok (.iaload, 1) := by decide +kernel
theorem dX2_backUp_105 : decode cX2_backUp 105 = .ok (.iconst 1, 1) := by decide +kernel
theorem dX2_backUp_106 : decode cX2_backUp 106 = .ok (.iadd, 1) := by decide +kernel
theorem dX2_backUp_107 : decode cX2_backUp 107 = .ok (.iastore, 1) := by decide +kernel
theorem dX2_backUp_108 : decode cX2_backUp 108 = .ok (.iinc 3 1, 3) := by decide +kernel
theorem dX2_backUp_111 : decode cX2_backUp 111 = .ok (.goto (-50), 3) := by decide +kernel
theorem dX2_backUp_114 : decode cX2_backUp 114 = .ok (.iload_n 2, 1) := by decide +kernel
theorem dX2_backUp_115 : decode cX2_backUp 115 = .ok (.ireturn, 1) := by decide +kernel
theorem dX3_init_0 : decode cX3_init 0 = .ok (.aload_n 0, 1) := by decide +kernel
theorem dX3_init_1 : decode cX3_init 1 = .ok (.invokespecial 3, 3) := by decide +kernel
theorem dX3_init_4 : decode cX3_init 4 = .ok (.aload_n 0, 1) := by decide +kernel
theorem dX3_init_5 : decode cX3_init 5 = .ok (.bipush 14, 2) := by decide +kernel
theorem dX3_init_7 : decode cX3_init 7 = .ok (.newarray .int, 2) := by decide +kernel
theorem dX3_init_9 : decode cX3_init 9 = .ok (.putfield 9, 3) := by decide +kernel
theorem dX3_init_12 : decode cX3_init 12 = .ok (.aload_n 0, 1) := by decide +kernel
theorem dX3_init_13 : decode cX3_init 13 = .ok (.iconst 0, 1) := by decide +kernel
theorem dX3_init_14 : decode cX3_init 14 = .ok (.putfield 15, 3) := by decide +kernel
theorem dX3_init_17 : decode cX3_init 17 = .ok (.return_, 1) := by decide +kernel
theorem dX3_sort_0 : decode cX3_sort 0 = .ok (.aload_n 0, 1) := by decide +kernel
theorem dX3_sort_1 : decode cX3_sort 1 = .ok (.iconst 0, 1) := by decide +kernel
theorem dX3_sort_2 : decode cX3_sort 2 = .ok (.putfield 15, 3) := by decide +kernel
theorem dX3_sort_5 : decode cX3_sort 5 = .ok (.iconst 0, 1) := by decide +kernel
theorem dX3_sort_6 : decode cX3_sort 6 = .ok (.istore_n 2, 1) := by decide +kernel
theorem dX3_sort_7 : decode cX3_sort 7 = .ok (.iload_n 2, 1) := by decide +kernel
theorem dX3_sort_8 : decode cX3_sort 8 = .ok (.aload_n 1, 1) := by decide +kernel
theorem dX3_sort_9 : decode cX3_sort 9 = .ok (.getfield 19, 3) := by decide +kernel
theorem dX3_sort_12 : decode cX3_sort 12 = .ok (.if_icmp .ge 24, 3) := by decide +kernel
theorem dX3_sort_15 : decode cX3_sort 15 = .ok (.aload_n 1, 1) := by decide +kernel
theorem dX3_sort_16 : decode cX3_sort 16 = .ok (.getfield 24, 3) := by decide +kernel
theorem dX3_sort_19 : decode cX3_sort 19 = .ok (.iload_n 2, 1) := by decide +kernel
theorem dX3_sort_20 : decode cX3_sort 20 = .ok (.iaload, 1) := by decide +kernel
theorem dX3_sort_21 : decode cX3_sort 21 = .ok (.ifCond .ne 9, 3) := by decide +kernel
theorem dX3_sort_24 : decode cX3_sort 24 = .ok (.aload_n 0, 1) := by decide +kernel
theorem dX3_sort_25 : decode cX3_sort 25 = .ok (.aload_n 1, 1) := by decide +kernel
theorem dX3_sort_26 : decode cX3_sort 26 = .ok (.iload_n 2, 1) := by decide +kernel
theorem dX3_sort_27 : decode cX3_sort 27 = .ok (.invokevirtual 27, 3) := by decide +kernel
theorem dX3_sort_30 : decode cX3_sort 30 = .ok (.iinc 2 1, 3) := by decide +kernel
theorem dX3_sort_33 : decode cX3_sort 33 = .ok (.goto (-26), 3) := by decide +kernel
theorem dX3_sort_36 : decode cX3_sort 36 = .ok (.return_, 1) := by decide +kernel
theorem dX3_insert_0 : decode cX3_insert 0 = .ok (.aload_n 0, 1) := by decide +kernel
theorem dX3_insert_1 : decode cX3_insert 1 = .ok (.getfield 15, 3) := by decide +kernel
theorem dX3_insert_4 : decode cX3_insert 4 = .ok (.istore_n 3, 1) := by decide +kernel
theorem dX3_insert_5 : decode cX3_insert 5 = .ok (.iload_n 3, 1) := by decide +kernel
theorem dX3_insert_6 : decode cX3_insert 6 = .ok (.ifCond .le 39, 3) := by decide +kernel
theorem dX3_insert_9 : decode cX3_insert 9 = .ok (.aload_n 1, 1) := by decide +kernel
theorem dX3_insert_10 : decode cX3_insert 10 = .ok (.iload_n 2, 1) := by decide +kernel
theorem dX3_insert_11 : decode cX3_insert 11 = .ok (.aload_n 0, 1) := by decide +kernel
theorem dX3_insert_12 : decode cX3_insert 12 = .ok (.getfield 9, 3) := by decide +kernel
theorem dX3_insert_15 : decode cX3_insert 15 = .ok (.iload_n 3, 1) := by decide +kernel
theorem dX3_insert_16 : decode cX3_insert 16 = .ok (.iconst 1, 1) := by decide +kernel
theorem dX3_insert_17 : decode cX3_insert 17 = .ok (.isub, 1) := by decide +kernel
theorem dX3_insert_18 : decode cX3_insert 18 = .ok (.iaload, 1) := by decide +kernel
theorem dX3_insert_19 : decode cX3_insert 19 = .ok (.invokestatic 31, 3) := by decide +kernel
theorem dX3_insert_22 : decode cX3_insert 22 = .ok (.ifCond .eq 23, 3) := by decide +kernel
theorem dX3_insert_25 : decode cX3_insert 25 = .ok (.aload_n 0, 1) := by decide +kernel
theorem dX3_insert_26 : decode cX3_insert 26 = .ok (.getfield 9, 3) := by decide +kernel
theorem dX3_insert_29 : decode cX3_insert 29 = .ok (.iload_n 3, 1) := by decide +kernel
theorem dX3_insert_30 : decode cX3_insert 30 = .ok (.aload_n 0, 1) := by decide +kernel
theorem dX3_insert_31 : decode cX3_insert 31 = .ok (.getfield 9, 3) := by decide +kernel
theorem dX3_insert_34 : decode cX3_insert 34 = .ok (.iload_n 3, 1) := by decide +kernel
theorem dX3_insert_35 : decode cX3_insert 35 = .ok (.iconst 1, 1) := by decide +kernel
theorem dX3_insert_36 : decode cX3_insert 36 = .ok (.isub, 1) := by decide +kernel
theorem dX3_insert_37 : decode cX3_insert 37 = .ok (.iaload, 1) := by decide +kernel
theorem dX3_insert_38 : decode cX3_insert 38 = .ok (.iastore, 1) := by decide +kernel
theorem dX3_insert_39 : decode cX3_insert 39 = .ok (.iinc 3 (-1), 3) := by decide +kernel
theorem dX3_insert_42 : decode cX3_insert 42 = .ok (.goto (-37), 3) := by decide +kernel
theorem dX3_insert_45 : decode cX3_insert 45 = .ok (.aload_n 0, 1) := by decide +kernel
theorem dX3_insert_46 : decode cX3_insert 46 = .ok (.getfield 9, 3) := by decide +kernel
theorem dX3_insert_49 : decode cX3_insert 49 = .ok (.iload_n 3, 1) := by decide +kernel
theorem dX3_insert_50 : decode cX3_insert 50 = .ok (.iload_n 2, 1) := by decide +kernel
theorem dX3_insert_51 : decode cX3_insert 51 = .ok (.iastore, 1) := by decide +kernel
theorem dX3_insert_52 : decode cX3_insert 52 = .ok (.aload_n 0, 1) := by decide +kernel
theorem dX3_insert_53 : decode cX3_insert 53 = .ok (.dup, 1) := by decide +kernel
theorem dX3_insert_54 : decode cX3_insert 54 = .ok (.getfield 15, 3) := by decide +kernel
theorem dX3_insert_57 : decode cX3_insert 57 = .ok (.iconst 1, 1) := by decide +kernel
theorem dX3_insert_58 : decode cX3_insert 58 = .ok (.iadd, 1) := by decide +kernel
theorem dX3_insert_59 : decode cX3_insert 59 = .ok (.putfield 15, 3) := by decide +kernel
theorem dX3_insert_62 : decode cX3_insert 62 = .ok (.return_, 1) := by decide +kernel
theorem dX3_isBefore_0 : decode cX3_isBefore 0 = .ok (.aload_n 0, 1) := by decide +kernel
theorem dX3_isBefore_1 : decode cX3_isBefore 1 = .ok (.iload_n 1, 1) := by decide +kernel
theorem dX3_isBefore_2 : decode cX3_isBefore 2 = .ok (.invokevirtual 35, 3) := by decide +kernel
theorem dX3_isBefore_5 : decode cX3_isBefore 5 = .ok (.aload_n 0, 1) := by decide +kernel
theorem dX3_isBefore_6 : decode cX3_isBefore 6 = .ok (.getfield 39, 3) := by decide +kernel
theorem dX3_isBefore_9 : decode cX3_isBefore 9 = .ok (.iload_n 2, 1) := by decide +kernel
theorem dX3_isBefore_10 : decode cX3_isBefore 10 = .ok (.iaload, 1) := by decide +kernel
theorem dX3_isBefore_11 : decode cX3_isBefore 11 = .ok (.imul, 1) := by decide +kernel
theorem dX3_isBefore_12 : decode cX3_isBefore 12 = .ok (.istore_n 3, 1) := by decide +kernel
theorem dX3_isBefore_13 : decode cX3_isBefore 13 = .ok (.aload_n 0, 1) := by decide +kernel
theorem dX3_isBefore_14 : decode cX3_isBefore 14 = .ok (.iload_n 2, 1) := by decide +kernel
theorem dX3_isBefore_15 : decode cX3_isBefore 15 = .ok (.invokevirtual 35, 3) := by decide +kernel
theorem dX3_isBefore_18 : decode cX3_isBefore 18 = .ok (.aload_n 0, 1) := by decide +kernel
theorem dX3_isBefore_19 : decode cX3_isBefore 19 = .ok (.getfield 39, 3) := by decide +kernel
theorem dX3_isBefore_22 : decode cX3_isBefore 22 = .ok (.iload_n 1, 1) := by decide +kernel
theorem dX3_isBefore_23 : decode cX3_isBefore 23 = .ok (.iaload, 1) := by decide +kernel
theorem dX3_isBefore_24 : decode cX3_isBefore 24 = .ok (.imul, 1) := by decide +kernel
theorem dX3_isBefore_25 : decode cX3_isBefore 25 = .ok (.istore 4, 2) := by decide +kernel
theorem dX3_isBefore_27 : decode cX3_isBefore 27 = .ok (.iload_n 3, 1) := by decide +kernel
theorem dX3_isBefore_28 : decode cX3_isBefore 28 = .ok (.iload 4, 2) := by decide +kernel
theorem dX3_isBefore_30 : decode cX3_isBefore 30 = .ok (.if_icmp .gt 24, 3) := by decide +kernel
theorem dX3_isBefore_33 : decode cX3_isBefore 33 = .ok (.iload_n 3, 1) := by decide +kernel
theorem dX3_isBefore_34 : decode cX3_isBefore 34 = .ok (.iload 4, 2) := by decide +kernel
theorem dX3_isBefore_36 : decode cX3_isBefore 36 = .ok (.if_icmp .ne 22, 3) := by decide +kernel
theorem dX3_isBefore_39 : decode cX3_isBefore 39 = .ok (.aload_n 0, 1) := by decide +kernel
theorem dX3_isBefore_40 : decode cX3_isBefore 40 = .ok (.getfield 39, 3) := by decide +kernel
theorem dX3_isBefore_43 : decode cX3_isBefore 43 = .ok (.iload_n 1, 1) := by decide +kernel
theorem dX3_isBefore_44 : decode cX3_isBefore 44 = .ok (.iaload, 1) := by decide +kernel
theorem dX3_isBefore_45 : decode cX3_isBefore 45 = .ok (.aload_n 0, 1) := by decide +kernel
theorem dX3_isBefore_46 : decode cX3_isBefore 46 = .ok (.getfield 39, 3) := by decide +kernel
theorem dX3_isBefore_49 : decode cX3_isBefore 49 = .ok (.iload_n 2, 1) := by decide +kernel
theorem dX3_isBefore_50 : decode cX3_isBefore 50 = .ok (.iaload, 1) := by decide +kernel
theorem dX3_isBefore_51 : decode cX3_isBefore 51 = .ok (.if_icmp .ge 7, 3) := by decide +kernel
theorem dX3_isBefore_54 : decode cX3_isBefore 54 = .ok (.iconst 1, 1) := by decide +kernel
theorem dX3_isBefore_55 : decode cX3_isBefore 55 = .ok (.goto 4, 3) := by decide +kernel
theorem dX3_isBefore_58 : decode cX3_isBefore 58 = .ok (.iconst 0, 1) := by decide +kernel
theorem dX3_isBefore_59 : decode cX3_isBefore 59 = .ok (.ireturn, 1) := by decide +kernel
theorem dX3_takeFitting_0 : decode cX3_takeFitting 0 = .ok (.aload_n 1, 1) := by decide +kernel
theorem dX3_takeFitting_1 : decode cX3_takeFitting 1 = .ok (.iconst 1, 1) := by decide +kernel
theorem dX3_takeFitting_2 : decode cX3_takeFitting 2 = .ok (.invokevirtual 42, 3) := by decide +kernel
theorem dX3_takeFitting_5 : decode cX3_takeFitting 5 = .ok (.istore_n 2, 1) := by decide +kernel
theorem dX3_takeFitting_6 : decode cX3_takeFitting 6 = .ok (.aload_n 1, 1) := by decide +kernel
theorem dX3_takeFitting_7 : decode cX3_takeFitting 7 = .ok (.invokevirtual 45, 3) := by decide +kernel
theorem dX3_takeFitting_10 : decode cX3_takeFitting 10 = .ok (.istore_n 3, 1) := by decide +kernel
theorem dX3_takeFitting_11 : decode cX3_takeFitting 11 = .ok (.iconst 0, 1) := by decide +kernel
theorem dX3_takeFitting_12 : decode cX3_takeFitting 12 = .ok (.istore 4, 2) := by decide +kernel
theorem dX3_takeFitting_14 : decode cX3_takeFitting 14 = .ok (.iload 4, 2) := by decide +kernel
theorem dX3_takeFitting_16 : decode cX3_takeFitting 16 = .ok (.aload_n 0, 1) := by decide +kernel
theorem dX3_takeFitting_17 : decode cX3_takeFitting 17 = .ok (.getfield 15, 3) := by decide +kernel
theorem dX3_takeFitting_20 : decode cX3_takeFitting 20 = .ok (.if_icmp .ge 46, 3) := by decide +kernel
theorem dX3_takeFitting_23 : decode cX3_takeFitting 23 = .ok (.aload_n 0, 1) := by decide +kernel
theorem dX3_takeFitting_24 : decode cX3_takeFitting 24 = .ok (.getfield 9, 3) := by decide +kernel
theorem dX3_takeFitting_27 : decode cX3_takeFitting 27 = .ok (.iload 4, 2) := by decide +kernel
theorem dX3_takeFitting_29 : decode cX3_takeFitting 29 = .ok (.iaload, 1) := by decide +kernel
theorem dX3_takeFitting_30 : decode cX3_takeFitting 30 = .ok (.istore 5, 2) := by decide +kernel
theorem dX3_takeFitting_32 : decode cX3_takeFitting 32 = .ok (.aload_n 1, 1) := by decide +kernel
theorem dX3_takeFitting_33 : decode cX3_takeFitting 33 = .ok (.getfield 39, 3) := by decide +kernel
theorem dX3_takeFitting_36 : decode cX3_takeFitting 36 = .ok (.iload 5, 2) := by decide +kernel
theorem dX3_takeFitting_38 : decode cX3_takeFitting 38 = .ok (.iaload, 1) := by decide +kernel
theorem dX3_takeFitting_39 : decode cX3_takeFitting 39 = .ok (.iload_n 3, 1) := by decide +kernel
theorem dX3_takeFitting_40 : decode cX3_takeFitting 40 = .ok (.if_icmp .gt 20, 3) := by decide +kernel
theorem dX3_takeFitting_43 : decode cX3_takeFitting 43 = .ok (.iload_n 2, 1) := by decide +kernel
theorem dX3_takeFitting_44 : decode cX3_takeFitting 44 = .ok (.iconst 1, 1) := by decide +kernel
theorem dX3_takeFitting_45 : decode cX3_takeFitting 45 = .ok (.iload 5, 2) := by decide +kernel
theorem dX3_takeFitting_47 : decode cX3_takeFitting 47 = .ok (.ishl, 1) := by decide +kernel
theorem dX3_takeFitting_48 : decode cX3_takeFitting 48 = .ok (.ior, 1) := by decide +kernel
theorem dX3_takeFitting_49 : decode cX3_takeFitting 49 = .ok (.istore_n 2, 1) := by decide +kernel
theorem dX3_takeFitting_50 : decode cX3_takeFitting 50 = .ok (.iload_n 3, 1) := by decide +kernel
theorem dX3_takeFitting_51 : decode cX3_takeFitting 51 = .ok (.aload_n 1, 1) := by decide +kernel
theorem dX3_takeFitting_52 : decode cX3_takeFitting 52 = .ok (.getfield 39, 3) := by decide +kernel
theorem dX3_takeFitting_55 : decode cX3_takeFitting 55 = .ok (.iload 5, 2) := by decide +kernel
theorem dX3_takeFitting_57 : decode cX3_takeFitting 57 = .ok (.iaload, 1) := by decide +kernel
theorem dX3_takeFitting_58 : decode cX3_takeFitting 58 = .ok (.isub, 1) := by decide +kernel
theorem dX3_takeFitting_59 : decode cX3_takeFitting 59 = .ok (.istore_n 3, 1) := by decide +kernel
theorem dX3_takeFitting_60 : decode cX3_takeFitting 60 = .ok (.iinc 4 1, 3) := by decide +kernel
theorem dX3_takeFitting_63 : decode cX3_takeFitting 63 = .ok (.goto (-49), 3) := by decide +kernel
theorem dX3_takeFitting_66 : decode cX3_takeFitting 66 = .ok (.iload_n 2, 1) := by decide +kernel
theorem dX3_takeFitting_67 : decode cX3_takeFitting 67 = .ok (.ireturn, 1) := by decide +kernel
theorem dX3_bound_0 : decode cX3_bound 0 = .ok (.aload_n 1, 1) := by decide +kernel
theorem dX3_bound_1 : decode cX3_bound 1 = .ok (.aload_n 1, 1) := by decide +kernel
theorem dX3_bound_2 : decode cX3_bound 2 = .ok (.iconst 1, 1) := by decide +kernel
theorem dX3_bound_3 : decode cX3_bound 3 = .ok (.invokevirtual 42, 3) := by decide +kernel
theorem dX3_bound_6 : decode cX3_bound 6 = .ok (.invokevirtual 49, 3) := by decide +kernel
theorem dX3_bound_9 : decode cX3_bound 9 = .ok (.istore_n 2, 1) := by decide +kernel
theorem dX3_bound_10 : decode cX3_bound 10 = .ok (.aload_n 1, 1) := by decide +kernel
theorem dX3_bound_11 : decode cX3_bound 11 = .ok (.invokevirtual 45, 3) := by decide +kernel
theorem dX3_bound_14 : decode cX3_bound 14 = .ok (.istore_n 3, 1) := by decide +kernel
theorem dX3_bound_15 : decode cX3_bound 15 = .ok (.iconst 0, 1) := by decide +kernel
theorem dX3_bound_16 : decode cX3_bound 16 = .ok (.istore 4, 2) := by decide +kernel
theorem dX3_bound_18 : decode cX3_bound 18 = .ok (.iload 4, 2) := by decide +kernel
theorem dX3_bound_20 : decode cX3_bound 20 = .ok (.aload_n 0, 1) := by decide +kernel
theorem dX3_bound_21 : decode cX3_bound 21 = .ok (.getfield 15, 3) := by decide +kernel
theorem dX3_bound_24 : decode cX3_bound 24 = .ok (.if_icmp .ge 66, 3) := by decide +kernel
theorem dX3_bound_27 : decode cX3_bound 27 = .ok (.aload_n 0, 1) := by decide +kernel
theorem dX3_bound_28 : decode cX3_bound 28 = .ok (.getfield 9, 3) := by decide +kernel
theorem dX3_bound_31 : decode cX3_bound 31 = .ok (.iload 4, 2) := by decide +kernel
theorem dX3_bound_33 : decode cX3_bound 33 = .ok (.iaload, 1) := by decide +kernel
theorem dX3_bound_34 : decode cX3_bound 34 = .ok (.istore 5, 2) := by decide +kernel
theorem dX3_bound_36 : decode cX3_bound 36 = .ok (.aload_n 1, 1) := by decide +kernel
theorem dX3_bound_37 : decode cX3_bound 37 = .ok (.getfield 39, 3) := by decide +kernel
theorem dX3_bound_40 : decode cX3_bound 40 = .ok (.iload 5, 2) := by decide +kernel
theorem dX3_bound_42 : decode cX3_bound 42 = .ok (.iaload, 1) := by decide +kernel
theorem dX3_bound_43 : decode cX3_bound 43 = .ok (.istore 6, 2) := by decide +kernel
theorem dX3_bound_45 : decode cX3_bound 45 = .ok (.iload 6, 2) := by decide +kernel
theorem dX3_bound_47 : decode cX3_bound 47 = .ok (.iload_n 3, 1) := by decide +kernel
theorem dX3_bound_48 : decode cX3_bound 48 = .ok (.if_icmp .le 22, 3) := by decide +kernel
theorem dX3_bound_51 : decode cX3_bound 51 = .ok (.iload 6, 2) := by decide +kernel
theorem dX3_bound_53 : decode cX3_bound 53 = .ok (.ifCond .le 17, 3) := by decide +kernel
theorem dX3_bound_56 : decode cX3_bound 56 = .ok (.iload_n 2, 1) := by decide +kernel
theorem dX3_bound_57 : decode cX3_bound 57 = .ok (.aload_n 1, 1) := by decide +kernel
theorem dX3_bound_58 : decode cX3_bound 58 = .ok (.iload 5, 2) := by decide +kernel
theorem dX3_bound_60 : decode cX3_bound 60 = .ok (.invokevirtual 35, 3) := by decide +kernel
theorem dX3_bound_63 : decode cX3_bound 63 = .ok (.iload_n 3, 1) := by decide +kernel
theorem dX3_bound_64 : decode cX3_bound 64 = .ok (.imul, 1) := by decide +kernel
theorem dX3_bound_65 : decode cX3_bound 65 = .ok (.iload 6, 2) := by decide +kernel
theorem dX3_bound_67 : decode cX3_bound 67 = .ok (.idiv, 1) := by decide +kernel
theorem dX3_bound_68 : decode cX3_bound 68 = .ok (.iadd, 1) := by decide +kernel
theorem dX3_bound_69 : decode cX3_bound 69 = .ok (.ireturn, 1) := by decide +kernel
theorem dX3_bound_70 : decode cX3_bound 70 = .ok (.iload_n 2, 1) := by decide +kernel
theorem dX3_bound_71 : decode cX3_bound 71 = .ok (.aload_n 1, 1) := by decide +kernel
theorem dX3_bound_72 : decode cX3_bound 72 = .ok (.iload 5, 2) := by decide +kernel
theorem dX3_bound_74 : decode cX3_bound 74 = .ok (.invokevirtual 35, 3) := by decide +kernel
theorem dX3_bound_77 : decode cX3_bound 77 = .ok (.iadd, 1) := by decide +kernel
theorem dX3_bound_78 : decode cX3_bound 78 = .ok (.istore_n 2, 1) := by decide +kernel
theorem dX3_bound_79 : decode cX3_bound 79 = .ok (.iload_n 3, 1) := by decide +kernel
theorem dX3_bound_80 : decode cX3_bound 80 = .ok (.iload 6, 2) := by decide +kernel
theorem dX3_bound_82 : decode cX3_bound 82 = .ok (.isub, 1) := by decide +kernel
theorem dX3_bound_83 : decode cX3_bound 83 = .ok (.istore_n 3, 1) := by decide +kernel
theorem dX3_bound_84 : decode cX3_bound 84 = .ok (.iinc 4 1, 3) := by decide +kernel
theorem dX3_bound_87 : decode cX3_bound 87 = .ok (.goto (-69), 3) := by decide +kernel
theorem dX3_bound_90 : decode cX3_bound 90 = .ok (.iload_n 2, 1) := by decide +kernel
theorem dX3_bound_91 : decode cX3_bound 91 = .ok (.ireturn, 1) := by decide +kernel
theorem dX4_init_0 : decode cX4_init 0 = .ok (.aload_n 0, 1) := by decide +kernel
theorem dX4_init_1 : decode cX4_init 1 = .ok (.invokespecial 3, 3) := by decide +kernel
theorem dX4_init_4 : decode cX4_init 4 = .ok (.aload_n 0, 1) := by decide +kernel
theorem dX4_init_5 : decode cX4_init 5 = .ok (.bipush 10, 2) := by decide +kernel
theorem dX4_init_7 : decode cX4_init 7 = .ok (.anewarray 9, 3) := by decide +kernel
theorem dX4_init_10 : decode cX4_init 10 = .ok (.putfield 11, 3) := by decide +kernel
theorem dX4_init_13 : decode cX4_init 13 = .ok (.aload_n 0, 1) := by decide +kernel
theorem dX4_init_14 : decode cX4_init 14 = .ok (.iconst 0, 1) := by decide +kernel
theorem dX4_init_15 : decode cX4_init 15 = .ok (.putfield 17, 3) := by decide +kernel
theorem dX4_init_18 : decode cX4_init 18 = .ok (.iconst 0, 1) := by decide +kernel
theorem dX4_init_19 : decode cX4_init 19 = .ok (.istore_n 1, 1) := by decide +kernel
theorem dX4_init_20 : decode cX4_init 20 = .ok (.iload_n 1, 1) := by decide +kernel
theorem dX4_init_21 : decode cX4_init 21 = .ok (.bipush 10, 2) := by decide +kernel
theorem dX4_init_23 : decode cX4_init 23 = .ok (.if_icmp .ge 22, 3) := by decide +kernel
theorem dX4_init_26 : decode cX4_init 26 = .ok (.aload_n 0, 1) := by decide +kernel
theorem dX4_init_27 : decode cX4_init 27 = .ok (.getfield 11, 3) := by decide +kernel
theorem dX4_init_30 : decode cX4_init 30 = .ok (.iload_n 1, 1) := by decide +kernel
theorem dX4_init_31 : decode cX4_init 31 = .ok (.new 9, 3) := by decide +kernel
theorem dX4_init_34 : decode cX4_init 34 = .ok (.dup, 1) := by decide +kernel
theorem dX4_init_35 : decode cX4_init 35 = .ok (.invokespecial 21, 3) := by decide +kernel
theorem dX4_init_38 : decode cX4_init 38 = .ok (.aastore, 1) := by decide +kernel
theorem dX4_init_39 : decode cX4_init 39 = .ok (.iinc 1 1, 3) := by decide +kernel
theorem dX4_init_42 : decode cX4_init 42 = .ok (.goto (-22), 3) := by decide +kernel
theorem dX4_init_45 : decode cX4_init 45 = .ok (.return_, 1) := by decide +kernel
theorem dX4_remember_0 : decode cX4_remember 0 = .ok (.aload_n 0, 1) := by decide +kernel
theorem dX4_remember_1 : decode cX4_remember 1 = .ok (.getfield 17, 3) := by decide +kernel
theorem dX4_remember_4 : decode cX4_remember 4 = .ok (.bipush 10, 2) := by decide +kernel
theorem dX4_remember_6 : decode cX4_remember 6 = .ok (.if_icmp .lt 7, 3) := by decide +kernel
theorem dX4_remember_9 : decode cX4_remember 9 = .ok (.aload_n 0, 1) := by decide +kernel
theorem dX4_remember_10 : decode cX4_remember 10 = .ok (.invokevirtual 22, 3) := by decide +kernel
theorem dX4_remember_13 : decode cX4_remember 13 = .ok (.aload_n 0, 1) := by decide +kernel
theorem dX4_remember_14 : decode cX4_remember 14 = .ok (.getfield 11, 3) := by decide +kernel
theorem dX4_remember_17 : decode cX4_remember 17 = .ok (.aload_n 0, 1) := by decide +kernel
theorem dX4_remember_18 : decode cX4_remember 18 = .ok (.getfield 17, 3) := by decide +kernel
theorem dX4_remember_21 : decode cX4_remember 21 = .ok (.aaload, 1) := by decide +kernel
theorem dX4_remember_22 : decode cX4_remember 22 = .ok (.aload_n 1, 1) := by decide +kernel
theorem dX4_remember_23 : decode cX4_remember 23 = .ok (.invokevirtual 25, 3) := by decide +kernel
theorem dX4_remember_26 : decode cX4_remember 26 = .ok (.aload_n 0, 1) := by decide +kernel
theorem dX4_remember_27 : decode cX4_remember 27 = .ok (.dup, 1) := by decide +kernel
theorem dX4_remember_28 : decode cX4_remember 28 = .ok (.getfield 17, 3) := by decide +kernel
theorem dX4_remember_31 : decode cX4_remember 31 = .ok (.iconst 1, 1) := by decide +kernel
theorem dX4_remember_32 : decode cX4_remember 32 = .ok (.iadd, 1) := by decide +kernel
theorem dX4_remember_33 : decode cX4_remember 33 = .ok (.putfield 17, 3) := by decide +kernel
theorem dX4_remember_36 : decode cX4_remember 36 = .ok (.return_, 1) := by decide +kernel
theorem dX4_forgetOldest_0 : decode cX4_forgetOldest 0 = .ok (.aload_n 0, 1) := by decide +kernel
theorem dX4_forgetOldest_1 : decode cX4_forgetOldest 1 = .ok (.getfield 11, 3) := by decide +kernel
theorem dX4_forgetOldest_4 : decode cX4_forgetOldest 4 = .ok (.iconst 0, 1) := by decide +kernel
theorem dX4_forgetOldest_5 : decode cX4_forgetOldest 5 = .ok (.aaload, 1) := by decide +kernel
theorem dX4_forgetOldest_6 : decode cX4_forgetOldest 6 = .ok (.astore_n 1, 1) := by decide +kernel
theorem dX4_forgetOldest_7 : decode cX4_forgetOldest 7 = .ok (.iconst 1, 1) := by decide +kernel
theorem dX4_forgetOldest_8 : decode cX4_forgetOldest 8 = .ok (.istore_n 2, 1) := by decide +kernel
theorem dX4_forgetOldest_9 : decode cX4_forgetOldest 9 = .ok (.iload_n 2, 1) := by decide +kernel
theorem dX4_forgetOldest_10 : decode cX4_forgetOldest 10 = .ok (.bipush 10, 2) := by decide +kernel
theorem dX4_forgetOldest_12 : decode cX4_forgetOldest 12 = .ok (.if_icmp .ge 23, 3) := by decide +kernel
theorem dX4_forgetOldest_15 : decode cX4_forgetOldest 15 = .ok (.aload_n 0, 1) := by decide +kernel
theorem dX4_forgetOldest_16 : decode cX4_forgetOldest 16 = .ok (.getfield 11, 3) := by decide +kernel
theorem dX4_forgetOldest_19 : decode cX4_forgetOldest 19 = .ok (.iload_n 2, 1) := by decide +kernel
theorem dX4_forgetOldest_20 : decode cX4_forgetOldest 20 = .ok (.iconst 1, 1) := by decide +kernel
theorem dX4_forgetOldest_21 : decode cX4_forgetOldest 21 = .ok (.isub, 1) := by decide +kernel
theorem dX4_forgetOldest_22 : decode cX4_forgetOldest 22 = .ok (.aload_n 0, 1) := by decide +kernel
theorem dX4_forgetOldest_23 : decode cX4_forgetOldest 23 = .ok (.getfield 11, 3) := by decide +kernel
theorem dX4_forgetOldest_26 : decode cX4_forgetOldest 26 = .ok (.iload_n 2, 1) := by decide +kernel
theorem dX4_forgetOldest_27 : decode cX4_forgetOldest 27 = .ok (.aaload, 1) := by decide +kernel
theorem dX4_forgetOldest_28 : decode cX4_forgetOldest 28 = .ok (.aastore, 1) := by decide +kernel
theorem dX4_forgetOldest_29 : decode cX4_forgetOldest 29 = .ok (.iinc 2 1, 3) := by decide +kernel
theorem dX4_forgetOldest_32 : decode cX4_forgetOldest 32 = .ok (.goto (-23), 3) := by decide +kernel
theorem dX4_forgetOldest_35 : decode cX4_forgetOldest 35 = .ok (.aload_n 0, 1) := by decide +kernel
theorem dX4_forgetOldest_36 : decode cX4_forgetOldest 36 = .ok (.getfield 11, 3) := by decide +kernel
theorem dX4_forgetOldest_39 : decode cX4_forgetOldest 39 = .ok (.bipush 9, 2) := by decide +kernel
theorem dX4_forgetOldest_41 : decode cX4_forgetOldest 41 = .ok (.aload_n 1, 1) := by decide +kernel
theorem dX4_forgetOldest_42 : decode cX4_forgetOldest 42 = .ok (.aastore, 1) := by decide +kernel
theorem dX4_forgetOldest_43 : decode cX4_forgetOldest 43 = .ok (.aload_n 0, 1) := by decide +kernel
theorem dX4_forgetOldest_44 : decode cX4_forgetOldest 44 = .ok (.bipush 9, 2) := by decide +kernel
theorem dX4_forgetOldest_46 : decode cX4_forgetOldest 46 = .ok (.putfield 17, 3) := by decide +kernel
theorem dX4_forgetOldest_49 : decode cX4_forgetOldest 49 = .ok (.return_, 1) := by decide +kernel
theorem dX4_takeBack_0 : decode cX4_takeBack 0 = .ok (.aload_n 0, 1) := by decide +kernel
theorem dX4_takeBack_1 : decode cX4_takeBack 1 = .ok (.getfield 17, 3) := by decide +kernel
theorem dX4_takeBack_4 : decode cX4_takeBack 4 = .ok (.ifCond .le 26, 3) := by decide +kernel
theorem dX4_takeBack_7 : decode cX4_takeBack 7 = .ok (.aload_n 0, 1) := by decide +kernel
theorem dX4_takeBack_8 : decode cX4_takeBack 8 = .ok (.dup, 1) := by decide +kernel
theorem dX4_takeBack_9 : decode cX4_takeBack 9 = .ok (.getfield 17, 3) := by decide +kernel
theorem dX4_takeBack_12 : decode cX4_takeBack 12 = .ok (.iconst 1, 1) := by decide +kernel
theorem dX4_takeBack_13 : decode cX4_takeBack 13 = .ok (.isub, 1) := by decide +kernel
theorem dX4_takeBack_14 : decode cX4_takeBack 14 = .ok (.putfield 17, 3) := by decide +kernel
theorem dX4_takeBack_17 : decode cX4_takeBack 17 = .ok (.aload_n 1, 1) := by decide +kernel
theorem dX4_takeBack_18 : decode cX4_takeBack 18 = .ok (.aload_n 0, 1) := by decide +kernel
theorem dX4_takeBack_19 : decode cX4_takeBack 19 = .ok (.getfield 11, 3) := by decide +kernel
theorem dX4_takeBack_22 : decode cX4_takeBack 22 = .ok (.aload_n 0, 1) := by decide +kernel
theorem dX4_takeBack_23 : decode cX4_takeBack 23 = .ok (.getfield 17, 3) := by decide +kernel
theorem dX4_takeBack_26 : decode cX4_takeBack 26 = .ok (.aaload, 1) := by decide +kernel
theorem dX4_takeBack_27 : decode cX4_takeBack 27 = .ok (.invokevirtual 25, 3) := by decide +kernel
theorem dX4_takeBack_30 : decode cX4_takeBack 30 = .ok (.return_, 1) := by decide +kernel
theorem dX5_init_0 : decode cX5_init 0 = .ok (.aload_n 0, 1) := by decide +kernel
theorem dX5_init_1 : decode cX5_init 1 = .ok (.invokespecial 3, 3) := by decide +kernel
theorem dX5_init_4 : decode cX5_init 4 = .ok (.aload_n 0, 1) := by decide +kernel
theorem dX5_init_5 : decode cX5_init 5 = .ok (.sipush 1200, 3) := by decide +kernel
theorem dX5_init_8 : decode cX5_init 8 = .ok (.newarray .byte, 2) := by decide +kernel
theorem dX5_init_10 : decode cX5_init 10 = .ok (.putfield 9, 3) := by decide +kernel
theorem dX5_init_13 : decode cX5_init 13 = .ok (.aload_n 0, 1) := by decide +kernel
theorem dX5_init_14 : decode cX5_init 14 = .ok (.iconst 0, 1) := by decide +kernel
theorem dX5_init_15 : decode cX5_init 15 = .ok (.putfield 15, 3) := by decide +kernel
theorem dX5_init_18 : decode cX5_init 18 = .ok (.return_, 1) := by decide +kernel
theorem dX6_init_0 : decode cX6_init 0 = .ok (.aload_n 0, 1) := by decide +kernel
theorem dX6_init_1 : decode cX6_init 1 = .ok (.invokespecial 3, 3) := by decide +kernel
theorem dX6_init_4 : decode cX6_init 4 = .ok (.aload_n 0, 1) := by decide +kernel
theorem dX6_init_5 : decode cX6_init 5 = .ok (.sipush 500, 3) := by decide +kernel
theorem dX6_init_8 : decode cX6_init 8 = .ok (.newarray .byte, 2) := by decide +kernel
theorem dX6_init_10 : decode cX6_init 10 = .ok (.putfield 9, 3) := by decide +kernel
theorem dX6_init_13 : decode cX6_init 13 = .ok (.aload_n 0, 1) := by decide +kernel
theorem dX6_init_14 : decode cX6_init 14 = .ok (.iconst 0, 1) := by decide +kernel
theorem dX6_init_15 : decode cX6_init 15 = .ok (.putfield 15, 3) := by decide +kernel
theorem dX6_init_18 : decode cX6_init 18 = .ok (.aload_n 0, 1) := by decide +kernel
theorem dX6_init_19 : decode cX6_init 19 = .ok (.iconst 0, 1) := by decide +kernel
theorem dX6_init_20 : decode cX6_init 20 = .ok (.putfield 19, 3) := by decide +kernel
theorem dX6_init_23 : decode cX6_init 23 = .ok (.aload_n 0, 1) := by decide +kernel
theorem dX6_init_24 : decode cX6_init 24 = .ok (.iconst (-1), 1) := by decide +kernel
theorem dX6_init_25 : decode cX6_init 25 = .ok (.putfield 22, 3) := by decide +kernel
theorem dX6_init_28 : decode cX6_init 28 = .ok (.aload_n 0, 1) := by decide +kernel
theorem dX6_init_29 : decode cX6_init 29 = .ok (.iconst 0, 1) := by decide +kernel
theorem dX6_init_30 : decode cX6_init 30 = .ok (.putfield 25, 3) := by decide +kernel
theorem dX6_init_33 : decode cX6_init 33 = .ok (.aload_n 0, 1) := by decide +kernel
theorem dX6_init_34 : decode cX6_init 34 = .ok (.iconst 0, 1) := by decide +kernel
theorem dX6_init_35 : decode cX6_init 35 = .ok (.putfield 28, 3) := by decide +kernel
theorem dX6_init_38 : decode cX6_init 38 = .ok (.aload_n 0, 1) := by decide +kernel
theorem dX6_init_39 : decode cX6_init 39 = .ok (.iconst 0, 1) := by decide +kernel
theorem dX6_init_40 : decode cX6_init 40 = .ok (.putfield 31, 3) := by decide +kernel
theorem dX6_init_43 : decode cX6_init 43 = .ok (.aload_n 0, 1) := by decide +kernel
theorem dX6_init_44 : decode cX6_init 44 = .ok (.iconst 0, 1) := by decide +kernel
theorem dX6_init_45 : decode cX6_init 45 = .ok (.putfield 34, 3) := by decide +kernel
theorem dX6_init_48 : decode cX6_init 48 = .ok (.return_, 1) := by decide +kernel
theorem dX6_addBytes_0 : decode cX6_addBytes 0 = .ok (.bipush 24, 2) := by decide +kernel
theorem dX6_addBytes_2 : decode cX6_addBytes 2 = .ok (.istore_n 2, 1) := by decide +kernel
theorem dX6_addBytes_3 : decode cX6_addBytes 3 = .ok (.iload_n 2, 1) := by decide +kernel
theorem dX6_addBytes_4 : decode cX6_addBytes 4 = .ok (.ifCond .lt 42, 3) := by decide +kernel
theorem dX6_addBytes_7 : decode cX6_addBytes 7 = .ok (.aload_n 0, 1) := by decide +kernel
theorem dX6_addBytes_8 : decode cX6_addBytes 8 = .ok (.getfield 15, 3) := by decide +kernel
theorem dX6_addBytes_11 : decode cX6_addBytes 11 = .ok (.sipush 500, 3) := by decide +kernel
theorem dX6_addBytes_14 : decode cX6_addBytes 14 = .ok (.if_icmp .ge 26, 3) := by decide +kernel
theorem dX6_addBytes_17 : decode cX6_addBytes 17 = .ok (.aload_n 0, 1) := by decide +kernel
theorem dX6_addBytes_18 : decode cX6_addBytes 18 = .ok (.getfield 9, 3) := by decide +kernel
theorem dX6_addBytes_21 : decode cX6_addBytes 21 = .ok (.aload_n 0, 1) := by decide +kernel
theorem dX6_addBytes_22 : decode cX6_addBytes 22 = .ok (.getfield 15, 3) := by decide +kernel
theorem dX6_addBytes_25 : decode cX6_addBytes 25 = .ok (.iload_n 1, 1) := by decide +kernel
theorem dX6_addBytes_26 : decode cX6_addBytes 26 = .ok (.iload_n 2, 1) := by decide +kernel
theorem dX6_addBytes_27 : decode cX6_addBytes 27 = .ok (.ishr, 1) := by decide +kernel
theorem dX6_addBytes_28 : decode cX6_addBytes 28 = .ok (.i2b, 1) := by decide +kernel
theorem dX6_addBytes_29 : decode cX6_addBytes 29 = .ok (.bastore, 1) := by decide +kernel
theorem dX6_addBytes_30 : decode cX6_addBytes 30 = .ok (.aload_n 0, 1) := by decide +kernel
theorem dX6_addBytes_31 : decode cX6_addBytes 31 = .ok (.dup, 1) := by decide +kernel
theorem dX6_addBytes_32 : decode cX6_addBytes 32 = .ok (.getfield 15, 3) := by decide +kernel
theorem dX6_addBytes_35 : decode cX6_addBytes 35 = .ok (.iconst 1, 1) := by decide +kernel
theorem dX6_addBytes_36 : decode cX6_addBytes 36 = .ok (.iadd, 1) := by decide +kernel
theorem dX6_addBytes_37 : decode cX6_addBytes 37 = .ok (.putfield 15, 3) := by decide +kernel
theorem dX6_addBytes_40 : decode cX6_addBytes 40 = .ok (.iinc 2 (-8), 3) := by decide +kernel
theorem dX6_addBytes_43 : decode cX6_addBytes 43 = .ok (.goto (-40), 3) := by decide +kernel
theorem dX6_addBytes_46 : decode cX6_addBytes 46 = .ok (.return_, 1) := by decide +kernel
theorem dX6_runDisk_0 : decode cX6_runDisk 0 = .ok (.aload_n 0, 1) := by decide +kernel
theorem dX6_runDisk_1 : decode cX6_runDisk 1 = .ok (.iconst 0, 1) := by decide +kernel
theorem dX6_runDisk_2 : decode cX6_runDisk 2 = .ok (.putfield 19, 3) := by decide +kernel
theorem dX6_runDisk_5 : decode cX6_runDisk 5 = .ok (.aload_n 0, 1) := by decide +kernel
theorem dX6_runDisk_6 : decode cX6_runDisk 6 = .ok (.iconst (-1), 1) := by decide +kernel
theorem dX6_runDisk_7 : decode cX6_runDisk 7 = .ok (.putfield 22, 3) := by decide +kernel
theorem dX6_runDisk_10 : decode cX6_runDisk 10 = .ok (.aload_n 0, 1) := by decide +kernel
theorem dX6_runDisk_11 : decode cX6_runDisk 11 = .ok (.iconst 0, 1) := by decide +kernel
theorem dX6_runDisk_12 : decode cX6_runDisk 12 = .ok (.putfield 25, 3) := by decide +kernel
theorem dX6_runDisk_15 : decode cX6_runDisk 15 = .ok (.aload_n 0, 1) := by decide +kernel
theorem dX6_runDisk_16 : decode cX6_runDisk 16 = .ok (.iconst 0, 1) := by decide +kernel
theorem dX6_runDisk_17 : decode cX6_runDisk 17 = .ok (.putfield 34, 3) := by decide +kernel
theorem dX6_runDisk_20 : decode cX6_runDisk 20 = .ok (.aload_n 0, 1) := by decide +kernel
theorem dX6_runDisk_21 : decode cX6_runDisk 21 = .ok (.invokevirtual 37, 3) := by decide +kernel
theorem dX6_runDisk_24 : decode cX6_runDisk 24 = .ok (.aload_n 0, 1) := by decide +kernel
theorem dX6_runDisk_25 : decode cX6_runDisk 25 = .ok (.ldc 40, 2) := by decide +kernel
theorem dX6_runDisk_27 : decode cX6_runDisk 27 = .ok (.invokevirtual 42, 3) := by decide +kernel
theorem dX6_runDisk_30 : decode cX6_runDisk 30 = .ok (.ifCond .ne 9, 3) := by decide +kernel
theorem dX6_runDisk_33 : decode cX6_runDisk 33 = .ok (.aload_n 0, 1) := by decide +kernel
theorem dX6_runDisk_34 : decode cX6_runDisk 34 = .ok (.iconst 1, 1) := by decide +kernel
theorem dX6_runDisk_35 : decode cX6_runDisk 35 = .ok (.invokevirtual 46, 3) := by decide +kernel
theorem dX6_runDisk_38 : decode cX6_runDisk 38 = .ok (.ireturn, 1) := by decide +kernel
theorem dX6_runDisk_39 : decode cX6_runDisk 39 = .ok (.aload_n 0, 1) := by decide +kernel
theorem dX6_runDisk_40 : decode cX6_runDisk 40 = .ok (.iconst 0, 1) := by decide +kernel
theorem dX6_runDisk_41 : decode cX6_runDisk 41 = .ok (.bipush 100, 2) := by decide +kernel
theorem dX6_runDisk_43 : decode cX6_runDisk 43 = .ok (.invokevirtual 50, 3) := by decide +kernel
theorem dX6_runDisk_46 : decode cX6_runDisk 46 = .ok (.istore_n 2, 1) := by decide +kernel
theorem dX6_runDisk_47 : decode cX6_runDisk 47 = .ok (.iload_n 2, 1) := by decide +kernel
theorem dX6_runDisk_48 : decode cX6_runDisk 48 = .ok (.iconst (-1), 1) := by decide +kernel
theorem dX6_runDisk_49 : decode cX6_runDisk 49 = .ok (.if_icmp .eq 12, 3) := by decide +kernel
theorem dX6_runDisk_52 : decode cX6_runDisk 52 = .ok (.aload_n 0, 1) := by decide +kernel
theorem dX6_runDisk_53 : decode cX6_runDisk 53 = .ok (.bipush 59, 2) := by decide +kernel
theorem dX6_runDisk_55 : decode cX6_runDisk 55 = .ok (.invokevirtual 54, 3) := by decide +kernel
theorem dX6_runDisk_58 : decode cX6_runDisk 58 = .ok (.ifCond .ne 5, 3) := by decide +kernel
theorem dX6_runDisk_61 : decode cX6_runDisk 61 = .ok (.iconst 0, 1) := by decide +kernel
theorem dX6_runDisk_62 : decode cX6_runDisk 62 = .ok (.ireturn, 1) := by decide +kernel
theorem dX6_runDisk_63 : decode cX6_runDisk 63 = .ok (.aload_n 1, 1) := by decide +kernel
theorem dX6_runDisk_64 : decode cX6_runDisk 64 = .ok (.iload_n 2, 1) := by decide +kernel
theorem dX6_runDisk_65 : decode cX6_runDisk 65 = .ok (.invokevirtual 57, 3) := by decide +kernel
theorem dX6_runDisk_68 : decode cX6_runDisk 68 = .ok (.iconst 1, 1) := by decide +kernel
theorem dX6_runDisk_69 : decode cX6_runDisk 69 = .ok (.ireturn, 1) := by decide +kernel
theorem dX6_runCommands_0 : decode cX6_runCommands 0 = .ok (.iload_n 3, 1) := by decide +kernel
theorem dX6_runCommands_1 : decode cX6_runCommands 1 = .ok (.ifCond .ne 7, 3) := by decide +kernel
theorem dX6_runCommands_4 : decode cX6_runCommands 4 = .ok (.iconst 0, 1) := by decide +kernel
theorem dX6_runCommands_5 : decode cX6_runCommands 5 = .ok (.goto 5, 3) := by decide +kernel
theorem dX6_runCommands_8 : decode cX6_runCommands 8 = .ok (.bipush 41, 2) := by decide +kernel
theorem dX6_runCommands_10 : decode cX6_runCommands 10 = .ok (.istore 4, 2) := by decide +kernel
theorem dX6_runCommands_12 : decode cX6_runCommands 12 = .ok (.iconst 0, 1) := by decide +kernel
theorem dX6_runCommands_13 : decode cX6_runCommands 13 = .ok (.istore 5, 2) := by decide +kernel
theorem dX6_runCommands_15 : decode cX6_runCommands 15 = .ok (.iload 5, 2) := by decide +kernel
theorem dX6_runCommands_17 : decode cX6_runCommands 17 = .ok (.sipush 500, 3) := by decide +kernel
theorem dX6_runCommands_20 : decode cX6_runCommands 20 = .ok (.if_icmp .gt 58, 3) := by decide +kernel
theorem dX6_runCommands_23 : decode cX6_runCommands 23 = .ok (.aload_n 0, 1) := by decide +kernel
theorem dX6_runCommands_24 : decode cX6_runCommands 24 = .ok (.invokevirtual 37, 3) := by decide +kernel
theorem dX6_runCommands_27 : decode cX6_runCommands 27 = .ok (.aload_n 0, 1) := by decide +kernel
theorem dX6_runCommands_28 : decode cX6_runCommands 28 = .ok (.getfield 28, 3) := by decide +kernel
theorem dX6_runCommands_31 : decode cX6_runCommands 31 = .ok (.iload 4, 2) := by decide +kernel
theorem dX6_runCommands_33 : decode cX6_runCommands 33 = .ok (.if_icmp .ne 5, 3) := by decide +kernel
theorem dX6_runCommands_36 : decode cX6_runCommands 36 = .ok (.iconst 1, 1) := by decide +kernel
theorem dX6_runCommands_37 : decode cX6_runCommands 37 = .ok (.ireturn, 1) := by decide +kernel
theorem dX6_runCommands_38 : decode cX6_runCommands 38 = .ok (.aload_n 0, 1) := by decide +kernel
theorem dX6_runCommands_39 : decode cX6_runCommands 39 = .ok (.ldc 63, 2) := by decide +kernel
theorem dX6_runCommands_41 : decode cX6_runCommands 41 = .ok (.invokevirtual 42, 3) := by decide +kernel
theorem dX6_runCommands_44 : decode cX6_runCommands 44 = .ok (.ifCond .eq 13, 3) := by decide +kernel
theorem dX6_runCommands_47 : decode cX6_runCommands 47 = .ok (.aload_n 0, 1) := by decide +kernel
theorem dX6_runCommands_48 : decode cX6_runCommands 48 = .ok (.aload_n 1, 1) := by decide +kernel
theorem dX6_runCommands_49 : decode cX6_runCommands 49 = .ok (.aload_n 2, 1) := by decide +kernel
theorem dX6_runCommands_50 : decode cX6_runCommands 50 = .ok (.iload_n 3, 1) := by decide +kernel
theorem dX6_runCommands_51 : decode cX6_runCommands 51 = .ok (.invokevirtual 65, 3) := by decide +kernel
theorem dX6_runCommands_54 : decode cX6_runCommands 54 = .ok (.goto 9, 3) := by decide +kernel
theorem dX6_runCommands_57 : decode cX6_runCommands 57 = .ok (.aload_n 0, 1) := by decide +kernel
theorem dX6_runCommands_58 : decode cX6_runCommands 58 = .ok (.aload_n 1, 1) := by decide +kernel
theorem dX6_runCommands_59 : decode cX6_runCommands 59 = .ok (.aload_n 2, 1) := by decide +kernel
theorem dX6_runCommands_60 : decode cX6_runCommands 60 = .ok (.invokevirtual 69, 3) := by decide +kernel
theorem dX6_runCommands_63 : decode cX6_runCommands 63 = .ok (.istore 6, 2) := by decide +kernel
theorem dX6_runCommands_65 : decode cX6_runCommands 65 = .ok (.iload 6, 2) := by decide +kernel
theorem dX6_runCommands_67 : decode cX6_runCommands 67 = .ok (.ifCond .ne 5, 3) := by decide +kernel
theorem dX6_runCommands_70 : decode cX6_runCommands 70 = .ok (.iconst 0, 1) := by decide +kernel
theorem dX6_runCommands_71 : decode cX6_runCommands 71 = .ok (.ireturn, 1) := by decide +kernel
theorem dX6_runCommands_72 : decode cX6_runCommands 72 = .ok (.iinc 5 1, 3) := by decide +kernel
theorem dX6_runCommands_75 : decode cX6_runCommands 75 = .ok (.goto (-60), 3) := by decide +kernel
theorem dX6_runCommands_78 : decode cX6_runCommands 78 = .ok (.iconst 0, 1) := by decide +kernel
theorem dX6_runCommands_79 : decode cX6_runCommands 79 = .ok (.ireturn, 1) := by decide +kernel
theorem dX6_runRepeat_0 : decode cX6_runRepeat 0 = .ok (.iload_n 3, 1) := by decide +kernel
theorem dX6_runRepeat_1 : decode cX6_runRepeat 1 = .ok (.iconst 2, 1) := by decide +kernel
theorem dX6_runRepeat_2 : decode cX6_runRepeat 2 = .ok (.if_icmp .lt 9, 3) := by decide +kernel
theorem dX6_runRepeat_5 : decode cX6_runRepeat 5 = .ok (.aload_n 0, 1) := by decide +kernel
theorem dX6_runRepeat_6 : decode cX6_runRepeat 6 = .ok (.iconst 4, 1) := by decide +kernel
theorem dX6_runRepeat_7 : decode cX6_runRepeat 7 = .ok (.invokevirtual 46, 3) := by decide +kernel
theorem dX6_runRepeat_10 : decode cX6_runRepeat 10 = .ok (.ireturn, 1) := by decide +kernel
theorem dX6_runRepeat_11 : decode cX6_runRepeat 11 = .ok (.aload_n 0, 1) := by decide +kernel
theorem dX6_runRepeat_12 : decode cX6_runRepeat 12 = .ok (.iconst 1, 1) := by decide +kernel
theorem dX6_runRepeat_13 : decode cX6_runRepeat 13 = .ok (.bipush 20, 2) := by decide +kernel
theorem dX6_runRepeat_15 : decode cX6_runRepeat 15 = .ok (.invokevirtual 50, 3) := by decide +kernel
theorem dX6_runRepeat_18 : decode cX6_runRepeat 18 = .ok (.istore 4, 2) := by decide +kernel
theorem dX6_runRepeat_20 : decode cX6_runRepeat 20 = .ok (.iload 4, 2) := by decide +kernel
theorem dX6_runRepeat_22 : decode cX6_runRepeat 22 = .ok (.iconst (-1), 1) := by decide +kernel
theorem dX6_runRepeat_23 : decode cX6_runRepeat 23 = .ok (.if_icmp .eq 12, 3) := by decide +kernel
theorem dX6_runRepeat_26 : decode cX6_runRepeat 26 = .ok (.aload_n 0, 1) := by decide +kernel
theorem dX6_runRepeat_27 : decode cX6_runRepeat 27 = .ok (.bipush 40, 2) := by decide +kernel
theorem dX6_runRepeat_29 : decode cX6_runRepeat 29 = .ok (.invokevirtual 54, 3) := by decide +kernel
theorem dX6_runRepeat_32 : decode cX6_runRepeat 32 = .ok (.ifCond .ne 5, 3) := by decide +kernel
theorem dX6_runRepeat_35 : decode cX6_runRepeat 35 = .ok (.iconst 0, 1) := by decide +kernel
theorem dX6_runRepeat_36 : decode cX6_runRepeat 36 = .ok (.ireturn, 1) := by decide +kernel
theorem dX6_runRepeat_37 : decode cX6_runRepeat 37 = .ok (.aload_n 0, 1) := by decide +kernel
theorem dX6_runRepeat_38 : decode cX6_runRepeat 38 = .ok (.getfield 25, 3) := by decide +kernel
theorem dX6_runRepeat_41 : decode cX6_runRepeat 41 = .ok (.istore 5, 2) := by decide +kernel
theorem dX6_runRepeat_43 : decode cX6_runRepeat 43 = .ok (.iconst 0, 1) := by decide +kernel
theorem dX6_runRepeat_44 : decode cX6_runRepeat 44 = .ok (.istore 6, 2) := by decide +kernel
theorem dX6_runRepeat_46 : decode cX6_runRepeat 46 = .ok (.iload 6, 2) := by decide +kernel
theorem dX6_runRepeat_48 : decode cX6_runRepeat 48 = .ok (.iload 4, 2) := by decide +kernel
theorem dX6_runRepeat_50 : decode cX6_runRepeat 50 = .ok (.if_icmp .ge 29, 3) := by decide +kernel
theorem dX6_runRepeat_53 : decode cX6_runRepeat 53 = .ok (.aload_n 0, 1) := by decide +kernel
theorem dX6_runRepeat_54 : decode cX6_runRepeat 54 = .ok (.iload 5, 2) := by decide +kernel
theorem dX6_runRepeat_56 : decode cX6_runRepeat 56 = .ok (.putfield 25, 3) := by decide +kernel
theorem dX6_runRepeat_59 : decode cX6_runRepeat 59 = .ok (.aload_n 0, 1) := by decide +kernel
theorem dX6_runRepeat_60 : decode cX6_runRepeat 60 = .ok (.aload_n 1, 1) := by decide +kernel
theorem dX6_runRepeat_61 : decode cX6_runRepeat 61 = .ok (.aload_n 2, 1) := by decide +kernel
theorem dX6_runRepeat_62 : decode cX6_runRepeat 62 = .ok (.iload_n 3, 1) := by decide +kernel
theorem dX6_runRepeat_63 : decode cX6_runRepeat 63 = .ok (.iconst 1, 1) := by decide +kernel
theorem dX6_runRepeat_64 : decode cX6_runRepeat 64 = .ok (.iadd, 1) := by decide +kernel
theorem dX6_runRepeat_65 : decode cX6_runRepeat 65 = .ok (.invokevirtual 73, 3) := by decide +kernel
theorem dX6_runRepeat_68 : decode cX6_runRepeat 68 = .ok (.ifCond .ne 5, 3) := by decide +kernel
theorem dX6_runRepeat_71 : decode cX6_runRepeat 71 = .ok (.iconst 0, 1) := by decide +kernel
theorem dX6_runRepeat_72 : decode cX6_runRepeat 72 = .ok (.ireturn, 1) := by decide +kernel
theorem dX6_runRepeat_73 : decode cX6_runRepeat 73 = .ok (.iinc 6 1, 3) := by decide +kernel
theorem dX6_runRepeat_76 : decode cX6_runRepeat 76 = .ok (.goto (-30), 3) := by decide +kernel
theorem dX6_runRepeat_79 : decode cX6_runRepeat 79 = .ok (.aload_n 0, 1) := by decide +kernel
theorem dX6_runRepeat_80 : decode cX6_runRepeat 80 = .ok (.bipush 59, 2) := by decide +kernel
theorem dX6_runRepeat_82 : decode cX6_runRepeat 82 = .ok (.invokevirtual 54, 3) := by decide +kernel
theorem dX6_runRepeat_85 : decode cX6_runRepeat 85 = .ok (.ireturn, 1) := by decide +kernel
theorem dX6_runCommand_0 : decode cX6_runCommand 0 = .ok (.aload_n 0, 1) := by decide +kernel
theorem dX6_runCommand_1 : decode cX6_runCommand 1 = .ok (.invokevirtual 76, 3) := by decide +kernel
theorem dX6_runCommand_4 : decode cX6_runCommand 4 = .ok (.astore_n 3, 1) := by decide +kernel
theorem dX6_runCommand_5 : decode cX6_runCommand 5 = .ok (.aload_n 3, 1) := by decide +kernel
theorem dX6_runCommand_6 : decode cX6_runCommand 6 = .ok (.ifnonnull 9, 3) := by decide +kernel
theorem dX6_runCommand_9 : decode cX6_runCommand 9 = .ok (.aload_n 0, 1) := by decide +kernel
theorem dX6_runCommand_10 : decode cX6_runCommand 10 = .ok (.iconst 1, 1) := by decide +kernel
theorem dX6_runCommand_11 : decode cX6_runCommand 11 = .ok (.invokevirtual 46, 3) := by decide +kernel
theorem dX6_runCommand_14 : decode cX6_runCommand 14 = .ok (.ireturn, 1) := by decide +kernel
theorem dX6_runCommand_15 : decode cX6_runCommand 15 = .ok (.aload_n 0, 1) := by decide +kernel
theorem dX6_runCommand_16 : decode cX6_runCommand 16 = .ok (.getfield 34, 3) := by decide +kernel
theorem dX6_runCommand_19 : decode cX6_runCommand 19 = .ok (.bipush 100, 2) := by decide +kernel
theorem dX6_runCommand_21 : decode cX6_runCommand 21 = .ok (.if_icmp .lt 9, 3) := by decide +kernel
theorem dX6_runCommand_24 : decode cX6_runCommand 24 = .ok (.aload_n 0, 1) := by decide +kernel
theorem dX6_runCommand_25 : decode cX6_runCommand 25 = .ok (.iconst 5, 1) := by decide +kernel
theorem dX6_runCommand_26 : decode cX6_runCommand 26 = .ok (.invokevirtual 46, 3) := by decide +kernel
theorem dX6_runCommand_29 : decode cX6_runCommand 29 = .ok (.ireturn, 1) := by decide +kernel
theorem dX6_runCommand_30 : decode cX6_runCommand 30 = .ok (.aload_n 0, 1) := by decide +kernel
theorem dX6_runCommand_31 : decode cX6_runCommand 31 = .ok (.dup, 1) := by decide +kernel
theorem dX6_runCommand_32 : decode cX6_runCommand 32 = .ok (.getfield 34, 3) := by decide +kernel
theorem dX6_runCommand_35 : decode cX6_runCommand 35 = .ok (.iconst 1, 1) := by decide +kernel
theorem dX6_runCommand_36 : decode cX6_runCommand 36 = .ok (.iadd, 1) := by decide +kernel
theorem dX6_runCommand_37 : decode cX6_runCommand 37 = .ok (.putfield 34, 3) := by decide +kernel
theorem dX6_runCommand_40 : decode cX6_runCommand 40 = .ok (.aload_n 0, 1) := by decide +kernel
theorem dX6_runCommand_41 : decode cX6_runCommand 41 = .ok (.aload_n 3, 1) := by decide +kernel
theorem dX6_runCommand_42 : decode cX6_runCommand 42 = .ok (.getfield 80, 3) := by decide +kernel
theorem dX6_runCommand_45 : decode cX6_runCommand 45 = .ok (.aload_n 1, 1) := by decide +kernel
theorem dX6_runCommand_46 : decode cX6_runCommand 46 = .ok (.invokevirtual 85, 3) := by decide +kernel
theorem dX6_runCommand_49 : decode cX6_runCommand 49 = .ok (.istore 4, 2) := by decide +kernel
theorem dX6_runCommand_51 : decode cX6_runCommand 51 = .ok (.iload 4, 2) := by decide +kernel
theorem dX6_runCommand_53 : decode cX6_runCommand 53 = .ok (.iconst (-1), 1) := by decide +kernel
theorem dX6_runCommand_54 : decode cX6_runCommand 54 = .ok (.if_icmp .ne 5, 3) := by decide +kernel
theorem dX6_runCommand_57 : decode cX6_runCommand 57 = .ok (.iconst 0, 1) := by decide +kernel
theorem dX6_runCommand_58 : decode cX6_runCommand 58 = .ok (.ireturn, 1) := by decide +kernel
theorem dX6_runCommand_59 : decode cX6_runCommand 59 = .ok (.aload_n 0, 1) := by decide +kernel
theorem dX6_runCommand_60 : decode cX6_runCommand 60 = .ok (.aload_n 3, 1) := by decide +kernel
theorem dX6_runCommand_61 : decode cX6_runCommand 61 = .ok (.getfield 89, 3) := by decide +kernel
theorem dX6_runCommand_64 : decode cX6_runCommand 64 = .ok (.aload_n 1, 1) := by decide +kernel
theorem dX6_runCommand_65 : decode cX6_runCommand 65 = .ok (.invokevirtual 85, 3) := by decide +kernel
theorem dX6_runCommand_68 : decode cX6_runCommand 68 = .ok (.istore 5, 2) := by decide +kernel
theorem dX6_runCommand_70 : decode cX6_runCommand 70 = .ok (.iload 5, 2) := by decide +kernel
theorem dX6_runCommand_72 : decode cX6_runCommand 72 = .ok (.iconst (-1), 1) := by decide +kernel
theorem dX6_runCommand_73 : decode cX6_runCommand 73 = .ok (.if_icmp .eq 12, 3) := by decide +kernel
theorem dX6_runCommand_76 : decode cX6_runCommand 76 = .ok (.aload_n 0, 1) := by decide +kernel
theorem dX6_runCommand_77 : decode cX6_runCommand 77 = .ok (.bipush 59, 2) := by decide +kernel
theorem dX6_runCommand_79 : decode cX6_runCommand 79 = .ok (.invokevirtual 54, 3) := by decide +kernel
theorem dX6_runCommand_82 : decode cX6_runCommand 82 = .ok (.ifCond .ne 5, 3) := by decide +kernel
theorem dX6_runCommand_85 : decode cX6_runCommand 85 = .ok (.iconst 0, 1) := by decide +kernel
theorem dX6_runCommand_86 : decode cX6_runCommand 86 = .ok (.ireturn, 1) := by decide +kernel
theorem dX6_runCommand_87 : decode cX6_runCommand 87 = .ok (.aload_n 0, 1) := by decide +kernel
theorem dX6_runCommand_88 : decode cX6_runCommand 88 = .ok (.aload_n 3, 1) := by decide +kernel
theorem dX6_runCommand_89 : decode cX6_runCommand 89 = .ok (.iload 4, 2) := by decide +kernel
theorem dX6_runCommand_91 : decode cX6_runCommand 91 = .ok (.iload 5, 2) := by decide +kernel
theorem dX6_runCommand_93 : decode cX6_runCommand 93 = .ok (.aload_n 1, 1) := by decide +kernel
theorem dX6_runCommand_94 : decode cX6_runCommand 94 = .ok (.aload_n 2, 1) := by decide +kernel
theorem dX6_runCommand_95 : decode cX6_runCommand 95 = .ok (.invokevirtual 92, 3) := by decide +kernel
theorem dX6_runCommand_98 : decode cX6_runCommand 98 = .ok (.ireturn, 1) := by decide +kernel
theorem dX6_findCommand_0 : decode cX6_findCommand 0 = .ok (.iconst 0, 1) := by decide +kernel
theorem dX6_findCommand_1 : decode cX6_findCommand 1 = .ok (.istore_n 1, 1) := by decide +kernel
theorem dX6_findCommand_2 : decode cX6_findCommand 2 = .ok (.iload_n 1, 1) := by decide +kernel
theorem dX6_findCommand_3 : decode cX6_findCommand 3 = .ok (.getstatic 96, 3) := by decide +kernel
theorem dX6_findCommand_6 : decode cX6_findCommand 6 = .ok (.arraylength, 1) := by decide +kernel
theorem dX6_findCommand_7 : decode cX6_findCommand 7 = .ok (.if_icmp .ge 30, 3) := by decide +kernel
theorem dX6_findCommand_10 : decode cX6_findCommand 10 = .ok (.aload_n 0, 1) := by decide +kernel
theorem dX6_findCommand_11 : decode cX6_findCommand 11 = .ok (.getstatic 96, 3) := by decide +kernel
theorem dX6_findCommand_14 : decode cX6_findCommand 14 = .ok (.iload_n 1, 1) := by decide +kernel
theorem dX6_findCommand_15 : decode cX6_findCommand 15 = .ok (.aaload, 1) := by decide +kernel
theorem dX6_findCommand_16 : decode cX6_findCommand 16 = .ok (.getfield 100, 3) := by decide +kernel
theorem dX6_findCommand_19 : decode cX6_findCommand 19 = .ok (.invokevirtual 42, 3) := by decide +kernel
theorem dX6_findCommand_22 : decode cX6_findCommand 22 = .ok (.ifCond .eq 9, 3) := by decide +kernel
theorem dX6_findCommand_25 : decode cX6_findCommand 25 = .ok (.getstatic 96, 3) := by decide +kernel
theorem dX6_findCommand_28 : decode cX6_findCommand 28 = .ok (.iload_n 1, 1) := by decide +kernel
theorem dX6_findCommand_29 : decode cX6_findCommand 29 = .ok (.aaload, 1) := by decide +kernel
theorem dX6_findCommand_30 : decode cX6_findCommand 30 = .ok (.areturn, 1) := by decide +kernel
theorem dX6_findCommand_31 : decode cX6_findCommand 31 = .ok (.iinc 1 1, 3) := by decide +kernel
theorem dX6_findCommand_34 : decode cX6_findCommand 34 = .ok (.goto (-32), 3) := by decide +kernel
theorem dX6_findCommand_37 : decode cX6_findCommand 37 = .ok (.aconst_null, 1) := by decide +kernel
theorem dX6_findCommand_38 : decode cX6_findCommand 38 = .ok (.areturn, 1) := by decide +kernel
theorem dX6_execute_0 : decode cX6_execute 0 = .ok (.getstatic 104, 3) := by decide +kernel
theorem dX6_execute_3 : decode cX6_execute 3 = .ok (.aload_n 1, 1) := by decide +kernel
theorem dX6_execute_4 : decode cX6_execute 4 = .ok (.invokevirtual 110, 3) := by decide +kernel
theorem dX6_execute_7 : decode cX6_execute 7 = .ok (.iaload, 1) := by decide +kernel
theorem dX6_execute_8 : decode cX6_execute 8 = .ok (.tableswitch 226 1 10 #[56, 82, 93, 104, 115, 124, 133, 159, 170, 181], 56) := by decide +kernel
theorem dX6_execute_64 : decode cX6_execute 64 = .ok (.aload 4, 2) := by decide +kernel
theorem dX6_execute_66 : decode cX6_execute 66 = .ok (.getfield 114, 3) := by decide +kernel
theorem dX6_execute_69 : decode cX6_execute 69 = .ok (.bipush 14, 2) := by decide +kernel
theorem dX6_execute_71 : decode cX6_execute 71 = .ok (.if_icmp .lt 9, 3) := by decide +kernel
theorem dX6_execute_74 : decode cX6_execute 74 = .ok (.aload_n 0, 1) := by decide +kernel
theorem dX6_execute_75 : decode cX6_execute 75 = .ok (.iconst 3, 1) := by decide +kernel
theorem dX6_execute_76 : decode cX6_execute 76 = .ok (.invokevirtual 46, 3) := by decide +kernel
theorem dX6_execute_79 : decode cX6_execute 79 = .ok (.ireturn, 1) := by decide +kernel
theorem dX6_execute_80 : decode cX6_execute 80 = .ok (.aload 4, 2) := by decide +kernel
theorem dX6_execute_82 : decode cX6_execute 82 = .ok (.iload_n 2, 1) := by decide +kernel
theorem dX6_execute_83 : decode cX6_execute 83 = .ok (.iload_n 3, 1) := by decide +kernel
theorem dX6_execute_84 : decode cX6_execute 84 = .ok (.invokevirtual 117, 3) := by decide +kernel
theorem dX6_execute_87 : decode cX6_execute 87 = .ok (.goto 147, 3) := by decide +kernel
theorem dX6_execute_90 : decode cX6_execute 90 = .ok (.aload 4, 2) := by decide +kernel
theorem dX6_execute_92 : decode cX6_execute 92 = .ok (.getfield 121, 3) := by decide +kernel
theorem dX6_execute_95 : decode cX6_execute 95 = .ok (.iload_n 2, 1) := by decide +kernel
theorem dX6_execute_96 : decode cX6_execute 96 = .ok (.iconst 1, 1) := by decide +kernel
theorem dX6_execute_97 : decode cX6_execute 97 = .ok (.iastore, 1) := by decide +kernel
theorem dX6_execute_98 : decode cX6_execute 98 = .ok (.goto 136, 3) := by decide +kernel
theorem dX6_execute_101 : decode cX6_execute 101 = .ok (.aload 4, 2) := by decide +kernel
theorem dX6_execute_103 : decode cX6_execute 103 = .ok (.getfield 121, 3) := by decide +kernel
theorem dX6_execute_106 : decode cX6_execute 106 = .ok (.iload_n 2, 1) := by decide +kernel
theorem dX6_execute_107 : decode cX6_execute 107 = .ok (.iconst 2, 1) := by decide +kernel
theorem dX6_execute_108 : decode cX6_execute 108 = .ok (.iastore, 1) := by decide +kernel
theorem dX6_execute_109 : decode cX6_execute 109 = .ok (.goto 125, 3) := by decide +kernel
theorem dX6_execute_112 : decode cX6_execute 112 = .ok (.aload 4, 2) := by decide +kernel
theorem dX6_execute_114 : decode cX6_execute 114 = .ok (.getfield 121, 3) := by decide +kernel
theorem dX6_execute_117 : decode cX6_execute 117 = .ok (.iload_n 2, 1) := by decide +kernel
theorem dX6_execute_118 : decode cX6_execute 118 = .ok (.iconst 0, 1) := by decide +kernel
theorem dX6_execute_119 : decode cX6_execute 119 = .ok (.iastore, 1) := by decide +kernel
theorem dX6_execute_120 : decode cX6_execute 120 = .ok (.goto 114, 3) := by decide +kernel
theorem dX6_execute_123 : decode cX6_execute 123 = .ok (.aload 4, 2) := by decide +kernel
theorem dX6_execute_125 : decode cX6_execute 125 = .ok (.iload_n 2, 1) := by decide +kernel
theorem dX6_execute_126 : decode cX6_execute 126 = .ok (.invokevirtual 124, 3) := by decide +kernel
theorem dX6_execute_129 : decode cX6_execute 129 = .ok (.goto 105, 3) := by decide +kernel
theorem dX6_execute_132 : decode cX6_execute 132 = .ok (.aload 4, 2) := by decide +kernel
theorem dX6_execute_134 : decode cX6_execute 134 = .ok (.iload_n 2, 1) := by decide +kernel
theorem dX6_execute_135 : decode cX6_execute 135 = .ok (.putfield 127, 3) := by decide +kernel
theorem dX6_execute_138 : decode cX6_execute 138 = .ok (.goto 96, 3) := by decide +kernel
theorem dX6_execute_141 : decode cX6_execute 141 = .ok (.iconst 0, 1) := by decide +kernel
theorem dX6_execute_142 : decode cX6_execute 142 = .ok (.istore 6, 2) := by decide +kernel
theorem dX6_execute_144 : decode cX6_execute 144 = .ok (.iload 6, 2) := by decide +kernel
theorem dX6_execute_146 : decode cX6_execute 146 = .ok (.iload_n 2, 1) := by decide +kernel
theorem dX6_execute_147 : decode cX6_execute 147 = .ok (.if_icmp .ge 17, 3) := by decide +kernel
theorem dX6_execute_150 : decode cX6_execute 150 = .ok (.aload 4, 2) := by decide +kernel
theorem dX6_execute_152 : decode cX6_execute 152 = .ok (.aload 5, 2) := by decide +kernel
theorem dX6_execute_154 : decode cX6_execute 154 = .ok (.invokevirtual 130, 3) := by decide +kernel
theorem dX6_execute_157 : decode cX6_execute 157 = .ok (.pop, 1) := by decide +kernel
theorem dX6_execute_158 : decode cX6_execute 158 = .ok (.iinc 6 1, 3) := by decide +kernel
theorem dX6_execute_161 : decode cX6_execute 161 = .ok (.goto (-17), 3) := by decide +kernel
theorem dX6_execute_164 : decode cX6_execute 164 = .ok (.goto 70, 3) := by decide +kernel
theorem dX6_execute_167 : decode cX6_execute 167 = .ok (.aload 4, 2) := by decide +kernel
theorem dX6_execute_169 : decode cX6_execute 169 = .ok (.getfield 134, 3) := by decide +kernel
theorem dX6_execute_172 : decode cX6_execute 172 = .ok (.iload_n 2, 1) := by decide +kernel
theorem dX6_execute_173 : decode cX6_execute 173 = .ok (.iload_n 3, 1) := by decide +kernel
theorem dX6_execute_174 : decode cX6_execute 174 = .ok (.iastore, 1) := by decide +kernel
theorem dX6_execute_175 : decode cX6_execute 175 = .ok (.goto 59, 3) := by decide +kernel
theorem dX6_execute_178 : decode cX6_execute 178 = .ok (.aload 4, 2) := by decide +kernel
theorem dX6_execute_180 : decode cX6_execute 180 = .ok (.getfield 137, 3) := by decide +kernel
theorem dX6_execute_183 : decode cX6_execute 183 = .ok (.iload_n 2, 1) := by decide +kernel
theorem dX6_execute_184 : decode cX6_execute 184 = .ok (.iload_n 3, 1) := by decide +kernel
theorem dX6_execute_185 : decode cX6_execute 185 = .ok (.iastore, 1) := by decide +kernel
theorem dX6_execute_186 : decode cX6_execute 186 = .ok (.goto 48, 3) := by decide +kernel
theorem dX6_execute_189 : decode cX6_execute 189 = .ok (.aload 4, 2) := by decide +kernel
theorem dX6_execute_191 : decode cX6_execute 191 = .ok (.invokevirtual 140, 3) := by decide +kernel
theorem dX6_execute_194 : decode cX6_execute 194 = .ok (.ifCond .ge 9, 3) := by decide +kernel
theorem dX6_execute_197 : decode cX6_execute 197 = .ok (.aload_n 0, 1) := by decide +kernel
theorem dX6_execute_198 : decode cX6_execute 198 = .ok (.iconst 3, 1) := by decide +kernel
theorem dX6_execute_199 : decode cX6_execute 199 = .ok (.invokevirtual 46, 3) := by decide +kernel
theorem dX6_execute_202 : decode cX6_execute 202 = .ok (.ireturn, 1) := by decide +kernel
theorem dX6_execute_203 : decode cX6_execute 203 = .ok (.aload 5, 2) := by decide +kernel
theorem dX6_execute_205 : decode cX6_execute 205 = .ok (.aload 4, 2) := by decide +kernel
theorem dX6_execute_207 : decode cX6_execute 207 = .ok (.aload 4, 2) := by decide +kernel
theorem dX6_execute_209 : decode cX6_execute 209 = .ok (.getfield 127, 3) := by decide +kernel
theorem dX6_execute_212 : decode cX6_execute 212 = .ok (.invokevirtual 143, 3) := by decide +kernel
theorem dX6_execute_215 : decode cX6_execute 215 = .ok (.aload 4, 2) := by decide +kernel
theorem dX6_execute_217 : decode cX6_execute 217 = .ok (.aload 5, 2) := by decide +kernel
theorem dX6_execute_219 : decode cX6_execute 219 = .ok (.aload 4, 2) := by decide +kernel
theorem dX6_execute_221 : decode cX6_execute 221 = .ok (.getfield 127, 3) := by decide +kernel
theorem dX6_execute_224 : decode cX6_execute 224 = .ok (.invokevirtual 149, 3) := by decide +kernel
theorem dX6_execute_227 : decode cX6_execute 227 = .ok (.invokestatic 153, 3) := by decide +kernel
theorem dX6_execute_230 : decode cX6_execute 230 = .ok (.invokevirtual 157, 3) := by decide +kernel
theorem dX6_execute_233 : decode cX6_execute 233 = .ok (.pop, 1) := by decide +kernel
theorem dX6_execute_234 : decode cX6_execute 234 = .ok (.iconst 1, 1) := by decide +kernel
theorem dX6_execute_235 : decode cX6_execute 235 = .ok (.ireturn, 1) := by decide +kernel
theorem dX6_readArgument_0 : decode cX6_readArgument 0 = .ok (.iload_n 1, 1) := by decide +kernel
theorem dX6_readArgument_1 : decode cX6_readArgument 1 = .ok (.tableswitch 80 1 5 #[35, 47, 55, 64, 72], 35) := by decide +kernel
theorem dX6_readArgument_36 : decode cX6_readArgument 36 = .ok (.aload_n 0, 1) := by decide +kernel
theorem dX6_readArgument_37 : decode cX6_readArgument 37 = .ok (.iconst 0, 1) := by decide +kernel
theorem dX6_readArgument_38 : decode cX6_readArgument 38 = .ok (.aload_n 2, 1) := by decide +kernel
theorem dX6_readArgument_39 : decode cX6_readArgument 39 = .ok (.getfield 114, 3) := by decide +kernel
theorem dX6_readArgument_42 : decode cX6_readArgument 42 = .ok (.iconst 1, 1) := by decide +kernel
theorem dX6_readArgument_43 : decode cX6_readArgument 43 = .ok (.isub, 1) := by decide +kernel
theorem dX6_readArgument_44 : decode cX6_readArgument 44 = .ok (.invokevirtual 50, 3) := by decide +kernel
theorem dX6_readArgument_47 : decode cX6_readArgument 47 = .ok (.ireturn, 1) := by decide +kernel
theorem dX6_readArgument_48 : decode cX6_readArgument 48 = .ok (.aload_n 0, 1) := by decide +kernel
theorem dX6_readArgument_49 : decode cX6_readArgument 49 = .ok (.iconst 1, 1) := by decide +kernel
theorem dX6_readArgument_50 : decode cX6_readArgument 50 = .ok (.bipush 60, 2) := by decide +kernel
theorem dX6_readArgument_52 : decode cX6_readArgument 52 = .ok (.invokevirtual 50, 3) := by decide +kernel
theorem dX6_readArgument_55 : decode cX6_readArgument 55 = .ok (.ireturn, 1) := by decide +kernel
theorem dX6_readArgument_56 : decode cX6_readArgument 56 = .ok (.aload_n 0, 1) := by decide +kernel
theorem dX6_readArgument_57 : decode cX6_readArgument 57 = .ok (.iconst 0, 1) := by decide +kernel
theorem dX6_readArgument_58 : decode cX6_readArgument 58 = .ok (.sipush 999, 3) := by decide +kernel
theorem dX6_readArgument_61 : decode cX6_readArgument 61 = .ok (.invokevirtual 50, 3) := by decide +kernel
theorem dX6_readArgument_64 : decode cX6_readArgument 64 = .ok (.ireturn, 1) := by decide +kernel
theorem dX6_readArgument_65 : decode cX6_readArgument 65 = .ok (.aload_n 0, 1) := by decide +kernel
theorem dX6_readArgument_66 : decode cX6_readArgument 66 = .ok (.iconst 0, 1) := by decide +kernel
theorem dX6_readArgument_67 : decode cX6_readArgument 67 = .ok (.bipush 100, 2) := by decide +kernel
theorem dX6_readArgument_69 : decode cX6_readArgument 69 = .ok (.invokevirtual 50, 3) := by decide +kernel
theorem dX6_readArgument_72 : decode cX6_readArgument 72 = .ok (.ireturn, 1) := by decide +kernel
theorem dX6_readArgument_73 : decode cX6_readArgument 73 = .ok (.aload_n 0, 1) := by decide +kernel
theorem dX6_readArgument_74 : decode cX6_readArgument 74 = .ok (.iconst 1, 1) := by decide +kernel
theorem dX6_readArgument_75 : decode cX6_readArgument 75 = .ok (.bipush 50, 2) := by decide +kernel
theorem dX6_readArgument_77 : decode cX6_readArgument 77 = .ok (.invokevirtual 50, 3) := by decide +kernel
theorem dX6_readArgument_80 : decode cX6_readArgument 80 = .ok (.ireturn, 1) := by decide +kernel
theorem dX6_readArgument_81 : decode cX6_readArgument 81 = .ok (.iconst 0, 1) := by decide +kernel
theorem dX6_readArgument_82 : decode cX6_readArgument 82 = .ok (.ireturn, 1) := by decide +kernel
theorem dX6_readNumber_0 : decode cX6_readNumber 0 = .ok (.aload_n 0, 1) := by decide +kernel
theorem dX6_readNumber_1 : decode cX6_readNumber 1 = .ok (.invokevirtual 37, 3) := by decide +kernel
theorem dX6_readNumber_4 : decode cX6_readNumber 4 = .ok (.aload_n 0, 1) := by decide +kernel
theorem dX6_readNumber_5 : decode cX6_readNumber 5 = .ok (.getfield 28, 3) := by decide +kernel
theorem dX6_readNumber_8 : decode cX6_readNumber 8 = .ok (.iconst 2, 1) := by decide +kernel
theorem dX6_readNumber_9 : decode cX6_readNumber 9 = .ok (.if_icmp .eq 11, 3) := by decide +kernel
theorem dX6_readNumber_12 : decode cX6_readNumber 12 = .ok (.aload_n 0, 1) := by decide +kernel
theorem dX6_readNumber_13 : decode cX6_readNumber 13 = .ok (.iconst 1, 1) := by decide +kernel
theorem dX6_readNumber_14 : decode cX6_readNumber 14 = .ok (.invokevirtual 46, 3) := by decide +kernel
theorem dX6_readNumber_17 : decode cX6_readNumber 17 = .ok (.pop, 1) := by decide +kernel
theorem dX6_readNumber_18 : decode cX6_readNumber 18 = .ok (.iconst (-1), 1) := by decide +kernel
theorem dX6_readNumber_19 : decode cX6_readNumber 19 = .ok (.ireturn, 1) := by decide +kernel
theorem dX6_readNumber_20 : decode cX6_readNumber 20 = .ok (.iconst 0, 1) := by decide +kernel
theorem dX6_readNumber_21 : decode cX6_readNumber 21 = .ok (.istore_n 3, 1) := by decide +kernel
theorem dX6_readNumber_22 : decode cX6_readNumber 22 = .ok (.aload_n 0, 1) := by decide +kernel
theorem dX6_readNumber_23 : decode cX6_readNumber 23 = .ok (.getfield 31, 3) := by decide +kernel
theorem dX6_readNumber_26 : decode cX6_readNumber 26 = .ok (.istore 4, 2) := by decide +kernel
theorem dX6_readNumber_28 : decode cX6_readNumber 28 = .ok (.iload 4, 2) := by decide +kernel
theorem dX6_readNumber_30 : decode cX6_readNumber 30 = .ok (.aload_n 0, 1) := by decide +kernel
theorem dX6_readNumber_31 : decode cX6_readNumber 31 = .ok (.getfield 25, 3) := by decide +kernel
theorem dX6_readNumber_34 : decode cX6_readNumber 34 = .ok (.if_icmp .ge 25, 3) := by decide +kernel
theorem dX6_readNumber_37 : decode cX6_readNumber 37 = .ok (.iload_n 3, 1) := by decide +kernel
theorem dX6_readNumber_38 : decode cX6_readNumber 38 = .ok (.bipush 10, 2) := by decide +kernel
theorem dX6_readNumber_40 : decode cX6_readNumber 40 = .ok (.imul, 1) := by decide +kernel
theorem dX6_readNumber_41 : decode cX6_readNumber 41 = .ok (.aload_n 0, 1) := by decide +kernel
theorem dX6_readNumber_42 : decode cX6_readNumber 42 = .ok (.getfield 9, 3) := by decide +kernel
theorem dX6_readNumber_45 : decode cX6_readNumber 45 = .ok (.iload 4, 2) := by decide +kernel
theorem dX6_readNumber_47 : decode cX6_readNumber 47 = .ok (.baload, 1) := by decide +kernel
theorem dX6_readNumber_48 : decode cX6_readNumber 48 = .ok (.iadd, 1) := by decide +kernel
theorem dX6_readNumber_49 : decode cX6_readNumber 49 = .ok (.bipush 48, 2) := by decide +kernel
theorem dX6_readNumber_51 : decode cX6_readNumber 51 = .ok (.isub, 1) := by decide +kernel
theorem dX6_readNumber_52 : decode cX6_readNumber 52 = .ok (.istore_n 3, 1) := by decide +kernel
theorem dX6_readNumber_53 : decode cX6_readNumber 53 = .ok (.iinc 4 1, 3) := by decide +kernel
theorem dX6_readNumber_56 : decode cX6_readNumber 56 = .ok (.goto (-28), 3) := by decide +kernel
theorem dX6_readNumber_59 : decode cX6_readNumber 59 = .ok (.iload_n 3, 1) := by decide +kernel
theorem dX6_readNumber_60 : decode cX6_readNumber 60 = .ok (.iload_n 1, 1) := by decide +kernel
theorem dX6_readNumber_61 : decode cX6_readNumber 61 = .ok (.if_icmp .lt 8, 3) := by decide +kernel
theorem dX6_readNumber_64 : decode cX6_readNumber 64 = .ok (.iload_n 3, 1) := by decide +kernel
theorem dX6_readNumber_65 : decode cX6_readNumber 65 = .ok (.iload_n 2, 1) := by decide +kernel
theorem dX6_readNumber_66 : decode cX6_readNumber 66 = .ok (.if_icmp .le 11, 3) := by decide +kernel
theorem dX6_readNumber_69 : decode cX6_readNumber 69 = .ok (.aload_n 0, 1) := by decide +kernel
theorem dX6_readNumber_70 : decode cX6_readNumber 70 = .ok (.iconst 2, 1) := by decide +kernel
theorem dX6_readNumber_71 : decode cX6_readNumber 71 = .ok (.invokevirtual 46, 3) := by decide +kernel
theorem dX6_readNumber_74 : decode cX6_readNumber 74 = .ok (.pop, 1) := by decide +kernel
theorem dX6_readNumber_75 : decode cX6_readNumber 75 = .ok (.iconst (-1), 1) := by decide +kernel
theorem dX6_readNumber_76 : decode cX6_readNumber 76 = .ok (.ireturn, 1) := by decide +kernel
theorem dX6_readNumber_77 : decode cX6_readNumber 77 = .ok (.iload_n 3, 1) := by decide +kernel
theorem dX6_readNumber_78 : decode cX6_readNumber 78 = .ok (.ireturn, 1) := by decide +kernel
theorem dX6_expect_0 : decode cX6_expect 0 = .ok (.aload_n 0, 1) := by decide +kernel
theorem dX6_expect_1 : decode cX6_expect 1 = .ok (.invokevirtual 37, 3) := by decide +kernel
theorem dX6_expect_4 : decode cX6_expect 4 = .ok (.aload_n 0, 1) := by decide +kernel
theorem dX6_expect_5 : decode cX6_expect 5 = .ok (.getfield 28, 3) := by decide +kernel
theorem dX6_expect_8 : decode cX6_expect 8 = .ok (.iload_n 1, 1) := by decide +kernel
theorem dX6_expect_9 : decode cX6_expect 9 = .ok (.if_icmp .eq 11, 3) := by decide +kernel
theorem dX6_expect_12 : decode cX6_expect 12 = .ok (.aload_n 0, 1) := by decide +kernel
theorem dX6_expect_13 : decode cX6_expect 13 = .ok (.iconst 1, 1) := by decide +kernel
theorem dX6_expect_14 : decode cX6_expect 14 = .ok (.invokevirtual 46, 3) := by decide +kernel
theorem dX6_expect_17 : decode cX6_expect 17 = .ok (.ifCond .eq 7, 3) := by decide +kernel
theorem dX6_expect_20 : decode cX6_expect 20 = .ok (.iconst 1, 1) := by decide +kernel
theorem dX6_expect_21 : decode cX6_expect 21 = .ok (.goto 4, 3) := by decide +kernel
theorem dX6_expect_24 : decode cX6_expect 24 = .ok (.iconst 0, 1) := by decide +kernel
theorem dX6_expect_25 : decode cX6_expect 25 = .ok (.ireturn, 1) := by decide +kernel
theorem dX6_fail_0 : decode cX6_fail 0 = .ok (.aload_n 0, 1) := by decide +kernel
theorem dX6_fail_1 : decode cX6_fail 1 = .ok (.iload_n 1, 1) := by decide +kernel
theorem dX6_fail_2 : decode cX6_fail 2 = .ok (.putfield 19, 3) := by decide +kernel
theorem dX6_fail_5 : decode cX6_fail 5 = .ok (.aload_n 0, 1) := by decide +kernel
theorem dX6_fail_6 : decode cX6_fail 6 = .ok (.aload_n 0, 1) := by decide +kernel
theorem dX6_fail_7 : decode cX6_fail 7 = .ok (.getfield 31, 3) := by decide +kernel
theorem dX6_fail_10 : decode cX6_fail 10 = .ok (.putfield 22, 3) := by decide +kernel
theorem dX6_fail_13 : decode cX6_fail 13 = .ok (.iconst 0, 1) := by decide +kernel
theorem dX6_fail_14 : decode cX6_fail 14 = .ok (.ireturn, 1) := by decide +kernel
theorem dX6_readToken_0 : decode cX6_readToken 0 = .ok (.aload_n 0, 1) := by decide +kernel
theorem dX6_readToken_1 : decode cX6_readToken 1 = .ok (.getfield 25, 3) := by decide +kernel
theorem dX6_readToken_4 : decode cX6_readToken 4 = .ok (.aload_n 0, 1) := by decide +kernel
theorem dX6_readToken_5 : decode cX6_readToken 5 = .ok (.getfield 15, 3) := by decide +kernel
theorem dX6_readToken_8 : decode cX6_readToken 8 = .ok (.if_icmp .ge 44, 3) := by decide +kernel
theorem dX6_readToken_11 : decode cX6_readToken 11 = .ok (.aload_n 0, 1) := by decide +kernel
theorem dX6_readToken_12 : decode cX6_readToken 12 = .ok (.getfield 9, 3) := by decide +kernel
theorem dX6_readToken_15 : decode cX6_readToken 15 = .ok (.aload_n 0, 1) := by decide +kernel
theorem dX6_readToken_16 : decode cX6_readToken 16 = .ok (.getfield 25, 3) := by decide +kernel
theorem dX6_readToken_19 : decode cX6_readToken 19 = .ok (.baload, 1) := by decide +kernel
theorem dX6_readToken_20 : decode cX6_readToken 20 = .ok (.bipush 32, 2) := by decide +kernel
theorem dX6_readToken_22 : decode cX6_readToken 22 = .ok (.if_icmp .eq 17, 3) := by decide +kernel
theorem dX6_readToken_25 : decode cX6_readToken 25 = .ok (.aload_n 0, 1) := by decide +kernel
theorem dX6_readToken_26 : decode cX6_readToken 26 = .ok (.getfield 9, 3) := by decide +kernel
theorem dX6_readToken_29 : decode cX6_readToken 29 = .ok (.aload_n 0, 1) := by decide +kernel
theorem dX6_readToken_30 : decode cX6_readToken 30 = .ok (.getfield 25, 3) := by decide +kernel
theorem dX6_readToken_33 : decode cX6_readToken 33 = .ok (.baload, 1) := by decide +kernel
theorem dX6_readToken_34 : decode cX6_readToken 34 = .ok (.bipush 10, 2) := by decide +kernel
theorem dX6_readToken_36 : decode cX6_readToken 36 = .ok (.if_icmp .ne 16, 3) := by decide +kernel
theorem dX6_readToken_39 : decode cX6_readToken 39 = .ok (.aload_n 0, 1) := by decide +kernel
theorem dX6_readToken_40 : decode cX6_readToken 40 = .ok (.dup, 1) := by decide +kernel
theorem dX6_readToken_41 : decode cX6_readToken 41 = .ok (.getfield 25, 3) := by decide +kernel
theorem dX6_readToken_44 : decode cX6_readToken 44 = .ok (.iconst 1, 1) := by decide +kernel
theorem dX6_readToken_45 : decode cX6_readToken 45 = .ok (.iadd, 1) := by decide +kernel
theorem dX6_readToken_46 : decode cX6_readToken 46 = .ok (.putfield 25, 3) := by decide +kernel
theorem dX6_readToken_49 : decode cX6_readToken 49 = .ok (.goto (-49), 3) := by decide +kernel
theorem dX6_readToken_52 : decode cX6_readToken 52 = .ok (.aload_n 0, 1) := by decide +kernel
theorem dX6_readToken_53 : decode cX6_readToken 53 = .ok (.aload_n 0, 1) := by decide +kernel
theorem dX6_readToken_54 : decode cX6_readToken 54 = .ok (.getfield 25, 3) := by decide +kernel
theorem dX6_readToken_57 : decode cX6_readToken 57 = .ok (.putfield 31, 3) := by decide +kernel
theorem dX6_readToken_60 : decode cX6_readToken 60 = .ok (.aload_n 0, 1) := by decide +kernel
theorem dX6_readToken_61 : decode cX6_readToken 61 = .ok (.getfield 25, 3) := by decide +kernel
theorem dX6_readToken_64 : decode cX6_readToken 64 = .ok (.aload_n 0, 1) := by decide +kernel
theorem dX6_readToken_65 : decode cX6_readToken 65 = .ok (.getfield 15, 3) := by decide +kernel
theorem dX6_readToken_68 : decode cX6_readToken 68 = .ok (.if_icmp .lt 9, 3) := by decide +kernel
theorem dX6_readToken_71 : decode cX6_readToken 71 = .ok (.aload_n 0, 1) := by decide +kernel
theorem dX6_readToken_72 : decode cX6_readToken 72 = .ok (.iconst 0, 1) := by decide +kernel
theorem dX6_readToken_73 : decode cX6_readToken 73 = .ok (.putfield 28, 3) := by decide +kernel
theorem dX6_readToken_76 : decode cX6_readToken 76 = .ok (.return_, 1) := by decide +kernel
theorem dX6_readToken_77 : decode cX6_readToken 77 = .ok (.aload_n 0, 1) := by decide +kernel
theorem dX6_readToken_78 : decode cX6_readToken 78 = .ok (.aload_n 0, 1) := by decide +kernel
theorem dX6_readToken_79 : decode cX6_readToken 79 = .ok (.getfield 9, 3) := by decide +kernel
theorem dX6_readToken_82 : decode cX6_readToken 82 = .ok (.aload_n 0, 1) := by decide +kernel
theorem dX6_readToken_83 : decode cX6_readToken 83 = .ok (.getfield 25, 3) := by decide +kernel
theorem dX6_readToken_86 : decode cX6_readToken 86 = .ok (.baload, 1) := by decide +kernel
theorem dX6_readToken_87 : decode cX6_readToken 87 = .ok (.invokestatic 161, 3) := by decide +kernel
theorem dX6_readToken_90 : decode cX6_readToken 90 = .ok (.putfield 28, 3) := by decide +kernel
theorem dX6_readToken_93 : decode cX6_readToken 93 = .ok (.aload_n 0, 1) := by decide +kernel
theorem dX6_readToken_94 : decode cX6_readToken 94 = .ok (.dup, 1) := by decide +kernel
theorem dX6_readToken_95 : decode cX6_readToken 95 = .ok (.getfield 25, 3) := by decide +kernel
theorem dX6_readToken_98 : decode cX6_readToken 98 = .ok (.iconst 1, 1) := by decide +kernel
theorem dX6_readToken_99 : decode cX6_readToken 99 = .ok (.iadd, 1) := by decide +kernel
theorem dX6_readToken_100 : decode cX6_readToken 100 = .ok (.putfield 25, 3) := by decide +kernel
theorem dX6_readToken_103 : decode cX6_readToken 103 = .ok (.aload_n 0, 1) := by decide +kernel
theorem dX6_readToken_104 : decode cX6_readToken 104 = .ok (.getfield 28, 3) := by decide +kernel
theorem dX6_readToken_107 : decode cX6_readToken 107 = .ok (.iconst 1, 1) := by decide +kernel
theorem dX6_readToken_108 : decode cX6_readToken 108 = .ok (.if_icmp .eq 11, 3) := by decide +kernel
theorem dX6_readToken_111 : decode cX6_readToken 111 = .ok (.aload_n 0, 1) := by decide +kernel
theorem dX6_readToken_112 : decode cX6_readToken 112 = .ok (.getfield 28, 3) := by decide +kernel
theorem dX6_readToken_115 : decode cX6_readToken 115 = .ok (.iconst 2, 1) := by decide +kernel
theorem dX6_readToken_116 : decode cX6_readToken 116 = .ok (.if_icmp .ne 46, 3) := by decide +kernel
theorem dX6_readToken_119 : decode cX6_readToken 119 = .ok (.aload_n 0, 1) := by decide +kernel
theorem dX6_readToken_120 : decode cX6_readToken 120 = .ok (.getfield 25, 3) := by decide +kernel
theorem dX6_readToken_123 : decode cX6_readToken 123 = .ok (.aload_n 0, 1) := by decide +kernel
theorem dX6_readToken_124 : decode cX6_readToken 124 = .ok (.getfield 15, 3) := by decide +kernel
theorem dX6_readToken_127 : decode cX6_readToken 127 = .ok (.if_icmp .ge 35, 3) := by decide +kernel
theorem dX6_readToken_130 : decode cX6_readToken 130 = .ok (.aload_n 0, 1) := by decide +kernel
theorem dX6_readToken_131 : decode cX6_readToken 131 = .ok (.getfield 9, 3) := by decide +kernel
theorem dX6_readToken_134 : decode cX6_readToken 134 = .ok (.aload_n 0, 1) := by decide +kernel
theorem dX6_readToken_135 : decode cX6_readToken 135 = .ok (.getfield 25, 3) := by decide +kernel
theorem dX6_readToken_138 : decode cX6_readToken 138 = .ok (.baload, 1) := by decide +kernel
theorem dX6_readToken_139 : decode cX6_readToken 139 = .ok (.invokestatic 161, 3) := by decide +kernel
theorem dX6_readToken_142 : decode cX6_readToken 142 = .ok (.aload_n 0, 1) := by decide +kernel
theorem dX6_readToken_143 : decode cX6_readToken 143 = .ok (.getfield 28, 3) := by decide +kernel
theorem dX6_readToken_146 : decode cX6_readToken 146 = .ok (.if_icmp .ne 16, 3) := by decide +kernel
theorem dX6_readToken_149 : decode cX6_readToken 149 = .ok (.aload_n 0, 1) := by decide +kernel
theorem dX6_readToken_150 : decode cX6_readToken 150 = .ok (.dup, 1) := by decide +kernel
theorem dX6_readToken_151 : decode cX6_readToken 151 = .ok (.getfield 25, 3) := by decide +kernel
theorem dX6_readToken_154 : decode cX6_readToken 154 = .ok (.iconst 1, 1) := by decide +kernel
theorem dX6_readToken_155 : decode cX6_readToken 155 = .ok (.iadd, 1) := by decide +kernel
theorem dX6_readToken_156 : decode cX6_readToken 156 = .ok (.putfield 25, 3) := by decide +kernel
theorem dX6_readToken_159 : decode cX6_readToken 159 = .ok (.goto (-40), 3) := by decide +kernel
theorem dX6_readToken_162 : decode cX6_readToken 162 = .ok (.aload_n 0, 1) := by decide +kernel
theorem dX6_readToken_163 : decode cX6_readToken 163 = .ok (.getfield 28, 3) := by decide +kernel
theorem dX6_readToken_166 : decode cX6_readToken 166 = .ok (.iconst 2, 1) := by decide +kernel
theorem dX6_readToken_167 : decode cX6_readToken 167 = .ok (.if_icmp .ne 21, 3) := by decide +kernel
theorem dX6_readToken_170 : decode cX6_readToken 170 = .ok (.aload_n 0, 1) := by decide +kernel
theorem dX6_readToken_171 : decode cX6_readToken 171 = .ok (.getfield 25, 3) := by decide +kernel
theorem dX6_readToken_174 : decode cX6_readToken 174 = .ok (.aload_n 0, 1) := by decide +kernel
theorem dX6_readToken_175 : decode cX6_readToken 175 = .ok (.getfield 31, 3) := by decide +kernel
theorem dX6_readToken_178 : decode cX6_readToken 178 = .ok (.isub, 1) := by decide +kernel
theorem dX6_readToken_179 : decode cX6_readToken 179 = .ok (.iconst 4, 1) := by decide +kernel
theorem dX6_readToken_180 : decode cX6_readToken 180 = .ok (.if_icmp .le 8, 3) := by decide +kernel
theorem dX6_readToken_183 : decode cX6_readToken 183 = .ok (.aload_n 0, 1) := by decide +kernel
theorem dX6_readToken_184 : decode cX6_readToken 184 = .ok (.iconst 3, 1) := by decide +kernel
theorem dX6_readToken_185 : decode cX6_readToken 185 = .ok (.putfield 28, 3) := by decide +kernel
theorem dX6_readToken_188 : decode cX6_readToken 188 = .ok (.return_, 1) := by decide +kernel
theorem dX6_isWord_0 : decode cX6_isWord 0 = .ok (.aload_n 0, 1) := by decide +kernel
theorem dX6_isWord_1 : decode cX6_isWord 1 = .ok (.getfield 28, 3) := by decide +kernel
theorem dX6_isWord_4 : decode cX6_isWord 4 = .ok (.iconst 1, 1) := by decide +kernel
theorem dX6_isWord_5 : decode cX6_isWord 5 = .ok (.if_icmp .ne 19, 3) := by decide +kernel
theorem dX6_isWord_8 : decode cX6_isWord 8 = .ok (.aload_n 0, 1) := by decide +kernel
theorem dX6_isWord_9 : decode cX6_isWord 9 = .ok (.getfield 25, 3) := by decide +kernel
theorem dX6_isWord_12 : decode cX6_isWord 12 = .ok (.aload_n 0, 1) := by decide +kernel
theorem dX6_isWord_13 : decode cX6_isWord 13 = .ok (.getfield 31, 3) := by decide +kernel
theorem dX6_isWord_16 : decode cX6_isWord 16 = .ok (.isub, 1) := by decide +kernel
theorem dX6_isWord_17 : decode cX6_isWord 17 = .ok (.aload_n 1, 1) := by decide +kernel
theorem dX6_isWord_18 : decode cX6_isWord 18 = .ok (.invokevirtual 164, 3) := by decide +kernel
theorem dX6_isWord_21 : decode cX6_isWord 21 = .ok (.if_icmp .eq 5, 3) := by decide +kernel
theorem dX6_isWord_24 : decode cX6_isWord 24 = .ok (.iconst 0, 1) := by decide +kernel
theorem dX6_isWord_25 : decode cX6_isWord 25 = .ok (.ireturn, 1) := by decide +kernel
theorem dX6_isWord_26 : decode cX6_isWord 26 = .ok (.iconst 0, 1) := by decide +kernel
theorem dX6_isWord_27 : decode cX6_isWord 27 = .ok (.istore_n 2, 1) := by decide +kernel
theorem dX6_isWord_28 : decode cX6_isWord 28 = .ok (.iload_n 2, 1) := by decide +kernel
theorem dX6_isWord_29 : decode cX6_isWord 29 = .ok (.aload_n 1, 1) := by decide +kernel
theorem dX6_isWord_30 : decode cX6_isWord 30 = .ok (.invokevirtual 164, 3) := by decide +kernel
theorem dX6_isWord_33 : decode cX6_isWord 33 = .ok (.if_icmp .ge 30, 3) := by decide +kernel
theorem dX6_isWord_36 : decode cX6_isWord 36 = .ok (.aload_n 0, 1) := by decide +kernel
theorem dX6_isWord_37 : decode cX6_isWord 37 = .ok (.getfield 9, 3) := by decide +kernel
theorem dX6_isWord_40 : decode cX6_isWord 40 = .ok (.aload_n 0, 1) := by decide +kernel
theorem dX6_isWord_41 : decode cX6_isWord 41 = .ok (.getfield 31, 3) := by decide +kernel
theorem dX6_isWord_44 : decode cX6_isWord 44 = .ok (.iload_n 2, 1) := by decide +kernel
theorem dX6_isWord_45 : decode cX6_isWord 45 = .ok (.iadd, 1) := by decide +kernel
theorem dX6_isWord_46 : decode cX6_isWord 46 = .ok (.baload, 1) := by decide +kernel
theorem dX6_isWord_47 : decode cX6_isWord 47 = .ok (.aload_n 1, 1) := by decide +kernel
theorem dX6_isWord_48 : decode cX6_isWord 48 = .ok (.iload_n 2, 1) := by decide +kernel
theorem dX6_isWord_49 : decode cX6_isWord 49 = .ok (.invokevirtual 168, 3) := by decide +kernel
theorem dX6_isWord_52 : decode cX6_isWord 52 = .ok (.if_icmp .eq 5, 3) := by decide +kernel
theorem dX6_isWord_55 : decode cX6_isWord 55 = .ok (.iconst 0, 1) := by decide +kernel
theorem dX6_isWord_56 : decode cX6_isWord 56 = .ok (.ireturn, 1) := by decide +kernel
theorem dX6_isWord_57 : decode cX6_isWord 57 = .ok (.iinc 2 1, 3) := by decide +kernel
theorem dX6_isWord_60 : decode cX6_isWord 60 = .ok (.goto (-32), 3) := by decide +kernel
theorem dX6_isWord_63 : decode cX6_isWord 63 = .ok (.iconst 1, 1) := by decide +kernel
theorem dX6_isWord_64 : decode cX6_isWord 64 = .ok (.ireturn, 1) := by decide +kernel
theorem dX6_kindOf_0 : decode cX6_kindOf 0 = .ok (.iload_n 0, 1) := by decide +kernel
theorem dX6_kindOf_1 : decode cX6_kindOf 1 = .ok (.bipush 97, 2) := by decide +kernel
theorem dX6_kindOf_3 : decode cX6_kindOf 3 = .ok (.if_icmp .lt 11, 3) := by decide +kernel
theorem dX6_kindOf_6 : decode cX6_kindOf 6 = .ok (.iload_n 0, 1) := by decide +kernel
theorem dX6_kindOf_7 : decode cX6_kindOf 7 = .ok (.bipush 122, 2) := by decide +kernel
theorem dX6_kindOf_9 : decode cX6_kindOf 9 = .ok (.if_icmp .gt 5, 3) := by decide +kernel
theorem dX6_kindOf_12 : decode cX6_kindOf 12 = .ok (.iconst 1, 1) := by decide +kernel
theorem dX6_kindOf_13 : decode cX6_kindOf 13 = .ok (.ireturn, 1) := by decide +kernel
theorem dX6_kindOf_14 : decode cX6_kindOf 14 = .ok (.iload_n 0, 1) := by decide +kernel
theorem dX6_kindOf_15 : decode cX6_kindOf 15 = .ok (.bipush 48, 2) := by decide +kernel
theorem dX6_kindOf_17 : decode cX6_kindOf 17 = .ok (.if_icmp .lt 11, 3) := by decide +kernel
theorem dX6_kindOf_20 : decode cX6_kindOf 20 = .ok (.iload_n 0, 1) := by decide +kernel
theorem dX6_kindOf_21 : decode cX6_kindOf 21 = .ok (.bipush 57, 2) := by decide +kernel
theorem dX6_kindOf_23 : decode cX6_kindOf 23 = .ok (.if_icmp .gt 5, 3) := by decide +kernel
theorem dX6_kindOf_26 : decode cX6_kindOf 26 = .ok (.iconst 2, 1) := by decide +kernel
theorem dX6_kindOf_27 : decode cX6_kindOf 27 = .ok (.ireturn, 1) := by decide +kernel
theorem dX6_kindOf_28 : decode cX6_kindOf 28 = .ok (.iload_n 0, 1) := by decide +kernel
theorem dX6_kindOf_29 : decode cX6_kindOf 29 = .ok (.bipush 40, 2) := by decide +kernel
theorem dX6_kindOf_31 : decode cX6_kindOf 31 = .ok (.if_icmp .eq 15, 3) := by decide +kernel
theorem dX6_kindOf_34 : decode cX6_kindOf 34 = .ok (.iload_n 0, 1) := by decide +kernel
theorem dX6_kindOf_35 : decode cX6_kindOf 35 = .ok (.bipush 41, 2) := by decide +kernel
theorem dX6_kindOf_37 : decode cX6_kindOf 37 = .ok (.if_icmp .eq 9, 3) := by decide +kernel
theorem dX6_kindOf_40 : decode cX6_kindOf 40 = .ok (.iload_n 0, 1) := by decide +kernel
theorem dX6_kindOf_41 : decode cX6_kindOf 41 = .ok (.bipush 59, 2) := by decide +kernel
theorem dX6_kindOf_43 : decode cX6_kindOf 43 = .ok (.if_icmp .ne 7, 3) := by decide +kernel
theorem dX6_kindOf_46 : decode cX6_kindOf 46 = .ok (.iload_n 0, 1) := by decide +kernel
theorem dX6_kindOf_47 : decode cX6_kindOf 47 = .ok (.goto 4, 3) := by decide +kernel
theorem dX6_kindOf_50 : decode cX6_kindOf 50 = .ok (.iconst 3, 1) := by decide +kernel
theorem dX6_kindOf_51 : decode cX6_kindOf 51 = .ok (.ireturn, 1) := by decide +kernel
theorem dX7_init_0 : decode cX7_init 0 = .ok (.aload_n 0, 1) := by decide +kernel
theorem dX7_init_1 : decode cX7_init 1 = .ok (.invokespecial 3, 3) := by decide +kernel
theorem dX7_init_4 : decode cX7_init 4 = .ok (.aload_n 0, 1) := by decide +kernel
theorem dX7_init_5 : decode cX7_init 5 = .ok (.bipush 15, 2) := by decide +kernel
theorem dX7_init_7 : decode cX7_init 7 = .ok (.bipush 101, 2) := by decide +kernel
theorem dX7_init_9 : decode cX7_init 9 = .ok (.multianewarray 9 2, 4) := by decide +kernel
theorem dX7_init_13 : decode cX7_init 13 = .ok (.putfield 11, 3) := by decide +kernel
theorem dX7_init_16 : decode cX7_init 16 = .ok (.aload_n 0, 1) := by decide +kernel
theorem dX7_init_17 : decode cX7_init 17 = .ok (.bipush 14, 2) := by decide +kernel
theorem dX7_init_19 : decode cX7_init 19 = .ok (.newarray .int, 2) := by decide +kernel
theorem dX7_init_21 : decode cX7_init 21 = .ok (.putfield 16, 3) := by decide +kernel
theorem dX7_init_24 : decode cX7_init 24 = .ok (.aload_n 0, 1) := by decide +kernel
theorem dX7_init_25 : decode cX7_init 25 = .ok (.bipush 101, 2) := by decide +kernel
theorem dX7_init_27 : decode cX7_init 27 = .ok (.newarray .int, 2) := by decide +kernel
theorem dX7_init_29 : decode cX7_init 29 = .ok (.putfield 20, 3) := by decide +kernel
theorem dX7_init_32 : decode cX7_init 32 = .ok (.aload_n 0, 1) := by decide +kernel
theorem dX7_init_33 : decode cX7_init 33 = .ok (.iconst 0, 1) := by decide +kernel
theorem dX7_init_34 : decode cX7_init 34 = .ok (.putfield 23, 3) := by decide +kernel
theorem dX7_init_37 : decode cX7_init 37 = .ok (.aload_n 0, 1) := by decide +kernel
theorem dX7_init_38 : decode cX7_init 38 = .ok (.iconst 0, 1) := by decide +kernel
theorem dX7_init_39 : decode cX7_init 39 = .ok (.putfield 27, 3) := by decide +kernel
theorem dX7_init_42 : decode cX7_init 42 = .ok (.aload_n 0, 1) := by decide +kernel
theorem dX7_init_43 : decode cX7_init 43 = .ok (.lconst 0, 1) := by decide +kernel
theorem dX7_init_44 : decode cX7_init 44 = .ok (.putfield 30, 3) := by decide +kernel
theorem dX7_init_47 : decode cX7_init 47 = .ok (.return_, 1) := by decide +kernel
theorem dX7_build_0 : decode cX7_build 0 = .ok (.aload_n 0, 1) := by decide +kernel
theorem dX7_build_1 : decode cX7_build 1 = .ok (.iconst 0, 1) := by decide +kernel
theorem dX7_build_2 : decode cX7_build 2 = .ok (.putfield 23, 3) := by decide +kernel
theorem dX7_build_5 : decode cX7_build 5 = .ok (.aload_n 0, 1) := by decide +kernel
theorem dX7_build_6 : decode cX7_build 6 = .ok (.iconst 0, 1) := by decide +kernel
theorem dX7_build_7 : decode cX7_build 7 = .ok (.putfield 27, 3) := by decide +kernel
theorem dX7_build_10 : decode cX7_build 10 = .ok (.aload_n 0, 1) := by decide +kernel
theorem dX7_build_11 : decode cX7_build 11 = .ok (.lconst 0, 1) := by decide +kernel
theorem dX7_build_12 : decode cX7_build 12 = .ok (.putfield 30, 3) := by decide +kernel
theorem dX7_build_15 : decode cX7_build 15 = .ok (.iconst 0, 1) := by decide +kernel
theorem dX7_build_16 : decode cX7_build 16 = .ok (.istore_n 3, 1) := by decide +kernel
theorem dX7_build_17 : decode cX7_build 17 = .ok (.iload_n 3, 1) := by decide +kernel
theorem dX7_build_18 : decode cX7_build 18 = .ok (.aload_n 1, 1) := by decide +kernel
theorem dX7_build_19 : decode cX7_build 19 = .ok (.getfield 34, 3) := by decide +kernel
theorem dX7_build_22 : decode cX7_build 22 = .ok (.if_icmp .ge 109, 3) := by decide +kernel
theorem dX7_build_25 : decode cX7_build 25 = .ok (.aload_n 1, 1) := by decide +kernel
theorem dX7_build_26 : decode cX7_build 26 = .ok (.iload_n 3, 1) := by decide +kernel
theorem dX7_build_27 : decode cX7_build 27 = .ok (.invokevirtual 39, 3) := by decide +kernel
theorem dX7_build_30 : decode cX7_build 30 = .ok (.aload_n 1, 1) := by decide +kernel
theorem dX7_build_31 : decode cX7_build 31 = .ok (.getfield 43, 3) := by decide +kernel
theorem dX7_build_34 : decode cX7_build 34 = .ok (.iload_n 3, 1) := by decide +kernel
theorem dX7_build_35 : decode cX7_build 35 = .ok (.iaload, 1) := by decide +kernel
theorem dX7_build_36 : decode cX7_build 36 = .ok (.iconst 1, 1) := by decide +kernel
theorem dX7_build_37 : decode cX7_build 37 = .ok (.iload_n 3, 1) := by decide +kernel
theorem dX7_build_38 : decode cX7_build 38 = .ok (.ishl, 1) := by decide +kernel
theorem dX7_build_39 : decode cX7_build 39 = .ok (.invokestatic 46, 3) := by decide +kernel
theorem dX7_build_42 : decode cX7_build 42 = .ok (.lstore 4, 2) := by decide +kernel
theorem dX7_build_44 : decode cX7_build 44 = .ok (.aload_n 1, 1) := by decide +kernel
theorem dX7_build_45 : decode cX7_build 45 = .ok (.getfield 50, 3) := by decide +kernel
theorem dX7_build_48 : decode cX7_build 48 = .ok (.iload_n 3, 1) := by decide +kernel
theorem dX7_build_49 : decode cX7_build 49 = .ok (.iaload, 1) := by decide +kernel
theorem dX7_build_50 : decode cX7_build 50 = .ok (.iconst 1, 1) := by decide +kernel
theorem dX7_build_51 : decode cX7_build 51 = .ok (.if_icmp .ne 32, 3) := by decide +kernel
theorem dX7_build_54 : decode cX7_build 54 = .ok (.aload_n 0, 1) := by decide +kernel
theorem dX7_build_55 : decode cX7_build 55 = .ok (.dup, 1) := by decide +kernel
theorem dX7_build_56 : decode cX7_build 56 = .ok (.getfield 27, 3) := by decide +kernel
theorem dX7_build_59 : decode cX7_build 59 = .ok (.aload_n 1, 1) := by decide +kernel
theorem dX7_build_60 : decode cX7_build 60 = .ok (.getfield 43, 3) := by decide +kernel
theorem dX7_build_63 : decode cX7_build 63 = .ok (.iload_n 3, 1) := by decide +kernel
theorem dX7_build_64 : decode cX7_build 64 = .ok (.iaload, 1) := by decide +kernel
theorem dX7_build_65 : decode cX7_build 65 = .ok (.iadd, 1) := by decide +kernel
theorem dX7_build_66 : decode cX7_build 66 = .ok (.putfield 27, 3) := by decide +kernel
theorem dX7_build_69 : decode cX7_build 69 = .ok (.aload_n 0, 1) := by decide +kernel
theorem dX7_build_70 : decode cX7_build 70 = .ok (.dup, 1) := by decide +kernel
theorem dX7_build_71 : decode cX7_build 71 = .ok (.getfield 30, 3) := by decide +kernel
theorem dX7_build_74 : decode cX7_build 74 = .ok (.lload 4, 2) := by decide +kernel
theorem dX7_build_76 : decode cX7_build 76 = .ok (.ladd, 1) := by decide +kernel
theorem dX7_build_77 : decode cX7_build 77 = .ok (.putfield 30, 3) := by decide +kernel
theorem dX7_build_80 : decode cX7_build 80 = .ok (.goto 45, 3) := by decide +kernel
theorem dX7_build_83 : decode cX7_build 83 = .ok (.aload_n 1, 1) := by decide +kernel
theorem dX7_build_84 : decode cX7_build 84 = .ok (.getfield 50, 3) := by decide +kernel
theorem dX7_build_87 : decode cX7_build 87 = .ok (.iload_n 3, 1) := by decide +kernel
theorem dX7_build_88 : decode cX7_build 88 = .ok (.iaload, 1) := by decide +kernel
theorem dX7_build_89 : decode cX7_build 89 = .ok (.ifCond .ne 36, 3) := by decide +kernel
theorem dX7_build_92 : decode cX7_build 92 = .ok (.aload_n 0, 1) := by decide +kernel
theorem dX7_build_93 : decode cX7_build 93 = .ok (.getfield 16, 3) := by decide +kernel
theorem dX7_build_96 : decode cX7_build 96 = .ok (.aload_n 0, 1) := by decide +kernel
theorem dX7_build_97 : decode cX7_build 97 = .ok (.getfield 23, 3) := by decide +kernel
theorem dX7_build_100 : decode cX7_build 100 = .ok (.iload_n 3, 1) := by decide +kernel
theorem dX7_build_101 : decode cX7_build 101 = .ok (.iastore, 1) := by decide +kernel
theorem dX7_build_102 : decode cX7_build 102 = .ok (.aload_n 0, 1) := by decide +kernel
theorem dX7_build_103 : decode cX7_build 103 = .ok (.dup, 1) := by decide +kernel
theorem dX7_build_104 : decode cX7_build 104 = .ok (.getfield 23, 3) := by decide +kernel
theorem dX7_build_107 : decode cX7_build 107 = .ok (.iconst 1, 1) := by decide +kernel
theorem dX7_build_108 : decode cX7_build 108 = .ok (.iadd, 1) := by decide +kernel
theorem dX7_build_109 : decode cX7_build 109 = .ok (.putfield 23, 3) := by decide +kernel
theorem dX7_build_112 : decode cX7_build 112 = .ok (.aload_n 0, 1) := by decide +kernel
theorem dX7_build_113 : decode cX7_build 113 = .ok (.aload_n 1, 1) := by decide +kernel
theorem dX7_build_114 : decode cX7_build 114 = .ok (.getfield 43, 3) := by decide +kernel
theorem dX7_build_117 : decode cX7_build 117 = .ok (.iload_n 3, 1) := by decide +kernel
theorem dX7_build_118 : decode cX7_build 118 = .ok (.iaload, 1) := by decide +kernel
theorem dX7_build_119 : decode cX7_build 119 = .ok (.lload 4, 2) := by decide +kernel
theorem dX7_build_121 : decode cX7_build 121 = .ok (.iload_n 2, 1) := by decide +kernel
theorem dX7_build_122 : decode cX7_build 122 = .ok (.invokevirtual 53, 3) := by decide +kernel
theorem dX7_build_125 : decode cX7_build 125 = .ok (.iinc 3 1, 3) := by decide +kernel
theorem dX7_build_128 : decode cX7_build 128 = .ok (.goto (-111), 3) := by decide +kernel
theorem dX7_build_131 : decode cX7_build 131 = .ok (.return_, 1) := by decide +kernel
theorem dX7_buildRow_0 : decode cX7_buildRow 0 = .ok (.aload_n 0, 1) := by decide +kernel
theorem dX7_buildRow_1 : decode cX7_buildRow 1 = .ok (.getfield 11, 3) := by decide +kernel
theorem dX7_buildRow_4 : decode cX7_buildRow 4 = .ok (.aload_n 0, 1) := by decide +kernel
theorem dX7_buildRow_5 : decode cX7_buildRow 5 = .ok (.getfield 23, 3) := by decide +kernel
theorem dX7_buildRow_8 : decode cX7_buildRow 8 = .ok (.iconst 1, 1) := by decide +kernel
theorem dX7_buildRow_9 : decode cX7_buildRow 9 = .ok (.isub, 1) := by decide +kernel
theorem dX7_buildRow_10 : decode cX7_buildRow 10 = .ok (.aaload, 1) := by decide +kernel
theorem dX7_buildRow_11 : decode cX7_buildRow 11 = .ok (.astore 5, 2) := by decide +kernel
theorem dX7_buildRow_13 : decode cX7_buildRow 13 = .ok (.aload_n 0, 1) := by decide +kernel
theorem dX7_buildRow_14 : decode cX7_buildRow 14 = .ok (.getfield 11, 3) := by decide +kernel
theorem dX7_buildRow_17 : decode cX7_buildRow 17 = .ok (.aload_n 0, 1) := by decide +kernel
theorem dX7_buildRow_18 : decode cX7_buildRow 18 = .ok (.getfield 23, 3) := by decide +kernel
theorem dX7_buildRow_21 : decode cX7_buildRow 21 = .ok (.aaload, 1) := by decide +kernel
theorem dX7_buildRow_22 : decode cX7_buildRow 22 = .ok (.astore 6, 2) := by decide +kernel
theorem dX7_buildRow_24 : decode cX7_buildRow 24 = .ok (.iconst 0, 1) := by decide +kernel
theorem dX7_buildRow_25 : decode cX7_buildRow 25 = .ok (.istore 7, 2) := by decide +kernel
theorem dX7_buildRow_27 : decode cX7_buildRow 27 = .ok (.iload 7, 2) := by decide +kernel
theorem dX7_buildRow_29 : decode cX7_buildRow 29 = .ok (.iload 4, 2) := by decide +kernel
theorem dX7_buildRow_31 : decode cX7_buildRow 31 = .ok (.if_icmp .gt 55, 3) := by decide +kernel
theorem dX7_buildRow_34 : decode cX7_buildRow 34 = .ok (.aload 5, 2) := by decide +kernel
theorem dX7_buildRow_36 : decode cX7_buildRow 36 = .ok (.iload 7, 2) := by decide +kernel
theorem dX7_buildRow_38 : decode cX7_buildRow 38 = .ok (.laload, 1) := by decide +kernel
theorem dX7_buildRow_39 : decode cX7_buildRow 39 = .ok (.lstore 8, 2) := by decide +kernel
theorem dX7_buildRow_41 : decode cX7_buildRow 41 = .ok (.iload 7, 2) := by decide +kernel
theorem dX7_buildRow_43 : decode cX7_buildRow 43 = .ok (.iload_n 1, 1) := by decide +kernel
theorem dX7_buildRow_44 : decode cX7_buildRow 44 = .ok (.if_icmp .lt 29, 3) := by decide +kernel
theorem dX7_buildRow_47 : decode cX7_buildRow 47 = .ok (.aload 5, 2) := by decide +kernel
theorem dX7_buildRow_49 : decode cX7_buildRow 49 = .ok (.iload 7, 2) := by decide +kernel
theorem dX7_buildRow_51 : decode cX7_buildRow 51 = .ok (.iload_n 1, 1) := by decide +kernel
theorem dX7_buildRow_52 : decode cX7_buildRow 52 = .ok (.isub, 1) := by decide +kernel
theorem dX7_buildRow_53 : decode cX7_buildRow 53 = .ok (.laload, 1) := by decide +kernel
theorem dX7_buildRow_54 : decode cX7_buildRow 54 = .ok (.lload_n 2, 1) := by decide +kernel
theorem dX7_buildRow_55 : decode cX7_buildRow 55 = .ok (.ladd, 1) := by decide +kernel
theorem dX7_buildRow_56 : decode cX7_buildRow 56 = .ok (.lload 8, 2) := by decide +kernel
theorem dX7_buildRow_58 : decode cX7_buildRow 58 = .ok (.lcmp, 1) := by decide +kernel
theorem dX7_buildRow_59 : decode cX7_buildRow 59 = .ok (.ifCond .le 14, 3) := by decide +kernel
theorem dX7_buildRow_62 : decode cX7_buildRow 62 = .ok (.aload 5, 2) := by decide +kernel
theorem dX7_buildRow_64 : decode cX7_buildRow 64 = .ok (.iload 7, 2) := by decide +kernel
theorem dX7_buildRow_66 : decode cX7_buildRow 66 = .ok (.iload_n 1, 1) := by decide +kernel
theorem dX7_buildRow_67 : decode cX7_buildRow 67 = .ok (.isub, 1) := by decide +kernel
theorem dX7_buildRow_68 : decode cX7_buildRow 68 = .ok (.laload, 1) := by decide +kernel
theorem dX7_buildRow_69 : decode cX7_buildRow 69 = .ok (.lload_n 2, 1) := by decide +kernel
theorem dX7_buildRow_70 : decode cX7_buildRow 70 = .ok (.ladd, 1) := by decide +kernel
theorem dX7_buildRow_71 : decode cX7_buildRow 71 = .ok (.lstore 8, 2) := by decide +kernel
theorem dX7_buildRow_73 : decode cX7_buildRow 73 = .ok (.aload 6, 2) := by decide +kernel
theorem dX7_buildRow_75 : decode cX7_buildRow 75 = .ok (.iload 7, 2) := by decide +kernel
theorem dX7_buildRow_77 : decode cX7_buildRow 77 = .ok (.lload 8, 2) := by decide +kernel
theorem dX7_buildRow_79 : decode cX7_buildRow 79 = .ok (.lastore, 1) := by decide +kernel
theorem dX7_buildRow_80 : decode cX7_buildRow 80 = .ok (.iinc 7 1, 3) := by decide +kernel
theorem dX7_buildRow_83 : decode cX7_buildRow 83 = .ok (.goto (-56), 3) := by decide +kernel
theorem dX7_buildRow_86 : decode cX7_buildRow 86 = .ok (.return_, 1) := by decide +kernel
theorem dX7_cellWeight_0 : decode cX7_cellWeight 0 = .ok (.aload_n 0, 1) := by decide +kernel
theorem dX7_cellWeight_1 : decode cX7_cellWeight 1 = .ok (.getfield 11, 3) := by decide +kernel
theorem dX7_cellWeight_4 : decode cX7_cellWeight 4 = .ok (.iload_n 1, 1) := by decide +kernel
theorem dX7_cellWeight_5 : decode cX7_cellWeight 5 = .ok (.aaload, 1) := by decide +kernel
theorem dX7_cellWeight_6 : decode cX7_cellWeight 6 = .ok (.iload_n 2, 1) := by decide +kernel
theorem dX7_cellWeight_7 : decode cX7_cellWeight 7 = .ok (.laload, 1) := by decide +kernel
theorem dX7_cellWeight_8 : decode cX7_cellWeight 8 = .ok (.invokestatic 57, 3) := by decide +kernel
theorem dX7_cellWeight_11 : decode cX7_cellWeight 11 = .ok (.ireturn, 1) := by decide +kernel
theorem dX7_bestFor_0 : decode cX7_bestFor 0 = .ok (.iload_n 1, 1) := by decide +kernel
theorem dX7_bestFor_1 : decode cX7_bestFor 1 = .ok (.aload_n 0, 1) := by decide +kernel
theorem dX7_bestFor_2 : decode cX7_bestFor 2 = .ok (.getfield 27, 3) := by decide +kernel
theorem dX7_bestFor_5 : decode cX7_bestFor 5 = .ok (.isub, 1) := by decide +kernel
theorem dX7_bestFor_6 : decode cX7_bestFor 6 = .ok (.istore_n 2, 1) := by decide +kernel
theorem dX7_bestFor_7 : decode cX7_bestFor 7 = .ok (.iload_n 2, 1) := by decide +kernel
theorem dX7_bestFor_8 : decode cX7_bestFor 8 = .ok (.ifCond .ge 9, 3) := by decide +kernel
theorem dX7_bestFor_11 : decode cX7_bestFor 11 = .ok (.ldc2_w 61, 3) := by decide +kernel
theorem dX7_bestFor_14 : decode cX7_bestFor 14 = .ok (.goto 19, 3) := by decide +kernel
theorem dX7_bestFor_17 : decode cX7_bestFor 17 = .ok (.aload_n 0, 1) := by decide +kernel
theorem dX7_bestFor_18 : decode cX7_bestFor 18 = .ok (.getfield 30, 3) := by decide +kernel
theorem dX7_bestFor_21 : decode cX7_bestFor 21 = .ok (.aload_n 0, 1) := by decide +kernel
theorem dX7_bestFor_22 : decode cX7_bestFor 22 = .ok (.getfield 11, 3) := by decide +kernel
theorem dX7_bestFor_25 : decode cX7_bestFor 25 = .ok (.aload_n 0, 1) := by decide +kernel
theorem dX7_bestFor_26 : decode cX7_bestFor 26 = .ok (.getfield 23, 3) := by decide +kernel
theorem dX7_bestFor_29 : decode cX7_bestFor 29 = .ok (.aaload, 1) := by decide +kernel
theorem dX7_bestFor_30 : decode cX7_bestFor 30 = .ok (.iload_n 2, 1) := by decide +kernel
theorem dX7_bestFor_31 : decode cX7_bestFor 31 = .ok (.laload, 1) := by decide +kernel
theorem dX7_bestFor_32 : decode cX7_bestFor 32 = .ok (.ladd, 1) := by decide +kernel
theorem dX7_bestFor_33 : decode cX7_bestFor 33 = .ok (.lreturn, 1) := by decide +kernel
theorem dX7_countOptimal_0 : decode cX7_countOptimal 0 = .ok (.aload_n 1, 1) := by decide +kernel
theorem dX7_countOptimal_1 : decode cX7_countOptimal 1 = .ok (.invokevirtual 63, 3) := by decide +kernel
theorem dX7_countOptimal_4 : decode cX7_countOptimal 4 = .ok (.istore_n 2, 1) := by decide +kernel
theorem dX7_countOptimal_5 : decode cX7_countOptimal 5 = .ok (.iconst 0, 1) := by decide +kernel
theorem dX7_countOptimal_6 : decode cX7_countOptimal 6 = .ok (.istore_n 3, 1) := by decide +kernel
theorem dX7_countOptimal_7 : decode cX7_countOptimal 7 = .ok (.iload_n 3, 1) := by decide +kernel
theorem dX7_countOptimal_8 : decode cX7_countOptimal 8 = .ok (.iload_n 2, 1) := by decide +kernel
theorem dX7_countOptimal_9 : decode cX7_countOptimal 9 = .ok (.if_icmp .gt 16, 3) := by decide +kernel
theorem dX7_countOptimal_12 : decode cX7_countOptimal 12 = .ok (.aload_n 0, 1) := by decide +kernel
theorem dX7_countOptimal_13 : decode cX7_countOptimal 13 = .ok (.getfield 20, 3) := by decide +kernel
theorem dX7_countOptimal_16 : decode cX7_countOptimal 16 = .ok (.iload_n 3, 1) := by decide +kernel
theorem dX7_countOptimal_17 : decode cX7_countOptimal 17 = .ok (.iconst 1, 1) := by decide +kernel
theorem dX7_countOptimal_18 : decode cX7_countOptimal 18 = .ok (.iastore, 1) := by decide +kernel
theorem dX7_countOptimal_19 : decode cX7_countOptimal 19 = .ok (.iinc 3 1, 3) := by decide +kernel
theorem dX7_countOptimal_22 : decode cX7_countOptimal 22 = .ok (.goto (-15), 3) := by decide +kernel
theorem dX7_countOptimal_25 : decode cX7_countOptimal 25 = .ok (.iconst 1, 1) := by decide +kernel
theorem dX7_countOptimal_26 : decode cX7_countOptimal 26 = .ok (.istore_n 3, 1) := by decide +kernel
theorem dX7_countOptimal_27 : decode cX7_countOptimal 27 = .ok (.iload_n 3, 1) := by decide +kernel
theorem dX7_countOptimal_28 : decode cX7_countOptimal 28 = .ok (.aload_n 0, 1) := by decide +kernel
theorem dX7_countOptimal_29 : decode cX7_countOptimal 29 = .ok (.getfield 23, 3) := by decide +kernel
theorem dX7_countOptimal_32 : decode cX7_countOptimal 32 = .ok (.if_icmp .gt 40, 3) := by decide +kernel
theorem dX7_countOptimal_35 : decode cX7_countOptimal 35 = .ok (.aload_n 0, 1) := by decide +kernel
theorem dX7_countOptimal_36 : decode cX7_countOptimal 36 = .ok (.iload_n 3, 1) := by decide +kernel
theorem dX7_countOptimal_37 : decode cX7_countOptimal 37 = .ok (.iload_n 2, 1) := by decide +kernel
theorem dX7_countOptimal_38 : decode cX7_countOptimal 38 = .ok (.aload_n 1, 1) := by decide +kernel
theorem dX7_countOptimal_39 : decode cX7_countOptimal 39 = .ok (.getfield 43, 3) := by decide +kernel
theorem dX7_countOptimal_42 : decode cX7_countOptimal 42 = .ok (.aload_n 0, 1) := by decide +kernel
theorem dX7_countOptimal_43 : decode cX7_countOptimal 43 = .ok (.getfield 16, 3) := by decide +kernel
theorem dX7_countOptimal_46 : decode cX7_countOptimal 46 = .ok (.iload_n 3, 1) := by decide +kernel
theorem dX7_countOptimal_47 : decode cX7_countOptimal 47 = .ok (.iconst 1, 1) := by decide +kernel
theorem dX7_countOptimal_48 : decode cX7_countOptimal 48 = .ok (.isub, 1) := by decide +kernel
theorem dX7_countOptimal_49 : decode cX7_countOptimal 49 = .ok (.iaload, 1) := by decide +kernel
theorem dX7_countOptimal_50 : decode cX7_countOptimal 50 = .ok (.iaload, 1) := by decide +kernel
theorem dX7_countOptimal_51 : decode cX7_countOptimal 51 = .ok (.aload_n 1, 1) := by decide +kernel
theorem dX7_countOptimal_52 : decode cX7_countOptimal 52 = .ok (.aload_n 0, 1) := by decide +kernel
theorem dX7_countOptimal_53 : decode cX7_countOptimal 53 = .ok (.getfield 16, 3) := by decide +kernel
theorem dX7_countOptimal_56 : decode cX7_countOptimal 56 = .ok (.iload_n 3, 1) := by decide +kernel
theorem dX7_countOptimal_57 : decode cX7_countOptimal 57 = .ok (.iconst 1, 1) := by decide +kernel
theorem dX7_countOptimal_58 : decode cX7_countOptimal 58 = .ok (.isub, 1) := by decide +kernel
theorem dX7_countOptimal_59 : decode cX7_countOptimal 59 = .ok (.iaload, 1) := by decide +kernel
theorem dX7_countOptimal_60 : decode cX7_countOptimal 60 = .ok (.invokevirtual 39, 3) := by decide +kernel
theorem dX7_countOptimal_63 : decode cX7_countOptimal 63 = .ok (.invokevirtual 67, 3) := by decide +kernel
theorem dX7_countOptimal_66 : decode cX7_countOptimal 66 = .ok (.iinc 3 1, 3) := by decide +kernel
theorem dX7_countOptimal_69 : decode cX7_countOptimal 69 = .ok (.goto (-42), 3) := by decide +kernel
theorem dX7_countOptimal_72 : decode cX7_countOptimal 72 = .ok (.aload_n 0, 1) := by decide +kernel
theorem dX7_countOptimal_73 : decode cX7_countOptimal 73 = .ok (.getfield 20, 3) := by decide +kernel
theorem dX7_countOptimal_76 : decode cX7_countOptimal 76 = .ok (.iload_n 2, 1) := by decide +kernel
theorem dX7_countOptimal_77 : decode cX7_countOptimal 77 = .ok (.iaload, 1) := by decide +kernel
theorem dX7_countOptimal_78 : decode cX7_countOptimal 78 = .ok (.ireturn, 1) := by decide +kernel
theorem dX7_countRow_0 : decode cX7_countRow 0 = .ok (.iload_n 2, 1) := by decide +kernel
theorem dX7_countRow_1 : decode cX7_countRow 1 = .ok (.istore 5, 2) := by decide +kernel
theorem dX7_countRow_3 : decode cX7_countRow 3 = .ok (.iload 5, 2) := by decide +kernel
theorem dX7_countRow_5 : decode cX7_countRow 5 = .ok (.ifCond .lt 93, 3) := by decide +kernel
theorem dX7_countRow_8 : decode cX7_countRow 8 = .ok (.aload_n 0, 1) := by decide +kernel
theorem dX7_countRow_9 : decode cX7_countRow 9 = .ok (.iload_n 1, 1) := by decide +kernel
theorem dX7_countRow_10 : decode cX7_countRow 10 = .ok (.iload 5, 2) := by decide +kernel
theorem dX7_countRow_12 : decode cX7_countRow 12 = .ok (.invokevirtual 71, 3) := by decide +kernel
theorem dX7_countRow_15 : decode cX7_countRow 15 = .ok (.istore 6, 2) := by decide +kernel
theorem dX7_countRow_17 : decode cX7_countRow 17 = .ok (.aload_n 0, 1) := by decide +kernel
theorem dX7_countRow_18 : decode cX7_countRow 18 = .ok (.iload_n 1, 1) := by decide +kernel
theorem dX7_countRow_19 : decode cX7_countRow 19 = .ok (.iconst 1, 1) := by decide +kernel
theorem dX7_countRow_20 : decode cX7_countRow 20 = .ok (.isub, 1) := by decide +kernel
theorem dX7_countRow_21 : decode cX7_countRow 21 = .ok (.iload 5, 2) := by decide +kernel
theorem dX7_countRow_23 : decode cX7_countRow 23 = .ok (.invokevirtual 71, 3) := by decide +kernel
theorem dX7_countRow_26 : decode cX7_countRow 26 = .ok (.iload 6, 2) := by decide +kernel
theorem dX7_countRow_28 : decode cX7_countRow 28 = .ok (.if_icmp .ne 13, 3) := by decide +kernel
theorem dX7_countRow_31 : decode cX7_countRow 31 = .ok (.aload_n 0, 1) := by decide +kernel
theorem dX7_countRow_32 : decode cX7_countRow 32 = .ok (.getfield 20, 3) := by decide +kernel
theorem dX7_countRow_35 : decode cX7_countRow 35 = .ok (.iload 5, 2) := by decide +kernel
theorem dX7_countRow_37 : decode cX7_countRow 37 = .ok (.iaload, 1) := by decide +kernel
theorem dX7_countRow_38 : decode cX7_countRow 38 = .ok (.goto 4, 3) := by decide +kernel
theorem dX7_countRow_41 : decode cX7_countRow 41 = .ok (.iconst 0, 1) := by decide +kernel
theorem dX7_countRow_42 : decode cX7_countRow 42 = .ok (.istore 7, 2) := by decide +kernel
theorem dX7_countRow_44 : decode cX7_countRow 44 = .ok (.iload 5, 2) := by decide +kernel
theorem dX7_countRow_46 : decode cX7_countRow 46 = .ok (.iload_n 3, 1) := by decide +kernel
theorem dX7_countRow_47 : decode cX7_countRow 47 = .ok (.if_icmp .lt 36, 3) := by decide +kernel
theorem dX7_countRow_50 : decode cX7_countRow 50 = .ok (.aload_n 0, 1) := by decide +kernel
theorem dX7_countRow_51 : decode cX7_countRow 51 = .ok (.iload_n 1, 1) := by decide +kernel
theorem dX7_countRow_52 : decode cX7_countRow 52 = .ok (.iconst 1, 1) := by decide +kernel
theorem dX7_countRow_53 : decode cX7_countRow 53 = .ok (.isub, 1) := by decide +kernel
theorem dX7_countRow_54 : decode cX7_countRow 54 = .ok (.iload 5, 2) := by decide +kernel
theorem dX7_countRow_56 : decode cX7_countRow 56 = .ok (.iload_n 3, 1) := by decide +kernel
theorem dX7_countRow_57 : decode cX7_countRow 57 = .ok (.isub, 1) := by decide +kernel
theorem dX7_countRow_58 : decode cX7_countRow 58 = .ok (.invokevirtual 71, 3) := by decide +kernel
theorem dX7_countRow_61 : decode cX7_countRow 61 = .ok (.iload 4, 2) := by decide +kernel
theorem dX7_countRow_63 : decode cX7_countRow 63 = .ok (.iadd, 1) := by decide +kernel
theorem dX7_countRow_64 : decode cX7_countRow 64 = .ok (.iload 6, 2) := by decide +kernel
theorem dX7_countRow_66 : decode cX7_countRow 66 = .ok (.if_icmp .ne 17, 3) := by decide +kernel
theorem dX7_countRow_69 : decode cX7_countRow 69 = .ok (.iload 7, 2) := by decide +kernel
theorem dX7_countRow_71 : decode cX7_countRow 71 = .ok (.aload_n 0, 1) := by decide +kernel
theorem dX7_countRow_72 : decode cX7_countRow 72 = .ok (.getfield 20, 3) := by decide +kernel
theorem dX7_countRow_75 : decode cX7_countRow 75 = .ok (.iload 5, 2) := by decide +kernel
theorem dX7_countRow_77 : decode cX7_countRow 77 = .ok (.iload_n 3, 1) := by decide +kernel
theorem dX7_countRow_78 : decode cX7_countRow 78 = .ok (.isub, 1) := by decide +kernel
theorem dX7_countRow_79 : decode cX7_countRow 79 = .ok (.iaload, 1) := by decide +kernel
theorem dX7_countRow_80 : decode cX7_countRow 80 = .ok (.iadd, 1) := by decide +kernel
theorem dX7_countRow_81 : decode cX7_countRow 81 = .ok (.istore 7, 2) := by decide +kernel
theorem dX7_countRow_83 : decode cX7_countRow 83 = .ok (.aload_n 0, 1) := by decide +kernel
theorem dX7_countRow_84 : decode cX7_countRow 84 = .ok (.getfield 20, 3) := by decide +kernel
theorem dX7_countRow_87 : decode cX7_countRow 87 = .ok (.iload 5, 2) := by decide +kernel
theorem dX7_countRow_89 : decode cX7_countRow 89 = .ok (.iload 7, 2) := by decide +kernel
theorem dX7_countRow_91 : decode cX7_countRow 91 = .ok (.iastore, 1) := by decide +kernel
theorem dX7_countRow_92 : decode cX7_countRow 92 = .ok (.iinc 5 (-1), 3) := by decide +kernel
theorem dX7_countRow_95 : decode cX7_countRow 95 = .ok (.goto (-92), 3) := by decide +kernel
theorem dX7_countRow_98 : decode cX7_countRow 98 = .ok (.return_, 1) := by decide +kernel
theorem dX8_init_0 : decode cX8_init 0 = .ok (.aload_n 0, 1) := by decide +kernel
theorem dX8_init_1 : decode cX8_init 1 = .ok (.invokespecial 3, 3) := by decide +kernel
theorem dX8_init_4 : decode cX8_init 4 = .ok (.aload_n 0, 1) := by decide +kernel
theorem dX8_init_5 : decode cX8_init 5 = .ok (.new 9, 3) := by decide +kernel
theorem dX8_init_8 : decode cX8_init 8 = .ok (.dup, 1) := by decide +kernel
theorem dX8_init_9 : decode cX8_init 9 = .ok (.invokespecial 11, 3) := by decide +kernel
theorem dX8_init_12 : decode cX8_init 12 = .ok (.putfield 12, 3) := by decide +kernel
theorem dX8_init_15 : decode cX8_init 15 = .ok (.aload_n 0, 1) := by decide +kernel
theorem dX8_init_16 : decode cX8_init 16 = .ok (.new 9, 3) := by decide +kernel
theorem dX8_init_19 : decode cX8_init 19 = .ok (.dup, 1) := by decide +kernel
theorem dX8_init_20 : decode cX8_init 20 = .ok (.invokespecial 11, 3) := by decide +kernel
theorem dX8_init_23 : decode cX8_init 23 = .ok (.putfield 16, 3) := by decide +kernel
theorem dX8_init_26 : decode cX8_init 26 = .ok (.aload_n 0, 1) := by decide +kernel
theorem dX8_init_27 : decode cX8_init 27 = .ok (.new 9, 3) := by decide +kernel
theorem dX8_init_30 : decode cX8_init 30 = .ok (.dup, 1) := by decide +kernel
theorem dX8_init_31 : decode cX8_init 31 = .ok (.invokespecial 11, 3) := by decide +kernel
theorem dX8_init_34 : decode cX8_init 34 = .ok (.putfield 19, 3) := by decide +kernel
theorem dX8_init_37 : decode cX8_init 37 = .ok (.aload_n 0, 1) := by decide +kernel
theorem dX8_init_38 : decode cX8_init 38 = .ok (.iconst 0, 1) := by decide +kernel
theorem dX8_init_39 : decode cX8_init 39 = .ok (.putfield 22, 3) := by decide +kernel
theorem dX8_init_42 : decode cX8_init 42 = .ok (.aload_n 0, 1) := by decide +kernel
theorem dX8_init_43 : decode cX8_init 43 = .ok (.new 26, 3) := by decide +kernel
theorem dX8_init_46 : decode cX8_init 46 = .ok (.dup, 1) := by decide +kernel
theorem dX8_init_47 : decode cX8_init 47 = .ok (.invokespecial 28, 3) := by decide +kernel
theorem dX8_init_50 : decode cX8_init 50 = .ok (.putfield 29, 3) := by decide +kernel
theorem dX8_init_53 : decode cX8_init 53 = .ok (.aload_n 0, 1) := by decide +kernel
theorem dX8_init_54 : decode cX8_init 54 = .ok (.new 33, 3) := by decide +kernel
theorem dX8_init_57 : decode cX8_init 57 = .ok (.dup, 1) := by decide +kernel
theorem dX8_init_58 : decode cX8_init 58 = .ok (.invokespecial 35, 3) := by decide +kernel
theorem dX8_init_61 : decode cX8_init 61 = .ok (.putfield 36, 3) := by decide +kernel
theorem dX8_init_64 : decode cX8_init 64 = .ok (.aload_n 0, 1) := by decide +kernel
theorem dX8_init_65 : decode cX8_init 65 = .ok (.new 40, 3) := by decide +kernel
theorem dX8_init_68 : decode cX8_init 68 = .ok (.dup, 1) := by decide +kernel
theorem dX8_init_69 : decode cX8_init 69 = .ok (.invokespecial 42, 3) := by decide +kernel
theorem dX8_init_72 : decode cX8_init 72 = .ok (.putfield 43, 3) := by decide +kernel
theorem dX8_init_75 : decode cX8_init 75 = .ok (.aload_n 0, 1) := by decide +kernel
theorem dX8_init_76 : decode cX8_init 76 = .ok (.new 47, 3) := by decide +kernel
theorem dX8_init_79 : decode cX8_init 79 = .ok (.dup, 1) := by decide +kernel
theorem dX8_init_80 : decode cX8_init 80 = .ok (.invokespecial 49, 3) := by decide +kernel
theorem dX8_init_83 : decode cX8_init 83 = .ok (.putfield 50, 3) := by decide +kernel
theorem dX8_init_86 : decode cX8_init 86 = .ok (.aload_n 0, 1) := by decide +kernel
theorem dX8_init_87 : decode cX8_init 87 = .ok (.new 54, 3) := by decide +kernel
theorem dX8_init_90 : decode cX8_init 90 = .ok (.dup, 1) := by decide +kernel
theorem dX8_init_91 : decode cX8_init 91 = .ok (.invokespecial 56, 3) := by decide +kernel
theorem dX8_init_94 : decode cX8_init 94 = .ok (.putfield 57, 3) := by decide +kernel
theorem dX8_init_97 : decode cX8_init 97 = .ok (.aload_n 0, 1) := by decide +kernel
theorem dX8_init_98 : decode cX8_init 98 = .ok (.getfield 12, 3) := by decide +kernel
theorem dX8_init_101 : decode cX8_init 101 = .ok (.bipush 20, 2) := by decide +kernel
theorem dX8_init_103 : decode cX8_init 103 = .ok (.invokevirtual 61, 3) := by decide +kernel
theorem dX8_init_106 : decode cX8_init 106 = .ok (.aload_n 0, 1) := by decide +kernel
theorem dX8_init_107 : decode cX8_init 107 = .ok (.getfield 12, 3) := by decide +kernel
theorem dX8_init_110 : decode cX8_init 110 = .ok (.bipush 7, 2) := by decide +kernel
theorem dX8_init_112 : decode cX8_init 112 = .ok (.bipush 30, 2) := by decide +kernel
theorem dX8_init_114 : decode cX8_init 114 = .ok (.invokevirtual 65, 3) := by decide +kernel
theorem dX8_init_117 : decode cX8_init 117 = .ok (.aload_n 0, 1) := by decide +kernel
theorem dX8_init_118 : decode cX8_init 118 = .ok (.getfield 12, 3) := by decide +kernel
theorem dX8_init_121 : decode cX8_init 121 = .ok (.bipush 9, 2) := by decide +kernel
theorem dX8_init_123 : decode cX8_init 123 = .ok (.bipush 42, 2) := by decide +kernel
theorem dX8_init_125 : decode cX8_init 125 = .ok (.invokevirtual 65, 3) := by decide +kernel
theorem dX8_init_128 : decode cX8_init 128 = .ok (.aload_n 0, 1) := by decide +kernel
theorem dX8_init_129 : decode cX8_init 129 = .ok (.getfield 12, 3) := by decide +kernel
theorem dX8_init_132 : decode cX8_init 132 = .ok (.iconst 4, 1) := by decide +kernel
theorem dX8_init_133 : decode cX8_init 133 = .ok (.bipush 12, 2) := by decide +kernel
theorem dX8_init_135 : decode cX8_init 135 = .ok (.invokevirtual 65, 3) := by decide +kernel
theorem dX8_init_138 : decode cX8_init 138 = .ok (.aload_n 0, 1) := by decide +kernel
theorem dX8_init_139 : decode cX8_init 139 = .ok (.getfield 12, 3) := by decide +kernel
theorem dX8_init_142 : decode cX8_init 142 = .ok (.bipush 12, 2) := by decide +kernel
theorem dX8_init_144 : decode cX8_init 144 = .ok (.bipush 50, 2) := by decide +kernel
theorem dX8_init_146 : decode cX8_init 146 = .ok (.invokevirtual 65, 3) := by decide +kernel
theorem dX8_init_149 : decode cX8_init 149 = .ok (.aload_n 0, 1) := by decide +kernel
theorem dX8_init_150 : decode cX8_init 150 = .ok (.getfield 12, 3) := by decide +kernel
theorem dX8_init_153 : decode cX8_init 153 = .ok (.iconst 5, 1) := by decide +kernel
theorem dX8_init_154 : decode cX8_init 154 = .ok (.bipush 12, 2) := by decide +kernel
theorem dX8_init_156 : decode cX8_init 156 = .ok (.invokevirtual 65, 3) := by decide +kernel
theorem dX8_init_159 : decode cX8_init 159 = .ok (.aload_n 0, 1) := by decide +kernel
theorem dX8_init_160 : decode cX8_init 160 = .ok (.getfield 12, 3) := by decide +kernel
theorem dX8_init_163 : decode cX8_init 163 = .ok (.iconst 3, 1) := by decide +kernel
theorem dX8_init_164 : decode cX8_init 164 = .ok (.iconst 2, 1) := by decide +kernel
theorem dX8_init_165 : decode cX8_init 165 = .ok (.invokevirtual 65, 3) := by decide +kernel
theorem dX8_init_168 : decode cX8_init 168 = .ok (.aload_n 0, 1) := by decide +kernel
theorem dX8_init_169 : decode cX8_init 169 = .ok (.getfield 12, 3) := by decide +kernel
theorem dX8_init_172 : decode cX8_init 172 = .ok (.getfield 69, 3) := by decide +kernel
theorem dX8_init_175 : decode cX8_init 175 = .ok (.iconst 5, 1) := by decide +kernel
theorem dX8_init_176 : decode cX8_init 176 = .ok (.iconst 1, 1) := by decide +kernel
theorem dX8_init_177 : decode cX8_init 177 = .ok (.iastore, 1) := by decide +kernel
theorem dX8_init_178 : decode cX8_init 178 = .ok (.aload_n 0, 1) := by decide +kernel
theorem dX8_init_179 : decode cX8_init 179 = .ok (.getfield 12, 3) := by decide +kernel
theorem dX8_init_182 : decode cX8_init 182 = .ok (.getfield 69, 3) := by decide +kernel
theorem dX8_init_185 : decode cX8_init 185 = .ok (.iconst 4, 1) := by decide +kernel
theorem dX8_init_186 : decode cX8_init 186 = .ok (.iconst 2, 1) := by decide +kernel
theorem dX8_init_187 : decode cX8_init 187 = .ok (.iastore, 1) := by decide +kernel
theorem dX8_init_188 : decode cX8_init 188 = .ok (.return_, 1) := by decide +kernel
theorem dX8_append_0 : decode cX8_append 0 = .ok (.aload_n 0, 1) := by decide +kernel
theorem dX8_append_1 : decode cX8_append 1 = .ok (.getfield 50, 3) := by decide +kernel
theorem dX8_append_4 : decode cX8_append 4 = .ok (.getfield 73, 3) := by decide +kernel
theorem dX8_append_7 : decode cX8_append 7 = .ok (.bipush 20, 2) := by decide +kernel
theorem dX8_append_9 : decode cX8_append 9 = .ok (.iadd, 1) := by decide +kernel
theorem dX8_append_10 : decode cX8_append 10 = .ok (.sipush 500, 3) := by decide +kernel
theorem dX8_append_13 : decode cX8_append 13 = .ok (.if_icmp .le 6, 3) := by decide +kernel
theorem dX8_append_16 : decode cX8_append 16 = .ok (.bipush (-2), 2) := by decide +kernel
theorem dX8_append_18 : decode cX8_append 18 = .ok (.ireturn, 1) := by decide +kernel
theorem dX8_append_19 : decode cX8_append 19 = .ok (.aload_n 0, 1) := by decide +kernel
theorem dX8_append_20 : decode cX8_append 20 = .ok (.getfield 50, 3) := by decide +kernel
theorem dX8_append_23 : decode cX8_append 23 = .ok (.iload_n 1, 1) := by decide +kernel
theorem dX8_append_24 : decode cX8_append 24 = .ok (.invokevirtual 77, 3) := by decide +kernel
theorem dX8_append_27 : decode cX8_append 27 = .ok (.aload_n 0, 1) := by decide +kernel
theorem dX8_append_28 : decode cX8_append 28 = .ok (.getfield 50, 3) := by decide +kernel
theorem dX8_append_31 : decode cX8_append 31 = .ok (.iload_n 2, 1) := by decide +kernel
theorem dX8_append_32 : decode cX8_append 32 = .ok (.invokevirtual 77, 3) := by decide +kernel
theorem dX8_append_35 : decode cX8_append 35 = .ok (.aload_n 0, 1) := by decide +kernel
theorem dX8_append_36 : decode cX8_append 36 = .ok (.getfield 50, 3) := by decide +kernel
theorem dX8_append_39 : decode cX8_append 39 = .ok (.iload_n 3, 1) := by decide +kernel
theorem dX8_append_40 : decode cX8_append 40 = .ok (.invokevirtual 77, 3) := by decide +kernel
theorem dX8_append_43 : decode cX8_append 43 = .ok (.aload_n 0, 1) := by decide +kernel
theorem dX8_append_44 : decode cX8_append 44 = .ok (.getfield 50, 3) := by decide +kernel
theorem dX8_append_47 : decode cX8_append 47 = .ok (.iload 4, 2) := by decide +kernel
theorem dX8_append_49 : decode cX8_append 49 = .ok (.invokevirtual 77, 3) := by decide +kernel
theorem dX8_append_52 : decode cX8_append 52 = .ok (.aload_n 0, 1) := by decide +kernel
theorem dX8_append_53 : decode cX8_append 53 = .ok (.getfield 50, 3) := by decide +kernel
theorem dX8_append_56 : decode cX8_append 56 = .ok (.iload 5, 2) := by decide +kernel
theorem dX8_append_58 : decode cX8_append 58 = .ok (.invokevirtual 77, 3) := by decide +kernel
theorem dX8_append_61 : decode cX8_append 61 = .ok (.aload_n 0, 1) := by decide +kernel
theorem dX8_append_62 : decode cX8_append 62 = .ok (.getfield 50, 3) := by decide +kernel
theorem dX8_append_65 : decode cX8_append 65 = .ok (.getfield 73, 3) := by decide +kernel
theorem dX8_append_68 : decode cX8_append 68 = .ok (.ireturn, 1) := by decide +kernel
theorem dX8_runScript_0 : decode cX8_runScript 0 = .ok (.aload_n 0, 1) := by decide +kernel
theorem dX8_runScript_1 : decode cX8_runScript 1 = .ok (.getfield 50, 3) := by decide +kernel
theorem dX8_runScript_4 : decode cX8_runScript 4 = .ok (.aload_n 0, 1) := by decide +kernel
theorem dX8_runScript_5 : decode cX8_runScript 5 = .ok (.getfield 16, 3) := by decide +kernel
theorem dX8_runScript_8 : decode cX8_runScript 8 = .ok (.invokevirtual 84, 3) := by decide +kernel
theorem dX8_runScript_11 : decode cX8_runScript 11 = .ok (.ifCond .eq 26, 3) := by decide +kernel
theorem dX8_runScript_14 : decode cX8_runScript 14 = .ok (.aload_n 0, 1) := by decide +kernel
theorem dX8_runScript_15 : decode cX8_runScript 15 = .ok (.getfield 50, 3) := by decide +kernel
theorem dX8_runScript_18 : decode cX8_runScript 18 = .ok (.aload_n 0, 1) := by decide +kernel
theorem dX8_runScript_19 : decode cX8_runScript 19 = .ok (.getfield 16, 3) := by decide +kernel
theorem dX8_runScript_22 : decode cX8_runScript 22 = .ok (.aload_n 0, 1) := by decide +kernel
theorem dX8_runScript_23 : decode cX8_runScript 23 = .ok (.getfield 36, 3) := by decide +kernel
theorem dX8_runScript_26 : decode cX8_runScript 26 = .ok (.iconst 0, 1) := by decide +kernel
theorem dX8_runScript_27 : decode cX8_runScript 27 = .ok (.invokevirtual 88, 3) := by decide +kernel
theorem dX8_runScript_30 : decode cX8_runScript 30 = .ok (.ifCond .eq 7, 3) := by decide +kernel
theorem dX8_runScript_33 : decode cX8_runScript 33 = .ok (.iconst 1, 1) := by decide +kernel
theorem dX8_runScript_34 : decode cX8_runScript 34 = .ok (.goto 4, 3) := by decide +kernel
theorem dX8_runScript_37 : decode cX8_runScript 37 = .ok (.iconst 0, 1) := by decide +kernel
theorem dX8_runScript_38 : decode cX8_runScript 38 = .ok (.istore_n 1, 1) := by decide +kernel
theorem dX8_runScript_39 : decode cX8_runScript 39 = .ok (.aload_n 0, 1) := by decide +kernel
theorem dX8_runScript_40 : decode cX8_runScript 40 = .ok (.getfield 50, 3) := by decide +kernel
theorem dX8_runScript_43 : decode cX8_runScript 43 = .ok (.iconst 0, 1) := by decide +kernel
theorem dX8_runScript_44 : decode cX8_runScript 44 = .ok (.putfield 73, 3) := by decide +kernel
theorem dX8_runScript_47 : decode cX8_runScript 47 = .ok (.iload_n 1, 1) := by decide +kernel
theorem dX8_runScript_48 : decode cX8_runScript 48 = .ok (.ifCond .ne 5, 3) := by decide +kernel
theorem dX8_runScript_51 : decode cX8_runScript 51 = .ok (.iconst (-1), 1) := by decide +kernel
theorem dX8_runScript_52 : decode cX8_runScript 52 = .ok (.ireturn, 1) := by decide +kernel
theorem dX8_runScript_53 : decode cX8_runScript 53 = .ok (.aload_n 0, 1) := by decide +kernel
theorem dX8_runScript_54 : decode cX8_runScript 54 = .ok (.getfield 29, 3) := by decide +kernel
theorem dX8_runScript_57 : decode cX8_runScript 57 = .ok (.aload_n 0, 1) := by decide +kernel
theorem dX8_runScript_58 : decode cX8_runScript 58 = .ok (.getfield 12, 3) := by decide +kernel
theorem dX8_runScript_61 : decode cX8_runScript 61 = .ok (.invokevirtual 92, 3) := by decide +kernel
theorem dX8_runScript_64 : decode cX8_runScript 64 = .ok (.aload_n 0, 1) := by decide +kernel
theorem dX8_runScript_65 : decode cX8_runScript 65 = .ok (.getfield 12, 3) := by decide +kernel
theorem dX8_runScript_68 : decode cX8_runScript 68 = .ok (.aload_n 0, 1) := by decide +kernel
theorem dX8_runScript_69 : decode cX8_runScript 69 = .ok (.getfield 16, 3) := by decide +kernel
theorem dX8_runScript_72 : decode cX8_runScript 72 = .ok (.invokevirtual 96, 3) := by decide +kernel
theorem dX8_runScript_75 : decode cX8_runScript 75 = .ok (.aload_n 0, 1) := by decide +kernel
theorem dX8_runScript_76 : decode cX8_runScript 76 = .ok (.getfield 12, 3) := by decide +kernel
theorem dX8_runScript_79 : decode cX8_runScript 79 = .ok (.getfield 99, 3) := by decide +kernel
theorem dX8_runScript_82 : decode cX8_runScript 82 = .ok (.ireturn, 1) := by decide +kernel
theorem dX8_addItem_0 : decode cX8_addItem 0 = .ok (.iload_n 1, 1) := by decide +kernel
theorem dX8_addItem_1 : decode cX8_addItem 1 = .ok (.iconst 1, 1) := by decide +kernel
theorem dX8_addItem_2 : decode cX8_addItem 2 = .ok (.bipush 60, 2) := by decide +kernel
theorem dX8_addItem_4 : decode cX8_addItem 4 = .ok (.invokestatic 80, 3) := by decide +kernel
theorem dX8_addItem_7 : decode cX8_addItem 7 = .ok (.iload_n 2, 1) := by decide +kernel
theorem dX8_addItem_8 : decode cX8_addItem 8 = .ok (.iconst 0, 1) := by decide +kernel
theorem dX8_addItem_9 : decode cX8_addItem 9 = .ok (.sipush 999, 3) := by decide +kernel
theorem dX8_addItem_12 : decode cX8_addItem 12 = .ok (.invokestatic 80, 3) := by decide +kernel
theorem dX8_addItem_15 : decode cX8_addItem 15 = .ok (.aload_n 0, 1) := by decide +kernel
theorem dX8_addItem_16 : decode cX8_addItem 16 = .ok (.getfield 12, 3) := by decide +kernel
theorem dX8_addItem_19 : decode cX8_addItem 19 = .ok (.getfield 99, 3) := by decide +kernel
theorem dX8_addItem_22 : decode cX8_addItem 22 = .ok (.bipush 14, 2) := by decide +kernel
theorem dX8_addItem_24 : decode cX8_addItem 24 = .ok (.if_icmp .lt 6, 3) := by decide +kernel
theorem dX8_addItem_27 : decode cX8_addItem 27 = .ok (.bipush (-2), 2) := by decide +kernel
theorem dX8_addItem_29 : decode cX8_addItem 29 = .ok (.ireturn, 1) := by decide +kernel
theorem dX8_addItem_30 : decode cX8_addItem 30 = .ok (.aload_n 0, 1) := by decide +kernel
theorem dX8_addItem_31 : decode cX8_addItem 31 = .ok (.getfield 29, 3) := by decide +kernel
theorem dX8_addItem_34 : decode cX8_addItem 34 = .ok (.aload_n 0, 1) := by decide +kernel
theorem dX8_addItem_35 : decode cX8_addItem 35 = .ok (.getfield 12, 3) := by decide +kernel
theorem dX8_addItem_38 : decode cX8_addItem 38 = .ok (.invokevirtual 92, 3) := by decide +kernel
theorem dX8_addItem_41 : decode cX8_addItem 41 = .ok (.aload_n 0, 1) := by decide +kernel
theorem dX8_addItem_42 : decode cX8_addItem 42 = .ok (.getfield 12, 3) := by decide +kernel
theorem dX8_addItem_45 : decode cX8_addItem 45 = .ok (.iload_n 1, 1) := by decide +kernel
theorem dX8_addItem_46 : decode cX8_addItem 46 = .ok (.iload_n 2, 1) := by decide +kernel
theorem dX8_addItem_47 : decode cX8_addItem 47 = .ok (.invokevirtual 65, 3) := by decide +kernel
theorem dX8_addItem_50 : decode cX8_addItem 50 = .ok (.aload_n 0, 1) := by decide +kernel
theorem dX8_addItem_51 : decode cX8_addItem 51 = .ok (.getfield 12, 3) := by decide +kernel
theorem dX8_addItem_54 : decode cX8_addItem 54 = .ok (.getfield 99, 3) := by decide +kernel
theorem dX8_addItem_57 : decode cX8_addItem 57 = .ok (.iconst 1, 1) := by decide +kernel
theorem dX8_addItem_58 : decode cX8_addItem 58 = .ok (.isub, 1) := by decide +kernel
theorem dX8_addItem_59 : decode cX8_addItem 59 = .ok (.ireturn, 1) := by decide +kernel
theorem dX8_removeItem_0 : decode cX8_removeItem 0 = .ok (.aload_n 0, 1) := by decide +kernel
theorem dX8_removeItem_1 : decode cX8_removeItem 1 = .ok (.iload_n 1, 1) := by decide +kernel
theorem dX8_removeItem_2 : decode cX8_removeItem 2 = .ok (.invokevirtual 102, 3) := by decide +kernel
theorem dX8_removeItem_5 : decode cX8_removeItem 5 = .ok (.aload_n 0, 1) := by decide +kernel
theorem dX8_removeItem_6 : decode cX8_removeItem 6 = .ok (.getfield 29, 3) := by decide +kernel
theorem dX8_removeItem_9 : decode cX8_removeItem 9 = .ok (.aload_n 0, 1) := by decide +kernel
theorem dX8_removeItem_10 : decode cX8_removeItem 10 = .ok (.getfield 12, 3) := by decide +kernel
theorem dX8_removeItem_13 : decode cX8_removeItem 13 = .ok (.invokevirtual 92, 3) := by decide +kernel
theorem dX8_removeItem_16 : decode cX8_removeItem 16 = .ok (.aload_n 0, 1) := by decide +kernel
theorem dX8_removeItem_17 : decode cX8_removeItem 17 = .ok (.getfield 12, 3) := by decide +kernel
theorem dX8_removeItem_20 : decode cX8_removeItem 20 = .ok (.iload_n 1, 1) := by decide +kernel
theorem dX8_removeItem_21 : decode cX8_removeItem 21 = .ok (.invokevirtual 105, 3) := by decide +kernel
theorem dX8_removeItem_24 : decode cX8_removeItem 24 = .ok (.aload_n 0, 1) := by decide +kernel
theorem dX8_removeItem_25 : decode cX8_removeItem 25 = .ok (.getfield 12, 3) := by decide +kernel
theorem dX8_removeItem_28 : decode cX8_removeItem 28 = .ok (.getfield 99, 3) := by decide +kernel
theorem dX8_removeItem_31 : decode cX8_removeItem 31 = .ok (.ireturn, 1) := by decide +kernel
theorem dX8_setSize_0 : decode cX8_setSize 0 = .ok (.aload_n 0, 1) := by decide +kernel
theorem dX8_setSize_1 : decode cX8_setSize 1 = .ok (.iload_n 1, 1) := by decide +kernel
theorem dX8_setSize_2 : decode cX8_setSize 2 = .ok (.invokevirtual 102, 3) := by decide +kernel
theorem dX8_setSize_5 : decode cX8_setSize 5 = .ok (.iload_n 2, 1) := by decide +kernel
theorem dX8_setSize_6 : decode cX8_setSize 6 = .ok (.iconst 1, 1) := by decide +kernel
theorem dX8_setSize_7 : decode cX8_setSize 7 = .ok (.bipush 60, 2) := by decide +kernel
theorem dX8_setSize_9 : decode cX8_setSize 9 = .ok (.invokestatic 80, 3) := by decide +kernel
theorem dX8_setSize_12 : decode cX8_setSize 12 = .ok (.aload_n 0, 1) := by decide +kernel
theorem dX8_setSize_13 : decode cX8_setSize 13 = .ok (.getfield 29, 3) := by decide +kernel
theorem dX8_setSize_16 : decode cX8_setSize 16 = .ok (.aload_n 0, 1) := by decide +kernel
theorem dX8_setSize_17 : decode cX8_setSize 17 = .ok (.getfield 12, 3) := by decide +kernel
theorem dX8_setSize_20 : decode cX8_setSize 20 = .ok (.invokevirtual 92, 3) := by decide +kernel
theorem dX8_setSize_23 : decode cX8_setSize 23 = .ok (.aload_n 0, 1) := by decide +kernel
theorem dX8_setSize_24 : decode cX8_setSize 24 = .ok (.getfield 12, 3) := by decide +kernel
theorem dX8_setSize_27 : decode cX8_setSize 27 = .ok (.getfield 108, 3) := by decide +kernel
theorem dX8_setSize_30 : decode cX8_setSize 30 = .ok (.iload_n 1, 1) := by decide +kernel
theorem dX8_setSize_31 : decode cX8_setSize 31 = .ok (.iaload, 1) := by decide +kernel
theorem dX8_setSize_32 : decode cX8_setSize 32 = .ok (.istore_n 3, 1) := by decide +kernel
theorem dX8_setSize_33 : decode cX8_setSize 33 = .ok (.aload_n 0, 1) := by decide +kernel
theorem dX8_setSize_34 : decode cX8_setSize 34 = .ok (.getfield 12, 3) := by decide +kernel
theorem dX8_setSize_37 : decode cX8_setSize 37 = .ok (.getfield 108, 3) := by decide +kernel
theorem dX8_setSize_40 : decode cX8_setSize 40 = .ok (.iload_n 1, 1) := by decide +kernel
theorem dX8_setSize_41 : decode cX8_setSize 41 = .ok (.iload_n 2, 1) := by decide +kernel
theorem dX8_setSize_42 : decode cX8_setSize 42 = .ok (.iastore, 1) := by decide +kernel
theorem dX8_setSize_43 : decode cX8_setSize 43 = .ok (.iload_n 3, 1) := by decide +kernel
theorem dX8_setSize_44 : decode cX8_setSize 44 = .ok (.ireturn, 1) := by decide +kernel
theorem dX8_setValue_0 : decode cX8_setValue 0 = .ok (.aload_n 0, 1) := by decide +kernel
theorem dX8_setValue_1 : decode cX8_setValue 1 = .ok (.iload_n 1, 1) := by decide +kernel
theorem dX8_setValue_2 : decode cX8_setValue 2 = .ok (.invokevirtual 102, 3) := by decide +kernel
theorem dX8_setValue_5 : decode cX8_setValue 5 = .ok (.iload_n 2, 1) := by decide +kernel
theorem dX8_setValue_6 : decode cX8_setValue 6 = .ok (.iconst 0, 1) := by decide +kernel
theorem dX8_setValue_7 : decode cX8_setValue 7 = .ok (.sipush 999, 3) := by decide +kernel
theorem dX8_setValue_10 : decode cX8_setValue 10 = .ok (.invokestatic 80, 3) := by decide +kernel
theorem dX8_setValue_13 : decode cX8_setValue 13 = .ok (.aload_n 0, 1) := by decide +kernel
theorem dX8_setValue_14 : decode cX8_setValue 14 = .ok (.getfield 29, 3) := by decide +kernel
theorem dX8_setValue_17 : decode cX8_setValue 17 = .ok (.aload_n 0, 1) := by decide +kernel
theorem dX8_setValue_18 : decode cX8_setValue 18 = .ok (.getfield 12, 3) := by decide +kernel
theorem dX8_setValue_21 : decode cX8_setValue 21 = .ok (.invokevirtual 92, 3) := by decide +kernel
theorem dX8_setValue_24 : decode cX8_setValue 24 = .ok (.aload_n 0, 1) := by decide +kernel
theorem dX8_setValue_25 : decode cX8_setValue 25 = .ok (.getfield 12, 3) := by decide +kernel
theorem dX8_setValue_28 : decode cX8_setValue 28 = .ok (.getfield 111, 3) := by decide +kernel
theorem dX8_setValue_31 : decode cX8_setValue 31 = .ok (.iload_n 1, 1) := by decide +kernel
theorem dX8_setValue_32 : decode cX8_setValue 32 = .ok (.iaload, 1) := by decide +kernel
theorem dX8_setValue_33 : decode cX8_setValue 33 = .ok (.istore_n 3, 1) := by decide +kernel
theorem dX8_setValue_34 : decode cX8_setValue 34 = .ok (.aload_n 0, 1) := by decide +kernel
theorem dX8_setValue_35 : decode cX8_setValue 35 = .ok (.getfield 12, 3) := by decide +kernel
theorem dX8_setValue_38 : decode cX8_setValue 38 = .ok (.getfield 111, 3) := by decide +kernel
theorem dX8_setValue_41 : decode cX8_setValue 41 = .ok (.iload_n 1, 1) := by decide +kernel
theorem dX8_setValue_42 : decode cX8_setValue 42 = .ok (.iload_n 2, 1) := by decide +kernel
theorem dX8_setValue_43 : decode cX8_setValue 43 = .ok (.iastore, 1) := by decide +kernel
theorem dX8_setValue_44 : decode cX8_setValue 44 = .ok (.iload_n 3, 1) := by decide +kernel
theorem dX8_setValue_45 : decode cX8_setValue 45 = .ok (.ireturn, 1) := by decide +kernel
theorem dX8_pin_0 : decode cX8_pin 0 = .ok (.aload_n 0, 1) := by decide +kernel
theorem dX8_pin_1 : decode cX8_pin 1 = .ok (.iload_n 1, 1) := by decide +kernel
theorem dX8_pin_2 : decode cX8_pin 2 = .ok (.iconst 1, 1) := by decide +kernel
theorem dX8_pin_3 : decode cX8_pin 3 = .ok (.invokevirtual 114, 3) := by decide +kernel
theorem dX8_pin_6 : decode cX8_pin 6 = .ok (.ireturn, 1) := by decide +kernel
theorem dX8_exclude_0 : decode cX8_exclude 0 = .ok (.aload_n 0, 1) := by decide +kernel
theorem dX8_exclude_1 : decode cX8_exclude 1 = .ok (.iload_n 1, 1) := by decide +kernel
theorem dX8_exclude_2 : decode cX8_exclude 2 = .ok (.iconst 2, 1) := by decide +kernel
theorem dX8_exclude_3 : decode cX8_exclude 3 = .ok (.invokevirtual 114, 3) := by decide +kernel
theorem dX8_exclude_6 : decode cX8_exclude 6 = .ok (.ireturn, 1) := by decide +kernel
theorem dX8_release_0 : decode cX8_release 0 = .ok (.aload_n 0, 1) := by decide +kernel
theorem dX8_release_1 : decode cX8_release 1 = .ok (.iload_n 1, 1) := by decide +kernel
theorem dX8_release_2 : decode cX8_release 2 = .ok (.iconst 0, 1) := by decide +kernel
theorem dX8_release_3 : decode cX8_release 3 = .ok (.invokevirtual 114, 3) := by decide +kernel
theorem dX8_release_6 : decode cX8_release 6 = .ok (.ireturn, 1) := by decide +kernel
theorem dX8_setCapacity_0 : decode cX8_setCapacity 0 = .ok (.iload_n 1, 1) := by decide +kernel
theorem dX8_setCapacity_1 : decode cX8_setCapacity 1 = .ok (.iconst 0, 1) := by decide +kernel
theorem dX8_setCapacity_2 : decode cX8_setCapacity 2 = .ok (.bipush 100, 2) := by decide +kernel
theorem dX8_setCapacity_4 : decode cX8_setCapacity 4 = .ok (.invokestatic 80, 3) := by decide +kernel
theorem dX8_setCapacity_7 : decode cX8_setCapacity 7 = .ok (.aload_n 0, 1) := by decide +kernel
theorem dX8_setCapacity_8 : decode cX8_setCapacity 8 = .ok (.getfield 29, 3) := by decide +kernel
theorem dX8_setCapacity_11 : decode cX8_setCapacity 11 = .ok (.aload_n 0, 1) := by decide +kernel
theorem dX8_setCapacity_12 : decode cX8_setCapacity 12 = .ok (.getfield 12, 3) := by decide +kernel
theorem dX8_setCapacity_15 : decode cX8_setCapacity 15 = .ok (.invokevirtual 92, 3) := by decide +kernel
theorem dX8_setCapacity_18 : decode cX8_setCapacity 18 = .ok (.aload_n 0, 1) := by decide +kernel
theorem dX8_setCapacity_19 : decode cX8_setCapacity 19 = .ok (.getfield 12, 3) := by decide +kernel
theorem dX8_setCapacity_22 : decode cX8_setCapacity 22 = .ok (.getfield 118, 3) := by decide +kernel
theorem dX8_setCapacity_25 : decode cX8_setCapacity 25 = .ok (.istore_n 2, 1) := by decide +kernel
theorem dX8_setCapacity_26 : decode cX8_setCapacity 26 = .ok (.aload_n 0, 1) := by decide +kernel
theorem dX8_setCapacity_27 : decode cX8_setCapacity 27 = .ok (.getfield 12, 3) := by decide +kernel
theorem dX8_setCapacity_30 : decode cX8_setCapacity 30 = .ok (.iload_n 1, 1) := by decide +kernel
theorem dX8_setCapacity_31 : decode cX8_setCapacity 31 = .ok (.putfield 118, 3) := by decide +kernel
theorem dX8_setCapacity_34 : decode cX8_setCapacity 34 = .ok (.iload_n 2, 1) := by decide +kernel
theorem dX8_setCapacity_35 : decode cX8_setCapacity 35 = .ok (.ireturn, 1) := by decide +kernel
theorem dX8_pinBest_0 : decode cX8_pinBest 0 = .ok (.aload_n 0, 1) := by decide +kernel
theorem dX8_pinBest_1 : decode cX8_pinBest 1 = .ok (.aload_n 0, 1) := by decide +kernel
theorem dX8_pinBest_2 : decode cX8_pinBest 2 = .ok (.getfield 12, 3) := by decide +kernel
theorem dX8_pinBest_5 : decode cX8_pinBest 5 = .ok (.invokevirtual 121, 3) := by decide +kernel
theorem dX8_pinBest_8 : decode cX8_pinBest 8 = .ok (.lstore_n 1, 1) := by decide +kernel
theorem dX8_pinBest_9 : decode cX8_pinBest 9 = .ok (.lload_n 1, 1) := by decide +kernel
theorem dX8_pinBest_10 : decode cX8_pinBest 10 = .ok (.ldc2_w 125, 3) := by decide +kernel
theorem dX8_pinBest_13 : decode cX8_pinBest 13 = .ok (.lcmp, 1) := by decide +kernel
theorem dX8_pinBest_14 : decode cX8_pinBest 14 = .ok (.ifCond .ne 13, 3) := by decide +kernel
theorem dX8_pinBest_17 : decode cX8_pinBest 17 = .ok (.new 127, 3) := by decide +kernel
theorem dX8_pinBest_20 : decode cX8_pinBest 20 = .ok (.dup, 1) := by decide +kernel
theorem dX8_pinBest_21 : decode cX8_pinBest 21 = .ok (.ldc 129, 2) := by decide +kernel
theorem dX8_pinBest_23 : decode cX8_pinBest 23 = .ok (.invokespecial 131, 3) := by decide +kernel
theorem dX8_pinBest_26 : decode cX8_pinBest 26 = .ok (.athrow, 1) := by decide +kernel
theorem dX8_pinBest_27 : decode cX8_pinBest 27 = .ok (.aload_n 0, 1) := by decide +kernel
theorem dX8_pinBest_28 : decode cX8_pinBest 28 = .ok (.getfield 29, 3) := by decide +kernel
theorem dX8_pinBest_31 : decode cX8_pinBest 31 = .ok (.aload_n 0, 1) := by decide +kernel
theorem dX8_pinBest_32 : decode cX8_pinBest 32 = .ok (.getfield 12, 3) := by decide +kernel
theorem dX8_pinBest_35 : decode cX8_pinBest 35 = .ok (.invokevirtual 92, 3) := by decide +kernel
theorem dX8_pinBest_38 : decode cX8_pinBest 38 = .ok (.aload_n 0, 1) := by decide +kernel
theorem dX8_pinBest_39 : decode cX8_pinBest 39 = .ok (.getfield 12, 3) := by decide +kernel
theorem dX8_pinBest_42 : decode cX8_pinBest 42 = .ok (.lload_n 1, 1) := by decide +kernel
theorem dX8_pinBest_43 : decode cX8_pinBest 43 = .ok (.invokestatic 134, 3) := by decide +kernel
theorem dX8_pinBest_46 : decode cX8_pinBest 46 = .ok (.invokevirtual 138, 3) := by decide +kernel
theorem dX8_pinBest_49 : decode cX8_pinBest 49 = .ok (.ireturn, 1) := by decide +kernel
theorem dX8_runBackup_0 : decode cX8_runBackup 0 = .ok (.aload_n 0, 1) := by decide +kernel
theorem dX8_runBackup_1 : decode cX8_runBackup 1 = .ok (.getfield 29, 3) := by decide +kernel
theorem dX8_runBackup_4 : decode cX8_runBackup 4 = .ok (.aload_n 0, 1) := by decide +kernel
theorem dX8_runBackup_5 : decode cX8_runBackup 5 = .ok (.getfield 12, 3) := by decide +kernel
theorem dX8_runBackup_8 : decode cX8_runBackup 8 = .ok (.invokevirtual 92, 3) := by decide +kernel
theorem dX8_runBackup_11 : decode cX8_runBackup 11 = .ok (.aload_n 0, 1) := by decide +kernel
theorem dX8_runBackup_12 : decode cX8_runBackup 12 = .ok (.getfield 12, 3) := by decide +kernel
theorem dX8_runBackup_15 : decode cX8_runBackup 15 = .ok (.aload_n 0, 1) := by decide +kernel
theorem dX8_runBackup_16 : decode cX8_runBackup 16 = .ok (.getfield 36, 3) := by decide +kernel
theorem dX8_runBackup_19 : decode cX8_runBackup 19 = .ok (.invokevirtual 142, 3) := by decide +kernel
theorem dX8_runBackup_22 : decode cX8_runBackup 22 = .ok (.ireturn, 1) := by decide +kernel
theorem dX8_runBackups_0 : decode cX8_runBackups 0 = .ok (.iload_n 1, 1) := by decide +kernel
theorem dX8_runBackups_1 : decode cX8_runBackups 1 = .ok (.iconst 1, 1) := by decide +kernel
theorem dX8_runBackups_2 : decode cX8_runBackups 2 = .ok (.bipush 50, 2) := by decide +kernel
theorem dX8_runBackups_4 : decode cX8_runBackups 4 = .ok (.invokestatic 80, 3) := by decide +kernel
theorem dX8_runBackups_7 : decode cX8_runBackups 7 = .ok (.aload_n 0, 1) := by decide +kernel
theorem dX8_runBackups_8 : decode cX8_runBackups 8 = .ok (.getfield 29, 3) := by decide +kernel
theorem dX8_runBackups_11 : decode cX8_runBackups 11 = .ok (.aload_n 0, 1) := by decide +kernel
theorem dX8_runBackups_12 : decode cX8_runBackups 12 = .ok (.getfield 12, 3) := by decide +kernel
theorem dX8_runBackups_15 : decode cX8_runBackups 15 = .ok (.invokevirtual 92, 3) := by decide +kernel
theorem dX8_runBackups_18 : decode cX8_runBackups 18 = .ok (.aload_n 0, 1) := by decide +kernel
theorem dX8_runBackups_19 : decode cX8_runBackups 19 = .ok (.aload_n 0, 1) := by decide +kernel
theorem dX8_runBackups_20 : decode cX8_runBackups 20 = .ok (.getfield 12, 3) := by decide +kernel
theorem dX8_runBackups_23 : decode cX8_runBackups 23 = .ok (.iload_n 1, 1) := by decide +kernel
theorem dX8_runBackups_24 : decode cX8_runBackups 24 = .ok (.invokevirtual 146, 3) := by decide +kernel
theorem dX8_runBackups_27 : decode cX8_runBackups 27 = .ok (.invokestatic 150, 3) := by decide +kernel
theorem dX8_runBackups_30 : decode cX8_runBackups 30 = .ok (.ireturn, 1) := by decide +kernel
theorem dX8_undo_0 : decode cX8_undo 0 = .ok (.aload_n 0, 1) := by decide +kernel
theorem dX8_undo_1 : decode cX8_undo 1 = .ok (.getfield 29, 3) := by decide +kernel
theorem dX8_undo_4 : decode cX8_undo 4 = .ok (.getfield 155, 3) := by decide +kernel
theorem dX8_undo_7 : decode cX8_undo 7 = .ok (.ifCond .ne 5, 3) := by decide +kernel
theorem dX8_undo_10 : decode cX8_undo 10 = .ok (.iconst (-1), 1) := by decide +kernel
theorem dX8_undo_11 : decode cX8_undo 11 = .ok (.ireturn, 1) := by decide +kernel
theorem dX8_undo_12 : decode cX8_undo 12 = .ok (.aload_n 0, 1) := by decide +kernel
theorem dX8_undo_13 : decode cX8_undo 13 = .ok (.getfield 29, 3) := by decide +kernel
theorem dX8_undo_16 : decode cX8_undo 16 = .ok (.aload_n 0, 1) := by decide +kernel
theorem dX8_undo_17 : decode cX8_undo 17 = .ok (.getfield 12, 3) := by decide +kernel
theorem dX8_undo_20 : decode cX8_undo 20 = .ok (.invokevirtual 156, 3) := by decide +kernel
theorem dX8_undo_23 : decode cX8_undo 23 = .ok (.aload_n 0, 1) := by decide +kernel
theorem dX8_undo_24 : decode cX8_undo 24 = .ok (.getfield 29, 3) := by decide +kernel
theorem dX8_undo_27 : decode cX8_undo 27 = .ok (.getfield 155, 3) := by decide +kernel
theorem dX8_undo_30 : decode cX8_undo 30 = .ok (.ireturn, 1) := by decide +kernel
theorem dX8_itemCount_0 : decode cX8_itemCount 0 = .ok (.aload_n 0, 1) := by decide +kernel
theorem dX8_itemCount_1 : decode cX8_itemCount 1 = .ok (.getfield 12, 3) := by decide +kernel
theorem dX8_itemCount_4 : decode cX8_itemCount 4 = .ok (.getfield 99, 3) := by decide +kernel
theorem dX8_itemCount_7 : decode cX8_itemCount 7 = .ok (.ireturn, 1) := by decide +kernel
theorem dX8_capacity_0 : decode cX8_capacity 0 = .ok (.aload_n 0, 1) := by decide +kernel
theorem dX8_capacity_1 : decode cX8_capacity 1 = .ok (.getfield 12, 3) := by decide +kernel
theorem dX8_capacity_4 : decode cX8_capacity 4 = .ok (.getfield 118, 3) := by decide +kernel
theorem dX8_capacity_7 : decode cX8_capacity 7 = .ok (.ireturn, 1) := by decide +kernel
theorem dX8_size_0 : decode cX8_size 0 = .ok (.aload_n 0, 1) := by decide +kernel
theorem dX8_size_1 : decode cX8_size 1 = .ok (.iload_n 1, 1) := by decide +kernel
theorem dX8_size_2 : decode cX8_size 2 = .ok (.invokevirtual 102, 3) := by decide +kernel
theorem dX8_size_5 : decode cX8_size 5 = .ok (.aload_n 0, 1) := by decide +kernel
theorem dX8_size_6 : decode cX8_size 6 = .ok (.getfield 12, 3) := by decide +kernel
theorem dX8_size_9 : decode cX8_size 9 = .ok (.getfield 108, 3) := by decide +kernel
theorem dX8_size_12 : decode cX8_size 12 = .ok (.iload_n 1, 1) := by decide +kernel
theorem dX8_size_13 : decode cX8_size 13 = .ok (.iaload, 1) := by decide +kernel
theorem dX8_size_14 : decode cX8_size 14 = .ok (.ireturn, 1) := by decide +kernel
theorem dX8_value_0 : decode cX8_value 0 = .ok (.aload_n 0, 1) := by decide +kernel
theorem dX8_value_1 : decode cX8_value 1 = .ok (.iload_n 1, 1) := by decide +kernel
theorem dX8_value_2 : decode cX8_value 2 = .ok (.invokevirtual 102, 3) := by decide +kernel
theorem dX8_value_5 : decode cX8_value 5 = .ok (.aload_n 0, 1) := by decide +kernel
theorem dX8_value_6 : decode cX8_value 6 = .ok (.getfield 12, 3) := by decide +kernel
theorem dX8_value_9 : decode cX8_value 9 = .ok (.getfield 111, 3) := by decide +kernel
theorem dX8_value_12 : decode cX8_value 12 = .ok (.iload_n 1, 1) := by decide +kernel
theorem dX8_value_13 : decode cX8_value 13 = .ok (.iaload, 1) := by decide +kernel
theorem dX8_value_14 : decode cX8_value 14 = .ok (.ireturn, 1) := by decide +kernel
theorem dX8_age_0 : decode cX8_age 0 = .ok (.aload_n 0, 1) := by decide +kernel
theorem dX8_age_1 : decode cX8_age 1 = .ok (.iload_n 1, 1) := by decide +kernel
theorem dX8_age_2 : decode cX8_age 2 = .ok (.invokevirtual 102, 3) := by decide +kernel
theorem dX8_age_5 : decode cX8_age 5 = .ok (.aload_n 0, 1) := by decide +kernel
theorem dX8_age_6 : decode cX8_age 6 = .ok (.getfield 12, 3) := by decide +kernel
theorem dX8_age_9 : decode cX8_age 9 = .ok (.getfield 170, 3) := by decide +kernel
theorem dX8_age_12 : decode cX8_age 12 = .ok (.iload_n 1, 1) := by decide +kernel
theorem dX8_age_13 : decode cX8_age 13 = .ok (.iaload, 1) := by decide +kernel
theorem dX8_age_14 : decode cX8_age 14 = .ok (.ireturn, 1) := by decide +kernel
theorem dX8_state_0 : decode cX8_state 0 = .ok (.aload_n 0, 1) := by decide +kernel
theorem dX8_state_1 : decode cX8_state 1 = .ok (.iload_n 1, 1) := by decide +kernel
theorem dX8_state_2 : decode cX8_state 2 = .ok (.invokevirtual 102, 3) := by decide +kernel
theorem dX8_state_5 : decode cX8_state 5 = .ok (.aload_n 0, 1) := by decide +kernel
theorem dX8_state_6 : decode cX8_state 6 = .ok (.getfield 12, 3) := by decide +kernel
theorem dX8_state_9 : decode cX8_state 9 = .ok (.getfield 69, 3) := by decide +kernel
theorem dX8_state_12 : decode cX8_state 12 = .ok (.iload_n 1, 1) := by decide +kernel
theorem dX8_state_13 : decode cX8_state 13 = .ok (.iaload, 1) := by decide +kernel
theorem dX8_state_14 : decode cX8_state 14 = .ok (.ireturn, 1) := by decide +kernel
theorem dX8_weight_0 : decode cX8_weight 0 = .ok (.aload_n 0, 1) := by decide +kernel
theorem dX8_weight_1 : decode cX8_weight 1 = .ok (.iload_n 1, 1) := by decide +kernel
theorem dX8_weight_2 : decode cX8_weight 2 = .ok (.invokevirtual 102, 3) := by decide +kernel
theorem dX8_weight_5 : decode cX8_weight 5 = .ok (.aload_n 0, 1) := by decide +kernel
theorem dX8_weight_6 : decode cX8_weight 6 = .ok (.getfield 12, 3) := by decide +kernel
theorem dX8_weight_9 : decode cX8_weight 9 = .ok (.iload_n 1, 1) := by decide +kernel
theorem dX8_weight_10 : decode cX8_weight 10 = .ok (.invokevirtual 173, 3) := by decide +kernel
theorem dX8_weight_13 : decode cX8_weight 13 = .ok (.ireturn, 1) := by decide +kernel
theorem dX8_pinnedItems_0 : decode cX8_pinnedItems 0 = .ok (.aload_n 0, 1) := by decide +kernel
theorem dX8_pinnedItems_1 : decode cX8_pinnedItems 1 = .ok (.getfield 12, 3) := by decide +kernel
theorem dX8_pinnedItems_4 : decode cX8_pinnedItems 4 = .ok (.iconst 1, 1) := by decide +kernel
theorem dX8_pinnedItems_5 : decode cX8_pinnedItems 5 = .ok (.invokevirtual 176, 3) := by decide +kernel
theorem dX8_pinnedItems_8 : decode cX8_pinnedItems 8 = .ok (.ireturn, 1) := by decide +kernel
theorem dX8_pinnedSize_0 : decode cX8_pinnedSize 0 = .ok (.aload_n 0, 1) := by decide +kernel
theorem dX8_pinnedSize_1 : decode cX8_pinnedSize 1 = .ok (.getfield 12, 3) := by decide +kernel
theorem dX8_pinnedSize_4 : decode cX8_pinnedSize 4 = .ok (.aload_n 0, 1) := by decide +kernel
theorem dX8_pinnedSize_5 : decode cX8_pinnedSize 5 = .ok (.getfield 12, 3) := by decide +kernel
theorem dX8_pinnedSize_8 : decode cX8_pinnedSize 8 = .ok (.iconst 1, 1) := by decide +kernel
theorem dX8_pinnedSize_9 : decode cX8_pinnedSize 9 = .ok (.invokevirtual 176, 3) := by decide +kernel
theorem dX8_pinnedSize_12 : decode cX8_pinnedSize 12 = .ok (.invokevirtual 179, 3) := by decide +kernel
theorem dX8_pinnedSize_15 : decode cX8_pinnedSize 15 = .ok (.ireturn, 1) := by decide +kernel
theorem dX8_hasPlan_0 : decode cX8_hasPlan 0 = .ok (.aload_n 0, 1) := by decide +kernel
theorem dX8_hasPlan_1 : decode cX8_hasPlan 1 = .ok (.getfield 12, 3) := by decide +kernel
theorem dX8_hasPlan_4 : decode cX8_hasPlan 4 = .ok (.invokevirtual 189, 3) := by decide +kernel
theorem dX8_hasPlan_7 : decode cX8_hasPlan 7 = .ok (.ifCond .lt 7, 3) := by decide +kernel
theorem dX8_hasPlan_10 : decode cX8_hasPlan 10 = .ok (.iconst 1, 1) := by decide +kernel
theorem dX8_hasPlan_11 : decode cX8_hasPlan 11 = .ok (.goto 4, 3) := by decide +kernel
theorem dX8_hasPlan_14 : decode cX8_hasPlan 14 = .ok (.iconst 0, 1) := by decide +kernel
theorem dX8_hasPlan_15 : decode cX8_hasPlan 15 = .ok (.ireturn, 1) := by decide +kernel
theorem dX8_bestWeight_0 : decode cX8_bestWeight 0 = .ok (.aload_n 0, 1) := by decide +kernel
theorem dX8_bestWeight_1 : decode cX8_bestWeight 1 = .ok (.aload_n 0, 1) := by decide +kernel
theorem dX8_bestWeight_2 : decode cX8_bestWeight 2 = .ok (.getfield 12, 3) := by decide +kernel
theorem dX8_bestWeight_5 : decode cX8_bestWeight 5 = .ok (.invokevirtual 121, 3) := by decide +kernel
theorem dX8_bestWeight_8 : decode cX8_bestWeight 8 = .ok (.invokestatic 192, 3) := by decide +kernel
theorem dX8_bestWeight_11 : decode cX8_bestWeight 11 = .ok (.ireturn, 1) := by decide +kernel
theorem dX8_bestPlan_0 : decode cX8_bestPlan 0 = .ok (.aload_n 0, 1) := by decide +kernel
theorem dX8_bestPlan_1 : decode cX8_bestPlan 1 = .ok (.aload_n 0, 1) := by decide +kernel
theorem dX8_bestPlan_2 : decode cX8_bestPlan 2 = .ok (.getfield 12, 3) := by decide +kernel
theorem dX8_bestPlan_5 : decode cX8_bestPlan 5 = .ok (.invokevirtual 121, 3) := by decide +kernel
theorem dX8_bestPlan_8 : decode cX8_bestPlan 8 = .ok (.invokestatic 134, 3) := by decide +kernel
theorem dX8_bestPlan_11 : decode cX8_bestPlan 11 = .ok (.ireturn, 1) := by decide +kernel
theorem dX8_bestSize_0 : decode cX8_bestSize 0 = .ok (.aload_n 0, 1) := by decide +kernel
theorem dX8_bestSize_1 : decode cX8_bestSize 1 = .ok (.aload_n 0, 1) := by decide +kernel
theorem dX8_bestSize_2 : decode cX8_bestSize 2 = .ok (.getfield 12, 3) := by decide +kernel
theorem dX8_bestSize_5 : decode cX8_bestSize 5 = .ok (.invokevirtual 121, 3) := by decide +kernel
theorem dX8_bestSize_8 : decode cX8_bestSize 8 = .ok (.invokestatic 195, 3) := by decide +kernel
theorem dX8_bestSize_11 : decode cX8_bestSize 11 = .ok (.ireturn, 1) := by decide +kernel
theorem dX8_slack_0 : decode cX8_slack 0 = .ok (.aload_n 0, 1) := by decide +kernel
theorem dX8_slack_1 : decode cX8_slack 1 = .ok (.aload_n 0, 1) := by decide +kernel
theorem dX8_slack_2 : decode cX8_slack 2 = .ok (.getfield 12, 3) := by decide +kernel
theorem dX8_slack_5 : decode cX8_slack 5 = .ok (.invokevirtual 121, 3) := by decide +kernel
theorem dX8_slack_8 : decode cX8_slack 8 = .ok (.lstore_n 1, 1) := by decide +kernel
theorem dX8_slack_9 : decode cX8_slack 9 = .ok (.lload_n 1, 1) := by decide +kernel
theorem dX8_slack_10 : decode cX8_slack 10 = .ok (.ldc2_w 125, 3) := by decide +kernel
theorem dX8_slack_13 : decode cX8_slack 13 = .ok (.lcmp, 1) := by decide +kernel
theorem dX8_slack_14 : decode cX8_slack 14 = .ok (.ifCond .ne 7, 3) := by decide +kernel
theorem dX8_slack_17 : decode cX8_slack 17 = .ok (.iconst (-1), 1) := by decide +kernel
theorem dX8_slack_18 : decode cX8_slack 18 = .ok (.goto 15, 3) := by decide +kernel
theorem dX8_slack_21 : decode cX8_slack 21 = .ok (.aload_n 0, 1) := by decide +kernel
theorem dX8_slack_22 : decode cX8_slack 22 = .ok (.getfield 12, 3) := by decide +kernel
theorem dX8_slack_25 : decode cX8_slack 25 = .ok (.getfield 118, 3) := by decide +kernel
theorem dX8_slack_28 : decode cX8_slack 28 = .ok (.lload_n 1, 1) := by decide +kernel
theorem dX8_slack_29 : decode cX8_slack 29 = .ok (.invokestatic 195, 3) := by decide +kernel
theorem dX8_slack_32 : decode cX8_slack 32 = .ok (.isub, 1) := by decide +kernel
theorem dX8_slack_33 : decode cX8_slack 33 = .ok (.ireturn, 1) := by decide +kernel
theorem dX8_optimalPlans_0 : decode cX8_optimalPlans 0 = .ok (.aload_n 0, 1) := by decide +kernel
theorem dX8_optimalPlans_1 : decode cX8_optimalPlans 1 = .ok (.getfield 12, 3) := by decide +kernel
theorem dX8_optimalPlans_4 : decode cX8_optimalPlans 4 = .ok (.invokevirtual 189, 3) := by decide +kernel
theorem dX8_optimalPlans_7 : decode cX8_optimalPlans 7 = .ok (.ifCond .ge 5, 3) := by decide +kernel
theorem dX8_optimalPlans_10 : decode cX8_optimalPlans 10 = .ok (.iconst 0, 1) := by decide +kernel
theorem dX8_optimalPlans_11 : decode cX8_optimalPlans 11 = .ok (.ireturn, 1) := by decide +kernel
theorem dX8_optimalPlans_12 : decode cX8_optimalPlans 12 = .ok (.aload_n 0, 1) := by decide +kernel
theorem dX8_optimalPlans_13 : decode cX8_optimalPlans 13 = .ok (.getfield 36, 3) := by decide +kernel
theorem dX8_optimalPlans_16 : decode cX8_optimalPlans 16 = .ok (.aload_n 0, 1) := by decide +kernel
theorem dX8_optimalPlans_17 : decode cX8_optimalPlans 17 = .ok (.getfield 12, 3) := by decide +kernel
theorem dX8_optimalPlans_20 : decode cX8_optimalPlans 20 = .ok (.bipush 100, 2) := by decide +kernel
theorem dX8_optimalPlans_22 : decode cX8_optimalPlans 22 = .ok (.invokevirtual 205, 3) := by decide +kernel
theorem dX8_optimalPlans_25 : decode cX8_optimalPlans 25 = .ok (.aload_n 0, 1) := by decide +kernel
theorem dX8_optimalPlans_26 : decode cX8_optimalPlans 26 = .ok (.getfield 36, 3) := by decide +kernel
theorem dX8_optimalPlans_29 : decode cX8_optimalPlans 29 = .ok (.aload_n 0, 1) := by decide +kernel
theorem dX8_optimalPlans_30 : decode cX8_optimalPlans 30 = .ok (.getfield 12, 3) := by decide +kernel
theorem dX8_optimalPlans_33 : decode cX8_optimalPlans 33 = .ok (.invokevirtual 209, 3) := by decide +kernel
theorem dX8_optimalPlans_36 : decode cX8_optimalPlans 36 = .ok (.ireturn, 1) := by decide +kernel
theorem dX8_weightAt_0 : decode cX8_weightAt 0 = .ok (.iload_n 1, 1) := by decide +kernel
theorem dX8_weightAt_1 : decode cX8_weightAt 1 = .ok (.iconst 0, 1) := by decide +kernel
theorem dX8_weightAt_2 : decode cX8_weightAt 2 = .ok (.bipush 100, 2) := by decide +kernel
theorem dX8_weightAt_4 : decode cX8_weightAt 4 = .ok (.invokestatic 80, 3) := by decide +kernel
theorem dX8_weightAt_7 : decode cX8_weightAt 7 = .ok (.aload_n 0, 1) := by decide +kernel
theorem dX8_weightAt_8 : decode cX8_weightAt 8 = .ok (.getfield 36, 3) := by decide +kernel
theorem dX8_weightAt_11 : decode cX8_weightAt 11 = .ok (.aload_n 0, 1) := by decide +kernel
theorem dX8_weightAt_12 : decode cX8_weightAt 12 = .ok (.getfield 12, 3) := by decide +kernel
theorem dX8_weightAt_15 : decode cX8_weightAt 15 = .ok (.iload_n 1, 1) := by decide +kernel
theorem dX8_weightAt_16 : decode cX8_weightAt 16 = .ok (.invokevirtual 205, 3) := by decide +kernel
theorem dX8_weightAt_19 : decode cX8_weightAt 19 = .ok (.aload_n 0, 1) := by decide +kernel
theorem dX8_weightAt_20 : decode cX8_weightAt 20 = .ok (.getfield 36, 3) := by decide +kernel
theorem dX8_weightAt_23 : decode cX8_weightAt 23 = .ok (.iload_n 1, 1) := by decide +kernel
theorem dX8_weightAt_24 : decode cX8_weightAt 24 = .ok (.invokevirtual 213, 3) := by decide +kernel
theorem dX8_weightAt_27 : decode cX8_weightAt 27 = .ok (.invokestatic 192, 3) := by decide +kernel
theorem dX8_weightAt_30 : decode cX8_weightAt 30 = .ok (.ireturn, 1) := by decide +kernel
theorem dX8_planAt_0 : decode cX8_planAt 0 = .ok (.iload_n 1, 1) := by decide +kernel
theorem dX8_planAt_1 : decode cX8_planAt 1 = .ok (.iconst 0, 1) := by decide +kernel
theorem dX8_planAt_2 : decode cX8_planAt 2 = .ok (.bipush 100, 2) := by decide +kernel
theorem dX8_planAt_4 : decode cX8_planAt 4 = .ok (.invokestatic 80, 3) := by decide +kernel
theorem dX8_planAt_7 : decode cX8_planAt 7 = .ok (.aload_n 0, 1) := by decide +kernel
theorem dX8_planAt_8 : decode cX8_planAt 8 = .ok (.getfield 36, 3) := by decide +kernel
theorem dX8_planAt_11 : decode cX8_planAt 11 = .ok (.aload_n 0, 1) := by decide +kernel
theorem dX8_planAt_12 : decode cX8_planAt 12 = .ok (.getfield 12, 3) := by decide +kernel
theorem dX8_planAt_15 : decode cX8_planAt 15 = .ok (.iload_n 1, 1) := by decide +kernel
theorem dX8_planAt_16 : decode cX8_planAt 16 = .ok (.invokevirtual 205, 3) := by decide +kernel
theorem dX8_planAt_19 : decode cX8_planAt 19 = .ok (.aload_n 0, 1) := by decide +kernel
theorem dX8_planAt_20 : decode cX8_planAt 20 = .ok (.getfield 36, 3) := by decide +kernel
theorem dX8_planAt_23 : decode cX8_planAt 23 = .ok (.iload_n 1, 1) := by decide +kernel
theorem dX8_planAt_24 : decode cX8_planAt 24 = .ok (.invokevirtual 213, 3) := by decide +kernel
theorem dX8_planAt_27 : decode cX8_planAt 27 = .ok (.invokestatic 134, 3) := by decide +kernel
theorem dX8_planAt_30 : decode cX8_planAt 30 = .ok (.ireturn, 1) := by decide +kernel
theorem dX8_freeCount_0 : decode cX8_freeCount 0 = .ok (.aload_n 0, 1) := by decide +kernel
theorem dX8_freeCount_1 : decode cX8_freeCount 1 = .ok (.getfield 12, 3) := by decide +kernel
theorem dX8_freeCount_4 : decode cX8_freeCount 4 = .ok (.iconst 0, 1) := by decide +kernel
theorem dX8_freeCount_5 : decode cX8_freeCount 5 = .ok (.invokevirtual 176, 3) := by decide +kernel
theorem dX8_freeCount_8 : decode cX8_freeCount 8 = .ok (.invokestatic 150, 3) := by decide +kernel
theorem dX8_freeCount_11 : decode cX8_freeCount 11 = .ok (.ireturn, 1) := by decide +kernel
theorem dX8_cell_0 : decode cX8_cell 0 = .ok (.aload_n 0, 1) := by decide +kernel
theorem dX8_cell_1 : decode cX8_cell 1 = .ok (.iload_n 1, 1) := by decide +kernel
theorem dX8_cell_2 : decode cX8_cell 2 = .ok (.iconst 0, 1) := by decide +kernel
theorem dX8_cell_3 : decode cX8_cell 3 = .ok (.iload_n 2, 1) := by decide +kernel
theorem dX8_cell_4 : decode cX8_cell 4 = .ok (.invokevirtual 220, 3) := by decide +kernel
theorem dX8_cell_7 : decode cX8_cell 7 = .ok (.aload_n 0, 1) := by decide +kernel
theorem dX8_cell_8 : decode cX8_cell 8 = .ok (.getfield 36, 3) := by decide +kernel
theorem dX8_cell_11 : decode cX8_cell 11 = .ok (.aload_n 0, 1) := by decide +kernel
theorem dX8_cell_12 : decode cX8_cell 12 = .ok (.getfield 12, 3) := by decide +kernel
theorem dX8_cell_15 : decode cX8_cell 15 = .ok (.bipush 100, 2) := by decide +kernel
theorem dX8_cell_17 : decode cX8_cell 17 = .ok (.invokevirtual 205, 3) := by decide +kernel
theorem dX8_cell_20 : decode cX8_cell 20 = .ok (.aload_n 0, 1) := by decide +kernel
theorem dX8_cell_21 : decode cX8_cell 21 = .ok (.getfield 36, 3) := by decide +kernel
theorem dX8_cell_24 : decode cX8_cell 24 = .ok (.iload_n 1, 1) := by decide +kernel
theorem dX8_cell_25 : decode cX8_cell 25 = .ok (.iload_n 2, 1) := by decide +kernel
theorem dX8_cell_26 : decode cX8_cell 26 = .ok (.invokevirtual 223, 3) := by decide +kernel
theorem dX8_cell_29 : decode cX8_cell 29 = .ok (.ireturn, 1) := by decide +kernel
theorem dX8_greedyPlan_0 : decode cX8_greedyPlan 0 = .ok (.aload_n 0, 1) := by decide +kernel
theorem dX8_greedyPlan_1 : decode cX8_greedyPlan 1 = .ok (.getfield 12, 3) := by decide +kernel
theorem dX8_greedyPlan_4 : decode cX8_greedyPlan 4 = .ok (.invokevirtual 189, 3) := by decide +kernel
theorem dX8_greedyPlan_7 : decode cX8_greedyPlan 7 = .ok (.ifCond .ge 5, 3) := by decide +kernel
theorem dX8_greedyPlan_10 : decode cX8_greedyPlan 10 = .ok (.iconst (-1), 1) := by decide +kernel
theorem dX8_greedyPlan_11 : decode cX8_greedyPlan 11 = .ok (.ireturn, 1) := by decide +kernel
theorem dX8_greedyPlan_12 : decode cX8_greedyPlan 12 = .ok (.aload_n 0, 1) := by decide +kernel
theorem dX8_greedyPlan_13 : decode cX8_greedyPlan 13 = .ok (.getfield 43, 3) := by decide +kernel
theorem dX8_greedyPlan_16 : decode cX8_greedyPlan 16 = .ok (.aload_n 0, 1) := by decide +kernel
theorem dX8_greedyPlan_17 : decode cX8_greedyPlan 17 = .ok (.getfield 12, 3) := by decide +kernel
theorem dX8_greedyPlan_20 : decode cX8_greedyPlan 20 = .ok (.invokevirtual 182, 3) := by decide +kernel
theorem dX8_greedyPlan_23 : decode cX8_greedyPlan 23 = .ok (.aload_n 0, 1) := by decide +kernel
theorem dX8_greedyPlan_24 : decode cX8_greedyPlan 24 = .ok (.getfield 43, 3) := by decide +kernel
theorem dX8_greedyPlan_27 : decode cX8_greedyPlan 27 = .ok (.aload_n 0, 1) := by decide +kernel
theorem dX8_greedyPlan_28 : decode cX8_greedyPlan 28 = .ok (.getfield 12, 3) := by decide +kernel
theorem dX8_greedyPlan_31 : decode cX8_greedyPlan 31 = .ok (.invokevirtual 226, 3) := by decide +kernel
theorem dX8_greedyPlan_34 : decode cX8_greedyPlan 34 = .ok (.ireturn, 1) := by decide +kernel
theorem dX8_greedyWeight_0 : decode cX8_greedyWeight 0 = .ok (.aload_n 0, 1) := by decide +kernel
theorem dX8_greedyWeight_1 : decode cX8_greedyWeight 1 = .ok (.getfield 12, 3) := by decide +kernel
theorem dX8_greedyWeight_4 : decode cX8_greedyWeight 4 = .ok (.invokevirtual 189, 3) := by decide +kernel
theorem dX8_greedyWeight_7 : decode cX8_greedyWeight 7 = .ok (.ifCond .ge 5, 3) := by decide +kernel
theorem dX8_greedyWeight_10 : decode cX8_greedyWeight 10 = .ok (.iconst (-1), 1) := by decide +kernel
theorem dX8_greedyWeight_11 : decode cX8_greedyWeight 11 = .ok (.ireturn, 1) := by decide +kernel
theorem dX8_greedyWeight_12 : decode cX8_greedyWeight 12 = .ok (.aload_n 0, 1) := by decide +kernel
theorem dX8_greedyWeight_13 : decode cX8_greedyWeight 13 = .ok (.getfield 43, 3) := by decide +kernel
theorem dX8_greedyWeight_16 : decode cX8_greedyWeight 16 = .ok (.aload_n 0, 1) := by decide +kernel
theorem dX8_greedyWeight_17 : decode cX8_greedyWeight 17 = .ok (.getfield 12, 3) := by decide +kernel
theorem dX8_greedyWeight_20 : decode cX8_greedyWeight 20 = .ok (.invokevirtual 182, 3) := by decide +kernel
theorem dX8_greedyWeight_23 : decode cX8_greedyWeight 23 = .ok (.aload_n 0, 1) := by decide +kernel
theorem dX8_greedyWeight_24 : decode cX8_greedyWeight 24 = .ok (.getfield 12, 3) := by decide +kernel
theorem dX8_greedyWeight_27 : decode cX8_greedyWeight 27 = .ok (.aload_n 0, 1) := by decide +kernel
theorem dX8_greedyWeight_28 : decode cX8_greedyWeight 28 = .ok (.getfield 43, 3) := by decide +kernel
theorem dX8_greedyWeight_31 : decode cX8_greedyWeight 31 = .ok (.aload_n 0, 1) := by decide +kernel
theorem dX8_greedyWeight_32 : decode cX8_greedyWeight 32 = .ok (.getfield 12, 3) := by decide +kernel
theorem dX8_greedyWeight_35 : decode cX8_greedyWeight 35 = .ok (.invokevirtual 226, 3) := by decide +kernel
theorem dX8_greedyWeight_38 : decode cX8_greedyWeight 38 = .ok (.invokevirtual 229, 3) := by decide +kernel
theorem dX8_greedyWeight_41 : decode cX8_greedyWeight 41 = .ok (.ireturn, 1) := by decide +kernel
theorem dX8_upperBound_0 : decode cX8_upperBound 0 = .ok (.aload_n 0, 1) := by decide +kernel
theorem dX8_upperBound_1 : decode cX8_upperBound 1 = .ok (.getfield 12, 3) := by decide +kernel
theorem dX8_upperBound_4 : decode cX8_upperBound 4 = .ok (.invokevirtual 189, 3) := by decide +kernel
theorem dX8_upperBound_7 : decode cX8_upperBound 7 = .ok (.ifCond .ge 5, 3) := by decide +kernel
theorem dX8_upperBound_10 : decode cX8_upperBound 10 = .ok (.iconst (-1), 1) := by decide +kernel
theorem dX8_upperBound_11 : decode cX8_upperBound 11 = .ok (.ireturn, 1) := by decide +kernel
theorem dX8_upperBound_12 : decode cX8_upperBound 12 = .ok (.aload_n 0, 1) := by decide +kernel
theorem dX8_upperBound_13 : decode cX8_upperBound 13 = .ok (.getfield 43, 3) := by decide +kernel
theorem dX8_upperBound_16 : decode cX8_upperBound 16 = .ok (.aload_n 0, 1) := by decide +kernel
theorem dX8_upperBound_17 : decode cX8_upperBound 17 = .ok (.getfield 12, 3) := by decide +kernel
theorem dX8_upperBound_20 : decode cX8_upperBound 20 = .ok (.invokevirtual 182, 3) := by decide +kernel
theorem dX8_upperBound_23 : decode cX8_upperBound 23 = .ok (.aload_n 0, 1) := by decide +kernel
theorem dX8_upperBound_24 : decode cX8_upperBound 24 = .ok (.getfield 43, 3) := by decide +kernel
theorem dX8_upperBound_27 : decode cX8_upperBound 27 = .ok (.aload_n 0, 1) := by decide +kernel
theorem dX8_upperBound_28 : decode cX8_upperBound 28 = .ok (.getfield 12, 3) := by decide +kernel
theorem dX8_upperBound_31 : decode cX8_upperBound 31 = .ok (.invokevirtual 232, 3) := by decide +kernel
theorem dX8_upperBound_34 : decode cX8_upperBound 34 = .ok (.ireturn, 1) := by decide +kernel
theorem dX8_backupCount_0 : decode cX8_backupCount 0 = .ok (.aload_n 0, 1) := by decide +kernel
theorem dX8_backupCount_1 : decode cX8_backupCount 1 = .ok (.getfield 12, 3) := by decide +kernel
theorem dX8_backupCount_4 : decode cX8_backupCount 4 = .ok (.getfield 243, 3) := by decide +kernel
theorem dX8_backupCount_7 : decode cX8_backupCount 7 = .ok (.ireturn, 1) := by decide +kernel
theorem dX8_backedUpSize_0 : decode cX8_backedUpSize 0 = .ok (.aload_n 0, 1) := by decide +kernel
theorem dX8_backedUpSize_1 : decode cX8_backedUpSize 1 = .ok (.getfield 12, 3) := by decide +kernel
theorem dX8_backedUpSize_4 : decode cX8_backedUpSize 4 = .ok (.getfield 246, 3) := by decide +kernel
theorem dX8_backedUpSize_7 : decode cX8_backedUpSize 7 = .ok (.ireturn, 1) := by decide +kernel
theorem dX8_backedUpWeight_0 : decode cX8_backedUpWeight 0 = .ok (.aload_n 0, 1) := by decide +kernel
