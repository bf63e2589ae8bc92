theorem dL_isAlike_43 : decode cL_isAlike 43 = .ok (.invokestatic 262, 3) := by decide +kernel
theorem dL_isAlike_46 : decode cL_isAlike 46 = .ok (.lload 5, 2) := by decide +kernel
theorem dL_isAlike_48 : decode cL_isAlike 48 = .ok (.lcmp, 1) := by decide +kernel
theorem dL_isAlike_49 : decode cL_isAlike 49 = .ok (.ifCond .ne 21, 3) := by decide +kernel
theorem dL_isAlike_52 : decode cL_isAlike 52 = .ok (.iload 7, 2) := by decide +kernel
theorem dL_isAlike_54 : decode cL_isAlike 54 = .ok (.ifCond .lt 16, 3) := by decide +kernel
theorem dL_isAlike_57 : decode cL_isAlike 57 = .ok (.iload 7, 2) := by decide +kernel
theorem dL_isAlike_59 : decode cL_isAlike 59 = .ok (.aload_n 0, 1) := by decide +kernel
theorem dL_isAlike_60 : decode cL_isAlike 60 = .ok (.invokevirtual 149, 3) := by decide +kernel
theorem dL_isAlike_63 : decode cL_isAlike 63 = .ok (.if_icmp .gt 7, 3) := by decide +kernel
theorem dL_isAlike_66 : decode cL_isAlike 66 = .ok (.iconst 1, 1) := by decide +kernel
theorem dL_isAlike_67 : decode cL_isAlike 67 = .ok (.goto 4, 3) := by decide +kernel
theorem dL_isAlike_70 : decode cL_isAlike 70 = .ok (.iconst 0, 1) := by decide +kernel
theorem dL_isAlike_71 : decode cL_isAlike 71 = .ok (.istore 8, 2) := by decide +kernel
theorem dL_isAlike_73 : decode cL_isAlike 73 = .ok (.aload_n 0, 1) := by decide +kernel
theorem dL_isAlike_74 : decode cL_isAlike 74 = .ok (.invokevirtual 266, 3) := by decide +kernel
theorem dL_isAlike_77 : decode cL_isAlike 77 = .ok (.pop, 1) := by decide +kernel
theorem dL_isAlike_78 : decode cL_isAlike 78 = .ok (.iload 8, 2) := by decide +kernel
theorem dL_isAlike_80 : decode cL_isAlike 80 = .ok (.ifCond .eq 16, 3) := by decide +kernel
theorem dL_isAlike_83 : decode cL_isAlike 83 = .ok (.aload_n 0, 1) := by decide +kernel
theorem dL_isAlike_84 : decode cL_isAlike 84 = .ok (.invokestatic 262, 3) := by decide +kernel
theorem dL_isAlike_87 : decode cL_isAlike 87 = .ok (.lload_n 3, 1) := by decide +kernel
theorem dL_isAlike_88 : decode cL_isAlike 88 = .ok (.lcmp, 1) := by decide +kernel
theorem dL_isAlike_89 : decode cL_isAlike 89 = .ok (.ifCond .ne 7, 3) := by decide +kernel
theorem dL_isAlike_92 : decode cL_isAlike 92 = .ok (.iconst 1, 1) := by decide +kernel
theorem dL_isAlike_93 : decode cL_isAlike 93 = .ok (.goto 4, 3) := by decide +kernel
theorem dL_isAlike_96 : decode cL_isAlike 96 = .ok (.iconst 0, 1) := by decide +kernel
theorem dL_isAlike_97 : decode cL_isAlike 97 = .ok (.ireturn, 1) := by decide +kernel
theorem dL_law_0 : decode cL_law 0 = .ok (.new 20, 3) := by decide +kernel
theorem dL_law_3 : decode cL_law 3 = .ok (.dup, 1) := by decide +kernel
theorem dL_law_4 : decode cL_law 4 = .ok (.invokespecial 269, 3) := by decide +kernel
theorem dL_law_7 : decode cL_law 7 = .ok (.astore_n 1, 1) := by decide +kernel
theorem dL_law_8 : decode cL_law 8 = .ok (.aload_n 1, 1) := by decide +kernel
theorem dL_law_9 : decode cL_law 9 = .ok (.invokestatic 270, 3) := by decide +kernel
theorem dL_law_12 : decode cL_law 12 = .ok (.ifCond .eq 28, 3) := by decide +kernel
theorem dL_law_15 : decode cL_law 15 = .ok (.aload_n 1, 1) := by decide +kernel
theorem dL_law_16 : decode cL_law 16 = .ok (.iconst 0, 1) := by decide +kernel
theorem dL_law_17 : decode cL_law 17 = .ok (.invokestatic 274, 3) := by decide +kernel
theorem dL_law_20 : decode cL_law 20 = .ok (.ifCond .eq 20, 3) := by decide +kernel
theorem dL_law_23 : decode cL_law 23 = .ok (.aload_n 1, 1) := by decide +kernel
theorem dL_law_24 : decode cL_law 24 = .ok (.iconst 2, 1) := by decide +kernel
theorem dL_law_25 : decode cL_law 25 = .ok (.iconst 3, 1) := by decide +kernel
theorem dL_law_26 : decode cL_law 26 = .ok (.invokestatic 278, 3) := by decide +kernel
theorem dL_law_29 : decode cL_law 29 = .ok (.ifCond .eq 11, 3) := by decide +kernel
theorem dL_law_32 : decode cL_law 32 = .ok (.aload_n 1, 1) := by decide +kernel
theorem dL_law_33 : decode cL_law 33 = .ok (.aload_n 0, 1) := by decide +kernel
theorem dL_law_34 : decode cL_law 34 = .ok (.invokestatic 282, 3) := by decide +kernel
theorem dL_law_37 : decode cL_law 37 = .ok (.ifCond .eq 5, 3) := by decide +kernel
theorem dL_law_40 : decode cL_law 40 = .ok (.iconst 0, 1) := by decide +kernel
theorem dL_law_41 : decode cL_law 41 = .ok (.ireturn, 1) := by decide +kernel
theorem dL_law_42 : decode cL_law 42 = .ok (.iconst 2, 1) := by decide +kernel
theorem dL_law_43 : decode cL_law 43 = .ok (.istore_n 2, 1) := by decide +kernel
theorem dL_law_44 : decode cL_law 44 = .ok (.iload_n 2, 1) := by decide +kernel
theorem dL_law_45 : decode cL_law 45 = .ok (.bipush 42, 2) := by decide +kernel
theorem dL_law_47 : decode cL_law 47 = .ok (.if_icmp .ge 77, 3) := by decide +kernel
theorem dL_law_50 : decode cL_law 50 = .ok (.aload_n 1, 1) := by decide +kernel
theorem dL_law_51 : decode cL_law 51 = .ok (.aload_n 0, 1) := by decide +kernel
theorem dL_law_52 : decode cL_law 52 = .ok (.iload_n 2, 1) := by decide +kernel
theorem dL_law_53 : decode cL_law 53 = .ok (.invokestatic 286, 3) := by decide +kernel
theorem dL_law_56 : decode cL_law 56 = .ok (.aload_n 0, 1) := by decide +kernel
theorem dL_law_57 : decode cL_law 57 = .ok (.iload_n 2, 1) := by decide +kernel
theorem dL_law_58 : decode cL_law 58 = .ok (.invokestatic 7, 3) := by decide +kernel
theorem dL_law_61 : decode cL_law 61 = .ok (.iconst 5, 1) := by decide +kernel
theorem dL_law_62 : decode cL_law 62 = .ok (.ishr, 1) := by decide +kernel
theorem dL_law_63 : decode cL_law 63 = .ok (.ldc_w 290, 3) := by decide +kernel
theorem dL_law_66 : decode cL_law 66 = .ok (.iand, 1) := by decide +kernel
theorem dL_law_67 : decode cL_law 67 = .ok (.istore_n 3, 1) := by decide +kernel
theorem dL_law_68 : decode cL_law 68 = .ok (.aload_n 1, 1) := by decide +kernel
theorem dL_law_69 : decode cL_law 69 = .ok (.invokestatic 270, 3) := by decide +kernel
theorem dL_law_72 : decode cL_law 72 = .ok (.ifCond .eq 14, 3) := by decide +kernel
theorem dL_law_75 : decode cL_law 75 = .ok (.aload_n 1, 1) := by decide +kernel
theorem dL_law_76 : decode cL_law 76 = .ok (.iload_n 3, 1) := by decide +kernel
theorem dL_law_77 : decode cL_law 77 = .ok (.bipush 101, 2) := by decide +kernel
theorem dL_law_79 : decode cL_law 79 = .ok (.irem, 1) := by decide +kernel
theorem dL_law_80 : decode cL_law 80 = .ok (.invokestatic 274, 3) := by decide +kernel
theorem dL_law_83 : decode cL_law 83 = .ok (.ifCond .ne 5, 3) := by decide +kernel
theorem dL_law_86 : decode cL_law 86 = .ok (.iconst 0, 1) := by decide +kernel
theorem dL_law_87 : decode cL_law 87 = .ok (.ireturn, 1) := by decide +kernel
theorem dL_law_88 : decode cL_law 88 = .ok (.iload_n 3, 1) := by decide +kernel
theorem dL_law_89 : decode cL_law 89 = .ok (.iconst 3, 1) := by decide +kernel
theorem dL_law_90 : decode cL_law 90 = .ok (.irem, 1) := by decide +kernel
theorem dL_law_91 : decode cL_law 91 = .ok (.ifCond .ne 27, 3) := by decide +kernel
theorem dL_law_94 : decode cL_law 94 = .ok (.aload_n 1, 1) := by decide +kernel
theorem dL_law_95 : decode cL_law 95 = .ok (.iconst 1, 1) := by decide +kernel
theorem dL_law_96 : decode cL_law 96 = .ok (.iload_n 3, 1) := by decide +kernel
theorem dL_law_97 : decode cL_law 97 = .ok (.iconst 4, 1) := by decide +kernel
theorem dL_law_98 : decode cL_law 98 = .ok (.idiv, 1) := by decide +kernel
theorem dL_law_99 : decode cL_law 99 = .ok (.iconst 4, 1) := by decide +kernel
theorem dL_law_100 : decode cL_law 100 = .ok (.irem, 1) := by decide +kernel
theorem dL_law_101 : decode cL_law 101 = .ok (.iadd, 1) := by decide +kernel
theorem dL_law_102 : decode cL_law 102 = .ok (.iconst 1, 1) := by decide +kernel
theorem dL_law_103 : decode cL_law 103 = .ok (.iload_n 3, 1) := by decide +kernel
theorem dL_law_104 : decode cL_law 104 = .ok (.bipush 64, 2) := by decide +kernel
theorem dL_law_106 : decode cL_law 106 = .ok (.idiv, 1) := by decide +kernel
theorem dL_law_107 : decode cL_law 107 = .ok (.iconst 4, 1) := by decide +kernel
theorem dL_law_108 : decode cL_law 108 = .ok (.irem, 1) := by decide +kernel
theorem dL_law_109 : decode cL_law 109 = .ok (.iadd, 1) := by decide +kernel
theorem dL_law_110 : decode cL_law 110 = .ok (.invokestatic 278, 3) := by decide +kernel
theorem dL_law_113 : decode cL_law 113 = .ok (.ifCond .ne 5, 3) := by decide +kernel
theorem dL_law_116 : decode cL_law 116 = .ok (.iconst 0, 1) := by decide +kernel
theorem dL_law_117 : decode cL_law 117 = .ok (.ireturn, 1) := by decide +kernel
theorem dL_law_118 : decode cL_law 118 = .ok (.iinc 2 2, 3) := by decide +kernel
theorem dL_law_121 : decode cL_law 121 = .ok (.goto (-77), 3) := by decide +kernel
theorem dL_law_124 : decode cL_law 124 = .ok (.iconst 1, 1) := by decide +kernel
theorem dL_law_125 : decode cL_law 125 = .ok (.ireturn, 1) := by decide +kernel
