theorem dX8_backedUpWeight_1 : decode cX8_backedUpWeight 1 = .ok (.getfield 12, 3) := by decide +kernel
theorem dX8_backedUpWeight_4 : decode cX8_backedUpWeight 4 = .ok (.getfield 249, 3) := by decide +kernel
theorem dX8_backedUpWeight_7 : decode cX8_backedUpWeight 7 = .ok (.ireturn, 1) := by decide +kernel
theorem dX8_violations_0 : decode cX8_violations 0 = .ok (.aload_n 0, 1) := by decide +kernel
theorem dX8_violations_1 : decode cX8_violations 1 = .ok (.aload_n 0, 1) := by decide +kernel
theorem dX8_violations_2 : decode cX8_violations 2 = .ok (.getfield 12, 3) := by decide +kernel
theorem dX8_violations_5 : decode cX8_violations 5 = .ok (.invokevirtual 121, 3) := by decide +kernel
theorem dX8_violations_8 : decode cX8_violations 8 = .ok (.lstore_n 1, 1) := by decide +kernel
theorem dX8_violations_9 : decode cX8_violations 9 = .ok (.lload_n 1, 1) := by decide +kernel
theorem dX8_violations_10 : decode cX8_violations 10 = .ok (.ldc2_w 125, 3) := by decide +kernel
theorem dX8_violations_13 : decode cX8_violations 13 = .ok (.lcmp, 1) := by decide +kernel
theorem dX8_violations_14 : decode cX8_violations 14 = .ok (.ifCond .ne 5, 3) := by decide +kernel
theorem dX8_violations_17 : decode cX8_violations 17 = .ok (.iconst 0, 1) := by decide +kernel
theorem dX8_violations_18 : decode cX8_violations 18 = .ok (.ireturn, 1) := by decide +kernel
theorem dX8_violations_19 : decode cX8_violations 19 = .ok (.lload_n 1, 1) := by decide +kernel
theorem dX8_violations_20 : decode cX8_violations 20 = .ok (.invokestatic 134, 3) := by decide +kernel
theorem dX8_violations_23 : decode cX8_violations 23 = .ok (.istore_n 3, 1) := by decide +kernel
theorem dX8_violations_24 : decode cX8_violations 24 = .ok (.iconst 0, 1) := by decide +kernel
theorem dX8_violations_25 : decode cX8_violations 25 = .ok (.istore 4, 2) := by decide +kernel
theorem dX8_violations_27 : decode cX8_violations 27 = .ok (.aload_n 0, 1) := by decide +kernel
theorem dX8_violations_28 : decode cX8_violations 28 = .ok (.iload_n 3, 1) := by decide +kernel
theorem dX8_violations_29 : decode cX8_violations 29 = .ok (.invokevirtual 252, 3) := by decide +kernel
theorem dX8_violations_32 : decode cX8_violations 32 = .ok (.ifCond .eq 6, 3) := by decide +kernel
theorem dX8_violations_35 : decode cX8_violations 35 = .ok (.iinc 4 1, 3) := by decide +kernel
theorem dX8_violations_38 : decode cX8_violations 38 = .ok (.aload_n 0, 1) := by decide +kernel
theorem dX8_violations_39 : decode cX8_violations 39 = .ok (.iload_n 3, 1) := by decide +kernel
theorem dX8_violations_40 : decode cX8_violations 40 = .ok (.invokevirtual 256, 3) := by decide +kernel
theorem dX8_violations_43 : decode cX8_violations 43 = .ok (.ifCond .eq 6, 3) := by decide +kernel
theorem dX8_violations_46 : decode cX8_violations 46 = .ok (.iinc 4 1, 3) := by decide +kernel
theorem dX8_violations_49 : decode cX8_violations 49 = .ok (.aload_n 0, 1) := by decide +kernel
theorem dX8_violations_50 : decode cX8_violations 50 = .ok (.iload_n 3, 1) := by decide +kernel
theorem dX8_violations_51 : decode cX8_violations 51 = .ok (.invokevirtual 259, 3) := by decide +kernel
theorem dX8_violations_54 : decode cX8_violations 54 = .ok (.ifCond .eq 6, 3) := by decide +kernel
theorem dX8_violations_57 : decode cX8_violations 57 = .ok (.iinc 4 1, 3) := by decide +kernel
theorem dX8_violations_60 : decode cX8_violations 60 = .ok (.iload 4, 2) := by decide +kernel
theorem dX8_violations_62 : decode cX8_violations 62 = .ok (.ireturn, 1) := by decide +kernel
theorem dX8_requireWithin_0 : decode cX8_requireWithin 0 = .ok (.iload_n 0, 1) := by decide +kernel
theorem dX8_requireWithin_1 : decode cX8_requireWithin 1 = .ok (.iload_n 1, 1) := by decide +kernel
theorem dX8_requireWithin_2 : decode cX8_requireWithin 2 = .ok (.if_icmp .lt 8, 3) := by decide +kernel
theorem dX8_requireWithin_5 : decode cX8_requireWithin 5 = .ok (.iload_n 0, 1) := by decide +kernel
theorem dX8_requireWithin_6 : decode cX8_requireWithin 6 = .ok (.iload_n 2, 1) := by decide +kernel
theorem dX8_requireWithin_7 : decode cX8_requireWithin 7 = .ok (.if_icmp .le 14, 3) := by decide +kernel
theorem dX8_requireWithin_10 : decode cX8_requireWithin 10 = .ok (.new 272, 3) := by decide +kernel
theorem dX8_requireWithin_13 : decode cX8_requireWithin 13 = .ok (.dup, 1) := by decide +kernel
theorem dX8_requireWithin_14 : decode cX8_requireWithin 14 = .ok (.ldc_w 274, 3) := by decide +kernel
theorem dX8_requireWithin_17 : decode cX8_requireWithin 17 = .ok (.invokespecial 276, 3) := by decide +kernel
theorem dX8_requireWithin_20 : decode cX8_requireWithin 20 = .ok (.athrow, 1) := by decide +kernel
theorem dX8_requireWithin_21 : decode cX8_requireWithin 21 = .ok (.return_, 1) := by decide +kernel
theorem dX8_requireItem_0 : decode cX8_requireItem 0 = .ok (.iload_n 1, 1) := by decide +kernel
theorem dX8_requireItem_1 : decode cX8_requireItem 1 = .ok (.ifCond .lt 14, 3) := by decide +kernel
theorem dX8_requireItem_4 : decode cX8_requireItem 4 = .ok (.iload_n 1, 1) := by decide +kernel
theorem dX8_requireItem_5 : decode cX8_requireItem 5 = .ok (.aload_n 0, 1) := by decide +kernel
theorem dX8_requireItem_6 : decode cX8_requireItem 6 = .ok (.getfield 12, 3) := by decide +kernel
theorem dX8_requireItem_9 : decode cX8_requireItem 9 = .ok (.getfield 99, 3) := by decide +kernel
theorem dX8_requireItem_12 : decode cX8_requireItem 12 = .ok (.if_icmp .lt 14, 3) := by decide +kernel
theorem dX8_requireItem_15 : decode cX8_requireItem 15 = .ok (.new 277, 3) := by decide +kernel
theorem dX8_requireItem_18 : decode cX8_requireItem 18 = .ok (.dup, 1) := by decide +kernel
theorem dX8_requireItem_19 : decode cX8_requireItem 19 = .ok (.ldc_w 279, 3) := by decide +kernel
theorem dX8_requireItem_22 : decode cX8_requireItem 22 = .ok (.invokespecial 281, 3) := by decide +kernel
theorem dX8_requireItem_25 : decode cX8_requireItem 25 = .ok (.athrow, 1) := by decide +kernel
theorem dX8_requireItem_26 : decode cX8_requireItem 26 = .ok (.return_, 1) := by decide +kernel
theorem dX8_requireCell_0 : decode cX8_requireCell 0 = .ok (.iload_n 1, 1) := by decide +kernel
theorem dX8_requireCell_1 : decode cX8_requireCell 1 = .ok (.iload_n 2, 1) := by decide +kernel
theorem dX8_requireCell_2 : decode cX8_requireCell 2 = .ok (.if_icmp .lt 28, 3) := by decide +kernel
theorem dX8_requireCell_5 : decode cX8_requireCell 5 = .ok (.iload_n 1, 1) := by decide +kernel
theorem dX8_requireCell_6 : decode cX8_requireCell 6 = .ok (.aload_n 0, 1) := by decide +kernel
theorem dX8_requireCell_7 : decode cX8_requireCell 7 = .ok (.getfield 12, 3) := by decide +kernel
theorem dX8_requireCell_10 : decode cX8_requireCell 10 = .ok (.iconst 0, 1) := by decide +kernel
theorem dX8_requireCell_11 : decode cX8_requireCell 11 = .ok (.invokevirtual 176, 3) := by decide +kernel
theorem dX8_requireCell_14 : decode cX8_requireCell 14 = .ok (.invokestatic 150, 3) := by decide +kernel
theorem dX8_requireCell_17 : decode cX8_requireCell 17 = .ok (.if_icmp .gt 13, 3) := by decide +kernel
theorem dX8_requireCell_20 : decode cX8_requireCell 20 = .ok (.iload_n 3, 1) := by decide +kernel
theorem dX8_requireCell_21 : decode cX8_requireCell 21 = .ok (.ifCond .lt 9, 3) := by decide +kernel
theorem dX8_requireCell_24 : decode cX8_requireCell 24 = .ok (.iload_n 3, 1) := by decide +kernel
theorem dX8_requireCell_25 : decode cX8_requireCell 25 = .ok (.bipush 100, 2) := by decide +kernel
theorem dX8_requireCell_27 : decode cX8_requireCell 27 = .ok (.if_icmp .le 14, 3) := by decide +kernel
theorem dX8_requireCell_30 : decode cX8_requireCell 30 = .ok (.new 277, 3) := by decide +kernel
theorem dX8_requireCell_33 : decode cX8_requireCell 33 = .ok (.dup, 1) := by decide +kernel
theorem dX8_requireCell_34 : decode cX8_requireCell 34 = .ok (.ldc_w 282, 3) := by decide +kernel
theorem dX8_requireCell_37 : decode cX8_requireCell 37 = .ok (.invokespecial 281, 3) := by decide +kernel
theorem dX8_requireCell_40 : decode cX8_requireCell 40 = .ok (.athrow, 1) := by decide +kernel
theorem dX8_requireCell_41 : decode cX8_requireCell 41 = .ok (.return_, 1) := by decide +kernel
theorem dX8_changeState_0 : decode cX8_changeState 0 = .ok (.aload_n 0, 1) := by decide +kernel
theorem dX8_changeState_1 : decode cX8_changeState 1 = .ok (.iload_n 1, 1) := by decide +kernel
theorem dX8_changeState_2 : decode cX8_changeState 2 = .ok (.invokevirtual 102, 3) := by decide +kernel
theorem dX8_changeState_5 : decode cX8_changeState 5 = .ok (.aload_n 0, 1) := by decide +kernel
theorem dX8_changeState_6 : decode cX8_changeState 6 = .ok (.getfield 29, 3) := by decide +kernel
theorem dX8_changeState_9 : decode cX8_changeState 9 = .ok (.aload_n 0, 1) := by decide +kernel
theorem dX8_changeState_10 : decode cX8_changeState 10 = .ok (.getfield 12, 3) := by decide +kernel
theorem dX8_changeState_13 : decode cX8_changeState 13 = .ok (.invokevirtual 92, 3) := by decide +kernel
theorem dX8_changeState_16 : decode cX8_changeState 16 = .ok (.aload_n 0, 1) := by decide +kernel
theorem dX8_changeState_17 : decode cX8_changeState 17 = .ok (.getfield 12, 3) := by decide +kernel
theorem dX8_changeState_20 : decode cX8_changeState 20 = .ok (.getfield 69, 3) := by decide +kernel
theorem dX8_changeState_23 : decode cX8_changeState 23 = .ok (.iload_n 1, 1) := by decide +kernel
theorem dX8_changeState_24 : decode cX8_changeState 24 = .ok (.iaload, 1) := by decide +kernel
theorem dX8_changeState_25 : decode cX8_changeState 25 = .ok (.istore_n 3, 1) := by decide +kernel
theorem dX8_changeState_26 : decode cX8_changeState 26 = .ok (.aload_n 0, 1) := by decide +kernel
theorem dX8_changeState_27 : decode cX8_changeState 27 = .ok (.getfield 12, 3) := by decide +kernel
theorem dX8_changeState_30 : decode cX8_changeState 30 = .ok (.getfield 69, 3) := by decide +kernel
theorem dX8_changeState_33 : decode cX8_changeState 33 = .ok (.iload_n 1, 1) := by decide +kernel
theorem dX8_changeState_34 : decode cX8_changeState 34 = .ok (.iload_n 2, 1) := by decide +kernel
theorem dX8_changeState_35 : decode cX8_changeState 35 = .ok (.iastore, 1) := by decide +kernel
theorem dX8_changeState_36 : decode cX8_changeState 36 = .ok (.iload_n 3, 1) := by decide +kernel
theorem dX8_changeState_37 : decode cX8_changeState 37 = .ok (.ireturn, 1) := by decide +kernel
theorem dX8_backUpAll_0 : decode cX8_backUpAll 0 = .ok (.iconst 0, 1) := by decide +kernel
theorem dX8_backUpAll_1 : decode cX8_backUpAll 1 = .ok (.istore_n 3, 1) := by decide +kernel
theorem dX8_backUpAll_2 : decode cX8_backUpAll 2 = .ok (.iconst 0, 1) := by decide +kernel
theorem dX8_backUpAll_3 : decode cX8_backUpAll 3 = .ok (.istore 4, 2) := by decide +kernel
theorem dX8_backUpAll_5 : decode cX8_backUpAll 5 = .ok (.iload 4, 2) := by decide +kernel
theorem dX8_backUpAll_7 : decode cX8_backUpAll 7 = .ok (.iload_n 2, 1) := by decide +kernel
theorem dX8_backUpAll_8 : decode cX8_backUpAll 8 = .ok (.if_icmp .ge 20, 3) := by decide +kernel
theorem dX8_backUpAll_11 : decode cX8_backUpAll 11 = .ok (.iload_n 3, 1) := by decide +kernel
theorem dX8_backUpAll_12 : decode cX8_backUpAll 12 = .ok (.aload_n 1, 1) := by decide +kernel
theorem dX8_backUpAll_13 : decode cX8_backUpAll 13 = .ok (.aload_n 0, 1) := by decide +kernel
theorem dX8_backUpAll_14 : decode cX8_backUpAll 14 = .ok (.getfield 36, 3) := by decide +kernel
theorem dX8_backUpAll_17 : decode cX8_backUpAll 17 = .ok (.invokevirtual 142, 3) := by decide +kernel
theorem dX8_backUpAll_20 : decode cX8_backUpAll 20 = .ok (.ior, 1) := by decide +kernel
theorem dX8_backUpAll_21 : decode cX8_backUpAll 21 = .ok (.istore_n 3, 1) := by decide +kernel
theorem dX8_backUpAll_22 : decode cX8_backUpAll 22 = .ok (.iinc 4 1, 3) := by decide +kernel
theorem dX8_backUpAll_25 : decode cX8_backUpAll 25 = .ok (.goto (-20), 3) := by decide +kernel
theorem dX8_backUpAll_28 : decode cX8_backUpAll 28 = .ok (.iload_n 3, 1) := by decide +kernel
theorem dX8_backUpAll_29 : decode cX8_backUpAll 29 = .ok (.ireturn, 1) := by decide +kernel
theorem dX8_bestRank_0 : decode cX8_bestRank 0 = .ok (.aload_n 0, 1) := by decide +kernel
theorem dX8_bestRank_1 : decode cX8_bestRank 1 = .ok (.getfield 36, 3) := by decide +kernel
theorem dX8_bestRank_4 : decode cX8_bestRank 4 = .ok (.aload_n 1, 1) := by decide +kernel
theorem dX8_bestRank_5 : decode cX8_bestRank 5 = .ok (.aload_n 1, 1) := by decide +kernel
theorem dX8_bestRank_6 : decode cX8_bestRank 6 = .ok (.getfield 118, 3) := by decide +kernel
theorem dX8_bestRank_9 : decode cX8_bestRank 9 = .ok (.invokevirtual 205, 3) := by decide +kernel
theorem dX8_bestRank_12 : decode cX8_bestRank 12 = .ok (.aload_n 0, 1) := by decide +kernel
theorem dX8_bestRank_13 : decode cX8_bestRank 13 = .ok (.getfield 36, 3) := by decide +kernel
theorem dX8_bestRank_16 : decode cX8_bestRank 16 = .ok (.aload_n 1, 1) := by decide +kernel
theorem dX8_bestRank_17 : decode cX8_bestRank 17 = .ok (.getfield 118, 3) := by decide +kernel
theorem dX8_bestRank_20 : decode cX8_bestRank 20 = .ok (.invokevirtual 213, 3) := by decide +kernel
theorem dX8_bestRank_23 : decode cX8_bestRank 23 = .ok (.lreturn, 1) := by decide +kernel
theorem dX8_differsFromTable_0 : decode cX8_differsFromTable 0 = .ok (.aload_n 0, 1) := by decide +kernel
theorem dX8_differsFromTable_1 : decode cX8_differsFromTable 1 = .ok (.getfield 36, 3) := by decide +kernel
theorem dX8_differsFromTable_4 : decode cX8_differsFromTable 4 = .ok (.aload_n 0, 1) := by decide +kernel
theorem dX8_differsFromTable_5 : decode cX8_differsFromTable 5 = .ok (.getfield 12, 3) := by decide +kernel
theorem dX8_differsFromTable_8 : decode cX8_differsFromTable 8 = .ok (.bipush 100, 2) := by decide +kernel
theorem dX8_differsFromTable_10 : decode cX8_differsFromTable 10 = .ok (.invokevirtual 205, 3) := by decide +kernel
theorem dX8_differsFromTable_13 : decode cX8_differsFromTable 13 = .ok (.aload_n 0, 1) := by decide +kernel
theorem dX8_differsFromTable_14 : decode cX8_differsFromTable 14 = .ok (.getfield 36, 3) := by decide +kernel
theorem dX8_differsFromTable_17 : decode cX8_differsFromTable 17 = .ok (.aload_n 0, 1) := by decide +kernel
theorem dX8_differsFromTable_18 : decode cX8_differsFromTable 18 = .ok (.getfield 36, 3) := by decide +kernel
theorem dX8_differsFromTable_21 : decode cX8_differsFromTable 21 = .ok (.getfield 284, 3) := by decide +kernel
theorem dX8_differsFromTable_24 : decode cX8_differsFromTable 24 = .ok (.aload_n 0, 1) := by decide +kernel
theorem dX8_differsFromTable_25 : decode cX8_differsFromTable 25 = .ok (.getfield 12, 3) := by decide +kernel
theorem dX8_differsFromTable_28 : decode cX8_differsFromTable 28 = .ok (.invokevirtual 189, 3) := by decide +kernel
theorem dX8_differsFromTable_31 : decode cX8_differsFromTable 31 = .ok (.invokevirtual 223, 3) := by decide +kernel
theorem dX8_differsFromTable_34 : decode cX8_differsFromTable 34 = .ok (.aload_n 0, 1) := by decide +kernel
theorem dX8_differsFromTable_35 : decode cX8_differsFromTable 35 = .ok (.getfield 12, 3) := by decide +kernel
theorem dX8_differsFromTable_38 : decode cX8_differsFromTable 38 = .ok (.aload_n 0, 1) := by decide +kernel
theorem dX8_differsFromTable_39 : decode cX8_differsFromTable 39 = .ok (.getfield 12, 3) := by decide +kernel
theorem dX8_differsFromTable_42 : decode cX8_differsFromTable 42 = .ok (.iconst 1, 1) := by decide +kernel
theorem dX8_differsFromTable_43 : decode cX8_differsFromTable 43 = .ok (.invokevirtual 176, 3) := by decide +kernel
theorem dX8_differsFromTable_46 : decode cX8_differsFromTable 46 = .ok (.invokevirtual 229, 3) := by decide +kernel
theorem dX8_differsFromTable_49 : decode cX8_differsFromTable 49 = .ok (.iadd, 1) := by decide +kernel
theorem dX8_differsFromTable_50 : decode cX8_differsFromTable 50 = .ok (.istore_n 2, 1) := by decide +kernel
theorem dX8_differsFromTable_51 : decode cX8_differsFromTable 51 = .ok (.aload_n 0, 1) := by decide +kernel
theorem dX8_differsFromTable_52 : decode cX8_differsFromTable 52 = .ok (.getfield 12, 3) := by decide +kernel
theorem dX8_differsFromTable_55 : decode cX8_differsFromTable 55 = .ok (.iload_n 1, 1) := by decide +kernel
theorem dX8_differsFromTable_56 : decode cX8_differsFromTable 56 = .ok (.invokevirtual 229, 3) := by decide +kernel
theorem dX8_differsFromTable_59 : decode cX8_differsFromTable 59 = .ok (.iload_n 2, 1) := by decide +kernel
theorem dX8_differsFromTable_60 : decode cX8_differsFromTable 60 = .ok (.if_icmp .eq 7, 3) := by decide +kernel
theorem dX8_differsFromTable_63 : decode cX8_differsFromTable 63 = .ok (.iconst 1, 1) := by decide +kernel
theorem dX8_differsFromTable_64 : decode cX8_differsFromTable 64 = .ok (.goto 4, 3) := by decide +kernel
theorem dX8_differsFromTable_67 : decode cX8_differsFromTable 67 = .ok (.iconst 0, 1) := by decide +kernel
theorem dX8_differsFromTable_68 : decode cX8_differsFromTable 68 = .ok (.ireturn, 1) := by decide +kernel
theorem dX8_isForbidden_0 : decode cX8_isForbidden 0 = .ok (.aload_n 0, 1) := by decide +kernel
theorem dX8_isForbidden_1 : decode cX8_isForbidden 1 = .ok (.getfield 12, 3) := by decide +kernel
theorem dX8_isForbidden_4 : decode cX8_isForbidden 4 = .ok (.iconst 1, 1) := by decide +kernel
theorem dX8_isForbidden_5 : decode cX8_isForbidden 5 = .ok (.invokevirtual 176, 3) := by decide +kernel
theorem dX8_isForbidden_8 : decode cX8_isForbidden 8 = .ok (.istore_n 2, 1) := by decide +kernel
theorem dX8_isForbidden_9 : decode cX8_isForbidden 9 = .ok (.aload_n 0, 1) := by decide +kernel
theorem dX8_isForbidden_10 : decode cX8_isForbidden 10 = .ok (.getfield 12, 3) := by decide +kernel
theorem dX8_isForbidden_13 : decode cX8_isForbidden 13 = .ok (.iload_n 1, 1) := by decide +kernel
theorem dX8_isForbidden_14 : decode cX8_isForbidden 14 = .ok (.invokevirtual 179, 3) := by decide +kernel
theorem dX8_isForbidden_17 : decode cX8_isForbidden 17 = .ok (.aload_n 0, 1) := by decide +kernel
theorem dX8_isForbidden_18 : decode cX8_isForbidden 18 = .ok (.getfield 12, 3) := by decide +kernel
theorem dX8_isForbidden_21 : decode cX8_isForbidden 21 = .ok (.getfield 118, 3) := by decide +kernel
theorem dX8_isForbidden_24 : decode cX8_isForbidden 24 = .ok (.if_icmp .gt 23, 3) := by decide +kernel
theorem dX8_isForbidden_27 : decode cX8_isForbidden 27 = .ok (.iload_n 1, 1) := by decide +kernel
theorem dX8_isForbidden_28 : decode cX8_isForbidden 28 = .ok (.aload_n 0, 1) := by decide +kernel
theorem dX8_isForbidden_29 : decode cX8_isForbidden 29 = .ok (.getfield 12, 3) := by decide +kernel
theorem dX8_isForbidden_32 : decode cX8_isForbidden 32 = .ok (.iconst 2, 1) := by decide +kernel
theorem dX8_isForbidden_33 : decode cX8_isForbidden 33 = .ok (.invokevirtual 176, 3) := by decide +kernel
theorem dX8_isForbidden_36 : decode cX8_isForbidden 36 = .ok (.iand, 1) := by decide +kernel
theorem dX8_isForbidden_37 : decode cX8_isForbidden 37 = .ok (.ifCond .ne 10, 3) := by decide +kernel
theorem dX8_isForbidden_40 : decode cX8_isForbidden 40 = .ok (.iload_n 1, 1) := by decide +kernel
theorem dX8_isForbidden_41 : decode cX8_isForbidden 41 = .ok (.iload_n 2, 1) := by decide +kernel
theorem dX8_isForbidden_42 : decode cX8_isForbidden 42 = .ok (.iand, 1) := by decide +kernel
theorem dX8_isForbidden_43 : decode cX8_isForbidden 43 = .ok (.iload_n 2, 1) := by decide +kernel
theorem dX8_isForbidden_44 : decode cX8_isForbidden 44 = .ok (.if_icmp .eq 7, 3) := by decide +kernel
theorem dX8_isForbidden_47 : decode cX8_isForbidden 47 = .ok (.iconst 1, 1) := by decide +kernel
theorem dX8_isForbidden_48 : decode cX8_isForbidden 48 = .ok (.goto 4, 3) := by decide +kernel
theorem dX8_isForbidden_51 : decode cX8_isForbidden 51 = .ok (.iconst 0, 1) := by decide +kernel
theorem dX8_isForbidden_52 : decode cX8_isForbidden 52 = .ok (.ireturn, 1) := by decide +kernel
theorem dX8_isOutOfBounds_0 : decode cX8_isOutOfBounds 0 = .ok (.aload_n 0, 1) := by decide +kernel
theorem dX8_isOutOfBounds_1 : decode cX8_isOutOfBounds 1 = .ok (.getfield 43, 3) := by decide +kernel
theorem dX8_isOutOfBounds_4 : decode cX8_isOutOfBounds 4 = .ok (.aload_n 0, 1) := by decide +kernel
theorem dX8_isOutOfBounds_5 : decode cX8_isOutOfBounds 5 = .ok (.getfield 12, 3) := by decide +kernel
theorem dX8_isOutOfBounds_8 : decode cX8_isOutOfBounds 8 = .ok (.invokevirtual 182, 3) := by decide +kernel
theorem dX8_isOutOfBounds_11 : decode cX8_isOutOfBounds 11 = .ok (.aload_n 0, 1) := by decide +kernel
theorem dX8_isOutOfBounds_12 : decode cX8_isOutOfBounds 12 = .ok (.getfield 12, 3) := by decide +kernel
theorem dX8_isOutOfBounds_15 : decode cX8_isOutOfBounds 15 = .ok (.iload_n 1, 1) := by decide +kernel
theorem dX8_isOutOfBounds_16 : decode cX8_isOutOfBounds 16 = .ok (.invokevirtual 229, 3) := by decide +kernel
theorem dX8_isOutOfBounds_19 : decode cX8_isOutOfBounds 19 = .ok (.istore_n 2, 1) := by decide +kernel
theorem dX8_isOutOfBounds_20 : decode cX8_isOutOfBounds 20 = .ok (.aload_n 0, 1) := by decide +kernel
theorem dX8_isOutOfBounds_21 : decode cX8_isOutOfBounds 21 = .ok (.getfield 12, 3) := by decide +kernel
theorem dX8_isOutOfBounds_24 : decode cX8_isOutOfBounds 24 = .ok (.aload_n 0, 1) := by decide +kernel
theorem dX8_isOutOfBounds_25 : decode cX8_isOutOfBounds 25 = .ok (.getfield 43, 3) := by decide +kernel
theorem dX8_isOutOfBounds_28 : decode cX8_isOutOfBounds 28 = .ok (.aload_n 0, 1) := by decide +kernel
theorem dX8_isOutOfBounds_29 : decode cX8_isOutOfBounds 29 = .ok (.getfield 12, 3) := by decide +kernel
theorem dX8_isOutOfBounds_32 : decode cX8_isOutOfBounds 32 = .ok (.invokevirtual 226, 3) := by decide +kernel
theorem dX8_isOutOfBounds_35 : decode cX8_isOutOfBounds 35 = .ok (.invokevirtual 229, 3) := by decide +kernel
theorem dX8_isOutOfBounds_38 : decode cX8_isOutOfBounds 38 = .ok (.iload_n 2, 1) := by decide +kernel
theorem dX8_isOutOfBounds_39 : decode cX8_isOutOfBounds 39 = .ok (.if_icmp .gt 18, 3) := by decide +kernel
theorem dX8_isOutOfBounds_42 : decode cX8_isOutOfBounds 42 = .ok (.iload_n 2, 1) := by decide +kernel
theorem dX8_isOutOfBounds_43 : decode cX8_isOutOfBounds 43 = .ok (.aload_n 0, 1) := by decide +kernel
theorem dX8_isOutOfBounds_44 : decode cX8_isOutOfBounds 44 = .ok (.getfield 43, 3) := by decide +kernel
theorem dX8_isOutOfBounds_47 : decode cX8_isOutOfBounds 47 = .ok (.aload_n 0, 1) := by decide +kernel
theorem dX8_isOutOfBounds_48 : decode cX8_isOutOfBounds 48 = .ok (.getfield 12, 3) := by decide +kernel
theorem dX8_isOutOfBounds_51 : decode cX8_isOutOfBounds 51 = .ok (.invokevirtual 232, 3) := by decide +kernel
theorem dX8_isOutOfBounds_54 : decode cX8_isOutOfBounds 54 = .ok (.if_icmp .le 7, 3) := by decide +kernel
theorem dX8_isOutOfBounds_57 : decode cX8_isOutOfBounds 57 = .ok (.iconst 1, 1) := by decide +kernel
theorem dX8_isOutOfBounds_58 : decode cX8_isOutOfBounds 58 = .ok (.goto 4, 3) := by decide +kernel
theorem dX8_isOutOfBounds_61 : decode cX8_isOutOfBounds 61 = .ok (.iconst 0, 1) := by decide +kernel
theorem dX8_isOutOfBounds_62 : decode cX8_isOutOfBounds 62 = .ok (.ireturn, 1) := by decide +kernel
theorem dX8_contains_0 : decode cX8_contains 0 = .ok (.iload_n 0, 1) := by decide +kernel
theorem dX8_contains_1 : decode cX8_contains 1 = .ok (.iload_n 1, 1) := by decide +kernel
theorem dX8_contains_2 : decode cX8_contains 2 = .ok (.ishr, 1) := by decide +kernel
theorem dX8_contains_3 : decode cX8_contains 3 = .ok (.iconst 1, 1) := by decide +kernel
theorem dX8_contains_4 : decode cX8_contains 4 = .ok (.iand, 1) := by decide +kernel
theorem dX8_contains_5 : decode cX8_contains 5 = .ok (.ifCond .eq 7, 3) := by decide +kernel
theorem dX8_contains_8 : decode cX8_contains 8 = .ok (.iconst 1, 1) := by decide +kernel
theorem dX8_contains_9 : decode cX8_contains 9 = .ok (.goto 4, 3) := by decide +kernel
theorem dX8_contains_12 : decode cX8_contains 12 = .ok (.iconst 0, 1) := by decide +kernel
theorem dX8_contains_13 : decode cX8_contains 13 = .ok (.ireturn, 1) := by decide +kernel
theorem dX8_rank_0 : decode cX8_rank 0 = .ok (.iload_n 0, 1) := by decide +kernel
theorem dX8_rank_1 : decode cX8_rank 1 = .ok (.i2l, 1) := by decide +kernel
theorem dX8_rank_2 : decode cX8_rank 2 = .ok (.bipush 28, 2) := by decide +kernel
theorem dX8_rank_4 : decode cX8_rank 4 = .ok (.lshl, 1) := by decide +kernel
theorem dX8_rank_5 : decode cX8_rank 5 = .ok (.iload_n 1, 1) := by decide +kernel
theorem dX8_rank_6 : decode cX8_rank 6 = .ok (.i2l, 1) := by decide +kernel
theorem dX8_rank_7 : decode cX8_rank 7 = .ok (.bipush 14, 2) := by decide +kernel
theorem dX8_rank_9 : decode cX8_rank 9 = .ok (.lshl, 1) := by decide +kernel
theorem dX8_rank_10 : decode cX8_rank 10 = .ok (.lsub, 1) := by decide +kernel
theorem dX8_rank_11 : decode cX8_rank 11 = .ok (.iload_n 2, 1) := by decide +kernel
theorem dX8_rank_12 : decode cX8_rank 12 = .ok (.i2l, 1) := by decide +kernel
theorem dX8_rank_13 : decode cX8_rank 13 = .ok (.lsub, 1) := by decide +kernel
theorem dX8_rank_14 : decode cX8_rank 14 = .ok (.lreturn, 1) := by decide +kernel
theorem dX8_rankWeight_0 : decode cX8_rankWeight 0 = .ok (.lload_n 0, 1) := by decide +kernel
theorem dX8_rankWeight_1 : decode cX8_rankWeight 1 = .ok (.ldc2_w 125, 3) := by decide +kernel
theorem dX8_rankWeight_4 : decode cX8_rankWeight 4 = .ok (.lcmp, 1) := by decide +kernel
theorem dX8_rankWeight_5 : decode cX8_rankWeight 5 = .ok (.ifCond .ne 5, 3) := by decide +kernel
theorem dX8_rankWeight_8 : decode cX8_rankWeight 8 = .ok (.iconst (-1), 1) := by decide +kernel
theorem dX8_rankWeight_9 : decode cX8_rankWeight 9 = .ok (.ireturn, 1) := by decide +kernel
theorem dX8_rankWeight_10 : decode cX8_rankWeight 10 = .ok (.lload_n 0, 1) := by decide +kernel
theorem dX8_rankWeight_11 : decode cX8_rankWeight 11 = .ok (.ldc2_w 287, 3) := by decide +kernel
theorem dX8_rankWeight_14 : decode cX8_rankWeight 14 = .ok (.ladd, 1) := by decide +kernel
theorem dX8_rankWeight_15 : decode cX8_rankWeight 15 = .ok (.lconst 1, 1) := by decide +kernel
theorem dX8_rankWeight_16 : decode cX8_rankWeight 16 = .ok (.lsub, 1) := by decide +kernel
theorem dX8_rankWeight_17 : decode cX8_rankWeight 17 = .ok (.bipush 28, 2) := by decide +kernel
theorem dX8_rankWeight_19 : decode cX8_rankWeight 19 = .ok (.lshr, 1) := by decide +kernel
theorem dX8_rankWeight_20 : decode cX8_rankWeight 20 = .ok (.l2i, 1) := by decide +kernel
theorem dX8_rankWeight_21 : decode cX8_rankWeight 21 = .ok (.ireturn, 1) := by decide +kernel
theorem dX8_rankSize_0 : decode cX8_rankSize 0 = .ok (.lload_n 0, 1) := by decide +kernel
theorem dX8_rankSize_1 : decode cX8_rankSize 1 = .ok (.ldc2_w 125, 3) := by decide +kernel
theorem dX8_rankSize_4 : decode cX8_rankSize 4 = .ok (.lcmp, 1) := by decide +kernel
theorem dX8_rankSize_5 : decode cX8_rankSize 5 = .ok (.ifCond .ne 7, 3) := by decide +kernel
theorem dX8_rankSize_8 : decode cX8_rankSize 8 = .ok (.iconst (-1), 1) := by decide +kernel
theorem dX8_rankSize_9 : decode cX8_rankSize 9 = .ok (.goto 13, 3) := by decide +kernel
theorem dX8_rankSize_12 : decode cX8_rankSize 12 = .ok (.lload_n 0, 1) := by decide +kernel
theorem dX8_rankSize_13 : decode cX8_rankSize 13 = .ok (.lneg, 1) := by decide +kernel
theorem dX8_rankSize_14 : decode cX8_rankSize 14 = .ok (.bipush 14, 2) := by decide +kernel
theorem dX8_rankSize_16 : decode cX8_rankSize 16 = .ok (.lshr, 1) := by decide +kernel
theorem dX8_rankSize_17 : decode cX8_rankSize 17 = .ok (.ldc2_w 289, 3) := by decide +kernel
theorem dX8_rankSize_20 : decode cX8_rankSize 20 = .ok (.land, 1) := by decide +kernel
theorem dX8_rankSize_21 : decode cX8_rankSize 21 = .ok (.l2i, 1) := by decide +kernel
theorem dX8_rankSize_22 : decode cX8_rankSize 22 = .ok (.ireturn, 1) := by decide +kernel
theorem dX8_rankSet_0 : decode cX8_rankSet 0 = .ok (.lload_n 0, 1) := by decide +kernel
theorem dX8_rankSet_1 : decode cX8_rankSet 1 = .ok (.ldc2_w 125, 3) := by decide +kernel
theorem dX8_rankSet_4 : decode cX8_rankSet 4 = .ok (.lcmp, 1) := by decide +kernel
theorem dX8_rankSet_5 : decode cX8_rankSet 5 = .ok (.ifCond .ne 7, 3) := by decide +kernel
theorem dX8_rankSet_8 : decode cX8_rankSet 8 = .ok (.iconst (-1), 1) := by decide +kernel
theorem dX8_rankSet_9 : decode cX8_rankSet 9 = .ok (.goto 10, 3) := by decide +kernel
theorem dX8_rankSet_12 : decode cX8_rankSet 12 = .ok (.lload_n 0, 1) := by decide +kernel
theorem dX8_rankSet_13 : decode cX8_rankSet 13 = .ok (.lneg, 1) := by decide +kernel
theorem dX8_rankSet_14 : decode cX8_rankSet 14 = .ok (.ldc2_w 289, 3) := by decide +kernel
theorem dX8_rankSet_17 : decode cX8_rankSet 17 = .ok (.land, 1) := by decide +kernel
theorem dX8_rankSet_18 : decode cX8_rankSet 18 = .ok (.l2i, 1) := by decide +kernel
theorem dX8_rankSet_19 : decode cX8_rankSet 19 = .ok (.ireturn, 1) := by decide +kernel
theorem dX8_rankSetOrEmpty_0 : decode cX8_rankSetOrEmpty 0 = .ok (.lload_n 0, 1) := by decide +kernel
theorem dX8_rankSetOrEmpty_1 : decode cX8_rankSetOrEmpty 1 = .ok (.ldc2_w 125, 3) := by decide +kernel
theorem dX8_rankSetOrEmpty_4 : decode cX8_rankSetOrEmpty 4 = .ok (.lcmp, 1) := by decide +kernel
theorem dX8_rankSetOrEmpty_5 : decode cX8_rankSetOrEmpty 5 = .ok (.ifCond .ne 7, 3) := by decide +kernel
theorem dX8_rankSetOrEmpty_8 : decode cX8_rankSetOrEmpty 8 = .ok (.iconst 0, 1) := by decide +kernel
theorem dX8_rankSetOrEmpty_9 : decode cX8_rankSetOrEmpty 9 = .ok (.goto 10, 3) := by decide +kernel
theorem dX8_rankSetOrEmpty_12 : decode cX8_rankSetOrEmpty 12 = .ok (.lload_n 0, 1) := by decide +kernel
theorem dX8_rankSetOrEmpty_13 : decode cX8_rankSetOrEmpty 13 = .ok (.lneg, 1) := by decide +kernel
theorem dX8_rankSetOrEmpty_14 : decode cX8_rankSetOrEmpty 14 = .ok (.ldc2_w 289, 3) := by decide +kernel
theorem dX8_rankSetOrEmpty_17 : decode cX8_rankSetOrEmpty 17 = .ok (.land, 1) := by decide +kernel
theorem dX8_rankSetOrEmpty_18 : decode cX8_rankSetOrEmpty 18 = .ok (.l2i, 1) := by decide +kernel
theorem dX8_rankSetOrEmpty_19 : decode cX8_rankSetOrEmpty 19 = .ok (.ireturn, 1) := by decide +kernel
theorem dJ5_init_d00df_0 : decode cJ5_init_d00df 0 = .ok (.aload_n 0, 1) := by decide +kernel
theorem dJ5_init_d00df_1 : decode cJ5_init_d00df 1 = .ok (.invokespecial 3, 3) := by decide +kernel
theorem dJ5_init_d00df_4 : decode cJ5_init_d00df 4 = .ok (.getstatic 18, 3) := by decide +kernel
theorem dJ5_init_d00df_7 : decode cJ5_init_d00df 7 = .ok (.ifCond .eq 18, 3) := by decide +kernel
theorem dJ5_init_d00df_10 : decode cJ5_init_d00df 10 = .ok (.aload_n 0, 1) := by decide +kernel
theorem dJ5_init_d00df_11 : decode cJ5_init_d00df 11 = .ok (.iload_n 1, 1) := by decide +kernel
theorem dJ5_init_d00df_12 : decode cJ5_init_d00df 12 = .ok (.newarray .byte, 2) := by decide +kernel
theorem dJ5_init_d00df_14 : decode cJ5_init_d00df 14 = .ok (.putfield 15, 3) := by decide +kernel
theorem dJ5_init_d00df_17 : decode cJ5_init_d00df 17 = .ok (.aload_n 0, 1) := by decide +kernel
theorem dJ5_init_d00df_18 : decode cJ5_init_d00df 18 = .ok (.iconst 0, 1) := by decide +kernel
theorem dJ5_init_d00df_19 : decode cJ5_init_d00df 19 = .ok (.putfield 22, 3) := by decide +kernel
theorem dJ5_init_d00df_22 : decode cJ5_init_d00df 22 = .ok (.goto 16, 3) := by decide +kernel
theorem dJ5_init_d00df_25 : decode cJ5_init_d00df 25 = .ok (.aload_n 0, 1) := by decide +kernel
theorem dJ5_init_d00df_26 : decode cJ5_init_d00df 26 = .ok (.iload_n 1, 1) := by decide +kernel
theorem dJ5_init_d00df_27 : decode cJ5_init_d00df 27 = .ok (.invokestatic 26, 3) := by decide +kernel
theorem dJ5_init_d00df_30 : decode cJ5_init_d00df 30 = .ok (.putfield 15, 3) := by decide +kernel
theorem dJ5_init_d00df_33 : decode cJ5_init_d00df 33 = .ok (.aload_n 0, 1) := by decide +kernel
theorem dJ5_init_d00df_34 : decode cJ5_init_d00df 34 = .ok (.iconst 1, 1) := by decide +kernel
theorem dJ5_init_d00df_35 : decode cJ5_init_d00df 35 = .ok (.putfield 22, 3) := by decide +kernel
theorem dJ5_init_d00df_38 : decode cJ5_init_d00df 38 = .ok (.return_, 1) := by decide +kernel
theorem dJ5_length_8abf5_0 : decode cJ5_length_8abf5 0 = .ok (.aload_n 0, 1) := by decide +kernel
theorem dJ5_length_8abf5_1 : decode cJ5_length_8abf5 1 = .ok (.getfield 79, 3) := by decide +kernel
theorem dJ5_length_8abf5_4 : decode cJ5_length_8abf5 4 = .ok (.ireturn, 1) := by decide +kernel
theorem dJ5_ensureCapacityInternal_d00df_0 : decode cJ5_ensureCapacityInternal_d00df 0 = .ok (.aload_n 0, 1) := by decide +kernel
theorem dJ5_ensureCapacityInternal_d00df_1 : decode cJ5_ensureCapacityInternal_d00df 1 = .ok (.getfield 15, 3) := by decide +kernel
theorem dJ5_ensureCapacityInternal_d00df_4 : decode cJ5_ensureCapacityInternal_d00df 4 = .ok (.arraylength, 1) := by decide +kernel
theorem dJ5_ensureCapacityInternal_d00df_5 : decode cJ5_ensureCapacityInternal_d00df 5 = .ok (.aload_n 0, 1) := by decide +kernel
theorem dJ5_ensureCapacityInternal_d00df_6 : decode cJ5_ensureCapacityInternal_d00df 6 = .ok (.getfield 22, 3) := by decide +kernel
theorem dJ5_ensureCapacityInternal_d00df_9 : decode cJ5_ensureCapacityInternal_d00df 9 = .ok (.ishr, 1) := by decide +kernel
theorem dJ5_ensureCapacityInternal_d00df_10 : decode cJ5_ensureCapacityInternal_d00df 10 = .ok (.istore_n 2, 1) := by decide +kernel
theorem dJ5_ensureCapacityInternal_d00df_11 : decode cJ5_ensureCapacityInternal_d00df 11 = .ok (.iload_n 1, 1) := by decide +kernel
theorem dJ5_ensureCapacityInternal_d00df_12 : decode cJ5_ensureCapacityInternal_d00df 12 = .ok (.iload_n 2, 1) := by decide +kernel
theorem dJ5_ensureCapacityInternal_d00df_13 : decode cJ5_ensureCapacityInternal_d00df 13 = .ok (.isub, 1) := by decide +kernel
theorem dJ5_ensureCapacityInternal_d00df_14 : decode cJ5_ensureCapacityInternal_d00df 14 = .ok (.ifCond .le 24, 3) := by decide +kernel
theorem dJ5_ensureCapacityInternal_d00df_17 : decode cJ5_ensureCapacityInternal_d00df 17 = .ok (.aload_n 0, 1) := by decide +kernel
theorem dJ5_ensureCapacityInternal_d00df_18 : decode cJ5_ensureCapacityInternal_d00df 18 = .ok (.aload_n 0, 1) := by decide +kernel
theorem dJ5_ensureCapacityInternal_d00df_19 : decode cJ5_ensureCapacityInternal_d00df 19 = .ok (.getfield 15, 3) := by decide +kernel
theorem dJ5_ensureCapacityInternal_d00df_22 : decode cJ5_ensureCapacityInternal_d00df 22 = .ok (.aload_n 0, 1) := by decide +kernel
theorem dJ5_ensureCapacityInternal_d00df_23 : decode cJ5_ensureCapacityInternal_d00df 23 = .ok (.iload_n 1, 1) := by decide +kernel
theorem dJ5_ensureCapacityInternal_d00df_24 : decode cJ5_ensureCapacityInternal_d00df 24 = .ok (.invokevirtual 104, 3) := by decide +kernel
theorem dJ5_ensureCapacityInternal_d00df_27 : decode cJ5_ensureCapacityInternal_d00df 27 = .ok (.aload_n 0, 1) := by decide +kernel
theorem dJ5_ensureCapacityInternal_d00df_28 : decode cJ5_ensureCapacityInternal_d00df 28 = .ok (.getfield 22, 3) := by decide +kernel
theorem dJ5_ensureCapacityInternal_d00df_31 : decode cJ5_ensureCapacityInternal_d00df 31 = .ok (.ishl, 1) := by decide +kernel
theorem dJ5_ensureCapacityInternal_d00df_32 : decode cJ5_ensureCapacityInternal_d00df 32 = .ok (.invokestatic 108, 3) := by decide +kernel
theorem dJ5_ensureCapacityInternal_d00df_35 : decode cJ5_ensureCapacityInternal_d00df 35 = .ok (.putfield 15, 3) := by decide +kernel
theorem dJ5_ensureCapacityInternal_d00df_38 : decode cJ5_ensureCapacityInternal_d00df 38 = .ok (.return_, 1) := by decide +kernel
theorem dJ5_newCapacity_0f7a4_0 : decode cJ5_newCapacity_0f7a4 0 = .ok (.aload_n 0, 1) := by decide +kernel
theorem dJ5_newCapacity_0f7a4_1 : decode cJ5_newCapacity_0f7a4 1 = .ok (.getfield 15, 3) := by decide +kernel
theorem dJ5_newCapacity_0f7a4_4 : decode cJ5_newCapacity_0f7a4 4 = .ok (.arraylength, 1) := by decide +kernel
theorem dJ5_newCapacity_0f7a4_5 : decode cJ5_newCapacity_0f7a4 5 = .ok (.istore_n 2, 1) := by decide +kernel
theorem dJ5_newCapacity_0f7a4_6 : decode cJ5_newCapacity_0f7a4 6 = .ok (.iload_n 1, 1) := by decide +kernel
theorem dJ5_newCapacity_0f7a4_7 : decode cJ5_newCapacity_0f7a4 7 = .ok (.aload_n 0, 1) := by decide +kernel
theorem dJ5_newCapacity_0f7a4_8 : decode cJ5_newCapacity_0f7a4 8 = .ok (.getfield 22, 3) := by decide +kernel
theorem dJ5_newCapacity_0f7a4_11 : decode cJ5_newCapacity_0f7a4 11 = .ok (.ishl, 1) := by decide +kernel
theorem dJ5_newCapacity_0f7a4_12 : decode cJ5_newCapacity_0f7a4 12 = .ok (.istore_n 3, 1) := by decide +kernel
theorem dJ5_newCapacity_0f7a4_13 : decode cJ5_newCapacity_0f7a4 13 = .ok (.iload_n 3, 1) := by decide +kernel
theorem dJ5_newCapacity_0f7a4_14 : decode cJ5_newCapacity_0f7a4 14 = .ok (.iload_n 2, 1) := by decide +kernel
theorem dJ5_newCapacity_0f7a4_15 : decode cJ5_newCapacity_0f7a4 15 = .ok (.isub, 1) := by decide +kernel
theorem dJ5_newCapacity_0f7a4_16 : decode cJ5_newCapacity_0f7a4 16 = .ok (.istore 4, 2) := by decide +kernel
theorem dJ5_newCapacity_0f7a4_18 : decode cJ5_newCapacity_0f7a4 18 = .ok (.iload_n 2, 1) := by decide +kernel
theorem dJ5_newCapacity_0f7a4_19 : decode cJ5_newCapacity_0f7a4 19 = .ok (.iload 4, 2) := by decide +kernel
theorem dJ5_newCapacity_0f7a4_21 : decode cJ5_newCapacity_0f7a4 21 = .ok (.iload_n 2, 1) := by decide +kernel
theorem dJ5_newCapacity_0f7a4_22 : decode cJ5_newCapacity_0f7a4 22 = .ok (.iconst 2, 1) := by decide +kernel
theorem dJ5_newCapacity_0f7a4_23 : decode cJ5_newCapacity_0f7a4 23 = .ok (.aload_n 0, 1) := by decide +kernel
theorem dJ5_newCapacity_0f7a4_24 : decode cJ5_newCapacity_0f7a4 24 = .ok (.getfield 22, 3) := by decide +kernel
theorem dJ5_newCapacity_0f7a4_27 : decode cJ5_newCapacity_0f7a4 27 = .ok (.ishl, 1) := by decide +kernel
theorem dJ5_newCapacity_0f7a4_28 : decode cJ5_newCapacity_0f7a4 28 = .ok (.iadd, 1) := by decide +kernel
theorem dJ5_newCapacity_0f7a4_29 : decode cJ5_newCapacity_0f7a4 29 = .ok (.invokestatic 114, 3) := by decide +kernel
theorem dJ5_newCapacity_0f7a4_32 : decode cJ5_newCapacity_0f7a4 32 = .ok (.istore 5, 2) := by decide +kernel
theorem dJ5_newCapacity_0f7a4_34 : decode cJ5_newCapacity_0f7a4 34 = .ok (.iload 5, 2) := by decide +kernel
theorem dJ5_newCapacity_0f7a4_36 : decode cJ5_newCapacity_0f7a4 36 = .ok (.ldc 39, 2) := by decide +kernel
theorem dJ5_newCapacity_0f7a4_38 : decode cJ5_newCapacity_0f7a4 38 = .ok (.if_icmp .ne 13, 3) := by decide +kernel
theorem dJ5_newCapacity_0f7a4_41 : decode cJ5_newCapacity_0f7a4 41 = .ok (.new 120, 3) := by decide +kernel
theorem dJ5_newCapacity_0f7a4_44 : decode cJ5_newCapacity_0f7a4 44 = .ok (.dup, 1) := by decide +kernel
theorem dJ5_newCapacity_0f7a4_45 : decode cJ5_newCapacity_0f7a4 45 = .ok (.ldc 122, 2) := by decide +kernel
theorem dJ5_newCapacity_0f7a4_47 : decode cJ5_newCapacity_0f7a4 47 = .ok (.invokespecial 124, 3) := by decide +kernel
theorem dJ5_newCapacity_0f7a4_50 : decode cJ5_newCapacity_0f7a4 50 = .ok (.athrow, 1) := by decide +kernel
theorem dJ5_newCapacity_0f7a4_51 : decode cJ5_newCapacity_0f7a4 51 = .ok (.iload 5, 2) := by decide +kernel
theorem dJ5_newCapacity_0f7a4_53 : decode cJ5_newCapacity_0f7a4 53 = .ok (.aload_n 0, 1) := by decide +kernel
theorem dJ5_newCapacity_0f7a4_54 : decode cJ5_newCapacity_0f7a4 54 = .ok (.getfield 22, 3) := by decide +kernel
theorem dJ5_newCapacity_0f7a4_57 : decode cJ5_newCapacity_0f7a4 57 = .ok (.ishr, 1) := by decide +kernel
theorem dJ5_newCapacity_0f7a4_58 : decode cJ5_newCapacity_0f7a4 58 = .ok (.ireturn, 1) := by decide +kernel
theorem dJ5_inflate_da8c8_0 : decode cJ5_inflate_da8c8 0 = .ok (.aload_n 0, 1) := by decide +kernel
theorem dJ5_inflate_da8c8_1 : decode cJ5_inflate_da8c8 1 = .ok (.invokevirtual 83, 3) := by decide +kernel
theorem dJ5_inflate_da8c8_4 : decode cJ5_inflate_da8c8 4 = .ok (.ifCond .ne 4, 3) := by decide +kernel
theorem dJ5_inflate_da8c8_7 : decode cJ5_inflate_da8c8 7 = .ok (.return_, 1) := by decide +kernel
theorem dJ5_inflate_da8c8_8 : decode cJ5_inflate_da8c8 8 = .ok (.aload_n 0, 1) := by decide +kernel
theorem dJ5_inflate_da8c8_9 : decode cJ5_inflate_da8c8 9 = .ok (.getfield 15, 3) := by decide +kernel
theorem dJ5_inflate_da8c8_12 : decode cJ5_inflate_da8c8 12 = .ok (.arraylength, 1) := by decide +kernel
theorem dJ5_inflate_da8c8_13 : decode cJ5_inflate_da8c8 13 = .ok (.invokestatic 26, 3) := by decide +kernel
theorem dJ5_inflate_da8c8_16 : decode cJ5_inflate_da8c8 16 = .ok (.astore_n 1, 1) := by decide +kernel
theorem dJ5_inflate_da8c8_17 : decode cJ5_inflate_da8c8 17 = .ok (.aload_n 0, 1) := by decide +kernel
theorem dJ5_inflate_da8c8_18 : decode cJ5_inflate_da8c8 18 = .ok (.getfield 15, 3) := by decide +kernel
theorem dJ5_inflate_da8c8_21 : decode cJ5_inflate_da8c8 21 = .ok (.iconst 0, 1) := by decide +kernel
theorem dJ5_inflate_da8c8_22 : decode cJ5_inflate_da8c8 22 = .ok (.aload_n 1, 1) := by decide +kernel
theorem dJ5_inflate_da8c8_23 : decode cJ5_inflate_da8c8 23 = .ok (.iconst 0, 1) := by decide +kernel
theorem dJ5_inflate_da8c8_24 : decode cJ5_inflate_da8c8 24 = .ok (.aload_n 0, 1) := by decide +kernel
theorem dJ5_inflate_da8c8_25 : decode cJ5_inflate_da8c8 25 = .ok (.getfield 79, 3) := by decide +kernel
theorem dJ5_inflate_da8c8_28 : decode cJ5_inflate_da8c8 28 = .ok (.invokestatic 125, 3) := by decide +kernel
theorem dJ5_inflate_da8c8_31 : decode cJ5_inflate_da8c8 31 = .ok (.aload_n 0, 1) := by decide +kernel
theorem dJ5_inflate_da8c8_32 : decode cJ5_inflate_da8c8 32 = .ok (.aload_n 1, 1) := by decide +kernel
theorem dJ5_inflate_da8c8_33 : decode cJ5_inflate_da8c8 33 = .ok (.putfield 15, 3) := by decide +kernel
theorem dJ5_inflate_da8c8_36 : decode cJ5_inflate_da8c8 36 = .ok (.aload_n 0, 1) := by decide +kernel
theorem dJ5_inflate_da8c8_37 : decode cJ5_inflate_da8c8 37 = .ok (.iconst 1, 1) := by decide +kernel
theorem dJ5_inflate_da8c8_38 : decode cJ5_inflate_da8c8 38 = .ok (.putfield 22, 3) := by decide +kernel
theorem dJ5_inflate_da8c8_41 : decode cJ5_inflate_da8c8 41 = .ok (.return_, 1) := by decide +kernel
theorem dJ5_append_cf1ce_0 : decode cJ5_append_cf1ce 0 = .ok (.aload_n 1, 1) := by decide +kernel
theorem dJ5_append_cf1ce_1 : decode cJ5_append_cf1ce 1 = .ok (.ifnonnull 8, 3) := by decide +kernel
theorem dJ5_append_cf1ce_4 : decode cJ5_append_cf1ce 4 = .ok (.aload_n 0, 1) := by decide +kernel
theorem dJ5_append_cf1ce_5 : decode cJ5_append_cf1ce 5 = .ok (.invokevirtual 204, 3) := by decide +kernel
theorem dJ5_append_cf1ce_8 : decode cJ5_append_cf1ce 8 = .ok (.areturn, 1) := by decide +kernel
theorem dJ5_append_cf1ce_9 : decode cJ5_append_cf1ce 9 = .ok (.aload_n 1, 1) := by decide +kernel
theorem dJ5_append_cf1ce_10 : decode cJ5_append_cf1ce 10 = .ok (.invokevirtual 32, 3) := by decide +kernel
theorem dJ5_append_cf1ce_13 : decode cJ5_append_cf1ce 13 = .ok (.istore_n 2, 1) := by decide +kernel
theorem dJ5_append_cf1ce_14 : decode cJ5_append_cf1ce 14 = .ok (.aload_n 0, 1) := by decide +kernel
theorem dJ5_append_cf1ce_15 : decode cJ5_append_cf1ce 15 = .ok (.aload_n 0, 1) := by decide +kernel
theorem dJ5_append_cf1ce_16 : decode cJ5_append_cf1ce 16 = .ok (.getfield 79, 3) := by decide +kernel
theorem dJ5_append_cf1ce_19 : decode cJ5_append_cf1ce 19 = .ok (.iload_n 2, 1) := by decide +kernel
theorem dJ5_append_cf1ce_20 : decode cJ5_append_cf1ce 20 = .ok (.iadd, 1) := by decide +kernel
theorem dJ5_append_cf1ce_21 : decode cJ5_append_cf1ce 21 = .ok (.invokevirtual 100, 3) := by decide +kernel
theorem dJ5_append_cf1ce_24 : decode cJ5_append_cf1ce 24 = .ok (.aload_n 0, 1) := by decide +kernel
theorem dJ5_append_cf1ce_25 : decode cJ5_append_cf1ce 25 = .ok (.aload_n 0, 1) := by decide +kernel
theorem dJ5_append_cf1ce_26 : decode cJ5_append_cf1ce 26 = .ok (.getfield 79, 3) := by decide +kernel
theorem dJ5_append_cf1ce_29 : decode cJ5_append_cf1ce 29 = .ok (.aload_n 1, 1) := by decide +kernel
theorem dJ5_append_cf1ce_30 : decode cJ5_append_cf1ce 30 = .ok (.invokevirtual 208, 3) := by decide +kernel
theorem dJ5_append_cf1ce_33 : decode cJ5_append_cf1ce 33 = .ok (.aload_n 0, 1) := by decide +kernel
theorem dJ5_append_cf1ce_34 : decode cJ5_append_cf1ce 34 = .ok (.dup, 1) := by decide +kernel
theorem dJ5_append_cf1ce_35 : decode cJ5_append_cf1ce 35 = .ok (.getfield 79, 3) := by decide +kernel
theorem dJ5_append_cf1ce_38 : decode cJ5_append_cf1ce 38 = .ok (.iload_n 2, 1) := by decide +kernel
theorem dJ5_append_cf1ce_39 : decode cJ5_append_cf1ce 39 = .ok (.iadd, 1) := by decide +kernel
theorem dJ5_append_cf1ce_40 : decode cJ5_append_cf1ce 40 = .ok (.putfield 79, 3) := by decide +kernel
theorem dJ5_append_cf1ce_43 : decode cJ5_append_cf1ce 43 = .ok (.aload_n 0, 1) := by decide +kernel
theorem dJ5_append_cf1ce_44 : decode cJ5_append_cf1ce 44 = .ok (.areturn, 1) := by decide +kernel
theorem dJ5_appendNull_278bc_0 : decode cJ5_appendNull_278bc 0 = .ok (.aload_n 0, 1) := by decide +kernel
theorem dJ5_appendNull_278bc_1 : decode cJ5_appendNull_278bc 1 = .ok (.aload_n 0, 1) := by decide +kernel
theorem dJ5_appendNull_278bc_2 : decode cJ5_appendNull_278bc 2 = .ok (.getfield 79, 3) := by decide +kernel
theorem dJ5_appendNull_278bc_5 : decode cJ5_appendNull_278bc 5 = .ok (.iconst 4, 1) := by decide +kernel
theorem dJ5_appendNull_278bc_6 : decode cJ5_appendNull_278bc 6 = .ok (.iadd, 1) := by decide +kernel
theorem dJ5_appendNull_278bc_7 : decode cJ5_appendNull_278bc 7 = .ok (.invokevirtual 100, 3) := by decide +kernel
theorem dJ5_appendNull_278bc_10 : decode cJ5_appendNull_278bc 10 = .ok (.aload_n 0, 1) := by decide +kernel
theorem dJ5_appendNull_278bc_11 : decode cJ5_appendNull_278bc 11 = .ok (.getfield 79, 3) := by decide +kernel
theorem dJ5_appendNull_278bc_14 : decode cJ5_appendNull_278bc 14 = .ok (.istore_n 1, 1) := by decide +kernel
theorem dJ5_appendNull_278bc_15 : decode cJ5_appendNull_278bc 15 = .ok (.aload_n 0, 1) := by decide +kernel
theorem dJ5_appendNull_278bc_16 : decode cJ5_appendNull_278bc 16 = .ok (.getfield 15, 3) := by decide +kernel
theorem dJ5_appendNull_278bc_19 : decode cJ5_appendNull_278bc 19 = .ok (.astore_n 2, 1) := by decide +kernel
theorem dJ5_appendNull_278bc_20 : decode cJ5_appendNull_278bc 20 = .ok (.aload_n 0, 1) := by decide +kernel
theorem dJ5_appendNull_278bc_21 : decode cJ5_appendNull_278bc 21 = .ok (.invokevirtual 83, 3) := by decide +kernel
theorem dJ5_appendNull_278bc_24 : decode cJ5_appendNull_278bc 24 = .ok (.ifCond .eq 38, 3) := by decide +kernel
theorem dJ5_appendNull_278bc_27 : decode cJ5_appendNull_278bc 27 = .ok (.aload_n 2, 1) := by decide +kernel
theorem dJ5_appendNull_278bc_28 : decode cJ5_appendNull_278bc 28 = .ok (.iload_n 1, 1) := by decide +kernel
theorem dJ5_appendNull_278bc_29 : decode cJ5_appendNull_278bc 29 = .ok (.iinc 1 1, 3) := by decide +kernel
theorem dJ5_appendNull_278bc_32 : decode cJ5_appendNull_278bc 32 = .ok (.bipush 110, 2) := by decide +kernel
theorem dJ5_appendNull_278bc_34 : decode cJ5_appendNull_278bc 34 = .ok (.bastore, 1) := by decide +kernel
theorem dJ5_appendNull_278bc_35 : decode cJ5_appendNull_278bc 35 = .ok (.aload_n 2, 1) := by decide +kernel
theorem dJ5_appendNull_278bc_36 : decode cJ5_appendNull_278bc 36 = .ok (.iload_n 1, 1) := by decide +kernel
theorem dJ5_appendNull_278bc_37 : decode cJ5_appendNull_278bc 37 = .ok (.iinc 1 1, 3) := by decide +kernel
theorem dJ5_appendNull_278bc_40 : decode cJ5_appendNull_278bc 40 = .ok (.bipush 117, 2) := by decide +kernel
theorem dJ5_appendNull_278bc_42 : decode cJ5_appendNull_278bc 42 = .ok (.bastore, 1) := by decide +kernel
theorem dJ5_appendNull_278bc_43 : decode cJ5_appendNull_278bc 43 = .ok (.aload_n 2, 1) := by decide +kernel
theorem dJ5_appendNull_278bc_44 : decode cJ5_appendNull_278bc 44 = .ok (.iload_n 1, 1) := by decide +kernel
theorem dJ5_appendNull_278bc_45 : decode cJ5_appendNull_278bc 45 = .ok (.iinc 1 1, 3) := by decide +kernel
theorem dJ5_appendNull_278bc_48 : decode cJ5_appendNull_278bc 48 = .ok (.bipush 108, 2) := by decide +kernel
theorem dJ5_appendNull_278bc_50 : decode cJ5_appendNull_278bc 50 = .ok (.bastore, 1) := by decide +kernel
theorem dJ5_appendNull_278bc_51 : decode cJ5_appendNull_278bc 51 = .ok (.aload_n 2, 1) := by decide +kernel
theorem dJ5_appendNull_278bc_52 : decode cJ5_appendNull_278bc 52 = .ok (.iload_n 1, 1) := by decide +kernel
theorem dJ5_appendNull_278bc_53 : decode cJ5_appendNull_278bc 53 = .ok (.iinc 1 1, 3) := by decide +kernel
theorem dJ5_appendNull_278bc_56 : decode cJ5_appendNull_278bc 56 = .ok (.bipush 108, 2) := by decide +kernel
theorem dJ5_appendNull_278bc_58 : decode cJ5_appendNull_278bc 58 = .ok (.bastore, 1) := by decide +kernel
theorem dJ5_appendNull_278bc_59 : decode cJ5_appendNull_278bc 59 = .ok (.goto 17, 3) := by decide +kernel
theorem dJ5_appendNull_278bc_62 : decode cJ5_appendNull_278bc 62 = .ok (.aload_n 2, 1) := by decide +kernel
theorem dJ5_appendNull_278bc_63 : decode cJ5_appendNull_278bc 63 = .ok (.iload_n 1, 1) := by decide +kernel
theorem dJ5_appendNull_278bc_64 : decode cJ5_appendNull_278bc 64 = .ok (.bipush 110, 2) := by decide +kernel
theorem dJ5_appendNull_278bc_66 : decode cJ5_appendNull_278bc 66 = .ok (.bipush 117, 2) := by decide +kernel
theorem dJ5_appendNull_278bc_68 : decode cJ5_appendNull_278bc 68 = .ok (.bipush 108, 2) := by decide +kernel
theorem dJ5_appendNull_278bc_70 : decode cJ5_appendNull_278bc 70 = .ok (.bipush 108, 2) := by decide +kernel
theorem dJ5_appendNull_278bc_72 : decode cJ5_appendNull_278bc 72 = .ok (.invokestatic 226, 3) := by decide +kernel
theorem dJ5_appendNull_278bc_75 : decode cJ5_appendNull_278bc 75 = .ok (.istore_n 1, 1) := by decide +kernel
theorem dJ5_appendNull_278bc_76 : decode cJ5_appendNull_278bc 76 = .ok (.aload_n 0, 1) := by decide +kernel
theorem dJ5_appendNull_278bc_77 : decode cJ5_appendNull_278bc 77 = .ok (.iload_n 1, 1) := by decide +kernel
theorem dJ5_appendNull_278bc_78 : decode cJ5_appendNull_278bc 78 = .ok (.putfield 79, 3) := by decide +kernel
theorem dJ5_appendNull_278bc_81 : decode cJ5_appendNull_278bc 81 = .ok (.aload_n 0, 1) := by decide +kernel
theorem dJ5_appendNull_278bc_82 : decode cJ5_appendNull_278bc 82 = .ok (.areturn, 1) := by decide +kernel
theorem dJ5_append_c97b9_0 : decode cJ5_append_c97b9 0 = .ok (.aload_n 0, 1) := by decide +kernel
theorem dJ5_append_c97b9_1 : decode cJ5_append_c97b9 1 = .ok (.getfield 79, 3) := by decide +kernel
theorem dJ5_append_c97b9_4 : decode cJ5_append_c97b9 4 = .ok (.istore_n 2, 1) := by decide +kernel
theorem dJ5_append_c97b9_5 : decode cJ5_append_c97b9 5 = .ok (.iload_n 2, 1) := by decide +kernel
theorem dJ5_append_c97b9_6 : decode cJ5_append_c97b9 6 = .ok (.iload_n 1, 1) := by decide +kernel
theorem dJ5_append_c97b9_7 : decode cJ5_append_c97b9 7 = .ok (.invokestatic 245, 3) := by decide +kernel
theorem dJ5_append_c97b9_10 : decode cJ5_append_c97b9 10 = .ok (.iadd, 1) := by decide +kernel
theorem dJ5_append_c97b9_11 : decode cJ5_append_c97b9 11 = .ok (.istore_n 3, 1) := by decide +kernel
theorem dJ5_append_c97b9_12 : decode cJ5_append_c97b9 12 = .ok (.aload_n 0, 1) := by decide +kernel
theorem dJ5_append_c97b9_13 : decode cJ5_append_c97b9 13 = .ok (.iload_n 3, 1) := by decide +kernel
theorem dJ5_append_c97b9_14 : decode cJ5_append_c97b9 14 = .ok (.invokevirtual 100, 3) := by decide +kernel
theorem dJ5_append_c97b9_17 : decode cJ5_append_c97b9 17 = .ok (.aload_n 0, 1) := by decide +kernel
theorem dJ5_append_c97b9_18 : decode cJ5_append_c97b9 18 = .ok (.invokevirtual 83, 3) := by decide +kernel
theorem dJ5_append_c97b9_21 : decode cJ5_append_c97b9 21 = .ok (.ifCond .eq 16, 3) := by decide +kernel
theorem dJ5_append_c97b9_24 : decode cJ5_append_c97b9 24 = .ok (.iload_n 1, 1) := by decide +kernel
theorem dJ5_append_c97b9_25 : decode cJ5_append_c97b9 25 = .ok (.iload_n 3, 1) := by decide +kernel
theorem dJ5_append_c97b9_26 : decode cJ5_append_c97b9 26 = .ok (.aload_n 0, 1) := by decide +kernel
theorem dJ5_append_c97b9_27 : decode cJ5_append_c97b9 27 = .ok (.getfield 15, 3) := by decide +kernel
theorem dJ5_append_c97b9_30 : decode cJ5_append_c97b9 30 = .ok (.invokestatic 248, 3) := by decide +kernel
theorem dJ5_append_c97b9_33 : decode cJ5_append_c97b9 33 = .ok (.pop, 1) := by decide +kernel
theorem dJ5_append_c97b9_34 : decode cJ5_append_c97b9 34 = .ok (.goto 14, 3) := by decide +kernel
theorem dJ5_append_c97b9_37 : decode cJ5_append_c97b9 37 = .ok (.iload_n 1, 1) := by decide +kernel
theorem dJ5_append_c97b9_38 : decode cJ5_append_c97b9 38 = .ok (.iload_n 2, 1) := by decide +kernel
theorem dJ5_append_c97b9_39 : decode cJ5_append_c97b9 39 = .ok (.iload_n 3, 1) := by decide +kernel
theorem dJ5_append_c97b9_40 : decode cJ5_append_c97b9 40 = .ok (.aload_n 0, 1) := by decide +kernel
theorem dJ5_append_c97b9_41 : decode cJ5_append_c97b9 41 = .ok (.getfield 15, 3) := by decide +kernel
theorem dJ5_append_c97b9_44 : decode cJ5_append_c97b9 44 = .ok (.invokestatic 251, 3) := by decide +kernel
theorem dJ5_append_c97b9_47 : decode cJ5_append_c97b9 47 = .ok (.pop, 1) := by decide +kernel
theorem dJ5_append_c97b9_48 : decode cJ5_append_c97b9 48 = .ok (.aload_n 0, 1) := by decide +kernel
theorem dJ5_append_c97b9_49 : decode cJ5_append_c97b9 49 = .ok (.iload_n 3, 1) := by decide +kernel
theorem dJ5_append_c97b9_50 : decode cJ5_append_c97b9 50 = .ok (.putfield 79, 3) := by decide +kernel
theorem dJ5_append_c97b9_53 : decode cJ5_append_c97b9 53 = .ok (.aload_n 0, 1) := by decide +kernel
theorem dJ5_append_c97b9_54 : decode cJ5_append_c97b9 54 = .ok (.areturn, 1) := by decide +kernel
theorem dJ5_getValue_6d5f1_0 : decode cJ5_getValue_6d5f1 0 = .ok (.aload_n 0, 1) := by decide +kernel
theorem dJ5_getValue_6d5f1_1 : decode cJ5_getValue_6d5f1 1 = .ok (.getfield 15, 3) := by decide +kernel
theorem dJ5_getValue_6d5f1_4 : decode cJ5_getValue_6d5f1 4 = .ok (.areturn, 1) := by decide +kernel
theorem dJ5_isLatin1_aae02_0 : decode cJ5_isLatin1_aae02 0 = .ok (.getstatic 18, 3) := by decide +kernel
theorem dJ5_isLatin1_aae02_3 : decode cJ5_isLatin1_aae02 3 = .ok (.ifCond .eq 14, 3) := by decide +kernel
theorem dJ5_isLatin1_aae02_6 : decode cJ5_isLatin1_aae02 6 = .ok (.aload_n 0, 1) := by decide +kernel
theorem dJ5_isLatin1_aae02_7 : decode cJ5_isLatin1_aae02 7 = .ok (.getfield 22, 3) := by decide +kernel
theorem dJ5_isLatin1_aae02_10 : decode cJ5_isLatin1_aae02 10 = .ok (.ifCond .ne 7, 3) := by decide +kernel
theorem dJ5_isLatin1_aae02_13 : decode cJ5_isLatin1_aae02 13 = .ok (.iconst 1, 1) := by decide +kernel
theorem dJ5_isLatin1_aae02_14 : decode cJ5_isLatin1_aae02 14 = .ok (.goto 4, 3) := by decide +kernel
theorem dJ5_isLatin1_aae02_17 : decode cJ5_isLatin1_aae02 17 = .ok (.iconst 0, 1) := by decide +kernel
theorem dJ5_isLatin1_aae02_18 : decode cJ5_isLatin1_aae02 18 = .ok (.ireturn, 1) := by decide +kernel
theorem dJ5_inflateIfNeededFor_a7421_0 : decode cJ5_inflateIfNeededFor_a7421 0 = .ok (.getstatic 18, 3) := by decide +kernel
theorem dJ5_inflateIfNeededFor_a7421_3 : decode cJ5_inflateIfNeededFor_a7421 3 = .ok (.ifCond .eq 18, 3) := by decide +kernel
theorem dJ5_inflateIfNeededFor_a7421_6 : decode cJ5_inflateIfNeededFor_a7421 6 = .ok (.aload_n 0, 1) := by decide +kernel
theorem dJ5_inflateIfNeededFor_a7421_7 : decode cJ5_inflateIfNeededFor_a7421 7 = .ok (.getfield 22, 3) := by decide +kernel
theorem dJ5_inflateIfNeededFor_a7421_10 : decode cJ5_inflateIfNeededFor_a7421 10 = .ok (.aload_n 1, 1) := by decide +kernel
theorem dJ5_inflateIfNeededFor_a7421_11 : decode cJ5_inflateIfNeededFor_a7421 11 = .ok (.invokevirtual 40, 3) := by decide +kernel
theorem dJ5_inflateIfNeededFor_a7421_14 : decode cJ5_inflateIfNeededFor_a7421 14 = .ok (.if_icmp .eq 7, 3) := by decide +kernel
theorem dJ5_inflateIfNeededFor_a7421_17 : decode cJ5_inflateIfNeededFor_a7421 17 = .ok (.aload_n 0, 1) := by decide +kernel
theorem dJ5_inflateIfNeededFor_a7421_18 : decode cJ5_inflateIfNeededFor_a7421 18 = .ok (.invokevirtual 195, 3) := by decide +kernel
theorem dJ5_inflateIfNeededFor_a7421_21 : decode cJ5_inflateIfNeededFor_a7421 21 = .ok (.return_, 1) := by decide +kernel
theorem dJ5_putStringAt_47b60_0 : decode cJ5_putStringAt_47b60 0 = .ok (.aload_n 0, 1) := by decide +kernel
theorem dJ5_putStringAt_47b60_1 : decode cJ5_putStringAt_47b60 1 = .ok (.aload_n 2, 1) := by decide +kernel
theorem dJ5_putStringAt_47b60_2 : decode cJ5_putStringAt_47b60 2 = .ok (.invokevirtual 397, 3) := by decide +kernel
theorem dJ5_putStringAt_47b60_5 : decode cJ5_putStringAt_47b60 5 = .ok (.aload_n 2, 1) := by decide +kernel
theorem dJ5_putStringAt_47b60_6 : decode cJ5_putStringAt_47b60 6 = .ok (.aload_n 0, 1) := by decide +kernel
theorem dJ5_putStringAt_47b60_7 : decode cJ5_putStringAt_47b60 7 = .ok (.getfield 15, 3) := by decide +kernel
theorem dJ5_putStringAt_47b60_10 : decode cJ5_putStringAt_47b60 10 = .ok (.iload_n 1, 1) := by decide +kernel
theorem dJ5_putStringAt_47b60_11 : decode cJ5_putStringAt_47b60 11 = .ok (.aload_n 0, 1) := by decide +kernel
theorem dJ5_putStringAt_47b60_12 : decode cJ5_putStringAt_47b60 12 = .ok (.getfield 22, 3) := by decide +kernel
theorem dJ5_putStringAt_47b60_15 : decode cJ5_putStringAt_47b60 15 = .ok (.invokevirtual 399, 3) := by decide +kernel
theorem dJ5_putStringAt_47b60_18 : decode cJ5_putStringAt_47b60 18 = .ok (.return_, 1) := by decide +kernel
theorem dJx29ce0_ordinal_8abf5_0 : decode cJx29ce0_ordinal_8abf5 0 = .ok (.aload_n 0, 1) := by decide +kernel
theorem dJx29ce0_ordinal_8abf5_1 : decode cJx29ce0_ordinal_8abf5 1 = .ok (.getfield 7, 3) := by decide +kernel
theorem dJx29ce0_ordinal_8abf5_4 : decode cJx29ce0_ordinal_8abf5 4 = .ok (.ireturn, 1) := by decide +kernel
theorem dJ6_getChars_ba4f3_0 : decode cJ6_getChars_ba4f3 0 = .ok (.iload_n 1, 1) := by decide +kernel
theorem dJ6_getChars_ba4f3_1 : decode cJ6_getChars_ba4f3 1 = .ok (.istore 5, 2) := by decide +kernel
theorem dJ6_getChars_ba4f3_3 : decode cJ6_getChars_ba4f3 3 = .ok (.iload_n 0, 1) := by decide +kernel
theorem dJ6_getChars_ba4f3_4 : decode cJ6_getChars_ba4f3 4 = .ok (.ifCond .ge 7, 3) := by decide +kernel
theorem dJ6_getChars_ba4f3_7 : decode cJ6_getChars_ba4f3 7 = .ok (.iconst 1, 1) := by decide +kernel
theorem dJ6_getChars_ba4f3_8 : decode cJ6_getChars_ba4f3 8 = .ok (.goto 4, 3) := by decide +kernel
theorem dJ6_getChars_ba4f3_11 : decode cJ6_getChars_ba4f3 11 = .ok (.iconst 0, 1) := by decide +kernel
theorem dJ6_getChars_ba4f3_12 : decode cJ6_getChars_ba4f3 12 = .ok (.istore 6, 2) := by decide +kernel
theorem dJ6_getChars_ba4f3_14 : decode cJ6_getChars_ba4f3 14 = .ok (.iload 6, 2) := by decide +kernel
theorem dJ6_getChars_ba4f3_16 : decode cJ6_getChars_ba4f3 16 = .ok (.ifCond .ne 6, 3) := by decide +kernel
theorem dJ6_getChars_ba4f3_19 : decode cJ6_getChars_ba4f3 19 = .ok (.iload_n 0, 1) := by decide +kernel
theorem dJ6_getChars_ba4f3_20 : decode cJ6_getChars_ba4f3 20 = .ok (.ineg, 1) := by decide +kernel
theorem dJ6_getChars_ba4f3_21 : decode cJ6_getChars_ba4f3 21 = .ok (.istore_n 0, 1) := by decide +kernel
theorem dJ6_getChars_ba4f3_22 : decode cJ6_getChars_ba4f3 22 = .ok (.iload_n 0, 1) := by decide +kernel
theorem dJ6_getChars_ba4f3_23 : decode cJ6_getChars_ba4f3 23 = .ok (.bipush (-100), 2) := by decide +kernel
theorem dJ6_getChars_ba4f3_25 : decode cJ6_getChars_ba4f3 25 = .ok (.if_icmp .gt 47, 3) := by decide +kernel
theorem dJ6_getChars_ba4f3_28 : decode cJ6_getChars_ba4f3 28 = .ok (.iload_n 0, 1) := by decide +kernel
theorem dJ6_getChars_ba4f3_29 : decode cJ6_getChars_ba4f3 29 = .ok (.bipush 100, 2) := by decide +kernel
theorem dJ6_getChars_ba4f3_31 : decode cJ6_getChars_ba4f3 31 = .ok (.idiv, 1) := by decide +kernel
theorem dJ6_getChars_ba4f3_32 : decode cJ6_getChars_ba4f3 32 = .ok (.istore_n 3, 1) := by decide +kernel
theorem dJ6_getChars_ba4f3_33 : decode cJ6_getChars_ba4f3 33 = .ok (.iload_n 3, 1) := by decide +kernel
theorem dJ6_getChars_ba4f3_34 : decode cJ6_getChars_ba4f3 34 = .ok (.bipush 100, 2) := by decide +kernel
theorem dJ6_getChars_ba4f3_36 : decode cJ6_getChars_ba4f3 36 = .ok (.imul, 1) := by decide +kernel
theorem dJ6_getChars_ba4f3_37 : decode cJ6_getChars_ba4f3 37 = .ok (.iload_n 0, 1) := by decide +kernel
theorem dJ6_getChars_ba4f3_38 : decode cJ6_getChars_ba4f3 38 = .ok (.isub, 1) := by decide +kernel
theorem dJ6_getChars_ba4f3_39 : decode cJ6_getChars_ba4f3 39 = .ok (.istore 4, 2) := by decide +kernel
theorem dJ6_getChars_ba4f3_41 : decode cJ6_getChars_ba4f3 41 = .ok (.iload_n 3, 1) := by decide +kernel
theorem dJ6_getChars_ba4f3_42 : decode cJ6_getChars_ba4f3 42 = .ok (.istore_n 0, 1) := by decide +kernel
theorem dJ6_getChars_ba4f3_43 : decode cJ6_getChars_ba4f3 43 = .ok (.aload_n 2, 1) := by decide +kernel
theorem dJ6_getChars_ba4f3_44 : decode cJ6_getChars_ba4f3 44 = .ok (.iinc 5 (-1), 3) := by decide +kernel
theorem dJ6_getChars_ba4f3_47 : decode cJ6_getChars_ba4f3 47 = .ok (.iload 5, 2) := by decide +kernel
theorem dJ6_getChars_ba4f3_49 : decode cJ6_getChars_ba4f3 49 = .ok (.getstatic 83, 3) := by decide +kernel
theorem dJ6_getChars_ba4f3_52 : decode cJ6_getChars_ba4f3 52 = .ok (.iload 4, 2) := by decide +kernel
theorem dJ6_getChars_ba4f3_54 : decode cJ6_getChars_ba4f3 54 = .ok (.baload, 1) := by decide +kernel
theorem dJ6_getChars_ba4f3_55 : decode cJ6_getChars_ba4f3 55 = .ok (.bastore, 1) := by decide +kernel
theorem dJ6_getChars_ba4f3_56 : decode cJ6_getChars_ba4f3 56 = .ok (.aload_n 2, 1) := by decide +kernel
theorem dJ6_getChars_ba4f3_57 : decode cJ6_getChars_ba4f3 57 = .ok (.iinc 5 (-1), 3) := by decide +kernel
theorem dJ6_getChars_ba4f3_60 : decode cJ6_getChars_ba4f3 60 = .ok (.iload 5, 2) := by decide +kernel
theorem dJ6_getChars_ba4f3_62 : decode cJ6_getChars_ba4f3 62 = .ok (.getstatic 87, 3) := by decide +kernel
theorem dJ6_getChars_ba4f3_65 : decode cJ6_getChars_ba4f3 65 = .ok (.iload 4, 2) := by decide +kernel
theorem dJ6_getChars_ba4f3_67 : decode cJ6_getChars_ba4f3 67 = .ok (.baload, 1) := by decide +kernel
theorem dJ6_getChars_ba4f3_68 : decode cJ6_getChars_ba4f3 68 = .ok (.bastore, 1) := by decide +kernel
theorem dJ6_getChars_ba4f3_69 : decode cJ6_getChars_ba4f3 69 = .ok (.goto (-47), 3) := by decide +kernel
theorem dJ6_getChars_ba4f3_72 : decode cJ6_getChars_ba4f3 72 = .ok (.aload_n 2, 1) := by decide +kernel
theorem dJ6_getChars_ba4f3_73 : decode cJ6_getChars_ba4f3 73 = .ok (.iinc 5 (-1), 3) := by decide +kernel
theorem dJ6_getChars_ba4f3_76 : decode cJ6_getChars_ba4f3 76 = .ok (.iload 5, 2) := by decide +kernel
theorem dJ6_getChars_ba4f3_78 : decode cJ6_getChars_ba4f3 78 = .ok (.getstatic 83, 3) := by decide +kernel
theorem dJ6_getChars_ba4f3_81 : decode cJ6_getChars_ba4f3 81 = .ok (.iload_n 0, 1) := by decide +kernel
theorem dJ6_getChars_ba4f3_82 : decode cJ6_getChars_ba4f3 82 = .ok (.ineg, 1) := by decide +kernel
theorem dJ6_getChars_ba4f3_83 : decode cJ6_getChars_ba4f3 83 = .ok (.baload, 1) := by decide +kernel
theorem dJ6_getChars_ba4f3_84 : decode cJ6_getChars_ba4f3 84 = .ok (.bastore, 1) := by decide +kernel
theorem dJ6_getChars_ba4f3_85 : decode cJ6_getChars_ba4f3 85 = .ok (.iload_n 0, 1) := by decide +kernel
theorem dJ6_getChars_ba4f3_86 : decode cJ6_getChars_ba4f3 86 = .ok (.bipush (-9), 2) := by decide +kernel
theorem dJ6_getChars_ba4f3_88 : decode cJ6_getChars_ba4f3 88 = .ok (.if_icmp .ge 16, 3) := by decide +kernel
theorem dJ6_getChars_ba4f3_91 : decode cJ6_getChars_ba4f3 91 = .ok (.aload_n 2, 1) := by decide +kernel
theorem dJ6_getChars_ba4f3_92 : decode cJ6_getChars_ba4f3 92 = .ok (.iinc 5 (-1), 3) := by decide +kernel
theorem dJ6_getChars_ba4f3_95 : decode cJ6_getChars_ba4f3 95 = .ok (.iload 5, 2) := by decide +kernel
theorem dJ6_getChars_ba4f3_97 : decode cJ6_getChars_ba4f3 97 = .ok (.getstatic 87, 3) := by decide +kernel
theorem dJ6_getChars_ba4f3_100 : decode cJ6_getChars_ba4f3 100 = .ok (.iload_n 0, 1) := by decide +kernel
theorem dJ6_getChars_ba4f3_101 : decode cJ6_getChars_ba4f3 101 = .ok (.ineg, 1) := by decide +kernel
theorem dJ6_getChars_ba4f3_102 : decode cJ6_getChars_ba4f3 102 = .ok (.baload, 1) := by decide +kernel
theorem dJ6_getChars_ba4f3_103 : decode cJ6_getChars_ba4f3 103 = .ok (.bastore, 1) := by decide +kernel
theorem dJ6_getChars_ba4f3_104 : decode cJ6_getChars_ba4f3 104 = .ok (.iload 6, 2) := by decide +kernel
theorem dJ6_getChars_ba4f3_106 : decode cJ6_getChars_ba4f3 106 = .ok (.ifCond .eq 12, 3) := by decide +kernel
theorem dJ6_getChars_ba4f3_109 : decode cJ6_getChars_ba4f3 109 = .ok (.aload_n 2, 1) := by decide +kernel
theorem dJ6_getChars_ba4f3_110 : decode cJ6_getChars_ba4f3 110 = .ok (.iinc 5 (-1), 3) := by decide +kernel
theorem dJ6_getChars_ba4f3_113 : decode cJ6_getChars_ba4f3 113 = .ok (.iload 5, 2) := by decide +kernel
theorem dJ6_getChars_ba4f3_115 : decode cJ6_getChars_ba4f3 115 = .ok (.bipush 45, 2) := by decide +kernel
theorem dJ6_getChars_ba4f3_117 : decode cJ6_getChars_ba4f3 117 = .ok (.bastore, 1) := by decide +kernel
theorem dJ6_getChars_ba4f3_118 : decode cJ6_getChars_ba4f3 118 = .ok (.iload 5, 2) := by decide +kernel
theorem dJ6_getChars_ba4f3_120 : decode cJ6_getChars_ba4f3 120 = .ok (.ireturn, 1) := by decide +kernel
theorem dJ6_stringSize_0f7a4_0 : decode cJ6_stringSize_0f7a4 0 = .ok (.iconst 1, 1) := by decide +kernel
theorem dJ6_stringSize_0f7a4_1 : decode cJ6_stringSize_0f7a4 1 = .ok (.istore_n 1, 1) := by decide +kernel
theorem dJ6_stringSize_0f7a4_2 : decode cJ6_stringSize_0f7a4 2 = .ok (.iload_n 0, 1) := by decide +kernel
theorem dJ6_stringSize_0f7a4_3 : decode cJ6_stringSize_0f7a4 3 = .ok (.ifCond .lt 8, 3) := by decide +kernel
theorem dJ6_stringSize_0f7a4_6 : decode cJ6_stringSize_0f7a4 6 = .ok (.iconst 0, 1) := by decide +kernel
theorem dJ6_stringSize_0f7a4_7 : decode cJ6_stringSize_0f7a4 7 = .ok (.istore_n 1, 1) := by decide +kernel
theorem dJ6_stringSize_0f7a4_8 : decode cJ6_stringSize_0f7a4 8 = .ok (.iload_n 0, 1) := by decide +kernel
theorem dJ6_stringSize_0f7a4_9 : decode cJ6_stringSize_0f7a4 9 = .ok (.ineg, 1) := by decide +kernel
theorem dJ6_stringSize_0f7a4_10 : decode cJ6_stringSize_0f7a4 10 = .ok (.istore_n 0, 1) := by decide +kernel
theorem dJ6_stringSize_0f7a4_11 : decode cJ6_stringSize_0f7a4 11 = .ok (.bipush (-10), 2) := by decide +kernel
theorem dJ6_stringSize_0f7a4_13 : decode cJ6_stringSize_0f7a4 13 = .ok (.istore_n 2, 1) := by decide +kernel
theorem dJ6_stringSize_0f7a4_14 : decode cJ6_stringSize_0f7a4 14 = .ok (.iconst 1, 1) := by decide +kernel
theorem dJ6_stringSize_0f7a4_15 : decode cJ6_stringSize_0f7a4 15 = .ok (.istore_n 3, 1) := by decide +kernel
theorem dJ6_stringSize_0f7a4_16 : decode cJ6_stringSize_0f7a4 16 = .ok (.iload_n 3, 1) := by decide +kernel
theorem dJ6_stringSize_0f7a4_17 : decode cJ6_stringSize_0f7a4 17 = .ok (.bipush 10, 2) := by decide +kernel
theorem dJ6_stringSize_0f7a4_19 : decode cJ6_stringSize_0f7a4 19 = .ok (.if_icmp .ge 23, 3) := by decide +kernel
theorem dJ6_stringSize_0f7a4_22 : decode cJ6_stringSize_0f7a4 22 = .ok (.iload_n 0, 1) := by decide +kernel
theorem dJ6_stringSize_0f7a4_23 : decode cJ6_stringSize_0f7a4 23 = .ok (.iload_n 2, 1) := by decide +kernel
theorem dJ6_stringSize_0f7a4_24 : decode cJ6_stringSize_0f7a4 24 = .ok (.if_icmp .le 7, 3) := by decide +kernel
theorem dJ6_stringSize_0f7a4_27 : decode cJ6_stringSize_0f7a4 27 = .ok (.iload_n 3, 1) := by decide +kernel
theorem dJ6_stringSize_0f7a4_28 : decode cJ6_stringSize_0f7a4 28 = .ok (.iload_n 1, 1) := by decide +kernel
theorem dJ6_stringSize_0f7a4_29 : decode cJ6_stringSize_0f7a4 29 = .ok (.iadd, 1) := by decide +kernel
theorem dJ6_stringSize_0f7a4_30 : decode cJ6_stringSize_0f7a4 30 = .ok (.ireturn, 1) := by decide +kernel
theorem dJ6_stringSize_0f7a4_31 : decode cJ6_stringSize_0f7a4 31 = .ok (.bipush 10, 2) := by decide +kernel
theorem dJ6_stringSize_0f7a4_33 : decode cJ6_stringSize_0f7a4 33 = .ok (.iload_n 2, 1) := by decide +kernel
theorem dJ6_stringSize_0f7a4_34 : decode cJ6_stringSize_0f7a4 34 = .ok (.imul, 1) := by decide +kernel
theorem dJ6_stringSize_0f7a4_35 : decode cJ6_stringSize_0f7a4 35 = .ok (.istore_n 2, 1) := by decide +kernel
theorem dJ6_stringSize_0f7a4_36 : decode cJ6_stringSize_0f7a4 36 = .ok (.iinc 3 1, 3) := by decide +kernel
theorem dJ6_stringSize_0f7a4_39 : decode cJ6_stringSize_0f7a4 39 = .ok (.goto (-23), 3) := by decide +kernel
theorem dJ6_stringSize_0f7a4_42 : decode cJ6_stringSize_0f7a4 42 = .ok (.bipush 10, 2) := by decide +kernel
theorem dJ6_stringSize_0f7a4_44 : decode cJ6_stringSize_0f7a4 44 = .ok (.iload_n 1, 1) := by decide +kernel
theorem dJ6_stringSize_0f7a4_45 : decode cJ6_stringSize_0f7a4 45 = .ok (.iadd, 1) := by decide +kernel
theorem dJ6_stringSize_0f7a4_46 : decode cJ6_stringSize_0f7a4 46 = .ok (.ireturn, 1) := by decide +kernel
theorem dJ6_bitCount_0f7a4_0 : decode cJ6_bitCount_0f7a4 0 = .ok (.iload_n 0, 1) := by decide +kernel
theorem dJ6_bitCount_0f7a4_1 : decode cJ6_bitCount_0f7a4 1 = .ok (.iload_n 0, 1) := by decide +kernel
theorem dJ6_bitCount_0f7a4_2 : decode cJ6_bitCount_0f7a4 2 = .ok (.iconst 1, 1) := by decide +kernel
theorem dJ6_bitCount_0f7a4_3 : decode cJ6_bitCount_0f7a4 3 = .ok (.iushr, 1) := by decide +kernel
theorem dJ6_bitCount_0f7a4_4 : decode cJ6_bitCount_0f7a4 4 = .ok (.ldc_w 265, 3) := by decide +kernel
theorem dJ6_bitCount_0f7a4_7 : decode cJ6_bitCount_0f7a4 7 = .ok (.iand, 1) := by decide +kernel
theorem dJ6_bitCount_0f7a4_8 : decode cJ6_bitCount_0f7a4 8 = .ok (.isub, 1) := by decide +kernel
theorem dJ6_bitCount_0f7a4_9 : decode cJ6_bitCount_0f7a4 9 = .ok (.istore_n 0, 1) := by decide +kernel
theorem dJ6_bitCount_0f7a4_10 : decode cJ6_bitCount_0f7a4 10 = .ok (.iload_n 0, 1) := by decide +kernel
theorem dJ6_bitCount_0f7a4_11 : decode cJ6_bitCount_0f7a4 11 = .ok (.ldc_w 266, 3) := by decide +kernel
theorem dJ6_bitCount_0f7a4_14 : decode cJ6_bitCount_0f7a4 14 = .ok (.iand, 1) := by decide +kernel
theorem dJ6_bitCount_0f7a4_15 : decode cJ6_bitCount_0f7a4 15 = .ok (.iload_n 0, 1) := by decide +kernel
theorem dJ6_bitCount_0f7a4_16 : decode cJ6_bitCount_0f7a4 16 = .ok (.iconst 2, 1) := by decide +kernel
theorem dJ6_bitCount_0f7a4_17 : decode cJ6_bitCount_0f7a4 17 = .ok (.iushr, 1) := by decide +kernel
theorem dJ6_bitCount_0f7a4_18 : decode cJ6_bitCount_0f7a4 18 = .ok (.ldc_w 266, 3) := by decide +kernel
theorem dJ6_bitCount_0f7a4_21 : decode cJ6_bitCount_0f7a4 21 = .ok (.iand, 1) := by decide +kernel
theorem dJ6_bitCount_0f7a4_22 : decode cJ6_bitCount_0f7a4 22 = .ok (.iadd, 1) := by decide +kernel
theorem dJ6_bitCount_0f7a4_23 : decode cJ6_bitCount_0f7a4 23 = .ok (.istore_n 0, 1) := by decide +kernel
theorem dJ6_bitCount_0f7a4_24 : decode cJ6_bitCount_0f7a4 24 = .ok (.iload_n 0, 1) := by decide +kernel
theorem dJ6_bitCount_0f7a4_25 : decode cJ6_bitCount_0f7a4 25 = .ok (.iload_n 0, 1) := by decide +kernel
theorem dJ6_bitCount_0f7a4_26 : decode cJ6_bitCount_0f7a4 26 = .ok (.iconst 4, 1) := by decide +kernel
theorem dJ6_bitCount_0f7a4_27 : decode cJ6_bitCount_0f7a4 27 = .ok (.iushr, 1) := by decide +kernel
theorem dJ6_bitCount_0f7a4_28 : decode cJ6_bitCount_0f7a4 28 = .ok (.iadd, 1) := by decide +kernel
theorem dJ6_bitCount_0f7a4_29 : decode cJ6_bitCount_0f7a4 29 = .ok (.ldc_w 267, 3) := by decide +kernel
theorem dJ6_bitCount_0f7a4_32 : decode cJ6_bitCount_0f7a4 32 = .ok (.iand, 1) := by decide +kernel
theorem dJ6_bitCount_0f7a4_33 : decode cJ6_bitCount_0f7a4 33 = .ok (.istore_n 0, 1) := by decide +kernel
theorem dJ6_bitCount_0f7a4_34 : decode cJ6_bitCount_0f7a4 34 = .ok (.iload_n 0, 1) := by decide +kernel
theorem dJ6_bitCount_0f7a4_35 : decode cJ6_bitCount_0f7a4 35 = .ok (.iload_n 0, 1) := by decide +kernel
theorem dJ6_bitCount_0f7a4_36 : decode cJ6_bitCount_0f7a4 36 = .ok (.bipush 8, 2) := by decide +kernel
theorem dJ6_bitCount_0f7a4_38 : decode cJ6_bitCount_0f7a4 38 = .ok (.iushr, 1) := by decide +kernel
theorem dJ6_bitCount_0f7a4_39 : decode cJ6_bitCount_0f7a4 39 = .ok (.iadd, 1) := by decide +kernel
theorem dJ6_bitCount_0f7a4_40 : decode cJ6_bitCount_0f7a4 40 = .ok (.istore_n 0, 1) := by decide +kernel
theorem dJ6_bitCount_0f7a4_41 : decode cJ6_bitCount_0f7a4 41 = .ok (.iload_n 0, 1) := by decide +kernel
theorem dJ6_bitCount_0f7a4_42 : decode cJ6_bitCount_0f7a4 42 = .ok (.iload_n 0, 1) := by decide +kernel
theorem dJ6_bitCount_0f7a4_43 : decode cJ6_bitCount_0f7a4 43 = .ok (.bipush 16, 2) := by decide +kernel
theorem dJ6_bitCount_0f7a4_45 : decode cJ6_bitCount_0f7a4 45 = .ok (.iushr, 1) := by decide +kernel
theorem dJ6_bitCount_0f7a4_46 : decode cJ6_bitCount_0f7a4 46 = .ok (.iadd, 1) := by decide +kernel
theorem dJ6_bitCount_0f7a4_47 : decode cJ6_bitCount_0f7a4 47 = .ok (.istore_n 0, 1) := by decide +kernel
theorem dJ6_bitCount_0f7a4_48 : decode cJ6_bitCount_0f7a4 48 = .ok (.iload_n 0, 1) := by decide +kernel
theorem dJ6_bitCount_0f7a4_49 : decode cJ6_bitCount_0f7a4 49 = .ok (.bipush 63, 2) := by decide +kernel
theorem dJ6_bitCount_0f7a4_51 : decode cJ6_bitCount_0f7a4 51 = .ok (.iand, 1) := by decide +kernel
theorem dJ6_bitCount_0f7a4_52 : decode cJ6_bitCount_0f7a4 52 = .ok (.ireturn, 1) := by decide +kernel
theorem dJ9_floorMod_7cf53_0 : decode cJ9_floorMod_7cf53 0 = .ok (.iload_n 0, 1) := by decide +kernel
theorem dJ9_floorMod_7cf53_1 : decode cJ9_floorMod_7cf53 1 = .ok (.iload_n 1, 1) := by decide +kernel
theorem dJ9_floorMod_7cf53_2 : decode cJ9_floorMod_7cf53 2 = .ok (.irem, 1) := by decide +kernel
theorem dJ9_floorMod_7cf53_3 : decode cJ9_floorMod_7cf53 3 = .ok (.istore_n 2, 1) := by decide +kernel
theorem dJ9_floorMod_7cf53_4 : decode cJ9_floorMod_7cf53 4 = .ok (.iload_n 0, 1) := by decide +kernel
theorem dJ9_floorMod_7cf53_5 : decode cJ9_floorMod_7cf53 5 = .ok (.iload_n 1, 1) := by decide +kernel
theorem dJ9_floorMod_7cf53_6 : decode cJ9_floorMod_7cf53 6 = .ok (.ixor, 1) := by decide +kernel
theorem dJ9_floorMod_7cf53_7 : decode cJ9_floorMod_7cf53 7 = .ok (.ifCond .ge 11, 3) := by decide +kernel
theorem dJ9_floorMod_7cf53_10 : decode cJ9_floorMod_7cf53 10 = .ok (.iload_n 2, 1) := by decide +kernel
theorem dJ9_floorMod_7cf53_11 : decode cJ9_floorMod_7cf53 11 = .ok (.ifCond .eq 7, 3) := by decide +kernel
theorem dJ9_floorMod_7cf53_14 : decode cJ9_floorMod_7cf53 14 = .ok (.iload_n 2, 1) := by decide +kernel
theorem dJ9_floorMod_7cf53_15 : decode cJ9_floorMod_7cf53 15 = .ok (.iload_n 1, 1) := by decide +kernel
theorem dJ9_floorMod_7cf53_16 : decode cJ9_floorMod_7cf53 16 = .ok (.iadd, 1) := by decide +kernel
theorem dJ9_floorMod_7cf53_17 : decode cJ9_floorMod_7cf53 17 = .ok (.ireturn, 1) := by decide +kernel
theorem dJ9_floorMod_7cf53_18 : decode cJ9_floorMod_7cf53 18 = .ok (.iload_n 2, 1) := by decide +kernel
theorem dJ9_floorMod_7cf53_19 : decode cJ9_floorMod_7cf53 19 = .ok (.ireturn, 1) := by decide +kernel
theorem dJ9_max_7cf53_0 : decode cJ9_max_7cf53 0 = .ok (.iload_n 0, 1) := by decide +kernel
theorem dJ9_max_7cf53_1 : decode cJ9_max_7cf53 1 = .ok (.iload_n 1, 1) := by decide +kernel
theorem dJ9_max_7cf53_2 : decode cJ9_max_7cf53 2 = .ok (.if_icmp .lt 7, 3) := by decide +kernel
theorem dJ9_max_7cf53_5 : decode cJ9_max_7cf53 5 = .ok (.iload_n 0, 1) := by decide +kernel
theorem dJ9_max_7cf53_6 : decode cJ9_max_7cf53 6 = .ok (.goto 4, 3) := by decide +kernel
theorem dJ9_max_7cf53_9 : decode cJ9_max_7cf53 9 = .ok (.iload_n 1, 1) := by decide +kernel
theorem dJ9_max_7cf53_10 : decode cJ9_max_7cf53 10 = .ok (.ireturn, 1) := by decide +kernel
theorem dJ9_min_7cf53_0 : decode cJ9_min_7cf53 0 = .ok (.iload_n 0, 1) := by decide +kernel
theorem dJ9_min_7cf53_1 : decode cJ9_min_7cf53 1 = .ok (.iload_n 1, 1) := by decide +kernel
theorem dJ9_min_7cf53_2 : decode cJ9_min_7cf53 2 = .ok (.if_icmp .gt 7, 3) := by decide +kernel
theorem dJ9_min_7cf53_5 : decode cJ9_min_7cf53 5 = .ok (.iload_n 0, 1) := by decide +kernel
theorem dJ9_min_7cf53_6 : decode cJ9_min_7cf53 6 = .ok (.goto 4, 3) := by decide +kernel
theorem dJ9_min_7cf53_9 : decode cJ9_min_7cf53 9 = .ok (.iload_n 1, 1) := by decide +kernel
theorem dJ9_min_7cf53_10 : decode cJ9_min_7cf53 10 = .ok (.ireturn, 1) := by decide +kernel
theorem dJ0_init_81219_0 : decode cJ0_init_81219 0 = .ok (.aload_n 0, 1) := by decide +kernel
theorem dJ0_init_81219_1 : decode cJ0_init_81219 1 = .ok (.aload_n 1, 1) := by decide +kernel
theorem dJ0_init_81219_2 : decode cJ0_init_81219 2 = .ok (.aconst_null, 1) := by decide +kernel
theorem dJ0_init_81219_3 : decode cJ0_init_81219 3 = .ok (.invokespecial 489, 3) := by decide +kernel
theorem dJ0_init_81219_6 : decode cJ0_init_81219 6 = .ok (.return_, 1) := by decide +kernel
theorem dJ0_length_8abf5_0 : decode cJ0_length_8abf5 0 = .ok (.aload_n 0, 1) := by decide +kernel
theorem dJ0_length_8abf5_1 : decode cJ0_length_8abf5 1 = .ok (.getfield 9, 3) := by decide +kernel
theorem dJ0_length_8abf5_4 : decode cJ0_length_8abf5 4 = .ok (.arraylength, 1) := by decide +kernel
theorem dJ0_length_8abf5_5 : decode cJ0_length_8abf5 5 = .ok (.aload_n 0, 1) := by decide +kernel
theorem dJ0_length_8abf5_6 : decode cJ0_length_8abf5 6 = .ok (.invokevirtual 335, 3) := by decide +kernel
theorem dJ0_length_8abf5_9 : decode cJ0_length_8abf5 9 = .ok (.ishr, 1) := by decide +kernel
theorem dJ0_length_8abf5_10 : decode cJ0_length_8abf5 10 = .ok (.ireturn, 1) := by decide +kernel
theorem dJ0_charAt_5068e_0 : decode cJ0_charAt_5068e 0 = .ok (.aload_n 0, 1) := by decide +kernel
theorem dJ0_charAt_5068e_1 : decode cJ0_charAt_5068e 1 = .ok (.invokevirtual 492, 3) := by decide +kernel
theorem dJ0_charAt_5068e_4 : decode cJ0_charAt_5068e 4 = .ok (.ifCond .eq 12, 3) := by decide +kernel
theorem dJ0_charAt_5068e_7 : decode cJ0_charAt_5068e 7 = .ok (.aload_n 0, 1) := by decide +kernel
theorem dJ0_charAt_5068e_8 : decode cJ0_charAt_5068e 8 = .ok (.getfield 9, 3) := by decide +kernel
theorem dJ0_charAt_5068e_11 : decode cJ0_charAt_5068e 11 = .ok (.iload_n 1, 1) := by decide +kernel
theorem dJ0_charAt_5068e_12 : decode cJ0_charAt_5068e 12 = .ok (.invokestatic 495, 3) := by decide +kernel
theorem dJ0_charAt_5068e_15 : decode cJ0_charAt_5068e 15 = .ok (.ireturn, 1) := by decide +kernel
theorem dJ0_charAt_5068e_16 : decode cJ0_charAt_5068e 16 = .ok (.aload_n 0, 1) := by decide +kernel
theorem dJ0_charAt_5068e_17 : decode cJ0_charAt_5068e 17 = .ok (.getfield 9, 3) := by decide +kernel
theorem dJ0_charAt_5068e_20 : decode cJ0_charAt_5068e 20 = .ok (.iload_n 1, 1) := by decide +kernel
theorem dJ0_charAt_5068e_21 : decode cJ0_charAt_5068e 21 = .ok (.invokestatic 498, 3) := by decide +kernel
theorem dJ0_charAt_5068e_24 : decode cJ0_charAt_5068e 24 = .ok (.ireturn, 1) := by decide +kernel
theorem dJ0_getBytes_840e7_0 : decode cJ0_getBytes_840e7 0 = .ok (.aload_n 0, 1) := by decide +kernel
theorem dJ0_getBytes_840e7_1 : decode cJ0_getBytes_840e7 1 = .ok (.invokevirtual 335, 3) := by decide +kernel
theorem dJ0_getBytes_840e7_4 : decode cJ0_getBytes_840e7 4 = .ok (.iload_n 3, 1) := by decide +kernel
theorem dJ0_getBytes_840e7_5 : decode cJ0_getBytes_840e7 5 = .ok (.if_icmp .ne 23, 3) := by decide +kernel
theorem dJ0_getBytes_840e7_8 : decode cJ0_getBytes_840e7 8 = .ok (.aload_n 0, 1) := by decide +kernel
theorem dJ0_getBytes_840e7_9 : decode cJ0_getBytes_840e7 9 = .ok (.getfield 9, 3) := by decide +kernel
theorem dJ0_getBytes_840e7_12 : decode cJ0_getBytes_840e7 12 = .ok (.iconst 0, 1) := by decide +kernel
theorem dJ0_getBytes_840e7_13 : decode cJ0_getBytes_840e7 13 = .ok (.aload_n 1, 1) := by decide +kernel
theorem dJ0_getBytes_840e7_14 : decode cJ0_getBytes_840e7 14 = .ok (.iload_n 2, 1) := by decide +kernel
theorem dJ0_getBytes_840e7_15 : decode cJ0_getBytes_840e7 15 = .ok (.iload_n 3, 1) := by decide +kernel
theorem dJ0_getBytes_840e7_16 : decode cJ0_getBytes_840e7 16 = .ok (.ishl, 1) := by decide +kernel
theorem dJ0_getBytes_840e7_17 : decode cJ0_getBytes_840e7 17 = .ok (.aload_n 0, 1) := by decide +kernel
theorem dJ0_getBytes_840e7_18 : decode cJ0_getBytes_840e7 18 = .ok (.getfield 9, 3) := by decide +kernel
theorem dJ0_getBytes_840e7_21 : decode cJ0_getBytes_840e7 21 = .ok (.arraylength, 1) := by decide +kernel
theorem dJ0_getBytes_840e7_22 : decode cJ0_getBytes_840e7 22 = .ok (.invokestatic 212, 3) := by decide +kernel
theorem dJ0_getBytes_840e7_25 : decode cJ0_getBytes_840e7 25 = .ok (.goto 18, 3) := by decide +kernel
theorem dJ0_getBytes_840e7_28 : decode cJ0_getBytes_840e7 28 = .ok (.aload_n 0, 1) := by decide +kernel
theorem dJ0_getBytes_840e7_29 : decode cJ0_getBytes_840e7 29 = .ok (.getfield 9, 3) := by decide +kernel
theorem dJ0_getBytes_840e7_32 : decode cJ0_getBytes_840e7 32 = .ok (.iconst 0, 1) := by decide +kernel
theorem dJ0_getBytes_840e7_33 : decode cJ0_getBytes_840e7 33 = .ok (.aload_n 1, 1) := by decide +kernel
theorem dJ0_getBytes_840e7_34 : decode cJ0_getBytes_840e7 34 = .ok (.iload_n 2, 1) := by decide +kernel
theorem dJ0_getBytes_840e7_35 : decode cJ0_getBytes_840e7 35 = .ok (.aload_n 0, 1) := by decide +kernel
theorem dJ0_getBytes_840e7_36 : decode cJ0_getBytes_840e7 36 = .ok (.getfield 9, 3) := by decide +kernel
theorem dJ0_getBytes_840e7_39 : decode cJ0_getBytes_840e7 39 = .ok (.arraylength, 1) := by decide +kernel
theorem dJ0_getBytes_840e7_40 : decode cJ0_getBytes_840e7 40 = .ok (.invokestatic 106, 3) := by decide +kernel
theorem dJ0_getBytes_840e7_43 : decode cJ0_getBytes_840e7 43 = .ok (.return_, 1) := by decide +kernel
theorem dJ0_init_db425_0 : decode cJ0_init_db425 0 = .ok (.aload_n 0, 1) := by decide +kernel
theorem dJ0_init_db425_1 : decode cJ0_init_db425 1 = .ok (.invokespecial 1, 3) := by decide +kernel
theorem dJ0_init_db425_4 : decode cJ0_init_db425 4 = .ok (.aload_n 1, 1) := by decide +kernel
theorem dJ0_init_db425_5 : decode cJ0_init_db425 5 = .ok (.invokevirtual 552, 3) := by decide +kernel
theorem dJ0_init_db425_8 : decode cJ0_init_db425 8 = .ok (.astore_n 3, 1) := by decide +kernel
theorem dJ0_init_db425_9 : decode cJ0_init_db425 9 = .ok (.aload_n 1, 1) := by decide +kernel
theorem dJ0_init_db425_10 : decode cJ0_init_db425 10 = .ok (.invokevirtual 549, 3) := by decide +kernel
theorem dJ0_init_db425_13 : decode cJ0_init_db425 13 = .ok (.istore 4, 2) := by decide +kernel
theorem dJ0_init_db425_15 : decode cJ0_init_db425 15 = .ok (.aload_n 1, 1) := by decide +kernel
theorem dJ0_init_db425_16 : decode cJ0_init_db425 16 = .ok (.invokevirtual 1047, 3) := by decide +kernel
theorem dJ0_init_db425_19 : decode cJ0_init_db425 19 = .ok (.ifCond .eq 22, 3) := by decide +kernel
theorem dJ0_init_db425_22 : decode cJ0_init_db425 22 = .ok (.aload_n 0, 1) := by decide +kernel
theorem dJ0_init_db425_23 : decode cJ0_init_db425 23 = .ok (.iconst 0, 1) := by decide +kernel
theorem dJ0_init_db425_24 : decode cJ0_init_db425 24 = .ok (.putfield 15, 3) := by decide +kernel
theorem dJ0_init_db425_27 : decode cJ0_init_db425 27 = .ok (.aload_n 0, 1) := by decide +kernel
theorem dJ0_init_db425_28 : decode cJ0_init_db425 28 = .ok (.aload_n 3, 1) := by decide +kernel
theorem dJ0_init_db425_29 : decode cJ0_init_db425 29 = .ok (.iconst 0, 1) := by decide +kernel
theorem dJ0_init_db425_30 : decode cJ0_init_db425 30 = .ok (.iload 4, 2) := by decide +kernel
theorem dJ0_init_db425_32 : decode cJ0_init_db425 32 = .ok (.invokestatic 54, 3) := by decide +kernel
theorem dJ0_init_db425_35 : decode cJ0_init_db425 35 = .ok (.putfield 9, 3) := by decide +kernel
theorem dJ0_init_db425_38 : decode cJ0_init_db425 38 = .ok (.goto 59, 3) := by decide +kernel
theorem dJ0_init_db425_41 : decode cJ0_init_db425 41 = .ok (.getstatic 38, 3) := by decide +kernel
theorem dJ0_init_db425_44 : decode cJ0_init_db425 44 = .ok (.ifCond .eq 35, 3) := by decide +kernel
theorem dJ0_init_db425_47 : decode cJ0_init_db425 47 = .ok (.aload_n 1, 1) := by decide +kernel
theorem dJ0_init_db425_48 : decode cJ0_init_db425 48 = .ok (.getfield 1048, 3) := by decide +kernel
theorem dJ0_init_db425_51 : decode cJ0_init_db425 51 = .ok (.ifCond .eq 28, 3) := by decide +kernel
theorem dJ0_init_db425_54 : decode cJ0_init_db425 54 = .ok (.aload_n 0, 1) := by decide +kernel
theorem dJ0_init_db425_55 : decode cJ0_init_db425 55 = .ok (.aload_n 3, 1) := by decide +kernel
theorem dJ0_init_db425_56 : decode cJ0_init_db425 56 = .ok (.iconst 0, 1) := by decide +kernel
theorem dJ0_init_db425_57 : decode cJ0_init_db425 57 = .ok (.iload 4, 2) := by decide +kernel
theorem dJ0_init_db425_59 : decode cJ0_init_db425 59 = .ok (.invokestatic 1051, 3) := by decide +kernel
theorem dJ0_init_db425_62 : decode cJ0_init_db425 62 = .ok (.putfield 9, 3) := by decide +kernel
theorem dJ0_init_db425_65 : decode cJ0_init_db425 65 = .ok (.aload_n 0, 1) := by decide +kernel
theorem dJ0_init_db425_66 : decode cJ0_init_db425 66 = .ok (.aload_n 0, 1) := by decide +kernel
theorem dJ0_init_db425_67 : decode cJ0_init_db425 67 = .ok (.getfield 9, 3) := by decide +kernel
theorem dJ0_init_db425_70 : decode cJ0_init_db425 70 = .ok (.iload 4, 2) := by decide +kernel
theorem dJ0_init_db425_72 : decode cJ0_init_db425 72 = .ok (.invokestatic 47, 3) := by decide +kernel
theorem dJ0_init_db425_75 : decode cJ0_init_db425 75 = .ok (.putfield 15, 3) := by decide +kernel
theorem dJ0_init_db425_78 : decode cJ0_init_db425 78 = .ok (.return_, 1) := by decide +kernel
theorem dJ0_init_db425_79 : decode cJ0_init_db425 79 = .ok (.aload_n 0, 1) := by decide +kernel
theorem dJ0_init_db425_80 : decode cJ0_init_db425 80 = .ok (.iconst 1, 1) := by decide +kernel
theorem dJ0_init_db425_81 : decode cJ0_init_db425 81 = .ok (.putfield 15, 3) := by decide +kernel
theorem dJ0_init_db425_84 : decode cJ0_init_db425 84 = .ok (.aload_n 0, 1) := by decide +kernel
theorem dJ0_init_db425_85 : decode cJ0_init_db425 85 = .ok (.aload_n 3, 1) := by decide +kernel
theorem dJ0_init_db425_86 : decode cJ0_init_db425 86 = .ok (.iconst 0, 1) := by decide +kernel
theorem dJ0_init_db425_87 : decode cJ0_init_db425 87 = .ok (.iload 4, 2) := by decide +kernel
theorem dJ0_init_db425_89 : decode cJ0_init_db425 89 = .ok (.iconst 1, 1) := by decide +kernel
theorem dJ0_init_db425_90 : decode cJ0_init_db425 90 = .ok (.ishl, 1) := by decide +kernel
theorem dJ0_init_db425_91 : decode cJ0_init_db425 91 = .ok (.invokestatic 54, 3) := by decide +kernel
theorem dJ0_init_db425_94 : decode cJ0_init_db425 94 = .ok (.putfield 9, 3) := by decide +kernel
theorem dJ0_init_db425_97 : decode cJ0_init_db425 97 = .ok (.return_, 1) := by decide +kernel
theorem dJ0_coder_7d493_0 : decode cJ0_coder_7d493 0 = .ok (.getstatic 38, 3) := by decide +kernel
theorem dJ0_coder_7d493_3 : decode cJ0_coder_7d493 3 = .ok (.ifCond .eq 10, 3) := by decide +kernel
theorem dJ0_coder_7d493_6 : decode cJ0_coder_7d493 6 = .ok (.aload_n 0, 1) := by decide +kernel
theorem dJ0_coder_7d493_7 : decode cJ0_coder_7d493 7 = .ok (.getfield 15, 3) := by decide +kernel
theorem dJ0_coder_7d493_10 : decode cJ0_coder_7d493 10 = .ok (.goto 4, 3) := by decide +kernel
theorem dJ0_coder_7d493_13 : decode cJ0_coder_7d493 13 = .ok (.iconst 1, 1) := by decide +kernel
theorem dJ0_coder_7d493_14 : decode cJ0_coder_7d493 14 = .ok (.ireturn, 1) := by decide +kernel
theorem dJ0_isLatin1_aae02_0 : decode cJ0_isLatin1_aae02 0 = .ok (.getstatic 38, 3) := by decide +kernel
theorem dJ0_isLatin1_aae02_3 : decode cJ0_isLatin1_aae02 3 = .ok (.ifCond .eq 14, 3) := by decide +kernel
theorem dJ0_isLatin1_aae02_6 : decode cJ0_isLatin1_aae02 6 = .ok (.aload_n 0, 1) := by decide +kernel
theorem dJ0_isLatin1_aae02_7 : decode cJ0_isLatin1_aae02 7 = .ok (.getfield 15, 3) := by decide +kernel
theorem dJ0_isLatin1_aae02_10 : decode cJ0_isLatin1_aae02 10 = .ok (.ifCond .ne 7, 3) := by decide +kernel
theorem dJ0_isLatin1_aae02_13 : decode cJ0_isLatin1_aae02 13 = .ok (.iconst 1, 1) := by decide +kernel
theorem dJ0_isLatin1_aae02_14 : decode cJ0_isLatin1_aae02 14 = .ok (.goto 4, 3) := by decide +kernel
theorem dJ0_isLatin1_aae02_17 : decode cJ0_isLatin1_aae02 17 = .ok (.iconst 0, 1) := by decide +kernel
theorem dJ0_isLatin1_aae02_18 : decode cJ0_isLatin1_aae02 18 = .ok (.ireturn, 1) := by decide +kernel
theorem dJ0_checkIndex_df160_0 : decode cJ0_checkIndex_df160 0 = .ok (.iload_n 0, 1) := by decide +kernel
theorem dJ0_checkIndex_df160_1 : decode cJ0_checkIndex_df160 1 = .ok (.iload_n 1, 1) := by decide +kernel
theorem dJ0_checkIndex_df160_2 : decode cJ0_checkIndex_df160 2 = .ok (.getstatic 1053, 3) := by decide +kernel
theorem dJ0_checkIndex_df160_5 : decode cJ0_checkIndex_df160 5 = .ok (.invokestatic 1059, 3) := by decide +kernel
theorem dJ0_checkIndex_df160_8 : decode cJ0_checkIndex_df160 8 = .ok (.pop, 1) := by decide +kernel
theorem dJ0_checkIndex_df160_9 : decode cJ0_checkIndex_df160 9 = .ok (.return_, 1) := by decide +kernel
theorem dJ0_checkBoundsOffCount_cabcc_0 : decode cJ0_checkBoundsOffCount_cabcc 0 = .ok (.iload_n 0, 1) := by decide +kernel
theorem dJ0_checkBoundsOffCount_cabcc_1 : decode cJ0_checkBoundsOffCount_cabcc 1 = .ok (.iload_n 1, 1) := by decide +kernel
theorem dJ0_checkBoundsOffCount_cabcc_2 : decode cJ0_checkBoundsOffCount_cabcc 2 = .ok (.iload_n 2, 1) := by decide +kernel
theorem dJ0_checkBoundsOffCount_cabcc_3 : decode cJ0_checkBoundsOffCount_cabcc 3 = .ok (.getstatic 1053, 3) := by decide +kernel
theorem dJ0_checkBoundsOffCount_cabcc_6 : decode cJ0_checkBoundsOffCount_cabcc 6 = .ok (.invokestatic 1065, 3) := by decide +kernel
theorem dJ0_checkBoundsOffCount_cabcc_9 : decode cJ0_checkBoundsOffCount_cabcc 9 = .ok (.ireturn, 1) := by decide +kernel
theorem dJ0_checkBoundsBeginEnd_23922_0 : decode cJ0_checkBoundsBeginEnd_23922 0 = .ok (.iload_n 0, 1) := by decide +kernel
theorem dJ0_checkBoundsBeginEnd_23922_1 : decode cJ0_checkBoundsBeginEnd_23922 1 = .ok (.iload_n 1, 1) := by decide +kernel
theorem dJ0_checkBoundsBeginEnd_23922_2 : decode cJ0_checkBoundsBeginEnd_23922 2 = .ok (.iload_n 2, 1) := by decide +kernel
theorem dJ0_checkBoundsBeginEnd_23922_3 : decode cJ0_checkBoundsBeginEnd_23922 3 = .ok (.getstatic 1053, 3) := by decide +kernel
theorem dJ0_checkBoundsBeginEnd_23922_6 : decode cJ0_checkBoundsBeginEnd_23922 6 = .ok (.invokestatic 1062, 3) := by decide +kernel
theorem dJ0_checkBoundsBeginEnd_23922_9 : decode cJ0_checkBoundsBeginEnd_23922 9 = .ok (.pop, 1) := by decide +kernel
theorem dJ0_checkBoundsBeginEnd_23922_10 : decode cJ0_checkBoundsBeginEnd_23922 10 = .ok (.return_, 1) := by decide +kernel
theorem dJ4_init_da8c8_0 : decode cJ4_init_da8c8 0 = .ok (.aload_n 0, 1) := by decide +kernel
theorem dJ4_init_da8c8_1 : decode cJ4_init_da8c8 1 = .ok (.bipush 16, 2) := by decide +kernel
theorem dJ4_init_da8c8_3 : decode cJ4_init_da8c8 3 = .ok (.invokespecial 1, 3) := by decide +kernel
theorem dJ4_init_da8c8_6 : decode cJ4_init_da8c8 6 = .ok (.return_, 1) := by decide +kernel
theorem dJ4_append_15ec4_0 : decode cJ4_append_15ec4 0 = .ok (.aload_n 0, 1) := by decide +kernel
theorem dJ4_append_15ec4_1 : decode cJ4_append_15ec4 1 = .ok (.aload_n 1, 1) := by decide +kernel
theorem dJ4_append_15ec4_2 : decode cJ4_append_15ec4 2 = .ok (.invokespecial 29, 3) := by decide +kernel
theorem dJ4_append_15ec4_5 : decode cJ4_append_15ec4 5 = .ok (.pop, 1) := by decide +kernel
theorem dJ4_append_15ec4_6 : decode cJ4_append_15ec4 6 = .ok (.aload_n 0, 1) := by decide +kernel
theorem dJ4_append_15ec4_7 : decode cJ4_append_15ec4 7 = .ok (.areturn, 1) := by decide +kernel
theorem dJ4_append_bf812_0 : decode cJ4_append_bf812 0 = .ok (.aload_n 0, 1) := by decide +kernel
theorem dJ4_append_bf812_1 : decode cJ4_append_bf812 1 = .ok (.iload_n 1, 1) := by decide +kernel
theorem dJ4_append_bf812_2 : decode cJ4_append_bf812 2 = .ok (.invokespecial 53, 3) := by decide +kernel
theorem dJ4_append_bf812_5 : decode cJ4_append_bf812 5 = .ok (.pop, 1) := by decide +kernel
theorem dJ4_append_bf812_6 : decode cJ4_append_bf812 6 = .ok (.aload_n 0, 1) := by decide +kernel
theorem dJ4_append_bf812_7 : decode cJ4_append_bf812 7 = .ok (.areturn, 1) := by decide +kernel
theorem dJ4_toString_0e30d_0 : decode cJ4_toString_0e30d 0 = .ok (.new 18, 3) := by decide +kernel
theorem dJ4_toString_0e30d_3 : decode cJ4_toString_0e30d 3 = .ok (.dup, 1) := by decide +kernel
theorem dJ4_toString_0e30d_4 : decode cJ4_toString_0e30d 4 = .ok (.aload_n 0, 1) := by decide +kernel
theorem dJ4_toString_0e30d_5 : decode cJ4_toString_0e30d 5 = .ok (.invokespecial 137, 3) := by decide +kernel
theorem dJ4_toString_0e30d_8 : decode cJ4_toString_0e30d 8 = .ok (.areturn, 1) := by decide +kernel
theorem dJ4_length_8abf5_0 : decode cJ4_length_8abf5 0 = .ok (.aload_n 0, 1) := by decide +kernel
theorem dJ4_length_8abf5_1 : decode cJ4_length_8abf5 1 = .ok (.invokespecial 343, 3) := by decide +kernel
theorem dJ4_length_8abf5_4 : decode cJ4_length_8abf5 4 = .ok (.ireturn, 1) := by decide +kernel
theorem dJ1_charAt_3b067_0 : decode cJ1_charAt_3b067 0 = .ok (.iload_n 1, 1) := by decide +kernel
theorem dJ1_charAt_3b067_1 : decode cJ1_charAt_3b067 1 = .ok (.aload_n 0, 1) := by decide +kernel
theorem dJ1_charAt_3b067_2 : decode cJ1_charAt_3b067 2 = .ok (.arraylength, 1) := by decide +kernel
theorem dJ1_charAt_3b067_3 : decode cJ1_charAt_3b067 3 = .ok (.invokestatic 9, 3) := by decide +kernel
theorem dJ1_charAt_3b067_6 : decode cJ1_charAt_3b067 6 = .ok (.aload_n 0, 1) := by decide +kernel
theorem dJ1_charAt_3b067_7 : decode cJ1_charAt_3b067 7 = .ok (.iload_n 1, 1) := by decide +kernel
theorem dJ1_charAt_3b067_8 : decode cJ1_charAt_3b067 8 = .ok (.baload, 1) := by decide +kernel
theorem dJ1_charAt_3b067_9 : decode cJ1_charAt_3b067 9 = .ok (.sipush 255, 3) := by decide +kernel
theorem dJ1_charAt_3b067_12 : decode cJ1_charAt_3b067 12 = .ok (.iand, 1) := by decide +kernel
theorem dJ1_charAt_3b067_13 : decode cJ1_charAt_3b067 13 = .ok (.i2c, 1) := by decide +kernel
theorem dJ1_charAt_3b067_14 : decode cJ1_charAt_3b067 14 = .ok (.ireturn, 1) := by decide +kernel
theorem dJ1_inflate_0e8fd_0 : decode cJ1_inflate_0e8fd 0 = .ok (.aload_n 0, 1) := by decide +kernel
theorem dJ1_inflate_0e8fd_1 : decode cJ1_inflate_0e8fd 1 = .ok (.iload_n 1, 1) := by decide +kernel
theorem dJ1_inflate_0e8fd_2 : decode cJ1_inflate_0e8fd 2 = .ok (.aload_n 2, 1) := by decide +kernel
theorem dJ1_inflate_0e8fd_3 : decode cJ1_inflate_0e8fd 3 = .ok (.iload_n 3, 1) := by decide +kernel
theorem dJ1_inflate_0e8fd_4 : decode cJ1_inflate_0e8fd 4 = .ok (.iload 4, 2) := by decide +kernel
theorem dJ1_inflate_0e8fd_6 : decode cJ1_inflate_0e8fd 6 = .ok (.invokestatic 240, 3) := by decide +kernel
theorem dJ1_inflate_0e8fd_9 : decode cJ1_inflate_0e8fd 9 = .ok (.return_, 1) := by decide +kernel
theorem dJ2_newBytesFor_77867_0 : decode cJ2_newBytesFor_77867 0 = .ok (.iload_n 0, 1) := by decide +kernel
theorem dJ2_newBytesFor_77867_1 : decode cJ2_newBytesFor_77867 1 = .ok (.invokestatic 11, 3) := by decide +kernel
theorem dJ2_newBytesFor_77867_4 : decode cJ2_newBytesFor_77867 4 = .ok (.newarray .byte, 2) := by decide +kernel
theorem dJ2_newBytesFor_77867_6 : decode cJ2_newBytesFor_77867 6 = .ok (.areturn, 1) := by decide +kernel
theorem dJ2_newBytesLength_0f7a4_0 : decode cJ2_newBytesLength_0f7a4 0 = .ok (.iload_n 0, 1) := by decide +kernel
theorem dJ2_newBytesLength_0f7a4_1 : decode cJ2_newBytesLength_0f7a4 1 = .ok (.ifCond .ge 11, 3) := by decide +kernel
theorem dJ2_newBytesLength_0f7a4_4 : decode cJ2_newBytesLength_0f7a4 4 = .ok (.new 17, 3) := by decide +kernel
theorem dJ2_newBytesLength_0f7a4_7 : decode cJ2_newBytesLength_0f7a4 7 = .ok (.dup, 1) := by decide +kernel
theorem dJ2_newBytesLength_0f7a4_8 : decode cJ2_newBytesLength_0f7a4 8 = .ok (.invokespecial 19, 3) := by decide +kernel
theorem dJ2_newBytesLength_0f7a4_11 : decode cJ2_newBytesLength_0f7a4 11 = .ok (.athrow, 1) := by decide +kernel
theorem dJ2_newBytesLength_0f7a4_12 : decode cJ2_newBytesLength_0f7a4 12 = .ok (.iload_n 0, 1) := by decide +kernel
theorem dJ2_newBytesLength_0f7a4_13 : decode cJ2_newBytesLength_0f7a4 13 = .ok (.ldc 20, 2) := by decide +kernel
theorem dJ2_newBytesLength_0f7a4_15 : decode cJ2_newBytesLength_0f7a4 15 = .ok (.if_icmp .lt 40, 3) := by decide +kernel
theorem dJ2_newBytesLength_0f7a4_18 : decode cJ2_newBytesLength_0f7a4 18 = .ok (.new 21, 3) := by decide +kernel
theorem dJ2_newBytesLength_0f7a4_21 : decode cJ2_newBytesLength_0f7a4 21 = .ok (.dup, 1) := by decide +kernel
theorem dJ2_newBytesLength_0f7a4_22 : decode cJ2_newBytesLength_0f7a4 22 = .ok (.new 23, 3) := by decide +kernel
theorem dJ2_newBytesLength_0f7a4_25 : decode cJ2_newBytesLength_0f7a4 25 = .ok (.dup, 1) := by decide +kernel
theorem dJ2_newBytesLength_0f7a4_26 : decode cJ2_newBytesLength_0f7a4 26 = .ok (.invokespecial 25, 3) := by decide +kernel
theorem dJ2_newBytesLength_0f7a4_29 : decode cJ2_newBytesLength_0f7a4 29 = .ok (.ldc 26, 2) := by decide +kernel
theorem dJ2_newBytesLength_0f7a4_31 : decode cJ2_newBytesLength_0f7a4 31 = .ok (.invokevirtual 28, 3) := by decide +kernel
theorem dJ2_newBytesLength_0f7a4_34 : decode cJ2_newBytesLength_0f7a4 34 = .ok (.iload_n 0, 1) := by decide +kernel
theorem dJ2_newBytesLength_0f7a4_35 : decode cJ2_newBytesLength_0f7a4 35 = .ok (.invokevirtual 32, 3) := by decide +kernel
theorem dJ2_newBytesLength_0f7a4_38 : decode cJ2_newBytesLength_0f7a4 38 = .ok (.ldc 35, 2) := by decide +kernel
theorem dJ2_newBytesLength_0f7a4_40 : decode cJ2_newBytesLength_0f7a4 40 = .ok (.invokevirtual 28, 3) := by decide +kernel
theorem dJ2_newBytesLength_0f7a4_43 : decode cJ2_newBytesLength_0f7a4 43 = .ok (.ldc 20, 2) := by decide +kernel
theorem dJ2_newBytesLength_0f7a4_45 : decode cJ2_newBytesLength_0f7a4 45 = .ok (.invokevirtual 32, 3) := by decide +kernel
theorem dJ2_newBytesLength_0f7a4_48 : decode cJ2_newBytesLength_0f7a4 48 = .ok (.invokevirtual 37, 3) := by decide +kernel
theorem dJ2_newBytesLength_0f7a4_51 : decode cJ2_newBytesLength_0f7a4 51 = .ok (.invokespecial 41, 3) := by decide +kernel
theorem dJ2_newBytesLength_0f7a4_54 : decode cJ2_newBytesLength_0f7a4 54 = .ok (.athrow, 1) := by decide +kernel
theorem dJ2_newBytesLength_0f7a4_55 : decode cJ2_newBytesLength_0f7a4 55 = .ok (.iload_n 0, 1) := by decide +kernel
theorem dJ2_newBytesLength_0f7a4_56 : decode cJ2_newBytesLength_0f7a4 56 = .ok (.iconst 1, 1) := by decide +kernel
theorem dJ2_newBytesLength_0f7a4_57 : decode cJ2_newBytesLength_0f7a4 57 = .ok (.ishl, 1) := by decide +kernel
theorem dJ2_newBytesLength_0f7a4_58 : decode cJ2_newBytesLength_0f7a4 58 = .ok (.ireturn, 1) := by decide +kernel
theorem dJ2_putChar_b72d1_0 : decode cJ2_putChar_b72d1 0 = .ok (.getstatic 44, 3) := by decide +kernel
theorem dJ2_putChar_b72d1_3 : decode cJ2_putChar_b72d1 3 = .ok (.ifCond .ne 25, 3) := by decide +kernel
theorem dJ2_putChar_b72d1_6 : decode cJ2_putChar_b72d1 6 = .ok (.iload_n 1, 1) := by decide +kernel
theorem dJ2_putChar_b72d1_7 : decode cJ2_putChar_b72d1 7 = .ok (.ifCond .lt 11, 3) := by decide +kernel
theorem dJ2_putChar_b72d1_10 : decode cJ2_putChar_b72d1 10 = .ok (.iload_n 1, 1) := by decide +kernel
theorem dJ2_putChar_b72d1_11 : decode cJ2_putChar_b72d1 11 = .ok (.aload_n 0, 1) := by decide +kernel
theorem dJ2_putChar_b72d1_12 : decode cJ2_putChar_b72d1 12 = .ok (.invokestatic 48, 3) := by decide +kernel
theorem dJ2_putChar_b72d1_15 : decode cJ2_putChar_b72d1 15 = .ok (.if_icmp .lt 13, 3) := by decide +kernel
theorem dJ2_putChar_b72d1_18 : decode cJ2_putChar_b72d1 18 = .ok (.new 52, 3) := by decide +kernel
theorem dJ2_putChar_b72d1_21 : decode cJ2_putChar_b72d1 21 = .ok (.dup, 1) := by decide +kernel
theorem dJ2_putChar_b72d1_22 : decode cJ2_putChar_b72d1 22 = .ok (.ldc 54, 2) := by decide +kernel
theorem dJ2_putChar_b72d1_24 : decode cJ2_putChar_b72d1 24 = .ok (.invokespecial 56, 3) := by decide +kernel
theorem dJ2_putChar_b72d1_27 : decode cJ2_putChar_b72d1 27 = .ok (.athrow, 1) := by decide +kernel
theorem dJ2_putChar_b72d1_28 : decode cJ2_putChar_b72d1 28 = .ok (.iload_n 1, 1) := by decide +kernel
theorem dJ2_putChar_b72d1_29 : decode cJ2_putChar_b72d1 29 = .ok (.iconst 1, 1) := by decide +kernel
theorem dJ2_putChar_b72d1_30 : decode cJ2_putChar_b72d1 30 = .ok (.ishl, 1) := by decide +kernel
theorem dJ2_putChar_b72d1_31 : decode cJ2_putChar_b72d1 31 = .ok (.istore_n 1, 1) := by decide +kernel
theorem dJ2_putChar_b72d1_32 : decode cJ2_putChar_b72d1 32 = .ok (.aload_n 0, 1) := by decide +kernel
theorem dJ2_putChar_b72d1_33 : decode cJ2_putChar_b72d1 33 = .ok (.iload_n 1, 1) := by decide +kernel
theorem dJ2_putChar_b72d1_34 : decode cJ2_putChar_b72d1 34 = .ok (.iinc 1 1, 3) := by decide +kernel
theorem dJ2_putChar_b72d1_37 : decode cJ2_putChar_b72d1 37 = .ok (.iload_n 2, 1) := by decide +kernel
theorem dJ2_putChar_b72d1_38 : decode cJ2_putChar_b72d1 38 = .ok (.getstatic 59, 3) := by decide +kernel
theorem dJ2_putChar_b72d1_41 : decode cJ2_putChar_b72d1 41 = .ok (.ishr, 1) := by decide +kernel
theorem dJ2_putChar_b72d1_42 : decode cJ2_putChar_b72d1 42 = .ok (.i2b, 1) := by decide +kernel
theorem dJ2_putChar_b72d1_43 : decode cJ2_putChar_b72d1 43 = .ok (.bastore, 1) := by decide +kernel
theorem dJ2_putChar_b72d1_44 : decode cJ2_putChar_b72d1 44 = .ok (.aload_n 0, 1) := by decide +kernel
theorem dJ2_putChar_b72d1_45 : decode cJ2_putChar_b72d1 45 = .ok (.iload_n 1, 1) := by decide +kernel
theorem dJ2_putChar_b72d1_46 : decode cJ2_putChar_b72d1 46 = .ok (.iload_n 2, 1) := by decide +kernel
theorem dJ2_putChar_b72d1_47 : decode cJ2_putChar_b72d1 47 = .ok (.getstatic 63, 3) := by decide +kernel
theorem dJ2_putChar_b72d1_50 : decode cJ2_putChar_b72d1 50 = .ok (.ishr, 1) := by decide +kernel
theorem dJ2_putChar_b72d1_51 : decode cJ2_putChar_b72d1 51 = .ok (.i2b, 1) := by decide +kernel
theorem dJ2_putChar_b72d1_52 : decode cJ2_putChar_b72d1 52 = .ok (.bastore, 1) := by decide +kernel
theorem dJ2_putChar_b72d1_53 : decode cJ2_putChar_b72d1 53 = .ok (.return_, 1) := by decide +kernel
theorem dJ2_getChar_3b067_0 : decode cJ2_getChar_3b067 0 = .ok (.getstatic 44, 3) := by decide +kernel
theorem dJ2_getChar_3b067_3 : decode cJ2_getChar_3b067 3 = .ok (.ifCond .ne 25, 3) := by decide +kernel
theorem dJ2_getChar_3b067_6 : decode cJ2_getChar_3b067 6 = .ok (.iload_n 1, 1) := by decide +kernel
theorem dJ2_getChar_3b067_7 : decode cJ2_getChar_3b067 7 = .ok (.ifCond .lt 11, 3) := by decide +kernel
theorem dJ2_getChar_3b067_10 : decode cJ2_getChar_3b067 10 = .ok (.iload_n 1, 1) := by decide +kernel
theorem dJ2_getChar_3b067_11 : decode cJ2_getChar_3b067 11 = .ok (.aload_n 0, 1) := by decide +kernel
theorem dJ2_getChar_3b067_12 : decode cJ2_getChar_3b067 12 = .ok (.invokestatic 48, 3) := by decide +kernel
theorem dJ2_getChar_3b067_15 : decode cJ2_getChar_3b067 15 = .ok (.if_icmp .lt 13, 3) := by decide +kernel
theorem dJ2_getChar_3b067_18 : decode cJ2_getChar_3b067 18 = .ok (.new 52, 3) := by decide +kernel
theorem dJ2_getChar_3b067_21 : decode cJ2_getChar_3b067 21 = .ok (.dup, 1) := by decide +kernel
theorem dJ2_getChar_3b067_22 : decode cJ2_getChar_3b067 22 = .ok (.ldc 54, 2) := by decide +kernel
theorem dJ2_getChar_3b067_24 : decode cJ2_getChar_3b067 24 = .ok (.invokespecial 56, 3) := by decide +kernel
theorem dJ2_getChar_3b067_27 : decode cJ2_getChar_3b067 27 = .ok (.athrow, 1) := by decide +kernel
theorem dJ2_getChar_3b067_28 : decode cJ2_getChar_3b067 28 = .ok (.iload_n 1, 1) := by decide +kernel
theorem dJ2_getChar_3b067_29 : decode cJ2_getChar_3b067 29 = .ok (.iconst 1, 1) := by decide +kernel
theorem dJ2_getChar_3b067_30 : decode cJ2_getChar_3b067 30 = .ok (.ishl, 1) := by decide +kernel
theorem dJ2_getChar_3b067_31 : decode cJ2_getChar_3b067 31 = .ok (.istore_n 1, 1) := by decide +kernel
theorem dJ2_getChar_3b067_32 : decode cJ2_getChar_3b067 32 = .ok (.aload_n 0, 1) := by decide +kernel
theorem dJ2_getChar_3b067_33 : decode cJ2_getChar_3b067 33 = .ok (.iload_n 1, 1) := by decide +kernel
theorem dJ2_getChar_3b067_34 : decode cJ2_getChar_3b067 34 = .ok (.iinc 1 1, 3) := by decide +kernel
theorem dJ2_getChar_3b067_37 : decode cJ2_getChar_3b067 37 = .ok (.baload, 1) := by decide +kernel
theorem dJ2_getChar_3b067_38 : decode cJ2_getChar_3b067 38 = .ok (.sipush 255, 3) := by decide +kernel
theorem dJ2_getChar_3b067_41 : decode cJ2_getChar_3b067 41 = .ok (.iand, 1) := by decide +kernel
theorem dJ2_getChar_3b067_42 : decode cJ2_getChar_3b067 42 = .ok (.getstatic 59, 3) := by decide +kernel
theorem dJ2_getChar_3b067_45 : decode cJ2_getChar_3b067 45 = .ok (.ishl, 1) := by decide +kernel
theorem dJ2_getChar_3b067_46 : decode cJ2_getChar_3b067 46 = .ok (.aload_n 0, 1) := by decide +kernel
theorem dJ2_getChar_3b067_47 : decode cJ2_getChar_3b067 47 = .ok (.iload_n 1, 1) := by decide +kernel
theorem dJ2_getChar_3b067_48 : decode cJ2_getChar_3b067 48 = .ok (.baload, 1) := by decide +kernel
theorem dJ2_getChar_3b067_49 : decode cJ2_getChar_3b067 49 = .ok (.sipush 255, 3) := by decide +kernel
theorem dJ2_getChar_3b067_52 : decode cJ2_getChar_3b067 52 = .ok (.iand, 1) := by decide +kernel
theorem dJ2_getChar_3b067_53 : decode cJ2_getChar_3b067 53 = .ok (.getstatic 63, 3) := by decide +kernel
theorem dJ2_getChar_3b067_56 : decode cJ2_getChar_3b067 56 = .ok (.ishl, 1) := by decide +kernel
theorem dJ2_getChar_3b067_57 : decode cJ2_getChar_3b067 57 = .ok (.ior, 1) := by decide +kernel
theorem dJ2_getChar_3b067_58 : decode cJ2_getChar_3b067 58 = .ok (.i2c, 1) := by decide +kernel
theorem dJ2_getChar_3b067_59 : decode cJ2_getChar_3b067 59 = .ok (.ireturn, 1) := by decide +kernel
theorem dJ2_length_9d52b_0 : decode cJ2_length_9d52b 0 = .ok (.aload_n 0, 1) := by decide +kernel
theorem dJ2_length_9d52b_1 : decode cJ2_length_9d52b 1 = .ok (.arraylength, 1) := by decide +kernel
theorem dJ2_length_9d52b_2 : decode cJ2_length_9d52b 2 = .ok (.iconst 1, 1) := by decide +kernel
theorem dJ2_length_9d52b_3 : decode cJ2_length_9d52b 3 = .ok (.ishr, 1) := by decide +kernel
theorem dJ2_length_9d52b_4 : decode cJ2_length_9d52b 4 = .ok (.ireturn, 1) := by decide +kernel
theorem dJ2_coderFromArrayLen_85cad_0 : decode cJ2_coderFromArrayLen_85cad 0 = .ok (.iload_n 1, 1) := by decide +kernel
theorem dJ2_coderFromArrayLen_85cad_1 : decode cJ2_coderFromArrayLen_85cad 1 = .ok (.aload_n 0, 1) := by decide +kernel
theorem dJ2_coderFromArrayLen_85cad_2 : decode cJ2_coderFromArrayLen_85cad 2 = .ok (.arraylength, 1) := by decide +kernel
theorem dJ2_coderFromArrayLen_85cad_3 : decode cJ2_coderFromArrayLen_85cad 3 = .ok (.isub, 1) := by decide +kernel
theorem dJ2_coderFromArrayLen_85cad_4 : decode cJ2_coderFromArrayLen_85cad 4 = .ok (.bipush 31, 2) := by decide +kernel
theorem dJ2_coderFromArrayLen_85cad_6 : decode cJ2_coderFromArrayLen_85cad 6 = .ok (.iushr, 1) := by decide +kernel
theorem dJ2_coderFromArrayLen_85cad_7 : decode cJ2_coderFromArrayLen_85cad 7 = .ok (.i2b, 1) := by decide +kernel
theorem dJ2_coderFromArrayLen_85cad_8 : decode cJ2_coderFromArrayLen_85cad 8 = .ok (.ireturn, 1) := by decide +kernel
theorem dJ2_compress_39247_0 : decode cJ2_compress_39247 0 = .ok (.iload_n 2, 1) := by decide +kernel
theorem dJ2_compress_39247_1 : decode cJ2_compress_39247 1 = .ok (.newarray .byte, 2) := by decide +kernel
theorem dJ2_compress_39247_3 : decode cJ2_compress_39247 3 = .ok (.astore_n 3, 1) := by decide +kernel
theorem dJ2_compress_39247_4 : decode cJ2_compress_39247 4 = .ok (.aload_n 0, 1) := by decide +kernel
theorem dJ2_compress_39247_5 : decode cJ2_compress_39247 5 = .ok (.iload_n 1, 1) := by decide +kernel
theorem dJ2_compress_39247_6 : decode cJ2_compress_39247 6 = .ok (.aload_n 3, 1) := by decide +kernel
theorem dJ2_compress_39247_7 : decode cJ2_compress_39247 7 = .ok (.iconst 0, 1) := by decide +kernel
theorem dJ2_compress_39247_8 : decode cJ2_compress_39247 8 = .ok (.iload_n 2, 1) := by decide +kernel
theorem dJ2_compress_39247_9 : decode cJ2_compress_39247 9 = .ok (.invokestatic 123, 3) := by decide +kernel
theorem dJ2_compress_39247_12 : decode cJ2_compress_39247 12 = .ok (.istore 4, 2) := by decide +kernel
theorem dJ2_compress_39247_14 : decode cJ2_compress_39247 14 = .ok (.iload 4, 2) := by decide +kernel
theorem dJ2_compress_39247_16 : decode cJ2_compress_39247 16 = .ok (.iload_n 2, 1) := by decide +kernel
theorem dJ2_compress_39247_17 : decode cJ2_compress_39247 17 = .ok (.if_icmp .eq 47, 3) := by decide +kernel
theorem dJ2_compress_39247_20 : decode cJ2_compress_39247 20 = .ok (.aload_n 0, 1) := by decide +kernel
theorem dJ2_compress_39247_21 : decode cJ2_compress_39247 21 = .ok (.iload_n 1, 1) := by decide +kernel
theorem dJ2_compress_39247_22 : decode cJ2_compress_39247 22 = .ok (.iconst 1, 1) := by decide +kernel
theorem dJ2_compress_39247_23 : decode cJ2_compress_39247 23 = .ok (.ishl, 1) := by decide +kernel
theorem dJ2_compress_39247_24 : decode cJ2_compress_39247 24 = .ok (.iload_n 1, 1) := by decide +kernel
theorem dJ2_compress_39247_25 : decode cJ2_compress_39247 25 = .ok (.iload_n 2, 1) := by decide +kernel
theorem dJ2_compress_39247_26 : decode cJ2_compress_39247 26 = .ok (.iadd, 1) := by decide +kernel
theorem dJ2_compress_39247_27 : decode cJ2_compress_39247 27 = .ok (.invokestatic 11, 3) := by decide +kernel
theorem dJ2_compress_39247_30 : decode cJ2_compress_39247 30 = .ok (.invokestatic 126, 3) := by decide +kernel
theorem dJ2_compress_39247_33 : decode cJ2_compress_39247 33 = .ok (.astore 5, 2) := by decide +kernel
theorem dJ2_compress_39247_35 : decode cJ2_compress_39247 35 = .ok (.aload 5, 2) := by decide +kernel
theorem dJ2_compress_39247_37 : decode cJ2_compress_39247 37 = .ok (.iload 4, 2) := by decide +kernel
theorem dJ2_compress_39247_39 : decode cJ2_compress_39247 39 = .ok (.invokestatic 71, 3) := by decide +kernel
theorem dJ2_compress_39247_42 : decode cJ2_compress_39247 42 = .ok (.sipush 255, 3) := by decide +kernel
theorem dJ2_compress_39247_45 : decode cJ2_compress_39247 45 = .ok (.if_icmp .gt 16, 3) := by decide +kernel
theorem dJ2_compress_39247_48 : decode cJ2_compress_39247 48 = .ok (.aload 5, 2) := by decide +kernel
theorem dJ2_compress_39247_50 : decode cJ2_compress_39247 50 = .ok (.iconst 0, 1) := by decide +kernel
theorem dJ2_compress_39247_51 : decode cJ2_compress_39247 51 = .ok (.aload_n 3, 1) := by decide +kernel
theorem dJ2_compress_39247_52 : decode cJ2_compress_39247 52 = .ok (.iconst 0, 1) := by decide +kernel
theorem dJ2_compress_39247_53 : decode cJ2_compress_39247 53 = .ok (.iload_n 2, 1) := by decide +kernel
theorem dJ2_compress_39247_54 : decode cJ2_compress_39247 54 = .ok (.invokestatic 123, 3) := by decide +kernel
theorem dJ2_compress_39247_57 : decode cJ2_compress_39247 57 = .ok (.iload_n 2, 1) := by decide +kernel
theorem dJ2_compress_39247_58 : decode cJ2_compress_39247 58 = .ok (.if_icmp .eq 6, 3) := by decide +kernel
theorem dJ2_compress_39247_61 : decode cJ2_compress_39247 61 = .ok (.aload 5, 2) := by decide +kernel
theorem dJ2_compress_39247_63 : decode cJ2_compress_39247 63 = .ok (.areturn, 1) := by decide +kernel
theorem dJ2_compress_39247_64 : decode cJ2_compress_39247 64 = .ok (.aload_n 3, 1) := by decide +kernel
theorem dJ2_compress_39247_65 : decode cJ2_compress_39247 65 = .ok (.areturn, 1) := by decide +kernel
theorem dJ2_compress_5af95_0 : decode cJ2_compress_5af95 0 = .ok (.iload_n 1, 1) := by decide +kernel
theorem dJ2_compress_5af95_1 : decode cJ2_compress_5af95 1 = .ok (.iload 4, 2) := by decide +kernel
theorem dJ2_compress_5af95_3 : decode cJ2_compress_5af95 3 = .ok (.aload_n 0, 1) := by decide +kernel
theorem dJ2_compress_5af95_4 : decode cJ2_compress_5af95 4 = .ok (.invokestatic 173, 3) := by decide +kernel
theorem dJ2_compress_5af95_7 : decode cJ2_compress_5af95 7 = .ok (.iconst 0, 1) := by decide +kernel
theorem dJ2_compress_5af95_8 : decode cJ2_compress_5af95 8 = .ok (.istore 5, 2) := by decide +kernel
theorem dJ2_compress_5af95_10 : decode cJ2_compress_5af95 10 = .ok (.iload 5, 2) := by decide +kernel
theorem dJ2_compress_5af95_12 : decode cJ2_compress_5af95 12 = .ok (.iload 4, 2) := by decide +kernel
theorem dJ2_compress_5af95_14 : decode cJ2_compress_5af95 14 = .ok (.if_icmp .ge 39, 3) := by decide +kernel
theorem dJ2_compress_5af95_17 : decode cJ2_compress_5af95 17 = .ok (.aload_n 0, 1) := by decide +kernel
theorem dJ2_compress_5af95_18 : decode cJ2_compress_5af95 18 = .ok (.iload_n 1, 1) := by decide +kernel
theorem dJ2_compress_5af95_19 : decode cJ2_compress_5af95 19 = .ok (.invokestatic 71, 3) := by decide +kernel
theorem dJ2_compress_5af95_22 : decode cJ2_compress_5af95 22 = .ok (.istore 6, 2) := by decide +kernel
theorem dJ2_compress_5af95_24 : decode cJ2_compress_5af95 24 = .ok (.iload 6, 2) := by decide +kernel
theorem dJ2_compress_5af95_26 : decode cJ2_compress_5af95 26 = .ok (.sipush 255, 3) := by decide +kernel
theorem dJ2_compress_5af95_29 : decode cJ2_compress_5af95 29 = .ok (.if_icmp .le 6, 3) := by decide +kernel
theorem dJ2_compress_5af95_32 : decode cJ2_compress_5af95 32 = .ok (.iload 5, 2) := by decide +kernel
theorem dJ2_compress_5af95_34 : decode cJ2_compress_5af95 34 = .ok (.ireturn, 1) := by decide +kernel
theorem dJ2_compress_5af95_35 : decode cJ2_compress_5af95 35 = .ok (.aload_n 2, 1) := by decide +kernel
theorem dJ2_compress_5af95_36 : decode cJ2_compress_5af95 36 = .ok (.iload_n 3, 1) := by decide +kernel
theorem dJ2_compress_5af95_37 : decode cJ2_compress_5af95 37 = .ok (.iload 6, 2) := by decide +kernel
theorem dJ2_compress_5af95_39 : decode cJ2_compress_5af95 39 = .ok (.i2b, 1) := by decide +kernel
theorem dJ2_compress_5af95_40 : decode cJ2_compress_5af95 40 = .ok (.bastore, 1) := by decide +kernel
theorem dJ2_compress_5af95_41 : decode cJ2_compress_5af95 41 = .ok (.iinc 1 1, 3) := by decide +kernel
theorem dJ2_compress_5af95_44 : decode cJ2_compress_5af95 44 = .ok (.iinc 3 1, 3) := by decide +kernel
theorem dJ2_compress_5af95_47 : decode cJ2_compress_5af95 47 = .ok (.iinc 5 1, 3) := by decide +kernel
theorem dJ2_compress_5af95_50 : decode cJ2_compress_5af95 50 = .ok (.goto (-40), 3) := by decide +kernel
theorem dJ2_compress_5af95_53 : decode cJ2_compress_5af95 53 = .ok (.iload 4, 2) := by decide +kernel
theorem dJ2_compress_5af95_55 : decode cJ2_compress_5af95 55 = .ok (.ireturn, 1) := by decide +kernel
theorem dJ2_getChars_46870_0 : decode cJ2_getChars_46870 0 = .ok (.iload_n 1, 1) := by decide +kernel
theorem dJ2_getChars_46870_1 : decode cJ2_getChars_46870 1 = .ok (.iload_n 2, 1) := by decide +kernel
theorem dJ2_getChars_46870_2 : decode cJ2_getChars_46870 2 = .ok (.aload_n 3, 1) := by decide +kernel
theorem dJ2_getChars_46870_3 : decode cJ2_getChars_46870 3 = .ok (.invokestatic 96, 3) := by decide +kernel
theorem dJ2_getChars_46870_6 : decode cJ2_getChars_46870 6 = .ok (.iload_n 0, 1) := by decide +kernel
theorem dJ2_getChars_46870_7 : decode cJ2_getChars_46870 7 = .ok (.iload_n 2, 1) := by decide +kernel
theorem dJ2_getChars_46870_8 : decode cJ2_getChars_46870 8 = .ok (.aload_n 3, 1) := by decide +kernel
theorem dJ2_getChars_46870_9 : decode cJ2_getChars_46870 9 = .ok (.invokestatic 393, 3) := by decide +kernel
theorem dJ2_getChars_46870_12 : decode cJ2_getChars_46870 12 = .ok (.istore 4, 2) := by decide +kernel
theorem dJ2_getChars_46870_14 : decode cJ2_getChars_46870 14 = .ok (.getstatic 44, 3) := by decide +kernel
theorem dJ2_getChars_46870_17 : decode cJ2_getChars_46870 17 = .ok (.ifCond .ne 17, 3) := by decide +kernel
theorem dJ2_getChars_46870_20 : decode cJ2_getChars_46870 20 = .ok (.iload_n 1, 1) := by decide +kernel
theorem dJ2_getChars_46870_21 : decode cJ2_getChars_46870 21 = .ok (.iload 4, 2) := by decide +kernel
theorem dJ2_getChars_46870_23 : decode cJ2_getChars_46870 23 = .ok (.if_icmp .eq 11, 3) := by decide +kernel
theorem dJ2_getChars_46870_26 : decode cJ2_getChars_46870 26 = .ok (.new 52, 3) := by decide +kernel
theorem dJ2_getChars_46870_29 : decode cJ2_getChars_46870 29 = .ok (.dup, 1) := by decide +kernel
theorem dJ2_getChars_46870_30 : decode cJ2_getChars_46870 30 = .ok (.invokespecial 66, 3) := by decide +kernel
theorem dJ2_getChars_46870_33 : decode cJ2_getChars_46870 33 = .ok (.athrow, 1) := by decide +kernel
theorem dJ2_getChars_46870_34 : decode cJ2_getChars_46870 34 = .ok (.iload 4, 2) := by decide +kernel
theorem dJ2_getChars_46870_36 : decode cJ2_getChars_46870 36 = .ok (.ireturn, 1) := by decide +kernel
theorem dJ2_putCharsAt_cd4e5_0 : decode cJ2_putCharsAt_cd4e5 0 = .ok (.iload_n 1, 1) := by decide +kernel
theorem dJ2_putCharsAt_cd4e5_1 : decode cJ2_putCharsAt_cd4e5 1 = .ok (.iconst 4, 1) := by decide +kernel
theorem dJ2_putCharsAt_cd4e5_2 : decode cJ2_putCharsAt_cd4e5 2 = .ok (.iadd, 1) := by decide +kernel
theorem dJ2_putCharsAt_cd4e5_3 : decode cJ2_putCharsAt_cd4e5 3 = .ok (.istore 6, 2) := by decide +kernel
theorem dJ2_putCharsAt_cd4e5_5 : decode cJ2_putCharsAt_cd4e5 5 = .ok (.iload_n 1, 1) := by decide +kernel
theorem dJ2_putCharsAt_cd4e5_6 : decode cJ2_putCharsAt_cd4e5 6 = .ok (.iload 6, 2) := by decide +kernel
theorem dJ2_putCharsAt_cd4e5_8 : decode cJ2_putCharsAt_cd4e5 8 = .ok (.aload_n 0, 1) := by decide +kernel
theorem dJ2_putCharsAt_cd4e5_9 : decode cJ2_putCharsAt_cd4e5 9 = .ok (.invokestatic 96, 3) := by decide +kernel
theorem dJ2_putCharsAt_cd4e5_12 : decode cJ2_putCharsAt_cd4e5 12 = .ok (.aload_n 0, 1) := by decide +kernel
theorem dJ2_putCharsAt_cd4e5_13 : decode cJ2_putCharsAt_cd4e5 13 = .ok (.iload_n 1, 1) := by decide +kernel
theorem dJ2_putCharsAt_cd4e5_14 : decode cJ2_putCharsAt_cd4e5 14 = .ok (.iinc 1 1, 3) := by decide +kernel
theorem dJ2_putCharsAt_cd4e5_17 : decode cJ2_putCharsAt_cd4e5 17 = .ok (.iload_n 2, 1) := by decide +kernel
theorem dJ2_putCharsAt_cd4e5_18 : decode cJ2_putCharsAt_cd4e5 18 = .ok (.invokestatic 111, 3) := by decide +kernel
theorem dJ2_putCharsAt_cd4e5_21 : decode cJ2_putCharsAt_cd4e5 21 = .ok (.aload_n 0, 1) := by decide +kernel
theorem dJ2_putCharsAt_cd4e5_22 : decode cJ2_putCharsAt_cd4e5 22 = .ok (.iload_n 1, 1) := by decide +kernel
theorem dJ2_putCharsAt_cd4e5_23 : decode cJ2_putCharsAt_cd4e5 23 = .ok (.iinc 1 1, 3) := by decide +kernel
theorem dJ2_putCharsAt_cd4e5_26 : decode cJ2_putCharsAt_cd4e5 26 = .ok (.iload_n 3, 1) := by decide +kernel
theorem dJ2_putCharsAt_cd4e5_27 : decode cJ2_putCharsAt_cd4e5 27 = .ok (.invokestatic 111, 3) := by decide +kernel
theorem dJ2_putCharsAt_cd4e5_30 : decode cJ2_putCharsAt_cd4e5 30 = .ok (.aload_n 0, 1) := by decide +kernel
theorem dJ2_putCharsAt_cd4e5_31 : decode cJ2_putCharsAt_cd4e5 31 = .ok (.iload_n 1, 1) := by decide +kernel
theorem dJ2_putCharsAt_cd4e5_32 : decode cJ2_putCharsAt_cd4e5 32 = .ok (.iinc 1 1, 3) := by decide +kernel
theorem dJ2_putCharsAt_cd4e5_35 : decode cJ2_putCharsAt_cd4e5 35 = .ok (.iload 4, 2) := by decide +kernel
theorem dJ2_putCharsAt_cd4e5_37 : decode cJ2_putCharsAt_cd4e5 37 = .ok (.invokestatic 111, 3) := by decide +kernel
theorem dJ2_putCharsAt_cd4e5_40 : decode cJ2_putCharsAt_cd4e5 40 = .ok (.aload_n 0, 1) := by decide +kernel
theorem dJ2_putCharsAt_cd4e5_41 : decode cJ2_putCharsAt_cd4e5 41 = .ok (.iload_n 1, 1) := by decide +kernel
theorem dJ2_putCharsAt_cd4e5_42 : decode cJ2_putCharsAt_cd4e5 42 = .ok (.iinc 1 1, 3) := by decide +kernel
theorem dJ2_putCharsAt_cd4e5_45 : decode cJ2_putCharsAt_cd4e5 45 = .ok (.iload 5, 2) := by decide +kernel
theorem dJ2_putCharsAt_cd4e5_47 : decode cJ2_putCharsAt_cd4e5 47 = .ok (.invokestatic 111, 3) := by decide +kernel
theorem dJ2_putCharsAt_cd4e5_50 : decode cJ2_putCharsAt_cd4e5 50 = .ok (.getstatic 44, 3) := by decide +kernel
theorem dJ2_putCharsAt_cd4e5_53 : decode cJ2_putCharsAt_cd4e5 53 = .ok (.ifCond .ne 17, 3) := by decide +kernel
theorem dJ2_putCharsAt_cd4e5_56 : decode cJ2_putCharsAt_cd4e5 56 = .ok (.iload_n 1, 1) := by decide +kernel
theorem dJ2_putCharsAt_cd4e5_57 : decode cJ2_putCharsAt_cd4e5 57 = .ok (.iload 6, 2) := by decide +kernel
theorem dJ2_putCharsAt_cd4e5_59 : decode cJ2_putCharsAt_cd4e5 59 = .ok (.if_icmp .eq 11, 3) := by decide +kernel
theorem dJ2_putCharsAt_cd4e5_62 : decode cJ2_putCharsAt_cd4e5 62 = .ok (.new 52, 3) := by decide +kernel
theorem dJ2_putCharsAt_cd4e5_65 : decode cJ2_putCharsAt_cd4e5 65 = .ok (.dup, 1) := by decide +kernel
theorem dJ2_putCharsAt_cd4e5_66 : decode cJ2_putCharsAt_cd4e5 66 = .ok (.invokespecial 66, 3) := by decide +kernel
theorem dJ2_putCharsAt_cd4e5_69 : decode cJ2_putCharsAt_cd4e5 69 = .ok (.athrow, 1) := by decide +kernel
theorem dJ2_putCharsAt_cd4e5_70 : decode cJ2_putCharsAt_cd4e5 70 = .ok (.iload 6, 2) := by decide +kernel
theorem dJ2_putCharsAt_cd4e5_72 : decode cJ2_putCharsAt_cd4e5 72 = .ok (.ireturn, 1) := by decide +kernel
theorem dJ2_charAt_3b067_0 : decode cJ2_charAt_3b067 0 = .ok (.iload_n 1, 1) := by decide +kernel
theorem dJ2_charAt_3b067_1 : decode cJ2_charAt_3b067 1 = .ok (.aload_n 0, 1) := by decide +kernel
theorem dJ2_charAt_3b067_2 : decode cJ2_charAt_3b067 2 = .ok (.invokestatic 67, 3) := by decide +kernel
theorem dJ2_charAt_3b067_5 : decode cJ2_charAt_3b067 5 = .ok (.aload_n 0, 1) := by decide +kernel
theorem dJ2_charAt_3b067_6 : decode cJ2_charAt_3b067 6 = .ok (.iload_n 1, 1) := by decide +kernel
theorem dJ2_charAt_3b067_7 : decode cJ2_charAt_3b067 7 = .ok (.invokestatic 71, 3) := by decide +kernel
theorem dJ2_charAt_3b067_10 : decode cJ2_charAt_3b067 10 = .ok (.ireturn, 1) := by decide +kernel
theorem dJ2_inflate_0e8fd_0 : decode cJ2_inflate_0e8fd 0 = .ok (.iload_n 3, 1) := by decide +kernel
theorem dJ2_inflate_0e8fd_1 : decode cJ2_inflate_0e8fd 1 = .ok (.iload 4, 2) := by decide +kernel
theorem dJ2_inflate_0e8fd_3 : decode cJ2_inflate_0e8fd 3 = .ok (.aload_n 2, 1) := by decide +kernel
theorem dJ2_inflate_0e8fd_4 : decode cJ2_inflate_0e8fd 4 = .ok (.invokestatic 173, 3) := by decide +kernel
theorem dJ2_inflate_0e8fd_7 : decode cJ2_inflate_0e8fd 7 = .ok (.iconst 0, 1) := by decide +kernel
theorem dJ2_inflate_0e8fd_8 : decode cJ2_inflate_0e8fd 8 = .ok (.istore 5, 2) := by decide +kernel
theorem dJ2_inflate_0e8fd_10 : decode cJ2_inflate_0e8fd 10 = .ok (.iload 5, 2) := by decide +kernel
theorem dJ2_inflate_0e8fd_12 : decode cJ2_inflate_0e8fd 12 = .ok (.iload 4, 2) := by decide +kernel
theorem dJ2_inflate_0e8fd_14 : decode cJ2_inflate_0e8fd 14 = .ok (.if_icmp .ge 27, 3) := by decide +kernel
theorem dJ2_inflate_0e8fd_17 : decode cJ2_inflate_0e8fd 17 = .ok (.aload_n 2, 1) := by decide +kernel
theorem dJ2_inflate_0e8fd_18 : decode cJ2_inflate_0e8fd 18 = .ok (.iload_n 3, 1) := by decide +kernel
theorem dJ2_inflate_0e8fd_19 : decode cJ2_inflate_0e8fd 19 = .ok (.iinc 3 1, 3) := by decide +kernel
theorem dJ2_inflate_0e8fd_22 : decode cJ2_inflate_0e8fd 22 = .ok (.aload_n 0, 1) := by decide +kernel
theorem dJ2_inflate_0e8fd_23 : decode cJ2_inflate_0e8fd 23 = .ok (.iload_n 1, 1) := by decide +kernel
theorem dJ2_inflate_0e8fd_24 : decode cJ2_inflate_0e8fd 24 = .ok (.iinc 1 1, 3) := by decide +kernel
theorem dJ2_inflate_0e8fd_27 : decode cJ2_inflate_0e8fd 27 = .ok (.baload, 1) := by decide +kernel
theorem dJ2_inflate_0e8fd_28 : decode cJ2_inflate_0e8fd 28 = .ok (.sipush 255, 3) := by decide +kernel
theorem dJ2_inflate_0e8fd_31 : decode cJ2_inflate_0e8fd 31 = .ok (.iand, 1) := by decide +kernel
theorem dJ2_inflate_0e8fd_32 : decode cJ2_inflate_0e8fd 32 = .ok (.invokestatic 111, 3) := by decide +kernel
theorem dJ2_inflate_0e8fd_35 : decode cJ2_inflate_0e8fd 35 = .ok (.iinc 5 1, 3) := by decide +kernel
theorem dJ2_inflate_0e8fd_38 : decode cJ2_inflate_0e8fd 38 = .ok (.goto (-28), 3) := by decide +kernel
theorem dJ2_inflate_0e8fd_41 : decode cJ2_inflate_0e8fd 41 = .ok (.return_, 1) := by decide +kernel
theorem dJ2_getChars_ba4f3_0 : decode cJ2_getChars_ba4f3 0 = .ok (.iload_n 1, 1) := by decide +kernel
theorem dJ2_getChars_ba4f3_1 : decode cJ2_getChars_ba4f3 1 = .ok (.istore 5, 2) := by decide +kernel
theorem dJ2_getChars_ba4f3_3 : decode cJ2_getChars_ba4f3 3 = .ok (.iload_n 0, 1) := by decide +kernel
theorem dJ2_getChars_ba4f3_4 : decode cJ2_getChars_ba4f3 4 = .ok (.ifCond .ge 7, 3) := by decide +kernel
theorem dJ2_getChars_ba4f3_7 : decode cJ2_getChars_ba4f3 7 = .ok (.iconst 1, 1) := by decide +kernel
theorem dJ2_getChars_ba4f3_8 : decode cJ2_getChars_ba4f3 8 = .ok (.goto 4, 3) := by decide +kernel
theorem dJ2_getChars_ba4f3_11 : decode cJ2_getChars_ba4f3 11 = .ok (.iconst 0, 1) := by decide +kernel
theorem dJ2_getChars_ba4f3_12 : decode cJ2_getChars_ba4f3 12 = .ok (.istore 6, 2) := by decide +kernel
theorem dJ2_getChars_ba4f3_14 : decode cJ2_getChars_ba4f3 14 = .ok (.iload 6, 2) := by decide +kernel
theorem dJ2_getChars_ba4f3_16 : decode cJ2_getChars_ba4f3 16 = .ok (.ifCond .ne 6, 3) := by decide +kernel
theorem dJ2_getChars_ba4f3_19 : decode cJ2_getChars_ba4f3 19 = .ok (.iload_n 0, 1) := by decide +kernel
theorem dJ2_getChars_ba4f3_20 : decode cJ2_getChars_ba4f3 20 = .ok (.ineg, 1) := by decide +kernel
theorem dJ2_getChars_ba4f3_21 : decode cJ2_getChars_ba4f3 21 = .ok (.istore_n 0, 1) := by decide +kernel
theorem dJ2_getChars_ba4f3_22 : decode cJ2_getChars_ba4f3 22 = .ok (.iload_n 0, 1) := by decide +kernel
theorem dJ2_getChars_ba4f3_23 : decode cJ2_getChars_ba4f3 23 = .ok (.bipush (-100), 2) := by decide +kernel
theorem dJ2_getChars_ba4f3_25 : decode cJ2_getChars_ba4f3 25 = .ok (.if_icmp .gt 51, 3) := by decide +kernel
theorem dJ2_getChars_ba4f3_28 : decode cJ2_getChars_ba4f3 28 = .ok (.iload_n 0, 1) := by decide +kernel
theorem dJ2_getChars_ba4f3_29 : decode cJ2_getChars_ba4f3 29 = .ok (.bipush 100, 2) := by decide +kernel
theorem dJ2_getChars_ba4f3_31 : decode cJ2_getChars_ba4f3 31 = .ok (.idiv, 1) := by decide +kernel
theorem dJ2_getChars_ba4f3_32 : decode cJ2_getChars_ba4f3 32 = .ok (.istore_n 3, 1) := by decide +kernel
theorem dJ2_getChars_ba4f3_33 : decode cJ2_getChars_ba4f3 33 = .ok (.iload_n 3, 1) := by decide +kernel
theorem dJ2_getChars_ba4f3_34 : decode cJ2_getChars_ba4f3 34 = .ok (.bipush 100, 2) := by decide +kernel
theorem dJ2_getChars_ba4f3_36 : decode cJ2_getChars_ba4f3 36 = .ok (.imul, 1) := by decide +kernel
theorem dJ2_getChars_ba4f3_37 : decode cJ2_getChars_ba4f3 37 = .ok (.iload_n 0, 1) := by decide +kernel
theorem dJ2_getChars_ba4f3_38 : decode cJ2_getChars_ba4f3 38 = .ok (.isub, 1) := by decide +kernel
theorem dJ2_getChars_ba4f3_39 : decode cJ2_getChars_ba4f3 39 = .ok (.istore 4, 2) := by decide +kernel
theorem dJ2_getChars_ba4f3_41 : decode cJ2_getChars_ba4f3 41 = .ok (.iload_n 3, 1) := by decide +kernel
theorem dJ2_getChars_ba4f3_42 : decode cJ2_getChars_ba4f3 42 = .ok (.istore_n 0, 1) := by decide +kernel
theorem dJ2_getChars_ba4f3_43 : decode cJ2_getChars_ba4f3 43 = .ok (.aload_n 2, 1) := by decide +kernel
theorem dJ2_getChars_ba4f3_44 : decode cJ2_getChars_ba4f3 44 = .ok (.iinc 5 (-1), 3) := by decide +kernel
theorem dJ2_getChars_ba4f3_47 : decode cJ2_getChars_ba4f3 47 = .ok (.iload 5, 2) := by decide +kernel
theorem dJ2_getChars_ba4f3_49 : decode cJ2_getChars_ba4f3 49 = .ok (.getstatic 403, 3) := by decide +kernel
theorem dJ2_getChars_ba4f3_52 : decode cJ2_getChars_ba4f3 52 = .ok (.iload 4, 2) := by decide +kernel
theorem dJ2_getChars_ba4f3_54 : decode cJ2_getChars_ba4f3 54 = .ok (.baload, 1) := by decide +kernel
theorem dJ2_getChars_ba4f3_55 : decode cJ2_getChars_ba4f3 55 = .ok (.invokestatic 111, 3) := by decide +kernel
theorem dJ2_getChars_ba4f3_58 : decode cJ2_getChars_ba4f3 58 = .ok (.aload_n 2, 1) := by decide +kernel
theorem dJ2_getChars_ba4f3_59 : decode cJ2_getChars_ba4f3 59 = .ok (.iinc 5 (-1), 3) := by decide +kernel
theorem dJ2_getChars_ba4f3_62 : decode cJ2_getChars_ba4f3 62 = .ok (.iload 5, 2) := by decide +kernel
theorem dJ2_getChars_ba4f3_64 : decode cJ2_getChars_ba4f3 64 = .ok (.getstatic 407, 3) := by decide +kernel
theorem dJ2_getChars_ba4f3_67 : decode cJ2_getChars_ba4f3 67 = .ok (.iload 4, 2) := by decide +kernel
theorem dJ2_getChars_ba4f3_69 : decode cJ2_getChars_ba4f3 69 = .ok (.baload, 1) := by decide +kernel
theorem dJ2_getChars_ba4f3_70 : decode cJ2_getChars_ba4f3 70 = .ok (.invokestatic 111, 3) := by decide +kernel
theorem dJ2_getChars_ba4f3_73 : decode cJ2_getChars_ba4f3 73 = .ok (.goto (-51), 3) := by decide +kernel
theorem dJ2_getChars_ba4f3_76 : decode cJ2_getChars_ba4f3 76 = .ok (.aload_n 2, 1) := by decide +kernel
theorem dJ2_getChars_ba4f3_77 : decode cJ2_getChars_ba4f3 77 = .ok (.iinc 5 (-1), 3) := by decide +kernel
theorem dJ2_getChars_ba4f3_80 : decode cJ2_getChars_ba4f3 80 = .ok (.iload 5, 2) := by decide +kernel
theorem dJ2_getChars_ba4f3_82 : decode cJ2_getChars_ba4f3 82 = .ok (.getstatic 403, 3) := by decide +kernel
theorem dJ2_getChars_ba4f3_85 : decode cJ2_getChars_ba4f3 85 = .ok (.iload_n 0, 1) := by decide +kernel
theorem dJ2_getChars_ba4f3_86 : decode cJ2_getChars_ba4f3 86 = .ok (.ineg, 1) := by decide +kernel
theorem dJ2_getChars_ba4f3_87 : decode cJ2_getChars_ba4f3 87 = .ok (.baload, 1) := by decide +kernel
theorem dJ2_getChars_ba4f3_88 : decode cJ2_getChars_ba4f3 88 = .ok (.invokestatic 111, 3) := by decide +kernel
theorem dJ2_getChars_ba4f3_91 : decode cJ2_getChars_ba4f3 91 = .ok (.iload_n 0, 1) := by decide +kernel
theorem dJ2_getChars_ba4f3_92 : decode cJ2_getChars_ba4f3 92 = .ok (.bipush (-9), 2) := by decide +kernel
theorem dJ2_getChars_ba4f3_94 : decode cJ2_getChars_ba4f3 94 = .ok (.if_icmp .ge 18, 3) := by decide +kernel
theorem dJ2_getChars_ba4f3_97 : decode cJ2_getChars_ba4f3 97 = .ok (.aload_n 2, 1) := by decide +kernel
theorem dJ2_getChars_ba4f3_98 : decode cJ2_getChars_ba4f3 98 = .ok (.iinc 5 (-1), 3) := by decide +kernel
theorem dJ2_getChars_ba4f3_101 : decode cJ2_getChars_ba4f3 101 = .ok (.iload 5, 2) := by decide +kernel
theorem dJ2_getChars_ba4f3_103 : decode cJ2_getChars_ba4f3 103 = .ok (.getstatic 407, 3) := by decide +kernel
theorem dJ2_getChars_ba4f3_106 : decode cJ2_getChars_ba4f3 106 = .ok (.iload_n 0, 1) := by decide +kernel
theorem dJ2_getChars_ba4f3_107 : decode cJ2_getChars_ba4f3 107 = .ok (.ineg, 1) := by decide +kernel
theorem dJ2_getChars_ba4f3_108 : decode cJ2_getChars_ba4f3 108 = .ok (.baload, 1) := by decide +kernel
theorem dJ2_getChars_ba4f3_109 : decode cJ2_getChars_ba4f3 109 = .ok (.invokestatic 111, 3) := by decide +kernel
theorem dJ2_getChars_ba4f3_112 : decode cJ2_getChars_ba4f3 112 = .ok (.iload 6, 2) := by decide +kernel
theorem dJ2_getChars_ba4f3_114 : decode cJ2_getChars_ba4f3 114 = .ok (.ifCond .eq 14, 3) := by decide +kernel
theorem dJ2_getChars_ba4f3_117 : decode cJ2_getChars_ba4f3 117 = .ok (.aload_n 2, 1) := by decide +kernel
theorem dJ2_getChars_ba4f3_118 : decode cJ2_getChars_ba4f3 118 = .ok (.iinc 5 (-1), 3) := by decide +kernel
theorem dJ2_getChars_ba4f3_121 : decode cJ2_getChars_ba4f3 121 = .ok (.iload 5, 2) := by decide +kernel
theorem dJ2_getChars_ba4f3_123 : decode cJ2_getChars_ba4f3 123 = .ok (.bipush 45, 2) := by decide +kernel
theorem dJ2_getChars_ba4f3_125 : decode cJ2_getChars_ba4f3 125 = .ok (.invokestatic 111, 3) := by decide +kernel
theorem dJ2_getChars_ba4f3_128 : decode cJ2_getChars_ba4f3 128 = .ok (.iload 5, 2) := by decide +kernel
theorem dJ2_getChars_ba4f3_130 : decode cJ2_getChars_ba4f3 130 = .ok (.ireturn, 1) := by decide +kernel
theorem dJ2_checkIndex_2214a_0 : decode cJ2_checkIndex_2214a 0 = .ok (.iload_n 0, 1) := by decide +kernel
theorem dJ2_checkIndex_2214a_1 : decode cJ2_checkIndex_2214a 1 = .ok (.aload_n 1, 1) := by decide +kernel
theorem dJ2_checkIndex_2214a_2 : decode cJ2_checkIndex_2214a 2 = .ok (.invokestatic 48, 3) := by decide +kernel
theorem dJ2_checkIndex_2214a_5 : decode cJ2_checkIndex_2214a 5 = .ok (.invokestatic 414, 3) := by decide +kernel
theorem dJ2_checkIndex_2214a_8 : decode cJ2_checkIndex_2214a 8 = .ok (.return_, 1) := by decide +kernel
theorem dJ2_checkBoundsBeginEnd_d044e_0 : decode cJ2_checkBoundsBeginEnd_d044e 0 = .ok (.iload_n 0, 1) := by decide +kernel
theorem dJ2_checkBoundsBeginEnd_d044e_1 : decode cJ2_checkBoundsBeginEnd_d044e 1 = .ok (.iload_n 1, 1) := by decide +kernel
theorem dJ2_checkBoundsBeginEnd_d044e_2 : decode cJ2_checkBoundsBeginEnd_d044e 2 = .ok (.aload_n 2, 1) := by decide +kernel
theorem dJ2_checkBoundsBeginEnd_d044e_3 : decode cJ2_checkBoundsBeginEnd_d044e 3 = .ok (.invokestatic 48, 3) := by decide +kernel
theorem dJ2_checkBoundsBeginEnd_d044e_6 : decode cJ2_checkBoundsBeginEnd_d044e 6 = .ok (.invokestatic 241, 3) := by decide +kernel
theorem dJ2_checkBoundsBeginEnd_d044e_9 : decode cJ2_checkBoundsBeginEnd_d044e 9 = .ok (.return_, 1) := by decide +kernel
theorem dJ2_checkBoundsOffCount_d044e_0 : decode cJ2_checkBoundsOffCount_d044e 0 = .ok (.iload_n 0, 1) := by decide +kernel
theorem dJ2_checkBoundsOffCount_d044e_1 : decode cJ2_checkBoundsOffCount_d044e 1 = .ok (.iload_n 1, 1) := by decide +kernel
theorem dJ2_checkBoundsOffCount_d044e_2 : decode cJ2_checkBoundsOffCount_d044e 2 = .ok (.aload_n 2, 1) := by decide +kernel
theorem dJ2_checkBoundsOffCount_d044e_3 : decode cJ2_checkBoundsOffCount_d044e 3 = .ok (.invokestatic 48, 3) := by decide +kernel
theorem dJ2_checkBoundsOffCount_d044e_6 : decode cJ2_checkBoundsOffCount_d044e 6 = .ok (.invokestatic 419, 3) := by decide +kernel
theorem dJ2_checkBoundsOffCount_d044e_9 : decode cJ2_checkBoundsOffCount_d044e 9 = .ok (.pop, 1) := by decide +kernel
theorem dJ2_checkBoundsOffCount_d044e_10 : decode cJ2_checkBoundsOffCount_d044e 10 = .ok (.return_, 1) := by decide +kernel
theorem dJ7_copyOf_9075b_0 : decode cJ7_copyOf_9075b 0 = .ok (.iload_n 1, 1) := by decide +kernel
theorem dJ7_copyOf_9075b_1 : decode cJ7_copyOf_9075b 1 = .ok (.aload_n 0, 1) := by decide +kernel
theorem dJ7_copyOf_9075b_2 : decode cJ7_copyOf_9075b 2 = .ok (.arraylength, 1) := by decide +kernel
theorem dJ7_copyOf_9075b_3 : decode cJ7_copyOf_9075b 3 = .ok (.if_icmp .ne 11, 3) := by decide +kernel
theorem dJ7_copyOf_9075b_6 : decode cJ7_copyOf_9075b 6 = .ok (.aload_n 0, 1) := by decide +kernel
theorem dJ7_copyOf_9075b_7 : decode cJ7_copyOf_9075b 7 = .ok (.invokevirtual 310, 3) := by decide +kernel
theorem dJ7_copyOf_9075b_10 : decode cJ7_copyOf_9075b 10 = .ok (.checkcast 311, 3) := by decide +kernel
theorem dJ7_copyOf_9075b_13 : decode cJ7_copyOf_9075b 13 = .ok (.areturn, 1) := by decide +kernel
theorem dJ7_copyOf_9075b_14 : decode cJ7_copyOf_9075b 14 = .ok (.iload_n 1, 1) := by decide +kernel
theorem dJ7_copyOf_9075b_15 : decode cJ7_copyOf_9075b 15 = .ok (.newarray .byte, 2) := by decide +kernel
theorem dJ7_copyOf_9075b_17 : decode cJ7_copyOf_9075b 17 = .ok (.astore_n 2, 1) := by decide +kernel
theorem dJ7_copyOf_9075b_18 : decode cJ7_copyOf_9075b 18 = .ok (.aload_n 0, 1) := by decide +kernel
theorem dJ7_copyOf_9075b_19 : decode cJ7_copyOf_9075b 19 = .ok (.iconst 0, 1) := by decide +kernel
theorem dJ7_copyOf_9075b_20 : decode cJ7_copyOf_9075b 20 = .ok (.aload_n 2, 1) := by decide +kernel
theorem dJ7_copyOf_9075b_21 : decode cJ7_copyOf_9075b 21 = .ok (.iconst 0, 1) := by decide +kernel
theorem dJ7_copyOf_9075b_22 : decode cJ7_copyOf_9075b 22 = .ok (.aload_n 0, 1) := by decide +kernel
theorem dJ7_copyOf_9075b_23 : decode cJ7_copyOf_9075b 23 = .ok (.arraylength, 1) := by decide +kernel
theorem dJ7_copyOf_9075b_24 : decode cJ7_copyOf_9075b 24 = .ok (.iload_n 1, 1) := by decide +kernel
theorem dJ7_copyOf_9075b_25 : decode cJ7_copyOf_9075b 25 = .ok (.invokestatic 304, 3) := by decide +kernel
theorem dJ7_copyOf_9075b_28 : decode cJ7_copyOf_9075b 28 = .ok (.invokestatic 150, 3) := by decide +kernel
theorem dJ7_copyOf_9075b_31 : decode cJ7_copyOf_9075b 31 = .ok (.aload_n 2, 1) := by decide +kernel
theorem dJ7_copyOf_9075b_32 : decode cJ7_copyOf_9075b 32 = .ok (.areturn, 1) := by decide +kernel
theorem dJ7_checkLength_df160_0 : decode cJ7_checkLength_df160 0 = .ok (.iload_n 1, 1) := by decide +kernel
theorem dJ7_checkLength_df160_1 : decode cJ7_checkLength_df160 1 = .ok (.iload_n 0, 1) := by decide +kernel
theorem dJ7_checkLength_df160_2 : decode cJ7_checkLength_df160 2 = .ok (.if_icmp .ge 35, 3) := by decide +kernel
theorem dJ7_checkLength_df160_5 : decode cJ7_checkLength_df160 5 = .ok (.new 43, 3) := by decide +kernel
theorem dJ7_checkLength_df160_8 : decode cJ7_checkLength_df160 8 = .ok (.dup, 1) := by decide +kernel
theorem dJ7_checkLength_df160_9 : decode cJ7_checkLength_df160 9 = .ok (.new 45, 3) := by decide +kernel
theorem dJ7_checkLength_df160_12 : decode cJ7_checkLength_df160 12 = .ok (.dup, 1) := by decide +kernel
theorem dJ7_checkLength_df160_13 : decode cJ7_checkLength_df160 13 = .ok (.invokespecial 47, 3) := by decide +kernel
theorem dJ7_checkLength_df160_16 : decode cJ7_checkLength_df160 16 = .ok (.iload_n 0, 1) := by decide +kernel
theorem dJ7_checkLength_df160_17 : decode cJ7_checkLength_df160 17 = .ok (.invokevirtual 54, 3) := by decide +kernel
theorem dJ7_checkLength_df160_20 : decode cJ7_checkLength_df160 20 = .ok (.ldc_w 337, 3) := by decide +kernel
theorem dJ7_checkLength_df160_23 : decode cJ7_checkLength_df160 23 = .ok (.invokevirtual 50, 3) := by decide +kernel
theorem dJ7_checkLength_df160_26 : decode cJ7_checkLength_df160 26 = .ok (.iload_n 1, 1) := by decide +kernel
theorem dJ7_checkLength_df160_27 : decode cJ7_checkLength_df160 27 = .ok (.invokevirtual 54, 3) := by decide +kernel
theorem dJ7_checkLength_df160_30 : decode cJ7_checkLength_df160 30 = .ok (.invokevirtual 61, 3) := by decide +kernel
theorem dJ7_checkLength_df160_33 : decode cJ7_checkLength_df160 33 = .ok (.invokespecial 65, 3) := by decide +kernel
theorem dJ7_checkLength_df160_36 : decode cJ7_checkLength_df160 36 = .ok (.athrow, 1) := by decide +kernel
theorem dJ7_checkLength_df160_37 : decode cJ7_checkLength_df160 37 = .ok (.return_, 1) := by decide +kernel
theorem dJ7_copyOfRange_39247_0 : decode cJ7_copyOfRange_39247 0 = .ok (.iload_n 1, 1) := by decide +kernel
theorem dJ7_copyOfRange_39247_1 : decode cJ7_copyOfRange_39247 1 = .ok (.ifCond .ne 9, 3) := by decide +kernel
theorem dJ7_copyOfRange_39247_4 : decode cJ7_copyOfRange_39247 4 = .ok (.iload_n 2, 1) := by decide +kernel
theorem dJ7_copyOfRange_39247_5 : decode cJ7_copyOfRange_39247 5 = .ok (.aload_n 0, 1) := by decide +kernel
theorem dJ7_copyOfRange_39247_6 : decode cJ7_copyOfRange_39247 6 = .ok (.arraylength, 1) := by decide +kernel
theorem dJ7_copyOfRange_39247_7 : decode cJ7_copyOfRange_39247 7 = .ok (.if_icmp .eq 10, 3) := by decide +kernel
theorem dJ7_copyOfRange_39247_10 : decode cJ7_copyOfRange_39247 10 = .ok (.aload_n 0, 1) := by decide +kernel
theorem dJ7_copyOfRange_39247_11 : decode cJ7_copyOfRange_39247 11 = .ok (.iload_n 1, 1) := by decide +kernel
theorem dJ7_copyOfRange_39247_12 : decode cJ7_copyOfRange_39247 12 = .ok (.iload_n 2, 1) := by decide +kernel
theorem dJ7_copyOfRange_39247_13 : decode cJ7_copyOfRange_39247 13 = .ok (.invokestatic 339, 3) := by decide +kernel
theorem dJ7_copyOfRange_39247_16 : decode cJ7_copyOfRange_39247 16 = .ok (.areturn, 1) := by decide +kernel
theorem dJ7_copyOfRange_39247_17 : decode cJ7_copyOfRange_39247 17 = .ok (.aload_n 0, 1) := by decide +kernel
theorem dJ7_copyOfRange_39247_18 : decode cJ7_copyOfRange_39247 18 = .ok (.invokevirtual 310, 3) := by decide +kernel
theorem dJ7_copyOfRange_39247_21 : decode cJ7_copyOfRange_39247 21 = .ok (.checkcast 311, 3) := by decide +kernel
theorem dJ7_copyOfRange_39247_24 : decode cJ7_copyOfRange_39247 24 = .ok (.areturn, 1) := by decide +kernel
theorem dJ7_copyOfRangeByte_39247_0 : decode cJ7_copyOfRangeByte_39247 0 = .ok (.iload_n 1, 1) := by decide +kernel
theorem dJ7_copyOfRangeByte_39247_1 : decode cJ7_copyOfRangeByte_39247 1 = .ok (.iload_n 2, 1) := by decide +kernel
theorem dJ7_copyOfRangeByte_39247_2 : decode cJ7_copyOfRangeByte_39247 2 = .ok (.invokestatic 343, 3) := by decide +kernel
theorem dJ7_copyOfRangeByte_39247_5 : decode cJ7_copyOfRangeByte_39247 5 = .ok (.iload_n 2, 1) := by decide +kernel
theorem dJ7_copyOfRangeByte_39247_6 : decode cJ7_copyOfRangeByte_39247 6 = .ok (.iload_n 1, 1) := by decide +kernel
theorem dJ7_copyOfRangeByte_39247_7 : decode cJ7_copyOfRangeByte_39247 7 = .ok (.isub, 1) := by decide +kernel
theorem dJ7_copyOfRangeByte_39247_8 : decode cJ7_copyOfRangeByte_39247 8 = .ok (.istore_n 3, 1) := by decide +kernel
theorem dJ7_copyOfRangeByte_39247_9 : decode cJ7_copyOfRangeByte_39247 9 = .ok (.iload_n 3, 1) := by decide +kernel
theorem dJ7_copyOfRangeByte_39247_10 : decode cJ7_copyOfRangeByte_39247 10 = .ok (.newarray .byte, 2) := by decide +kernel
theorem dJ7_copyOfRangeByte_39247_12 : decode cJ7_copyOfRangeByte_39247 12 = .ok (.astore 4, 2) := by decide +kernel
theorem dJ7_copyOfRangeByte_39247_14 : decode cJ7_copyOfRangeByte_39247 14 = .ok (.aload_n 0, 1) := by decide +kernel
theorem dJ7_copyOfRangeByte_39247_15 : decode cJ7_copyOfRangeByte_39247 15 = .ok (.iload_n 1, 1) := by decide +kernel
theorem dJ7_copyOfRangeByte_39247_16 : decode cJ7_copyOfRangeByte_39247 16 = .ok (.aload 4, 2) := by decide +kernel
theorem dJ7_copyOfRangeByte_39247_18 : decode cJ7_copyOfRangeByte_39247 18 = .ok (.iconst 0, 1) := by decide +kernel
theorem dJ7_copyOfRangeByte_39247_19 : decode cJ7_copyOfRangeByte_39247 19 = .ok (.aload_n 0, 1) := by decide +kernel
theorem dJ7_copyOfRangeByte_39247_20 : decode cJ7_copyOfRangeByte_39247 20 = .ok (.arraylength, 1) := by decide +kernel
theorem dJ7_copyOfRangeByte_39247_21 : decode cJ7_copyOfRangeByte_39247 21 = .ok (.iload_n 1, 1) := by decide +kernel
theorem dJ7_copyOfRangeByte_39247_22 : decode cJ7_copyOfRangeByte_39247 22 = .ok (.isub, 1) := by decide +kernel
theorem dJ7_copyOfRangeByte_39247_23 : decode cJ7_copyOfRangeByte_39247 23 = .ok (.iload_n 3, 1) := by decide +kernel
theorem dJ7_copyOfRangeByte_39247_24 : decode cJ7_copyOfRangeByte_39247 24 = .ok (.invokestatic 304, 3) := by decide +kernel
theorem dJ7_copyOfRangeByte_39247_27 : decode cJ7_copyOfRangeByte_39247 27 = .ok (.invokestatic 150, 3) := by decide +kernel
theorem dJ7_copyOfRangeByte_39247_30 : decode cJ7_copyOfRangeByte_39247 30 = .ok (.aload 4, 2) := by decide +kernel
theorem dJ7_copyOfRangeByte_39247_32 : decode cJ7_copyOfRangeByte_39247 32 = .ok (.areturn, 1) := by decide +kernel
theorem dJ8_newLength_cabcc_0 : decode cJ8_newLength_cabcc 0 = .ok (.iload_n 0, 1) := by decide +kernel
theorem dJ8_newLength_cabcc_1 : decode cJ8_newLength_cabcc 1 = .ok (.iload_n 1, 1) := by decide +kernel
theorem dJ8_newLength_cabcc_2 : decode cJ8_newLength_cabcc 2 = .ok (.iload_n 2, 1) := by decide +kernel
theorem dJ8_newLength_cabcc_3 : decode cJ8_newLength_cabcc 3 = .ok (.invokestatic 194, 3) := by decide +kernel
theorem dJ8_newLength_cabcc_6 : decode cJ8_newLength_cabcc 6 = .ok (.iadd, 1) := by decide +kernel
theorem dJ8_newLength_cabcc_7 : decode cJ8_newLength_cabcc 7 = .ok (.istore_n 3, 1) := by decide +kernel
theorem dJ8_newLength_cabcc_8 : decode cJ8_newLength_cabcc 8 = .ok (.iconst 0, 1) := by decide +kernel
theorem dJ8_newLength_cabcc_9 : decode cJ8_newLength_cabcc 9 = .ok (.iload_n 3, 1) := by decide +kernel
theorem dJ8_newLength_cabcc_10 : decode cJ8_newLength_cabcc 10 = .ok (.if_icmp .ge 11, 3) := by decide +kernel
theorem dJ8_newLength_cabcc_13 : decode cJ8_newLength_cabcc 13 = .ok (.iload_n 3, 1) := by decide +kernel
theorem dJ8_newLength_cabcc_14 : decode cJ8_newLength_cabcc 14 = .ok (.ldc 200, 2) := by decide +kernel
theorem dJ8_newLength_cabcc_16 : decode cJ8_newLength_cabcc 16 = .ok (.if_icmp .gt 5, 3) := by decide +kernel
theorem dJ8_newLength_cabcc_19 : decode cJ8_newLength_cabcc 19 = .ok (.iload_n 3, 1) := by decide +kernel
theorem dJ8_newLength_cabcc_20 : decode cJ8_newLength_cabcc 20 = .ok (.ireturn, 1) := by decide +kernel
theorem dJ8_newLength_cabcc_21 : decode cJ8_newLength_cabcc 21 = .ok (.iload_n 0, 1) := by decide +kernel
theorem dJ8_newLength_cabcc_22 : decode cJ8_newLength_cabcc 22 = .ok (.iload_n 1, 1) := by decide +kernel
theorem dJ8_newLength_cabcc_23 : decode cJ8_newLength_cabcc 23 = .ok (.invokestatic 201, 3) := by decide +kernel
theorem dJ8_newLength_cabcc_26 : decode cJ8_newLength_cabcc 26 = .ok (.ireturn, 1) := by decide +kernel
theorem dJ8_hugeLength_7cf53_0 : decode cJ8_hugeLength_7cf53 0 = .ok (.iload_n 0, 1) := by decide +kernel
theorem dJ8_hugeLength_7cf53_1 : decode cJ8_hugeLength_7cf53 1 = .ok (.iload_n 1, 1) := by decide +kernel
theorem dJ8_hugeLength_7cf53_2 : decode cJ8_hugeLength_7cf53 2 = .ok (.iadd, 1) := by decide +kernel
theorem dJ8_hugeLength_7cf53_3 : decode cJ8_hugeLength_7cf53 3 = .ok (.istore_n 2, 1) := by decide +kernel
theorem dJ8_hugeLength_7cf53_4 : decode cJ8_hugeLength_7cf53 4 = .ok (.iload_n 2, 1) := by decide +kernel
theorem dJ8_hugeLength_7cf53_5 : decode cJ8_hugeLength_7cf53 5 = .ok (.ifCond .ge 44, 3) := by decide +kernel
theorem dJ8_hugeLength_7cf53_8 : decode cJ8_hugeLength_7cf53 8 = .ok (.new 204, 3) := by decide +kernel
theorem dJ8_hugeLength_7cf53_11 : decode cJ8_hugeLength_7cf53 11 = .ok (.dup, 1) := by decide +kernel
theorem dJ8_hugeLength_7cf53_12 : decode cJ8_hugeLength_7cf53 12 = .ok (.new 89, 3) := by decide +kernel
theorem dJ8_hugeLength_7cf53_15 : decode cJ8_hugeLength_7cf53 15 = .ok (.dup, 1) := by decide +kernel
theorem dJ8_hugeLength_7cf53_16 : decode cJ8_hugeLength_7cf53 16 = .ok (.invokespecial 91, 3) := by decide +kernel
theorem dJ8_hugeLength_7cf53_19 : decode cJ8_hugeLength_7cf53 19 = .ok (.ldc 206, 2) := by decide +kernel
theorem dJ8_hugeLength_7cf53_21 : decode cJ8_hugeLength_7cf53 21 = .ok (.invokevirtual 94, 3) := by decide +kernel
theorem dJ8_hugeLength_7cf53_24 : decode cJ8_hugeLength_7cf53 24 = .ok (.iload_n 0, 1) := by decide +kernel
theorem dJ8_hugeLength_7cf53_25 : decode cJ8_hugeLength_7cf53 25 = .ok (.invokevirtual 98, 3) := by decide +kernel
theorem dJ8_hugeLength_7cf53_28 : decode cJ8_hugeLength_7cf53 28 = .ok (.ldc 208, 2) := by decide +kernel
theorem dJ8_hugeLength_7cf53_30 : decode cJ8_hugeLength_7cf53 30 = .ok (.invokevirtual 94, 3) := by decide +kernel
theorem dJ8_hugeLength_7cf53_33 : decode cJ8_hugeLength_7cf53 33 = .ok (.iload_n 1, 1) := by decide +kernel
theorem dJ8_hugeLength_7cf53_34 : decode cJ8_hugeLength_7cf53 34 = .ok (.invokevirtual 98, 3) := by decide +kernel
theorem dJ8_hugeLength_7cf53_37 : decode cJ8_hugeLength_7cf53 37 = .ok (.ldc 210, 2) := by decide +kernel
theorem dJ8_hugeLength_7cf53_39 : decode cJ8_hugeLength_7cf53 39 = .ok (.invokevirtual 94, 3) := by decide +kernel
theorem dJ8_hugeLength_7cf53_42 : decode cJ8_hugeLength_7cf53 42 = .ok (.invokevirtual 101, 3) := by decide +kernel
theorem dJ8_hugeLength_7cf53_45 : decode cJ8_hugeLength_7cf53 45 = .ok (.invokespecial 212, 3) := by decide +kernel
theorem dJ8_hugeLength_7cf53_48 : decode cJ8_hugeLength_7cf53 48 = .ok (.athrow, 1) := by decide +kernel
theorem dJ8_hugeLength_7cf53_49 : decode cJ8_hugeLength_7cf53 49 = .ok (.iload_n 2, 1) := by decide +kernel
theorem dJ8_hugeLength_7cf53_50 : decode cJ8_hugeLength_7cf53 50 = .ok (.ldc 200, 2) := by decide +kernel
theorem dJ8_hugeLength_7cf53_52 : decode cJ8_hugeLength_7cf53 52 = .ok (.if_icmp .gt 6, 3) := by decide +kernel
theorem dJ8_hugeLength_7cf53_55 : decode cJ8_hugeLength_7cf53 55 = .ok (.ldc 200, 2) := by decide +kernel
theorem dJ8_hugeLength_7cf53_57 : decode cJ8_hugeLength_7cf53 57 = .ok (.ireturn, 1) := by decide +kernel
theorem dJ8_hugeLength_7cf53_58 : decode cJ8_hugeLength_7cf53 58 = .ok (.iload_n 2, 1) := by decide +kernel
theorem dJ8_hugeLength_7cf53_59 : decode cJ8_hugeLength_7cf53 59 = .ok (.ireturn, 1) := by decide +kernel
theorem dJ3_checkIndex_8e157_0 : decode cJ3_checkIndex_8e157 0 = .ok (.iload_n 0, 1) := by decide +kernel
theorem dJ3_checkIndex_8e157_1 : decode cJ3_checkIndex_8e157 1 = .ok (.ifCond .lt 8, 3) := by decide +kernel
theorem dJ3_checkIndex_8e157_4 : decode cJ3_checkIndex_8e157 4 = .ok (.iload_n 0, 1) := by decide +kernel
theorem dJ3_checkIndex_8e157_5 : decode cJ3_checkIndex_8e157 5 = .ok (.iload_n 1, 1) := by decide +kernel
theorem dJ3_checkIndex_8e157_6 : decode cJ3_checkIndex_8e157 6 = .ok (.if_icmp .lt 10, 3) := by decide +kernel
theorem dJ3_checkIndex_8e157_9 : decode cJ3_checkIndex_8e157 9 = .ok (.aload_n 2, 1) := by decide +kernel
theorem dJ3_checkIndex_8e157_10 : decode cJ3_checkIndex_8e157 10 = .ok (.iload_n 0, 1) := by decide +kernel
theorem dJ3_checkIndex_8e157_11 : decode cJ3_checkIndex_8e157 11 = .ok (.iload_n 1, 1) := by decide +kernel
theorem dJ3_checkIndex_8e157_12 : decode cJ3_checkIndex_8e157 12 = .ok (.invokestatic 95, 3) := by decide +kernel
theorem dJ3_checkIndex_8e157_15 : decode cJ3_checkIndex_8e157 15 = .ok (.athrow, 1) := by decide +kernel
theorem dJ3_checkIndex_8e157_16 : decode cJ3_checkIndex_8e157 16 = .ok (.iload_n 0, 1) := by decide +kernel
theorem dJ3_checkIndex_8e157_17 : decode cJ3_checkIndex_8e157 17 = .ok (.ireturn, 1) := by decide +kernel
theorem dJ3_checkFromToIndex_8c36e_0 : decode cJ3_checkFromToIndex_8c36e 0 = .ok (.iload_n 0, 1) := by decide +kernel
theorem dJ3_checkFromToIndex_8c36e_1 : decode cJ3_checkFromToIndex_8c36e 1 = .ok (.ifCond .lt 13, 3) := by decide +kernel
theorem dJ3_checkFromToIndex_8c36e_4 : decode cJ3_checkFromToIndex_8c36e 4 = .ok (.iload_n 0, 1) := by decide +kernel
theorem dJ3_checkFromToIndex_8c36e_5 : decode cJ3_checkFromToIndex_8c36e 5 = .ok (.iload_n 1, 1) := by decide +kernel
theorem dJ3_checkFromToIndex_8c36e_6 : decode cJ3_checkFromToIndex_8c36e 6 = .ok (.if_icmp .gt 8, 3) := by decide +kernel
theorem dJ3_checkFromToIndex_8c36e_9 : decode cJ3_checkFromToIndex_8c36e 9 = .ok (.iload_n 1, 1) := by decide +kernel
theorem dJ3_checkFromToIndex_8c36e_10 : decode cJ3_checkFromToIndex_8c36e 10 = .ok (.iload_n 2, 1) := by decide +kernel
theorem dJ3_checkFromToIndex_8c36e_11 : decode cJ3_checkFromToIndex_8c36e 11 = .ok (.if_icmp .le 11, 3) := by decide +kernel
theorem dJ3_checkFromToIndex_8c36e_14 : decode cJ3_checkFromToIndex_8c36e 14 = .ok (.aload_n 3, 1) := by decide +kernel
theorem dJ3_checkFromToIndex_8c36e_15 : decode cJ3_checkFromToIndex_8c36e 15 = .ok (.iload_n 0, 1) := by decide +kernel
theorem dJ3_checkFromToIndex_8c36e_16 : decode cJ3_checkFromToIndex_8c36e 16 = .ok (.iload_n 1, 1) := by decide +kernel
theorem dJ3_checkFromToIndex_8c36e_17 : decode cJ3_checkFromToIndex_8c36e 17 = .ok (.iload_n 2, 1) := by decide +kernel
theorem dJ3_checkFromToIndex_8c36e_18 : decode cJ3_checkFromToIndex_8c36e 18 = .ok (.invokestatic 99, 3) := by decide +kernel
theorem dJ3_checkFromToIndex_8c36e_21 : decode cJ3_checkFromToIndex_8c36e 21 = .ok (.athrow, 1) := by decide +kernel
theorem dJ3_checkFromToIndex_8c36e_22 : decode cJ3_checkFromToIndex_8c36e 22 = .ok (.iload_n 0, 1) := by decide +kernel
theorem dJ3_checkFromToIndex_8c36e_23 : decode cJ3_checkFromToIndex_8c36e 23 = .ok (.ireturn, 1) := by decide +kernel
theorem dJ3_checkFromIndexSize_8c36e_0 : decode cJ3_checkFromIndexSize_8c36e 0 = .ok (.iload_n 2, 1) := by decide +kernel
theorem dJ3_checkFromIndexSize_8c36e_1 : decode cJ3_checkFromIndexSize_8c36e 1 = .ok (.iload_n 0, 1) := by decide +kernel
theorem dJ3_checkFromIndexSize_8c36e_2 : decode cJ3_checkFromIndexSize_8c36e 2 = .ok (.ior, 1) := by decide +kernel
theorem dJ3_checkFromIndexSize_8c36e_3 : decode cJ3_checkFromIndexSize_8c36e 3 = .ok (.iload_n 1, 1) := by decide +kernel
theorem dJ3_checkFromIndexSize_8c36e_4 : decode cJ3_checkFromIndexSize_8c36e 4 = .ok (.ior, 1) := by decide +kernel
theorem dJ3_checkFromIndexSize_8c36e_5 : decode cJ3_checkFromIndexSize_8c36e 5 = .ok (.ifCond .lt 10, 3) := by decide +kernel
theorem dJ3_checkFromIndexSize_8c36e_8 : decode cJ3_checkFromIndexSize_8c36e 8 = .ok (.iload_n 1, 1) := by decide +kernel
theorem dJ3_checkFromIndexSize_8c36e_9 : decode cJ3_checkFromIndexSize_8c36e 9 = .ok (.iload_n 2, 1) := by decide +kernel
theorem dJ3_checkFromIndexSize_8c36e_10 : decode cJ3_checkFromIndexSize_8c36e 10 = .ok (.iload_n 0, 1) := by decide +kernel
theorem dJ3_checkFromIndexSize_8c36e_11 : decode cJ3_checkFromIndexSize_8c36e 11 = .ok (.isub, 1) := by decide +kernel
theorem dJ3_checkFromIndexSize_8c36e_12 : decode cJ3_checkFromIndexSize_8c36e 12 = .ok (.if_icmp .le 11, 3) := by decide +kernel
theorem dJ3_checkFromIndexSize_8c36e_15 : decode cJ3_checkFromIndexSize_8c36e 15 = .ok (.aload_n 3, 1) := by decide +kernel
theorem dJ3_checkFromIndexSize_8c36e_16 : decode cJ3_checkFromIndexSize_8c36e 16 = .ok (.iload_n 0, 1) := by decide +kernel
theorem dJ3_checkFromIndexSize_8c36e_17 : decode cJ3_checkFromIndexSize_8c36e 17 = .ok (.iload_n 1, 1) := by decide +kernel
theorem dJ3_checkFromIndexSize_8c36e_18 : decode cJ3_checkFromIndexSize_8c36e 18 = .ok (.iload_n 2, 1) := by decide +kernel
theorem dJ3_checkFromIndexSize_8c36e_19 : decode cJ3_checkFromIndexSize_8c36e 19 = .ok (.invokestatic 103, 3) := by decide +kernel
theorem dJ3_checkFromIndexSize_8c36e_22 : decode cJ3_checkFromIndexSize_8c36e 22 = .ok (.athrow, 1) := by decide +kernel
theorem dJ3_checkFromIndexSize_8c36e_23 : decode cJ3_checkFromIndexSize_8c36e 23 = .ok (.iload_n 0, 1) := by decide +kernel
theorem dJ3_checkFromIndexSize_8c36e_24 : decode cJ3_checkFromIndexSize_8c36e 24 = .ok (.ireturn, 1) := by decide +kernel
theorem dL_cell_0 : decode cL_cell 0 = .ok (.iload_n 1, 1) := by decide +kernel
theorem dL_cell_1 : decode cL_cell 1 = .ok (.aload_n 0, 1) := by decide +kernel
theorem dL_cell_2 : decode cL_cell 2 = .ok (.arraylength, 1) := by decide +kernel
theorem dL_cell_3 : decode cL_cell 3 = .ok (.if_icmp .ge 9, 3) := by decide +kernel
theorem dL_cell_6 : decode cL_cell 6 = .ok (.aload_n 0, 1) := by decide +kernel
theorem dL_cell_7 : decode cL_cell 7 = .ok (.iload_n 1, 1) := by decide +kernel
theorem dL_cell_8 : decode cL_cell 8 = .ok (.iaload, 1) := by decide +kernel
theorem dL_cell_9 : decode cL_cell 9 = .ok (.goto 4, 3) := by decide +kernel
theorem dL_cell_12 : decode cL_cell 12 = .ok (.iconst 0, 1) := by decide +kernel
theorem dL_cell_13 : decode cL_cell 13 = .ok (.ireturn, 1) := by decide +kernel
theorem dL_of_0 : decode cL_of 0 = .ok (.iload_n 2, 1) := by decide +kernel
theorem dL_of_1 : decode cL_of 1 = .ok (.aload_n 0, 1) := by decide +kernel
theorem dL_of_2 : decode cL_of 2 = .ok (.iload_n 1, 1) := by decide +kernel
theorem dL_of_3 : decode cL_of 3 = .ok (.invokestatic 7, 3) := by decide +kernel
theorem dL_of_6 : decode cL_of 6 = .ok (.iload_n 3, 1) := by decide +kernel
theorem dL_of_7 : decode cL_of 7 = .ok (.invokestatic 13, 3) := by decide +kernel
theorem dL_of_10 : decode cL_of 10 = .ok (.iadd, 1) := by decide +kernel
theorem dL_of_11 : decode cL_of 11 = .ok (.ireturn, 1) := by decide +kernel
theorem dL_addItem_0 : decode cL_addItem 0 = .ok (.aload_n 0, 1) := by decide +kernel
theorem dL_addItem_1 : decode cL_addItem 1 = .ok (.iload_n 1, 1) := by decide +kernel
theorem dL_addItem_2 : decode cL_addItem 2 = .ok (.iload_n 2, 1) := by decide +kernel
theorem dL_addItem_3 : decode cL_addItem 3 = .ok (.invokevirtual 19, 3) := by decide +kernel
theorem dL_addItem_6 : decode cL_addItem 6 = .ok (.ireturn, 1) := by decide +kernel
theorem dL_addItem_7 : decode cL_addItem 7 = .ok (.astore_n 3, 1) := by decide +kernel
theorem dL_addItem_8 : decode cL_addItem 8 = .ok (.sipush (-7777), 3) := by decide +kernel
theorem dL_addItem_11 : decode cL_addItem 11 = .ok (.ireturn, 1) := by decide +kernel
theorem dL_removeItem_0 : decode cL_removeItem 0 = .ok (.aload_n 0, 1) := by decide +kernel
theorem dL_removeItem_1 : decode cL_removeItem 1 = .ok (.iload_n 1, 1) := by decide +kernel
theorem dL_removeItem_2 : decode cL_removeItem 2 = .ok (.invokevirtual 26, 3) := by decide +kernel
theorem dL_removeItem_5 : decode cL_removeItem 5 = .ok (.ireturn, 1) := by decide +kernel
theorem dL_removeItem_6 : decode cL_removeItem 6 = .ok (.astore_n 2, 1) := by decide +kernel
theorem dL_removeItem_7 : decode cL_removeItem 7 = .ok (.sipush (-7777), 3) := by decide +kernel
theorem dL_removeItem_10 : decode cL_removeItem 10 = .ok (.ireturn, 1) := by decide +kernel
theorem dL_pin_0 : decode cL_pin 0 = .ok (.aload_n 0, 1) := by decide +kernel
theorem dL_pin_1 : decode cL_pin 1 = .ok (.iload_n 1, 1) := by decide +kernel
theorem dL_pin_2 : decode cL_pin 2 = .ok (.invokevirtual 32, 3) := by decide +kernel
theorem dL_pin_5 : decode cL_pin 5 = .ok (.ireturn, 1) := by decide +kernel
theorem dL_pin_6 : decode cL_pin 6 = .ok (.astore_n 2, 1) := by decide +kernel
theorem dL_pin_7 : decode cL_pin 7 = .ok (.sipush (-7777), 3) := by decide +kernel
theorem dL_pin_10 : decode cL_pin 10 = .ok (.ireturn, 1) := by decide +kernel
theorem dL_exclude_0 : decode cL_exclude 0 = .ok (.aload_n 0, 1) := by decide +kernel
theorem dL_exclude_1 : decode cL_exclude 1 = .ok (.iload_n 1, 1) := by decide +kernel
theorem dL_exclude_2 : decode cL_exclude 2 = .ok (.invokevirtual 35, 3) := by decide +kernel
theorem dL_exclude_5 : decode cL_exclude 5 = .ok (.ireturn, 1) := by decide +kernel
theorem dL_exclude_6 : decode cL_exclude 6 = .ok (.astore_n 2, 1) := by decide +kernel
theorem dL_exclude_7 : decode cL_exclude 7 = .ok (.sipush (-7777), 3) := by decide +kernel
theorem dL_exclude_10 : decode cL_exclude 10 = .ok (.ireturn, 1) := by decide +kernel
theorem dL_release_0 : decode cL_release 0 = .ok (.aload_n 0, 1) := by decide +kernel
theorem dL_release_1 : decode cL_release 1 = .ok (.iload_n 1, 1) := by decide +kernel
theorem dL_release_2 : decode cL_release 2 = .ok (.invokevirtual 38, 3) := by decide +kernel
theorem dL_release_5 : decode cL_release 5 = .ok (.ireturn, 1) := by decide +kernel
theorem dL_release_6 : decode cL_release 6 = .ok (.astore_n 2, 1) := by decide +kernel
theorem dL_release_7 : decode cL_release 7 = .ok (.sipush (-7777), 3) := by decide +kernel
theorem dL_release_10 : decode cL_release 10 = .ok (.ireturn, 1) := by decide +kernel
theorem dL_size_0 : decode cL_size 0 = .ok (.aload_n 0, 1) := by decide +kernel
theorem dL_size_1 : decode cL_size 1 = .ok (.iload_n 1, 1) := by decide +kernel
theorem dL_size_2 : decode cL_size 2 = .ok (.invokevirtual 41, 3) := by decide +kernel
theorem dL_size_5 : decode cL_size 5 = .ok (.ireturn, 1) := by decide +kernel
theorem dL_size_6 : decode cL_size 6 = .ok (.astore_n 2, 1) := by decide +kernel
theorem dL_size_7 : decode cL_size 7 = .ok (.sipush (-7777), 3) := by decide +kernel
theorem dL_size_10 : decode cL_size 10 = .ok (.ireturn, 1) := by decide +kernel
theorem dL_value_0 : decode cL_value 0 = .ok (.aload_n 0, 1) := by decide +kernel
theorem dL_value_1 : decode cL_value 1 = .ok (.iload_n 1, 1) := by decide +kernel
theorem dL_value_2 : decode cL_value 2 = .ok (.invokevirtual 44, 3) := by decide +kernel
theorem dL_value_5 : decode cL_value 5 = .ok (.ireturn, 1) := by decide +kernel
theorem dL_value_6 : decode cL_value 6 = .ok (.astore_n 2, 1) := by decide +kernel
theorem dL_value_7 : decode cL_value 7 = .ok (.sipush (-7777), 3) := by decide +kernel
theorem dL_value_10 : decode cL_value 10 = .ok (.ireturn, 1) := by decide +kernel
theorem dL_age_0 : decode cL_age 0 = .ok (.aload_n 0, 1) := by decide +kernel
theorem dL_age_1 : decode cL_age 1 = .ok (.iload_n 1, 1) := by decide +kernel
theorem dL_age_2 : decode cL_age 2 = .ok (.invokevirtual 47, 3) := by decide +kernel
theorem dL_age_5 : decode cL_age 5 = .ok (.ireturn, 1) := by decide +kernel
theorem dL_age_6 : decode cL_age 6 = .ok (.astore_n 2, 1) := by decide +kernel
theorem dL_age_7 : decode cL_age 7 = .ok (.sipush (-7777), 3) := by decide +kernel
theorem dL_age_10 : decode cL_age 10 = .ok (.ireturn, 1) := by decide +kernel
theorem dL_state_0 : decode cL_state 0 = .ok (.aload_n 0, 1) := by decide +kernel
theorem dL_state_1 : decode cL_state 1 = .ok (.iload_n 1, 1) := by decide +kernel
theorem dL_state_2 : decode cL_state 2 = .ok (.invokevirtual 50, 3) := by decide +kernel
theorem dL_state_5 : decode cL_state 5 = .ok (.ireturn, 1) := by decide +kernel
theorem dL_state_6 : decode cL_state 6 = .ok (.astore_n 2, 1) := by decide +kernel
theorem dL_state_7 : decode cL_state 7 = .ok (.sipush (-7777), 3) := by decide +kernel
theorem dL_state_10 : decode cL_state 10 = .ok (.ireturn, 1) := by decide +kernel
theorem dL_weight_0 : decode cL_weight 0 = .ok (.aload_n 0, 1) := by decide +kernel
theorem dL_weight_1 : decode cL_weight 1 = .ok (.iload_n 1, 1) := by decide +kernel
theorem dL_weight_2 : decode cL_weight 2 = .ok (.invokevirtual 53, 3) := by decide +kernel
theorem dL_weight_5 : decode cL_weight 5 = .ok (.ireturn, 1) := by decide +kernel
theorem dL_weight_6 : decode cL_weight 6 = .ok (.astore_n 2, 1) := by decide +kernel
theorem dL_weight_7 : decode cL_weight 7 = .ok (.sipush (-7777), 3) := by decide +kernel
theorem dL_weight_10 : decode cL_weight 10 = .ok (.ireturn, 1) := by decide +kernel
theorem dL_setSize_0 : decode cL_setSize 0 = .ok (.aload_n 0, 1) := by decide +kernel
theorem dL_setSize_1 : decode cL_setSize 1 = .ok (.iload_n 1, 1) := by decide +kernel
theorem dL_setSize_2 : decode cL_setSize 2 = .ok (.iload_n 2, 1) := by decide +kernel
theorem dL_setSize_3 : decode cL_setSize 3 = .ok (.invokevirtual 68, 3) := by decide +kernel
theorem dL_setSize_6 : decode cL_setSize 6 = .ok (.ireturn, 1) := by decide +kernel
theorem dL_setSize_7 : decode cL_setSize 7 = .ok (.astore_n 3, 1) := by decide +kernel
theorem dL_setSize_8 : decode cL_setSize 8 = .ok (.sipush (-7777), 3) := by decide +kernel
theorem dL_setSize_11 : decode cL_setSize 11 = .ok (.ireturn, 1) := by decide +kernel
theorem dL_setSize_12 : decode cL_setSize 12 = .ok (.astore_n 3, 1) := by decide +kernel
theorem dL_setSize_13 : decode cL_setSize 13 = .ok (.sipush (-7777), 3) := by decide +kernel
theorem dL_setSize_16 : decode cL_setSize 16 = .ok (.ireturn, 1) := by decide +kernel
theorem dL_setValue_0 : decode cL_setValue 0 = .ok (.aload_n 0, 1) := by decide +kernel
theorem dL_setValue_1 : decode cL_setValue 1 = .ok (.iload_n 1, 1) := by decide +kernel
theorem dL_setValue_2 : decode cL_setValue 2 = .ok (.iload_n 2, 1) := by decide +kernel
theorem dL_setValue_3 : decode cL_setValue 3 = .ok (.invokevirtual 71, 3) := by decide +kernel
theorem dL_setValue_6 : decode cL_setValue 6 = .ok (.ireturn, 1) := by decide +kernel
theorem dL_setValue_7 : decode cL_setValue 7 = .ok (.astore_n 3, 1) := by decide +kernel
theorem dL_setValue_8 : decode cL_setValue 8 = .ok (.sipush (-7777), 3) := by decide +kernel
theorem dL_setValue_11 : decode cL_setValue 11 = .ok (.ireturn, 1) := by decide +kernel
theorem dL_setValue_12 : decode cL_setValue 12 = .ok (.astore_n 3, 1) := by decide +kernel
theorem dL_setValue_13 : decode cL_setValue 13 = .ok (.sipush (-7777), 3) := by decide +kernel
theorem dL_setValue_16 : decode cL_setValue 16 = .ok (.ireturn, 1) := by decide +kernel
theorem dL_setCapacity_0 : decode cL_setCapacity 0 = .ok (.aload_n 0, 1) := by decide +kernel
theorem dL_setCapacity_1 : decode cL_setCapacity 1 = .ok (.iload_n 1, 1) := by decide +kernel
theorem dL_setCapacity_2 : decode cL_setCapacity 2 = .ok (.invokevirtual 78, 3) := by decide +kernel
theorem dL_setCapacity_5 : decode cL_setCapacity 5 = .ok (.ireturn, 1) := by decide +kernel
theorem dL_setCapacity_6 : decode cL_setCapacity 6 = .ok (.astore_n 2, 1) := by decide +kernel
theorem dL_setCapacity_7 : decode cL_setCapacity 7 = .ok (.sipush (-7777), 3) := by decide +kernel
theorem dL_setCapacity_10 : decode cL_setCapacity 10 = .ok (.ireturn, 1) := by decide +kernel
theorem dL_weightAt_0 : decode cL_weightAt 0 = .ok (.aload_n 0, 1) := by decide +kernel
theorem dL_weightAt_1 : decode cL_weightAt 1 = .ok (.iload_n 1, 1) := by decide +kernel
theorem dL_weightAt_2 : decode cL_weightAt 2 = .ok (.invokevirtual 81, 3) := by decide +kernel
theorem dL_weightAt_5 : decode cL_weightAt 5 = .ok (.ireturn, 1) := by decide +kernel
theorem dL_weightAt_6 : decode cL_weightAt 6 = .ok (.astore_n 2, 1) := by decide +kernel
theorem dL_weightAt_7 : decode cL_weightAt 7 = .ok (.sipush (-7777), 3) := by decide +kernel
theorem dL_weightAt_10 : decode cL_weightAt 10 = .ok (.ireturn, 1) := by decide +kernel
theorem dL_planAt_0 : decode cL_planAt 0 = .ok (.aload_n 0, 1) := by decide +kernel
theorem dL_planAt_1 : decode cL_planAt 1 = .ok (.iload_n 1, 1) := by decide +kernel
theorem dL_planAt_2 : decode cL_planAt 2 = .ok (.invokevirtual 84, 3) := by decide +kernel
theorem dL_planAt_5 : decode cL_planAt 5 = .ok (.ireturn, 1) := by decide +kernel
theorem dL_planAt_6 : decode cL_planAt 6 = .ok (.astore_n 2, 1) := by decide +kernel
theorem dL_planAt_7 : decode cL_planAt 7 = .ok (.sipush (-7777), 3) := by decide +kernel
theorem dL_planAt_10 : decode cL_planAt 10 = .ok (.ireturn, 1) := by decide +kernel
theorem dL_runBackups_0 : decode cL_runBackups 0 = .ok (.aload_n 0, 1) := by decide +kernel
theorem dL_runBackups_1 : decode cL_runBackups 1 = .ok (.iload_n 1, 1) := by decide +kernel
theorem dL_runBackups_2 : decode cL_runBackups 2 = .ok (.invokevirtual 87, 3) := by decide +kernel
theorem dL_runBackups_5 : decode cL_runBackups 5 = .ok (.ireturn, 1) := by decide +kernel
theorem dL_runBackups_6 : decode cL_runBackups 6 = .ok (.astore_n 2, 1) := by decide +kernel
theorem dL_runBackups_7 : decode cL_runBackups 7 = .ok (.sipush (-7777), 3) := by decide +kernel
theorem dL_runBackups_10 : decode cL_runBackups 10 = .ok (.ireturn, 1) := by decide +kernel
theorem dL_cell__0 : decode cL_cell_ 0 = .ok (.aload_n 0, 1) := by decide +kernel
theorem dL_cell__1 : decode cL_cell_ 1 = .ok (.iload_n 1, 1) := by decide +kernel
theorem dL_cell__2 : decode cL_cell_ 2 = .ok (.iload_n 2, 1) := by decide +kernel
theorem dL_cell__3 : decode cL_cell_ 3 = .ok (.invokevirtual 96, 3) := by decide +kernel
theorem dL_cell__6 : decode cL_cell_ 6 = .ok (.ireturn, 1) := by decide +kernel
theorem dL_cell__7 : decode cL_cell_ 7 = .ok (.astore_n 3, 1) := by decide +kernel
theorem dL_cell__8 : decode cL_cell_ 8 = .ok (.sipush (-7777), 3) := by decide +kernel
theorem dL_cell__11 : decode cL_cell_ 11 = .ok (.ireturn, 1) := by decide +kernel
theorem dL_pinBest_0 : decode cL_pinBest 0 = .ok (.aload_n 0, 1) := by decide +kernel
theorem dL_pinBest_1 : decode cL_pinBest 1 = .ok (.invokevirtual 105, 3) := by decide +kernel
theorem dL_pinBest_4 : decode cL_pinBest 4 = .ok (.ireturn, 1) := by decide +kernel
theorem dL_pinBest_5 : decode cL_pinBest 5 = .ok (.astore_n 1, 1) := by decide +kernel
theorem dL_pinBest_6 : decode cL_pinBest 6 = .ok (.sipush (-7777), 3) := by decide +kernel
theorem dL_pinBest_9 : decode cL_pinBest 9 = .ok (.ireturn, 1) := by decide +kernel
theorem dL_began_0 : decode cL_began 0 = .ok (.new 111, 3) := by decide +kernel
theorem dL_began_3 : decode cL_began 3 = .ok (.dup, 1) := by decide +kernel
theorem dL_began_4 : decode cL_began 4 = .ok (.invokespecial 113, 3) := by decide +kernel
theorem dL_began_7 : decode cL_began 7 = .ok (.ldc 114, 2) := by decide +kernel
theorem dL_began_9 : decode cL_began 9 = .ok (.invokevirtual 116, 3) := by decide +kernel
theorem dL_began_12 : decode cL_began 12 = .ok (.aload_n 1, 1) := by decide +kernel
theorem dL_began_13 : decode cL_began 13 = .ok (.iconst 0, 1) := by decide +kernel
theorem dL_began_14 : decode cL_began 14 = .ok (.iconst 0, 1) := by decide +kernel
theorem dL_began_15 : decode cL_began 15 = .ok (.bipush 80, 2) := by decide +kernel
theorem dL_began_17 : decode cL_began 17 = .ok (.invokestatic 120, 3) := by decide +kernel
theorem dL_began_20 : decode cL_began 20 = .ok (.invokevirtual 124, 3) := by decide +kernel
theorem dL_began_23 : decode cL_began 23 = .ok (.ldc 127, 2) := by decide +kernel
theorem dL_began_25 : decode cL_began 25 = .ok (.invokevirtual 116, 3) := by decide +kernel
theorem dL_began_28 : decode cL_began 28 = .ok (.invokevirtual 129, 3) := by decide +kernel
theorem dL_began_31 : decode cL_began 31 = .ok (.astore_n 2, 1) := by decide +kernel
theorem dL_began_32 : decode cL_began 32 = .ok (.iconst 5, 1) := by decide +kernel
theorem dL_began_33 : decode cL_began 33 = .ok (.newarray .int, 2) := by decide +kernel
theorem dL_began_35 : decode cL_began 35 = .ok (.astore_n 3, 1) := by decide +kernel
theorem dL_began_36 : decode cL_began 36 = .ok (.iconst 0, 1) := by decide +kernel
theorem dL_began_37 : decode cL_began 37 = .ok (.istore 4, 2) := by decide +kernel
theorem dL_began_39 : decode cL_began 39 = .ok (.iload 4, 2) := by decide +kernel
theorem dL_began_41 : decode cL_began 41 = .ok (.bipush 20, 2) := by decide +kernel
theorem dL_began_43 : decode cL_began 43 = .ok (.if_icmp .ge 49, 3) := by decide +kernel
theorem dL_began_46 : decode cL_began 46 = .ok (.aload_n 3, 1) := by decide +kernel
theorem dL_began_47 : decode cL_began 47 = .ok (.iload 4, 2) := by decide +kernel
theorem dL_began_49 : decode cL_began 49 = .ok (.iconst 4, 1) := by decide +kernel
theorem dL_began_50 : decode cL_began 50 = .ok (.idiv, 1) := by decide +kernel
theorem dL_began_51 : decode cL_began 51 = .ok (.dup2, 1) := by decide +kernel
theorem dL_began_52 : decode cL_began 52 = .ok (.iaload, 1) := by decide +kernel
theorem dL_began_53 : decode cL_began 53 = .ok (.iload 4, 2) := by decide +kernel
theorem dL_began_55 : decode cL_began 55 = .ok (.aload_n 2, 1) := by decide +kernel
theorem dL_began_56 : decode cL_began 56 = .ok (.invokevirtual 133, 3) := by decide +kernel
theorem dL_began_59 : decode cL_began 59 = .ok (.if_icmp .ge 12, 3) := by decide +kernel
theorem dL_began_62 : decode cL_began 62 = .ok (.aload_n 2, 1) := by decide +kernel
theorem dL_began_63 : decode cL_began 63 = .ok (.iload 4, 2) := by decide +kernel
theorem dL_began_65 : decode cL_began 65 = .ok (.invokevirtual 138, 3) := by decide +kernel
theorem dL_began_68 : decode cL_began 68 = .ok (.goto 5, 3) := by decide +kernel
theorem dL_began_71 : decode cL_began 71 = .ok (.bipush 32, 2) := by decide +kernel
theorem dL_began_73 : decode cL_began 73 = .ok (.bipush 24, 2) := by decide +kernel
theorem dL_began_75 : decode cL_began 75 = .ok (.bipush 8, 2) := by decide +kernel
theorem dL_began_77 : decode cL_began 77 = .ok (.iload 4, 2) := by decide +kernel
theorem dL_began_79 : decode cL_began 79 = .ok (.iconst 4, 1) := by decide +kernel
theorem dL_began_80 : decode cL_began 80 = .ok (.irem, 1) := by decide +kernel
theorem dL_began_81 : decode cL_began 81 = .ok (.imul, 1) := by decide +kernel
theorem dL_began_82 : decode cL_began 82 = .ok (.isub, 1) := by decide +kernel
theorem dL_began_83 : decode cL_began 83 = .ok (.ishl, 1) := by decide +kernel
theorem dL_began_84 : decode cL_began 84 = .ok (.ior, 1) := by decide +kernel
theorem dL_began_85 : decode cL_began 85 = .ok (.iastore, 1) := by decide +kernel
theorem dL_began_86 : decode cL_began 86 = .ok (.iinc 4 1, 3) := by decide +kernel
theorem dL_began_89 : decode cL_began 89 = .ok (.goto (-50), 3) := by decide +kernel
theorem dL_began_92 : decode cL_began 92 = .ok (.aload_n 0, 1) := by decide +kernel
theorem dL_began_93 : decode cL_began 93 = .ok (.aload_n 3, 1) := by decide +kernel
theorem dL_began_94 : decode cL_began 94 = .ok (.iconst 0, 1) := by decide +kernel
theorem dL_began_95 : decode cL_began 95 = .ok (.iaload, 1) := by decide +kernel
theorem dL_began_96 : decode cL_began 96 = .ok (.aload_n 3, 1) := by decide +kernel
theorem dL_began_97 : decode cL_began 97 = .ok (.iconst 1, 1) := by decide +kernel
theorem dL_began_98 : decode cL_began 98 = .ok (.iaload, 1) := by decide +kernel
theorem dL_began_99 : decode cL_began 99 = .ok (.aload_n 3, 1) := by decide +kernel
theorem dL_began_100 : decode cL_began 100 = .ok (.iconst 2, 1) := by decide +kernel
theorem dL_began_101 : decode cL_began 101 = .ok (.iaload, 1) := by decide +kernel
theorem dL_began_102 : decode cL_began 102 = .ok (.aload_n 3, 1) := by decide +kernel
theorem dL_began_103 : decode cL_began 103 = .ok (.iconst 3, 1) := by decide +kernel
theorem dL_began_104 : decode cL_began 104 = .ok (.iaload, 1) := by decide +kernel
theorem dL_began_105 : decode cL_began 105 = .ok (.aload_n 3, 1) := by decide +kernel
theorem dL_began_106 : decode cL_began 106 = .ok (.iconst 4, 1) := by decide +kernel
theorem dL_began_107 : decode cL_began 107 = .ok (.iaload, 1) := by decide +kernel
theorem dL_began_108 : decode cL_began 108 = .ok (.invokevirtual 142, 3) := by decide +kernel
theorem dL_began_111 : decode cL_began 111 = .ok (.pop, 1) := by decide +kernel
theorem dL_began_112 : decode cL_began 112 = .ok (.aload_n 0, 1) := by decide +kernel
theorem dL_began_113 : decode cL_began 113 = .ok (.invokevirtual 145, 3) := by decide +kernel
theorem dL_began_116 : decode cL_began 116 = .ok (.ireturn, 1) := by decide +kernel
theorem dL_act_0 : decode cL_act 0 = .ok (.aload_n 1, 1) := by decide +kernel
theorem dL_act_1 : decode cL_act 1 = .ok (.iload_n 2, 1) := by decide +kernel
theorem dL_act_2 : decode cL_act 2 = .ok (.iconst 1, 1) := by decide +kernel
theorem dL_act_3 : decode cL_act 3 = .ok (.iadd, 1) := by decide +kernel
theorem dL_act_4 : decode cL_act 4 = .ok (.invokestatic 7, 3) := by decide +kernel
theorem dL_act_7 : decode cL_act 7 = .ok (.ldc 148, 2) := by decide +kernel
theorem dL_act_9 : decode cL_act 9 = .ok (.iand, 1) := by decide +kernel
theorem dL_act_10 : decode cL_act 10 = .ok (.istore_n 3, 1) := by decide +kernel
theorem dL_act_11 : decode cL_act 11 = .ok (.iload_n 3, 1) := by decide +kernel
theorem dL_act_12 : decode cL_act 12 = .ok (.iconst 1, 1) := by decide +kernel
theorem dL_act_13 : decode cL_act 13 = .ok (.aload_n 0, 1) := by decide +kernel
theorem dL_act_14 : decode cL_act 14 = .ok (.invokevirtual 149, 3) := by decide +kernel
theorem dL_act_17 : decode cL_act 17 = .ok (.invokestatic 152, 3) := by decide +kernel
theorem dL_act_20 : decode cL_act 20 = .ok (.irem, 1) := by decide +kernel
theorem dL_act_21 : decode cL_act 21 = .ok (.istore 4, 2) := by decide +kernel
theorem dL_act_23 : decode cL_act 23 = .ok (.iconst 1, 1) := by decide +kernel
theorem dL_act_24 : decode cL_act 24 = .ok (.iload_n 3, 1) := by decide +kernel
theorem dL_act_25 : decode cL_act 25 = .ok (.bipush 16, 2) := by decide +kernel
theorem dL_act_27 : decode cL_act 27 = .ok (.idiv, 1) := by decide +kernel
theorem dL_act_28 : decode cL_act 28 = .ok (.iload_n 3, 1) := by decide +kernel
theorem dL_act_29 : decode cL_act 29 = .ok (.iconst 3, 1) := by decide +kernel
theorem dL_act_30 : decode cL_act 30 = .ok (.irem, 1) := by decide +kernel
theorem dL_act_31 : decode cL_act 31 = .ok (.ifCond .ne 8, 3) := by decide +kernel
theorem dL_act_34 : decode cL_act 34 = .ok (.bipush 60, 2) := by decide +kernel
theorem dL_act_36 : decode cL_act 36 = .ok (.goto 5, 3) := by decide +kernel
theorem dL_act_39 : decode cL_act 39 = .ok (.bipush 15, 2) := by decide +kernel
theorem dL_act_41 : decode cL_act 41 = .ok (.irem, 1) := by decide +kernel
theorem dL_act_42 : decode cL_act 42 = .ok (.iadd, 1) := by decide +kernel
theorem dL_act_43 : decode cL_act 43 = .ok (.istore 5, 2) := by decide +kernel
theorem dL_act_45 : decode cL_act 45 = .ok (.iload_n 3, 1) := by decide +kernel
theorem dL_act_46 : decode cL_act 46 = .ok (.sipush 1024, 3) := by decide +kernel
theorem dL_act_49 : decode cL_act 49 = .ok (.idiv, 1) := by decide +kernel
theorem dL_act_50 : decode cL_act 50 = .ok (.iload_n 3, 1) := by decide +kernel
theorem dL_act_51 : decode cL_act 51 = .ok (.iconst 4, 1) := by decide +kernel
theorem dL_act_52 : decode cL_act 52 = .ok (.irem, 1) := by decide +kernel
theorem dL_act_53 : decode cL_act 53 = .ok (.ifCond .ne 9, 3) := by decide +kernel
theorem dL_act_56 : decode cL_act 56 = .ok (.sipush 1000, 3) := by decide +kernel
theorem dL_act_59 : decode cL_act 59 = .ok (.goto 5, 3) := by decide +kernel
theorem dL_act_62 : decode cL_act 62 = .ok (.bipush 8, 2) := by decide +kernel
theorem dL_act_64 : decode cL_act 64 = .ok (.irem, 1) := by decide +kernel
theorem dL_act_65 : decode cL_act 65 = .ok (.istore 6, 2) := by decide +kernel
theorem dL_act_67 : decode cL_act 67 = .ok (.aload_n 1, 1) := by decide +kernel
theorem dL_act_68 : decode cL_act 68 = .ok (.iload_n 2, 1) := by decide +kernel
theorem dL_act_69 : decode cL_act 69 = .ok (.iconst 0, 1) := by decide +kernel
theorem dL_act_70 : decode cL_act 70 = .ok (.bipush 16, 2) := by decide +kernel
theorem dL_act_72 : decode cL_act 72 = .ok (.invokestatic 120, 3) := by decide +kernel
theorem dL_act_75 : decode cL_act 75 = .ok (.tableswitch 188 0 14 #[73, 73, 73, 73, 73, 85, 95, 107, 119, 129, 139, 149, 149, 164, 172], 73) := by decide +kernel
theorem dL_act_148 : decode cL_act 148 = .ok (.aload_n 0, 1) := by decide +kernel
theorem dL_act_149 : decode cL_act 149 = .ok (.iload 5, 2) := by decide +kernel
theorem dL_act_151 : decode cL_act 151 = .ok (.iload 6, 2) := by decide +kernel
theorem dL_act_153 : decode cL_act 153 = .ok (.invokestatic 155, 3) := by decide +kernel
theorem dL_act_156 : decode cL_act 156 = .ok (.pop, 1) := by decide +kernel
theorem dL_act_157 : decode cL_act 157 = .ok (.goto 145, 3) := by decide +kernel
theorem dL_act_160 : decode cL_act 160 = .ok (.aload_n 0, 1) := by decide +kernel
theorem dL_act_161 : decode cL_act 161 = .ok (.iload 4, 2) := by decide +kernel
theorem dL_act_163 : decode cL_act 163 = .ok (.invokestatic 158, 3) := by decide +kernel
theorem dL_act_166 : decode cL_act 166 = .ok (.pop, 1) := by decide +kernel
theorem dL_act_167 : decode cL_act 167 = .ok (.goto 135, 3) := by decide +kernel
theorem dL_act_170 : decode cL_act 170 = .ok (.aload_n 0, 1) := by decide +kernel
theorem dL_act_171 : decode cL_act 171 = .ok (.iload 4, 2) := by decide +kernel
theorem dL_act_173 : decode cL_act 173 = .ok (.iload 5, 2) := by decide +kernel
theorem dL_act_175 : decode cL_act 175 = .ok (.invokestatic 161, 3) := by decide +kernel
theorem dL_act_178 : decode cL_act 178 = .ok (.pop, 1) := by decide +kernel
theorem dL_act_179 : decode cL_act 179 = .ok (.goto 123, 3) := by decide +kernel
theorem dL_act_182 : decode cL_act 182 = .ok (.aload_n 0, 1) := by decide +kernel
theorem dL_act_183 : decode cL_act 183 = .ok (.iload 4, 2) := by decide +kernel
theorem dL_act_185 : decode cL_act 185 = .ok (.iload 6, 2) := by decide +kernel
theorem dL_act_187 : decode cL_act 187 = .ok (.invokestatic 163, 3) := by decide +kernel
theorem dL_act_190 : decode cL_act 190 = .ok (.pop, 1) := by decide +kernel
theorem dL_act_191 : decode cL_act 191 = .ok (.goto 111, 3) := by decide +kernel
theorem dL_act_194 : decode cL_act 194 = .ok (.aload_n 0, 1) := by decide +kernel
theorem dL_act_195 : decode cL_act 195 = .ok (.iload 4, 2) := by decide +kernel
theorem dL_act_197 : decode cL_act 197 = .ok (.invokestatic 165, 3) := by decide +kernel
theorem dL_act_200 : decode cL_act 200 = .ok (.pop, 1) := by decide +kernel
theorem dL_act_201 : decode cL_act 201 = .ok (.goto 101, 3) := by decide +kernel
theorem dL_act_204 : decode cL_act 204 = .ok (.aload_n 0, 1) := by decide +kernel
theorem dL_act_205 : decode cL_act 205 = .ok (.iload 4, 2) := by decide +kernel
theorem dL_act_207 : decode cL_act 207 = .ok (.invokestatic 167, 3) := by decide +kernel
theorem dL_act_210 : decode cL_act 210 = .ok (.pop, 1) := by decide +kernel
theorem dL_act_211 : decode cL_act 211 = .ok (.goto 91, 3) := by decide +kernel
theorem dL_act_214 : decode cL_act 214 = .ok (.aload_n 0, 1) := by decide +kernel
theorem dL_act_215 : decode cL_act 215 = .ok (.iload 4, 2) := by decide +kernel
theorem dL_act_217 : decode cL_act 217 = .ok (.invokestatic 169, 3) := by decide +kernel
theorem dL_act_220 : decode cL_act 220 = .ok (.pop, 1) := by decide +kernel
theorem dL_act_221 : decode cL_act 221 = .ok (.goto 81, 3) := by decide +kernel
theorem dL_act_224 : decode cL_act 224 = .ok (.aload_n 0, 1) := by decide +kernel
theorem dL_act_225 : decode cL_act 225 = .ok (.iload_n 3, 1) := by decide +kernel
theorem dL_act_226 : decode cL_act 226 = .ok (.bipush 16, 2) := by decide +kernel
theorem dL_act_228 : decode cL_act 228 = .ok (.idiv, 1) := by decide +kernel
theorem dL_act_229 : decode cL_act 229 = .ok (.bipush 101, 2) := by decide +kernel
theorem dL_act_231 : decode cL_act 231 = .ok (.irem, 1) := by decide +kernel
theorem dL_act_232 : decode cL_act 232 = .ok (.invokestatic 171, 3) := by decide +kernel
theorem dL_act_235 : decode cL_act 235 = .ok (.pop, 1) := by decide +kernel
theorem dL_act_236 : decode cL_act 236 = .ok (.goto 66, 3) := by decide +kernel
theorem dL_act_239 : decode cL_act 239 = .ok (.aload_n 0, 1) := by decide +kernel
theorem dL_act_240 : decode cL_act 240 = .ok (.invokevirtual 173, 3) := by decide +kernel
theorem dL_act_243 : decode cL_act 243 = .ok (.pop, 1) := by decide +kernel
theorem dL_act_244 : decode cL_act 244 = .ok (.goto 58, 3) := by decide +kernel
theorem dL_act_247 : decode cL_act 247 = .ok (.aload_n 0, 1) := by decide +kernel
theorem dL_act_248 : decode cL_act 248 = .ok (.iconst 1, 1) := by decide +kernel
theorem dL_act_249 : decode cL_act 249 = .ok (.iload_n 3, 1) := by decide +kernel
theorem dL_act_250 : decode cL_act 250 = .ok (.bipush 16, 2) := by decide +kernel
theorem dL_act_252 : decode cL_act 252 = .ok (.idiv, 1) := by decide +kernel
theorem dL_act_253 : decode cL_act 253 = .ok (.iconst 5, 1) := by decide +kernel
theorem dL_act_254 : decode cL_act 254 = .ok (.irem, 1) := by decide +kernel
theorem dL_act_255 : decode cL_act 255 = .ok (.iadd, 1) := by decide +kernel
theorem dL_act_256 : decode cL_act 256 = .ok (.invokestatic 176, 3) := by decide +kernel
theorem dL_act_259 : decode cL_act 259 = .ok (.pop, 1) := by decide +kernel
theorem dL_act_260 : decode cL_act 260 = .ok (.goto 42, 3) := by decide +kernel
theorem dL_act_263 : decode cL_act 263 = .ok (.iload_n 3, 1) := by decide +kernel
theorem dL_act_264 : decode cL_act 264 = .ok (.iconst 3, 1) := by decide +kernel
theorem dL_act_265 : decode cL_act 265 = .ok (.irem, 1) := by decide +kernel
theorem dL_act_266 : decode cL_act 266 = .ok (.ifCond .ne 11, 3) := by decide +kernel
theorem dL_act_269 : decode cL_act 269 = .ok (.aload_n 0, 1) := by decide +kernel
theorem dL_act_270 : decode cL_act 270 = .ok (.invokestatic 178, 3) := by decide +kernel
theorem dL_act_273 : decode cL_act 273 = .ok (.pop, 1) := by decide +kernel
theorem dL_act_274 : decode cL_act 274 = .ok (.goto 28, 3) := by decide +kernel
theorem dL_act_277 : decode cL_act 277 = .ok (.iconst 0, 1) := by decide +kernel
theorem dL_act_278 : decode cL_act 278 = .ok (.istore 7, 2) := by decide +kernel
theorem dL_act_280 : decode cL_act 280 = .ok (.iload 7, 2) := by decide +kernel
theorem dL_act_282 : decode cL_act 282 = .ok (.aload_n 0, 1) := by decide +kernel
theorem dL_act_283 : decode cL_act 283 = .ok (.invokevirtual 149, 3) := by decide +kernel
theorem dL_act_286 : decode cL_act 286 = .ok (.if_icmp .ge 16, 3) := by decide +kernel
theorem dL_act_289 : decode cL_act 289 = .ok (.aload_n 0, 1) := by decide +kernel
theorem dL_act_290 : decode cL_act 290 = .ok (.iload 7, 2) := by decide +kernel
theorem dL_act_292 : decode cL_act 292 = .ok (.invokestatic 169, 3) := by decide +kernel
theorem dL_act_295 : decode cL_act 295 = .ok (.pop, 1) := by decide +kernel
theorem dL_act_296 : decode cL_act 296 = .ok (.iinc 7 1, 3) := by decide +kernel
theorem dL_act_299 : decode cL_act 299 = .ok (.goto (-19), 3) := by decide +kernel
theorem dL_act_302 : decode cL_act 302 = .ok (.return_, 1) := by decide +kernel
theorem dL_sizeOf_0 : decode cL_sizeOf 0 = .ok (.iconst 0, 1) := by decide +kernel
theorem dL_sizeOf_1 : decode cL_sizeOf 1 = .ok (.istore_n 2, 1) := by decide +kernel
theorem dL_sizeOf_2 : decode cL_sizeOf 2 = .ok (.iconst 0, 1) := by decide +kernel
theorem dL_sizeOf_3 : decode cL_sizeOf 3 = .ok (.istore_n 3, 1) := by decide +kernel
theorem dL_sizeOf_4 : decode cL_sizeOf 4 = .ok (.iload_n 3, 1) := by decide +kernel
theorem dL_sizeOf_5 : decode cL_sizeOf 5 = .ok (.aload_n 0, 1) := by decide +kernel
theorem dL_sizeOf_6 : decode cL_sizeOf 6 = .ok (.invokevirtual 149, 3) := by decide +kernel
theorem dL_sizeOf_9 : decode cL_sizeOf 9 = .ok (.if_icmp .ge 30, 3) := by decide +kernel
theorem dL_sizeOf_12 : decode cL_sizeOf 12 = .ok (.iload_n 2, 1) := by decide +kernel
theorem dL_sizeOf_13 : decode cL_sizeOf 13 = .ok (.iload_n 1, 1) := by decide +kernel
theorem dL_sizeOf_14 : decode cL_sizeOf 14 = .ok (.iload_n 3, 1) := by decide +kernel
theorem dL_sizeOf_15 : decode cL_sizeOf 15 = .ok (.ishr, 1) := by decide +kernel
theorem dL_sizeOf_16 : decode cL_sizeOf 16 = .ok (.iconst 1, 1) := by decide +kernel
theorem dL_sizeOf_17 : decode cL_sizeOf 17 = .ok (.iand, 1) := by decide +kernel
theorem dL_sizeOf_18 : decode cL_sizeOf 18 = .ok (.iconst 1, 1) := by decide +kernel
theorem dL_sizeOf_19 : decode cL_sizeOf 19 = .ok (.if_icmp .ne 11, 3) := by decide +kernel
theorem dL_sizeOf_22 : decode cL_sizeOf 22 = .ok (.aload_n 0, 1) := by decide +kernel
theorem dL_sizeOf_23 : decode cL_sizeOf 23 = .ok (.iload_n 3, 1) := by decide +kernel
theorem dL_sizeOf_24 : decode cL_sizeOf 24 = .ok (.invokestatic 181, 3) := by decide +kernel
theorem dL_sizeOf_27 : decode cL_sizeOf 27 = .ok (.goto 4, 3) := by decide +kernel
theorem dL_sizeOf_30 : decode cL_sizeOf 30 = .ok (.iconst 0, 1) := by decide +kernel
theorem dL_sizeOf_31 : decode cL_sizeOf 31 = .ok (.iadd, 1) := by decide +kernel
theorem dL_sizeOf_32 : decode cL_sizeOf 32 = .ok (.istore_n 2, 1) := by decide +kernel
theorem dL_sizeOf_33 : decode cL_sizeOf 33 = .ok (.iinc 3 1, 3) := by decide +kernel
theorem dL_sizeOf_36 : decode cL_sizeOf 36 = .ok (.goto (-32), 3) := by decide +kernel
theorem dL_sizeOf_39 : decode cL_sizeOf 39 = .ok (.iload_n 2, 1) := by decide +kernel
theorem dL_sizeOf_40 : decode cL_sizeOf 40 = .ok (.ireturn, 1) := by decide +kernel
theorem dL_weightOf_0 : decode cL_weightOf 0 = .ok (.iconst 0, 1) := by decide +kernel
theorem dL_weightOf_1 : decode cL_weightOf 1 = .ok (.istore_n 2, 1) := by decide +kernel
theorem dL_weightOf_2 : decode cL_weightOf 2 = .ok (.iconst 0, 1) := by decide +kernel
theorem dL_weightOf_3 : decode cL_weightOf 3 = .ok (.istore_n 3, 1) := by decide +kernel
theorem dL_weightOf_4 : decode cL_weightOf 4 = .ok (.iload_n 3, 1) := by decide +kernel
theorem dL_weightOf_5 : decode cL_weightOf 5 = .ok (.aload_n 0, 1) := by decide +kernel
theorem dL_weightOf_6 : decode cL_weightOf 6 = .ok (.invokevirtual 149, 3) := by decide +kernel
theorem dL_weightOf_9 : decode cL_weightOf 9 = .ok (.if_icmp .ge 30, 3) := by decide +kernel
theorem dL_weightOf_12 : decode cL_weightOf 12 = .ok (.iload_n 2, 1) := by decide +kernel
theorem dL_weightOf_13 : decode cL_weightOf 13 = .ok (.iload_n 1, 1) := by decide +kernel
theorem dL_weightOf_14 : decode cL_weightOf 14 = .ok (.iload_n 3, 1) := by decide +kernel
theorem dL_weightOf_15 : decode cL_weightOf 15 = .ok (.ishr, 1) := by decide +kernel
theorem dL_weightOf_16 : decode cL_weightOf 16 = .ok (.iconst 1, 1) := by decide +kernel
theorem dL_weightOf_17 : decode cL_weightOf 17 = .ok (.iand, 1) := by decide +kernel
theorem dL_weightOf_18 : decode cL_weightOf 18 = .ok (.iconst 1, 1) := by decide +kernel
theorem dL_weightOf_19 : decode cL_weightOf 19 = .ok (.if_icmp .ne 11, 3) := by decide +kernel
theorem dL_weightOf_22 : decode cL_weightOf 22 = .ok (.aload_n 0, 1) := by decide +kernel
theorem dL_weightOf_23 : decode cL_weightOf 23 = .ok (.iload_n 3, 1) := by decide +kernel
theorem dL_weightOf_24 : decode cL_weightOf 24 = .ok (.invokestatic 183, 3) := by decide +kernel
theorem dL_weightOf_27 : decode cL_weightOf 27 = .ok (.goto 4, 3) := by decide +kernel
theorem dL_weightOf_30 : decode cL_weightOf 30 = .ok (.iconst 0, 1) := by decide +kernel
theorem dL_weightOf_31 : decode cL_weightOf 31 = .ok (.iadd, 1) := by decide +kernel
theorem dL_weightOf_32 : decode cL_weightOf 32 = .ok (.istore_n 2, 1) := by decide +kernel
theorem dL_weightOf_33 : decode cL_weightOf 33 = .ok (.iinc 3 1, 3) := by decide +kernel
theorem dL_weightOf_36 : decode cL_weightOf 36 = .ok (.goto (-32), 3) := by decide +kernel
theorem dL_weightOf_39 : decode cL_weightOf 39 = .ok (.iload_n 2, 1) := by decide +kernel
theorem dL_weightOf_40 : decode cL_weightOf 40 = .ok (.ireturn, 1) := by decide +kernel
theorem dL_isSound_0 : decode cL_isSound 0 = .ok (.aload_n 0, 1) := by decide +kernel
theorem dL_isSound_1 : decode cL_isSound 1 = .ok (.invokevirtual 185, 3) := by decide +kernel
theorem dL_isSound_4 : decode cL_isSound 4 = .ok (.ifCond .eq 5, 3) := by decide +kernel
theorem dL_isSound_7 : decode cL_isSound 7 = .ok (.iconst 0, 1) := by decide +kernel
theorem dL_isSound_8 : decode cL_isSound 8 = .ok (.ireturn, 1) := by decide +kernel
theorem dL_isSound_9 : decode cL_isSound 9 = .ok (.iconst 0, 1) := by decide +kernel
theorem dL_isSound_10 : decode cL_isSound 10 = .ok (.istore_n 1, 1) := by decide +kernel
theorem dL_isSound_11 : decode cL_isSound 11 = .ok (.iconst 0, 1) := by decide +kernel
theorem dL_isSound_12 : decode cL_isSound 12 = .ok (.istore_n 2, 1) := by decide +kernel
theorem dL_isSound_13 : decode cL_isSound 13 = .ok (.iconst 0, 1) := by decide +kernel
theorem dL_isSound_14 : decode cL_isSound 14 = .ok (.istore_n 3, 1) := by decide +kernel
theorem dL_isSound_15 : decode cL_isSound 15 = .ok (.iconst 0, 1) := by decide +kernel
theorem dL_isSound_16 : decode cL_isSound 16 = .ok (.istore 4, 2) := by decide +kernel
theorem dL_isSound_18 : decode cL_isSound 18 = .ok (.iload 4, 2) := by decide +kernel
theorem dL_isSound_20 : decode cL_isSound 20 = .ok (.aload_n 0, 1) := by decide +kernel
theorem dL_isSound_21 : decode cL_isSound 21 = .ok (.invokevirtual 149, 3) := by decide +kernel
theorem dL_isSound_24 : decode cL_isSound 24 = .ok (.if_icmp .ge 110, 3) := by decide +kernel
theorem dL_isSound_27 : decode cL_isSound 27 = .ok (.aload_n 0, 1) := by decide +kernel
theorem dL_isSound_28 : decode cL_isSound 28 = .ok (.iload 4, 2) := by decide +kernel
theorem dL_isSound_30 : decode cL_isSound 30 = .ok (.invokestatic 188, 3) := by decide +kernel
theorem dL_isSound_33 : decode cL_isSound 33 = .ok (.istore 5, 2) := by decide +kernel
theorem dL_isSound_35 : decode cL_isSound 35 = .ok (.iload_n 1, 1) := by decide +kernel
theorem dL_isSound_36 : decode cL_isSound 36 = .ok (.iload 5, 2) := by decide +kernel
theorem dL_isSound_38 : decode cL_isSound 38 = .ok (.iconst 1, 1) := by decide +kernel
theorem dL_isSound_39 : decode cL_isSound 39 = .ok (.if_icmp .ne 10, 3) := by decide +kernel
theorem dL_isSound_42 : decode cL_isSound 42 = .ok (.iconst 1, 1) := by decide +kernel
theorem dL_isSound_43 : decode cL_isSound 43 = .ok (.iload 4, 2) := by decide +kernel
theorem dL_isSound_45 : decode cL_isSound 45 = .ok (.ishl, 1) := by decide +kernel
theorem dL_isSound_46 : decode cL_isSound 46 = .ok (.goto 4, 3) := by decide +kernel
theorem dL_isSound_49 : decode cL_isSound 49 = .ok (.iconst 0, 1) := by decide +kernel
theorem dL_isSound_50 : decode cL_isSound 50 = .ok (.ior, 1) := by decide +kernel
theorem dL_isSound_51 : decode cL_isSound 51 = .ok (.istore_n 1, 1) := by decide +kernel
theorem dL_isSound_52 : decode cL_isSound 52 = .ok (.iload_n 2, 1) := by decide +kernel
theorem dL_isSound_53 : decode cL_isSound 53 = .ok (.iload 5, 2) := by decide +kernel
theorem dL_isSound_55 : decode cL_isSound 55 = .ok (.iconst 2, 1) := by decide +kernel
theorem dL_isSound_56 : decode cL_isSound 56 = .ok (.if_icmp .ne 10, 3) := by decide +kernel
theorem dL_isSound_59 : decode cL_isSound 59 = .ok (.iconst 1, 1) := by decide +kernel
theorem dL_isSound_60 : decode cL_isSound 60 = .ok (.iload 4, 2) := by decide +kernel
theorem dL_isSound_62 : decode cL_isSound 62 = .ok (.ishl, 1) := by decide +kernel
theorem dL_isSound_63 : decode cL_isSound 63 = .ok (.goto 4, 3) := by decide +kernel
theorem dL_isSound_66 : decode cL_isSound 66 = .ok (.iconst 0, 1) := by decide +kernel
theorem dL_isSound_67 : decode cL_isSound 67 = .ok (.ior, 1) := by decide +kernel
theorem dL_isSound_68 : decode cL_isSound 68 = .ok (.istore_n 2, 1) := by decide +kernel
theorem dL_isSound_69 : decode cL_isSound 69 = .ok (.iload_n 3, 1) := by decide +kernel
theorem dL_isSound_70 : decode cL_isSound 70 = .ok (.iload 5, 2) := by decide +kernel
theorem dL_isSound_72 : decode cL_isSound 72 = .ok (.ifCond .ne 7, 3) := by decide +kernel
theorem dL_isSound_75 : decode cL_isSound 75 = .ok (.iconst 1, 1) := by decide +kernel
theorem dL_isSound_76 : decode cL_isSound 76 = .ok (.goto 4, 3) := by decide +kernel
theorem dL_isSound_79 : decode cL_isSound 79 = .ok (.iconst 0, 1) := by decide +kernel
theorem dL_isSound_80 : decode cL_isSound 80 = .ok (.iadd, 1) := by decide +kernel
theorem dL_isSound_81 : decode cL_isSound 81 = .ok (.istore_n 3, 1) := by decide +kernel
theorem dL_isSound_82 : decode cL_isSound 82 = .ok (.aload_n 0, 1) := by decide +kernel
theorem dL_isSound_83 : decode cL_isSound 83 = .ok (.iload 4, 2) := by decide +kernel
theorem dL_isSound_85 : decode cL_isSound 85 = .ok (.invokestatic 190, 3) := by decide +kernel
theorem dL_isSound_88 : decode cL_isSound 88 = .ok (.ifCond .lt 38, 3) := by decide +kernel
theorem dL_isSound_91 : decode cL_isSound 91 = .ok (.aload_n 0, 1) := by decide +kernel
theorem dL_isSound_92 : decode cL_isSound 92 = .ok (.iload 4, 2) := by decide +kernel
theorem dL_isSound_94 : decode cL_isSound 94 = .ok (.invokestatic 190, 3) := by decide +kernel
theorem dL_isSound_97 : decode cL_isSound 97 = .ok (.bipush 9, 2) := by decide +kernel
theorem dL_isSound_99 : decode cL_isSound 99 = .ok (.if_icmp .gt 27, 3) := by decide +kernel
theorem dL_isSound_102 : decode cL_isSound 102 = .ok (.aload_n 0, 1) := by decide +kernel
theorem dL_isSound_103 : decode cL_isSound 103 = .ok (.iload 4, 2) := by decide +kernel
theorem dL_isSound_105 : decode cL_isSound 105 = .ok (.invokestatic 183, 3) := by decide +kernel
theorem dL_isSound_108 : decode cL_isSound 108 = .ok (.aload_n 0, 1) := by decide +kernel
theorem dL_isSound_109 : decode cL_isSound 109 = .ok (.iload 4, 2) := by decide +kernel
theorem dL_isSound_111 : decode cL_isSound 111 = .ok (.invokestatic 192, 3) := by decide +kernel
theorem dL_isSound_114 : decode cL_isSound 114 = .ok (.iconst 1, 1) := by decide +kernel
theorem dL_isSound_115 : decode cL_isSound 115 = .ok (.aload_n 0, 1) := by decide +kernel
theorem dL_isSound_116 : decode cL_isSound 116 = .ok (.iload 4, 2) := by decide +kernel
theorem dL_isSound_118 : decode cL_isSound 118 = .ok (.invokestatic 190, 3) := by decide +kernel
theorem dL_isSound_121 : decode cL_isSound 121 = .ok (.iadd, 1) := by decide +kernel
theorem dL_isSound_122 : decode cL_isSound 122 = .ok (.imul, 1) := by decide +kernel
theorem dL_isSound_123 : decode cL_isSound 123 = .ok (.if_icmp .eq 5, 3) := by decide +kernel
theorem dL_isSound_126 : decode cL_isSound 126 = .ok (.iconst 0, 1) := by decide +kernel
theorem dL_isSound_127 : decode cL_isSound 127 = .ok (.ireturn, 1) := by decide +kernel
theorem dL_isSound_128 : decode cL_isSound 128 = .ok (.iinc 4 1, 3) := by decide +kernel
theorem dL_isSound_131 : decode cL_isSound 131 = .ok (.goto (-113), 3) := by decide +kernel
theorem dL_isSound_134 : decode cL_isSound 134 = .ok (.aload_n 0, 1) := by decide +kernel
theorem dL_isSound_135 : decode cL_isSound 135 = .ok (.invokevirtual 194, 3) := by decide +kernel
theorem dL_isSound_138 : decode cL_isSound 138 = .ok (.iload_n 1, 1) := by decide +kernel
theorem dL_isSound_139 : decode cL_isSound 139 = .ok (.if_icmp .ne 46, 3) := by decide +kernel
theorem dL_isSound_142 : decode cL_isSound 142 = .ok (.aload_n 0, 1) := by decide +kernel
theorem dL_isSound_143 : decode cL_isSound 143 = .ok (.invokevirtual 197, 3) := by decide +kernel
theorem dL_isSound_146 : decode cL_isSound 146 = .ok (.aload_n 0, 1) := by decide +kernel
theorem dL_isSound_147 : decode cL_isSound 147 = .ok (.iload_n 1, 1) := by decide +kernel
theorem dL_isSound_148 : decode cL_isSound 148 = .ok (.invokestatic 200, 3) := by decide +kernel
theorem dL_isSound_151 : decode cL_isSound 151 = .ok (.if_icmp .ne 34, 3) := by decide +kernel
theorem dL_isSound_154 : decode cL_isSound 154 = .ok (.aload_n 0, 1) := by decide +kernel
theorem dL_isSound_155 : decode cL_isSound 155 = .ok (.invokevirtual 203, 3) := by decide +kernel
theorem dL_isSound_158 : decode cL_isSound 158 = .ok (.iload_n 3, 1) := by decide +kernel
theorem dL_isSound_159 : decode cL_isSound 159 = .ok (.if_icmp .ne 26, 3) := by decide +kernel
theorem dL_isSound_162 : decode cL_isSound 162 = .ok (.aload_n 0, 1) := by decide +kernel
theorem dL_isSound_163 : decode cL_isSound 163 = .ok (.invokevirtual 206, 3) := by decide +kernel
theorem dL_isSound_166 : decode cL_isSound 166 = .ok (.aload_n 0, 1) := by decide +kernel
theorem dL_isSound_167 : decode cL_isSound 167 = .ok (.invokevirtual 197, 3) := by decide +kernel
theorem dL_isSound_170 : decode cL_isSound 170 = .ok (.aload_n 0, 1) := by decide +kernel
theorem dL_isSound_171 : decode cL_isSound 171 = .ok (.invokevirtual 210, 3) := by decide +kernel
theorem dL_isSound_174 : decode cL_isSound 174 = .ok (.if_icmp .gt 7, 3) := by decide +kernel
theorem dL_isSound_177 : decode cL_isSound 177 = .ok (.iconst 1, 1) := by decide +kernel
theorem dL_isSound_178 : decode cL_isSound 178 = .ok (.goto 4, 3) := by decide +kernel
theorem dL_isSound_181 : decode cL_isSound 181 = .ok (.iconst 0, 1) := by decide +kernel
theorem dL_isSound_182 : decode cL_isSound 182 = .ok (.if_icmp .eq 5, 3) := by decide +kernel
theorem dL_isSound_185 : decode cL_isSound 185 = .ok (.iconst 0, 1) := by decide +kernel
theorem dL_isSound_186 : decode cL_isSound 186 = .ok (.ireturn, 1) := by decide +kernel
theorem dL_isSound_187 : decode cL_isSound 187 = .ok (.aload_n 0, 1) := by decide +kernel
theorem dL_isSound_188 : decode cL_isSound 188 = .ok (.invokevirtual 213, 3) := by decide +kernel
theorem dL_isSound_191 : decode cL_isSound 191 = .ok (.istore 4, 2) := by decide +kernel
theorem dL_isSound_193 : decode cL_isSound 193 = .ok (.aload_n 0, 1) := by decide +kernel
theorem dL_isSound_194 : decode cL_isSound 194 = .ok (.invokevirtual 216, 3) := by decide +kernel
theorem dL_isSound_197 : decode cL_isSound 197 = .ok (.istore 5, 2) := by decide +kernel
theorem dL_isSound_199 : decode cL_isSound 199 = .ok (.aload_n 0, 1) := by decide +kernel
theorem dL_isSound_200 : decode cL_isSound 200 = .ok (.invokevirtual 206, 3) := by decide +kernel
theorem dL_isSound_203 : decode cL_isSound 203 = .ok (.ifCond .ne 60, 3) := by decide +kernel
theorem dL_isSound_206 : decode cL_isSound 206 = .ok (.iload 4, 2) := by decide +kernel
theorem dL_isSound_208 : decode cL_isSound 208 = .ok (.iconst (-1), 1) := by decide +kernel
theorem dL_isSound_209 : decode cL_isSound 209 = .ok (.if_icmp .ne 52, 3) := by decide +kernel
theorem dL_isSound_212 : decode cL_isSound 212 = .ok (.iload 5, 2) := by decide +kernel
theorem dL_isSound_214 : decode cL_isSound 214 = .ok (.iconst (-1), 1) := by decide +kernel
theorem dL_isSound_215 : decode cL_isSound 215 = .ok (.if_icmp .ne 46, 3) := by decide +kernel
theorem dL_isSound_218 : decode cL_isSound 218 = .ok (.aload_n 0, 1) := by decide +kernel
theorem dL_isSound_219 : decode cL_isSound 219 = .ok (.invokevirtual 219, 3) := by decide +kernel
theorem dL_isSound_222 : decode cL_isSound 222 = .ok (.iconst (-1), 1) := by decide +kernel
theorem dL_isSound_223 : decode cL_isSound 223 = .ok (.if_icmp .ne 38, 3) := by decide +kernel
theorem dL_isSound_226 : decode cL_isSound 226 = .ok (.aload_n 0, 1) := by decide +kernel
theorem dL_isSound_227 : decode cL_isSound 227 = .ok (.invokevirtual 222, 3) := by decide +kernel
theorem dL_isSound_230 : decode cL_isSound 230 = .ok (.iconst (-1), 1) := by decide +kernel
theorem dL_isSound_231 : decode cL_isSound 231 = .ok (.if_icmp .ne 30, 3) := by decide +kernel
theorem dL_isSound_234 : decode cL_isSound 234 = .ok (.aload_n 0, 1) := by decide +kernel
theorem dL_isSound_235 : decode cL_isSound 235 = .ok (.invokevirtual 225, 3) := by decide +kernel
theorem dL_isSound_238 : decode cL_isSound 238 = .ok (.iconst (-1), 1) := by decide +kernel
theorem dL_isSound_239 : decode cL_isSound 239 = .ok (.if_icmp .ne 22, 3) := by decide +kernel
theorem dL_isSound_242 : decode cL_isSound 242 = .ok (.aload_n 0, 1) := by decide +kernel
theorem dL_isSound_243 : decode cL_isSound 243 = .ok (.invokevirtual 228, 3) := by decide +kernel
theorem dL_isSound_246 : decode cL_isSound 246 = .ok (.iconst (-1), 1) := by decide +kernel
theorem dL_isSound_247 : decode cL_isSound 247 = .ok (.if_icmp .ne 14, 3) := by decide +kernel
theorem dL_isSound_250 : decode cL_isSound 250 = .ok (.aload_n 0, 1) := by decide +kernel
theorem dL_isSound_251 : decode cL_isSound 251 = .ok (.invokevirtual 231, 3) := by decide +kernel
theorem dL_isSound_254 : decode cL_isSound 254 = .ok (.ifCond .ne 7, 3) := by decide +kernel
theorem dL_isSound_257 : decode cL_isSound 257 = .ok (.iconst 1, 1) := by decide +kernel
theorem dL_isSound_258 : decode cL_isSound 258 = .ok (.goto 4, 3) := by decide +kernel
theorem dL_isSound_261 : decode cL_isSound 261 = .ok (.iconst 0, 1) := by decide +kernel
theorem dL_isSound_262 : decode cL_isSound 262 = .ok (.ireturn, 1) := by decide +kernel
theorem dL_isSound_263 : decode cL_isSound 263 = .ok (.iload 4, 2) := by decide +kernel
theorem dL_isSound_265 : decode cL_isSound 265 = .ok (.iload_n 1, 1) := by decide +kernel
theorem dL_isSound_266 : decode cL_isSound 266 = .ok (.iand, 1) := by decide +kernel
theorem dL_isSound_267 : decode cL_isSound 267 = .ok (.iload_n 1, 1) := by decide +kernel
theorem dL_isSound_268 : decode cL_isSound 268 = .ok (.if_icmp .ne 63, 3) := by decide +kernel
theorem dL_isSound_271 : decode cL_isSound 271 = .ok (.iload 4, 2) := by decide +kernel
theorem dL_isSound_273 : decode cL_isSound 273 = .ok (.iload_n 2, 1) := by decide +kernel
theorem dL_isSound_274 : decode cL_isSound 274 = .ok (.iand, 1) := by decide +kernel
theorem dL_isSound_275 : decode cL_isSound 275 = .ok (.ifCond .ne 56, 3) := by decide +kernel
theorem dL_isSound_278 : decode cL_isSound 278 = .ok (.aload_n 0, 1) := by decide +kernel
theorem dL_isSound_279 : decode cL_isSound 279 = .ok (.invokevirtual 222, 3) := by decide +kernel
theorem dL_isSound_282 : decode cL_isSound 282 = .ok (.aload_n 0, 1) := by decide +kernel
theorem dL_isSound_283 : decode cL_isSound 283 = .ok (.iload 4, 2) := by decide +kernel
theorem dL_isSound_285 : decode cL_isSound 285 = .ok (.invokestatic 200, 3) := by decide +kernel
theorem dL_isSound_288 : decode cL_isSound 288 = .ok (.if_icmp .ne 43, 3) := by decide +kernel
theorem dL_isSound_291 : decode cL_isSound 291 = .ok (.aload_n 0, 1) := by decide +kernel
theorem dL_isSound_292 : decode cL_isSound 292 = .ok (.invokevirtual 219, 3) := by decide +kernel
theorem dL_isSound_295 : decode cL_isSound 295 = .ok (.aload_n 0, 1) := by decide +kernel
theorem dL_isSound_296 : decode cL_isSound 296 = .ok (.iload 4, 2) := by decide +kernel
theorem dL_isSound_298 : decode cL_isSound 298 = .ok (.invokestatic 234, 3) := by decide +kernel
theorem dL_isSound_301 : decode cL_isSound 301 = .ok (.if_icmp .ne 30, 3) := by decide +kernel
theorem dL_isSound_304 : decode cL_isSound 304 = .ok (.aload_n 0, 1) := by decide +kernel
theorem dL_isSound_305 : decode cL_isSound 305 = .ok (.invokevirtual 222, 3) := by decide +kernel
theorem dL_isSound_308 : decode cL_isSound 308 = .ok (.aload_n 0, 1) := by decide +kernel
theorem dL_isSound_309 : decode cL_isSound 309 = .ok (.invokevirtual 210, 3) := by decide +kernel
theorem dL_isSound_312 : decode cL_isSound 312 = .ok (.if_icmp .gt 19, 3) := by decide +kernel
theorem dL_isSound_315 : decode cL_isSound 315 = .ok (.aload_n 0, 1) := by decide +kernel
theorem dL_isSound_316 : decode cL_isSound 316 = .ok (.invokevirtual 225, 3) := by decide +kernel
theorem dL_isSound_319 : decode cL_isSound 319 = .ok (.aload_n 0, 1) := by decide +kernel
theorem dL_isSound_320 : decode cL_isSound 320 = .ok (.invokevirtual 210, 3) := by decide +kernel
theorem dL_isSound_323 : decode cL_isSound 323 = .ok (.aload_n 0, 1) := by decide +kernel
theorem dL_isSound_324 : decode cL_isSound 324 = .ok (.invokevirtual 222, 3) := by decide +kernel
theorem dL_isSound_327 : decode cL_isSound 327 = .ok (.isub, 1) := by decide +kernel
theorem dL_isSound_328 : decode cL_isSound 328 = .ok (.if_icmp .eq 5, 3) := by decide +kernel
theorem dL_isSound_331 : decode cL_isSound 331 = .ok (.iconst 0, 1) := by decide +kernel
theorem dL_isSound_332 : decode cL_isSound 332 = .ok (.ireturn, 1) := by decide +kernel
theorem dL_isSound_333 : decode cL_isSound 333 = .ok (.iload 5, 2) := by decide +kernel
theorem dL_isSound_335 : decode cL_isSound 335 = .ok (.iload_n 1, 1) := by decide +kernel
theorem dL_isSound_336 : decode cL_isSound 336 = .ok (.iand, 1) := by decide +kernel
theorem dL_isSound_337 : decode cL_isSound 337 = .ok (.iload_n 1, 1) := by decide +kernel
theorem dL_isSound_338 : decode cL_isSound 338 = .ok (.if_icmp .ne 36, 3) := by decide +kernel
theorem dL_isSound_341 : decode cL_isSound 341 = .ok (.iload 5, 2) := by decide +kernel
theorem dL_isSound_343 : decode cL_isSound 343 = .ok (.iload_n 2, 1) := by decide +kernel
theorem dL_isSound_344 : decode cL_isSound 344 = .ok (.iand, 1) := by decide +kernel
theorem dL_isSound_345 : decode cL_isSound 345 = .ok (.ifCond .ne 29, 3) := by decide +kernel
theorem dL_isSound_348 : decode cL_isSound 348 = .ok (.aload_n 0, 1) := by decide +kernel
theorem dL_isSound_349 : decode cL_isSound 349 = .ok (.iload 5, 2) := by decide +kernel
theorem dL_isSound_351 : decode cL_isSound 351 = .ok (.invokestatic 200, 3) := by decide +kernel
theorem dL_isSound_354 : decode cL_isSound 354 = .ok (.aload_n 0, 1) := by decide +kernel
theorem dL_isSound_355 : decode cL_isSound 355 = .ok (.invokevirtual 210, 3) := by decide +kernel
theorem dL_isSound_358 : decode cL_isSound 358 = .ok (.if_icmp .gt 16, 3) := by decide +kernel
theorem dL_isSound_361 : decode cL_isSound 361 = .ok (.aload_n 0, 1) := by decide +kernel
theorem dL_isSound_362 : decode cL_isSound 362 = .ok (.invokevirtual 237, 3) := by decide +kernel
theorem dL_isSound_365 : decode cL_isSound 365 = .ok (.aload_n 0, 1) := by decide +kernel
theorem dL_isSound_366 : decode cL_isSound 366 = .ok (.iload 5, 2) := by decide +kernel
theorem dL_isSound_368 : decode cL_isSound 368 = .ok (.invokestatic 234, 3) := by decide +kernel
theorem dL_isSound_371 : decode cL_isSound 371 = .ok (.if_icmp .eq 5, 3) := by decide +kernel
theorem dL_isSound_374 : decode cL_isSound 374 = .ok (.iconst 0, 1) := by decide +kernel
theorem dL_isSound_375 : decode cL_isSound 375 = .ok (.ireturn, 1) := by decide +kernel
theorem dL_isSound_376 : decode cL_isSound 376 = .ok (.aload_n 0, 1) := by decide +kernel
theorem dL_isSound_377 : decode cL_isSound 377 = .ok (.invokevirtual 237, 3) := by decide +kernel
theorem dL_isSound_380 : decode cL_isSound 380 = .ok (.aload_n 0, 1) := by decide +kernel
theorem dL_isSound_381 : decode cL_isSound 381 = .ok (.invokevirtual 219, 3) := by decide +kernel
theorem dL_isSound_384 : decode cL_isSound 384 = .ok (.if_icmp .gt 18, 3) := by decide +kernel
theorem dL_isSound_387 : decode cL_isSound 387 = .ok (.aload_n 0, 1) := by decide +kernel
theorem dL_isSound_388 : decode cL_isSound 388 = .ok (.invokevirtual 219, 3) := by decide +kernel
theorem dL_isSound_391 : decode cL_isSound 391 = .ok (.aload_n 0, 1) := by decide +kernel
theorem dL_isSound_392 : decode cL_isSound 392 = .ok (.invokevirtual 228, 3) := by decide +kernel
theorem dL_isSound_395 : decode cL_isSound 395 = .ok (.if_icmp .gt 7, 3) := by decide +kernel
theorem dL_isSound_398 : decode cL_isSound 398 = .ok (.iconst 1, 1) := by decide +kernel
theorem dL_isSound_399 : decode cL_isSound 399 = .ok (.goto 4, 3) := by decide +kernel
theorem dL_isSound_402 : decode cL_isSound 402 = .ok (.iconst 0, 1) := by decide +kernel
theorem dL_isSound_403 : decode cL_isSound 403 = .ok (.istore 6, 2) := by decide +kernel
theorem dL_isSound_405 : decode cL_isSound 405 = .ok (.iload 6, 2) := by decide +kernel
theorem dL_isSound_407 : decode cL_isSound 407 = .ok (.ifCond .eq 42, 3) := by decide +kernel
theorem dL_isSound_410 : decode cL_isSound 410 = .ok (.aload_n 0, 1) := by decide +kernel
theorem dL_isSound_411 : decode cL_isSound 411 = .ok (.invokevirtual 231, 3) := by decide +kernel
theorem dL_isSound_414 : decode cL_isSound 414 = .ok (.iconst 1, 1) := by decide +kernel
theorem dL_isSound_415 : decode cL_isSound 415 = .ok (.if_icmp .lt 34, 3) := by decide +kernel
theorem dL_isSound_418 : decode cL_isSound 418 = .ok (.aload_n 0, 1) := by decide +kernel
theorem dL_isSound_419 : decode cL_isSound 419 = .ok (.invokevirtual 219, 3) := by decide +kernel
theorem dL_isSound_422 : decode cL_isSound 422 = .ok (.aload_n 0, 1) := by decide +kernel
theorem dL_isSound_423 : decode cL_isSound 423 = .ok (.iload_n 3, 1) := by decide +kernel
theorem dL_isSound_424 : decode cL_isSound 424 = .ok (.aload_n 0, 1) := by decide +kernel
theorem dL_isSound_425 : decode cL_isSound 425 = .ok (.invokevirtual 210, 3) := by decide +kernel
theorem dL_isSound_428 : decode cL_isSound 428 = .ok (.aload_n 0, 1) := by decide +kernel
theorem dL_isSound_429 : decode cL_isSound 429 = .ok (.invokevirtual 197, 3) := by decide +kernel
theorem dL_isSound_432 : decode cL_isSound 432 = .ok (.isub, 1) := by decide +kernel
theorem dL_isSound_433 : decode cL_isSound 433 = .ok (.invokestatic 240, 3) := by decide +kernel
theorem dL_isSound_436 : decode cL_isSound 436 = .ok (.aload_n 0, 1) := by decide +kernel
theorem dL_isSound_437 : decode cL_isSound 437 = .ok (.iload_n 1, 1) := by decide +kernel
theorem dL_isSound_438 : decode cL_isSound 438 = .ok (.invokestatic 234, 3) := by decide +kernel
theorem dL_isSound_441 : decode cL_isSound 441 = .ok (.iadd, 1) := by decide +kernel
theorem dL_isSound_442 : decode cL_isSound 442 = .ok (.if_icmp .ne 7, 3) := by decide +kernel
theorem dL_isSound_445 : decode cL_isSound 445 = .ok (.iconst 1, 1) := by decide +kernel
theorem dL_isSound_446 : decode cL_isSound 446 = .ok (.goto 4, 3) := by decide +kernel
theorem dL_isSound_449 : decode cL_isSound 449 = .ok (.iconst 0, 1) := by decide +kernel
theorem dL_isSound_450 : decode cL_isSound 450 = .ok (.ireturn, 1) := by decide +kernel
theorem dL_grows_0 : decode cL_grows 0 = .ok (.aload_n 0, 1) := by decide +kernel
theorem dL_grows_1 : decode cL_grows 1 = .ok (.iload_n 1, 1) := by decide +kernel
theorem dL_grows_2 : decode cL_grows 2 = .ok (.invokestatic 242, 3) := by decide +kernel
theorem dL_grows_5 : decode cL_grows 5 = .ok (.istore_n 2, 1) := by decide +kernel
theorem dL_grows_6 : decode cL_grows 6 = .ok (.iload_n 1, 1) := by decide +kernel
theorem dL_grows_7 : decode cL_grows 7 = .ok (.iconst 1, 1) := by decide +kernel
theorem dL_grows_8 : decode cL_grows 8 = .ok (.iadd, 1) := by decide +kernel
theorem dL_grows_9 : decode cL_grows 9 = .ok (.istore_n 3, 1) := by decide +kernel
theorem dL_grows_10 : decode cL_grows 10 = .ok (.iload_n 3, 1) := by decide +kernel
theorem dL_grows_11 : decode cL_grows 11 = .ok (.bipush 100, 2) := by decide +kernel
theorem dL_grows_13 : decode cL_grows 13 = .ok (.iload_n 1, 1) := by decide +kernel
theorem dL_grows_14 : decode cL_grows 14 = .ok (.bipush 12, 2) := by decide +kernel
theorem dL_grows_16 : decode cL_grows 16 = .ok (.iadd, 1) := by decide +kernel
theorem dL_grows_17 : decode cL_grows 17 = .ok (.invokestatic 244, 3) := by decide +kernel
theorem dL_grows_20 : decode cL_grows 20 = .ok (.if_icmp .gt 26, 3) := by decide +kernel
theorem dL_grows_23 : decode cL_grows 23 = .ok (.aload_n 0, 1) := by decide +kernel
theorem dL_grows_24 : decode cL_grows 24 = .ok (.iload_n 3, 1) := by decide +kernel
theorem dL_grows_25 : decode cL_grows 25 = .ok (.invokestatic 242, 3) := by decide +kernel
theorem dL_grows_28 : decode cL_grows 28 = .ok (.iload_n 2, 1) := by decide +kernel
theorem dL_grows_29 : decode cL_grows 29 = .ok (.if_icmp .ge 5, 3) := by decide +kernel
theorem dL_grows_32 : decode cL_grows 32 = .ok (.iconst 0, 1) := by decide +kernel
theorem dL_grows_33 : decode cL_grows 33 = .ok (.ireturn, 1) := by decide +kernel
theorem dL_grows_34 : decode cL_grows 34 = .ok (.aload_n 0, 1) := by decide +kernel
theorem dL_grows_35 : decode cL_grows 35 = .ok (.iload_n 3, 1) := by decide +kernel
theorem dL_grows_36 : decode cL_grows 36 = .ok (.invokestatic 242, 3) := by decide +kernel
theorem dL_grows_39 : decode cL_grows 39 = .ok (.istore_n 2, 1) := by decide +kernel
theorem dL_grows_40 : decode cL_grows 40 = .ok (.iinc 3 1, 3) := by decide +kernel
theorem dL_grows_43 : decode cL_grows 43 = .ok (.goto (-33), 3) := by decide +kernel
theorem dL_grows_46 : decode cL_grows 46 = .ok (.aload_n 0, 1) := by decide +kernel
theorem dL_grows_47 : decode cL_grows 47 = .ok (.aload_n 0, 1) := by decide +kernel
theorem dL_grows_48 : decode cL_grows 48 = .ok (.invokevirtual 210, 3) := by decide +kernel
theorem dL_grows_51 : decode cL_grows 51 = .ok (.invokestatic 242, 3) := by decide +kernel
theorem dL_grows_54 : decode cL_grows 54 = .ok (.aload_n 0, 1) := by decide +kernel
theorem dL_grows_55 : decode cL_grows 55 = .ok (.invokevirtual 219, 3) := by decide +kernel
theorem dL_grows_58 : decode cL_grows 58 = .ok (.if_icmp .ne 22, 3) := by decide +kernel
theorem dL_grows_61 : decode cL_grows 61 = .ok (.aload_n 0, 1) := by decide +kernel
theorem dL_grows_62 : decode cL_grows 62 = .ok (.aload_n 0, 1) := by decide +kernel
theorem dL_grows_63 : decode cL_grows 63 = .ok (.invokevirtual 210, 3) := by decide +kernel
theorem dL_grows_66 : decode cL_grows 66 = .ok (.invokestatic 247, 3) := by decide +kernel
theorem dL_grows_69 : decode cL_grows 69 = .ok (.aload_n 0, 1) := by decide +kernel
theorem dL_grows_70 : decode cL_grows 70 = .ok (.invokevirtual 213, 3) := by decide +kernel
theorem dL_grows_73 : decode cL_grows 73 = .ok (.if_icmp .ne 7, 3) := by decide +kernel
theorem dL_grows_76 : decode cL_grows 76 = .ok (.iconst 1, 1) := by decide +kernel
theorem dL_grows_77 : decode cL_grows 77 = .ok (.goto 4, 3) := by decide +kernel
theorem dL_grows_80 : decode cL_grows 80 = .ok (.iconst 0, 1) := by decide +kernel
theorem dL_grows_81 : decode cL_grows 81 = .ok (.ireturn, 1) := by decide +kernel
theorem dL_seen_0 : decode cL_seen 0 = .ok (.aload_n 0, 1) := by decide +kernel
theorem dL_seen_1 : decode cL_seen 1 = .ok (.invokevirtual 249, 3) := by decide +kernel
theorem dL_seen_4 : decode cL_seen 4 = .ok (.i2l, 1) := by decide +kernel
theorem dL_seen_5 : decode cL_seen 5 = .ok (.ldc2_w 252, 3) := by decide +kernel
theorem dL_seen_8 : decode cL_seen 8 = .ok (.aload_n 0, 1) := by decide +kernel
theorem dL_seen_9 : decode cL_seen 9 = .ok (.invokevirtual 254, 3) := by decide +kernel
theorem dL_seen_12 : decode cL_seen 12 = .ok (.i2l, 1) := by decide +kernel
theorem dL_seen_13 : decode cL_seen 13 = .ok (.lmul, 1) := by decide +kernel
theorem dL_seen_14 : decode cL_seen 14 = .ok (.ladd, 1) := by decide +kernel
theorem dL_seen_15 : decode cL_seen 15 = .ok (.ldc2_w 257, 3) := by decide +kernel
theorem dL_seen_18 : decode cL_seen 18 = .ok (.aload_n 0, 1) := by decide +kernel
theorem dL_seen_19 : decode cL_seen 19 = .ok (.invokevirtual 259, 3) := by decide +kernel
theorem dL_seen_22 : decode cL_seen 22 = .ok (.i2l, 1) := by decide +kernel
theorem dL_seen_23 : decode cL_seen 23 = .ok (.lmul, 1) := by decide +kernel
theorem dL_seen_24 : decode cL_seen 24 = .ok (.ladd, 1) := by decide +kernel
theorem dL_seen_25 : decode cL_seen 25 = .ok (.lstore_n 1, 1) := by decide +kernel
theorem dL_seen_26 : decode cL_seen 26 = .ok (.iconst 0, 1) := by decide +kernel
theorem dL_seen_27 : decode cL_seen 27 = .ok (.istore_n 3, 1) := by decide +kernel
theorem dL_seen_28 : decode cL_seen 28 = .ok (.iload_n 3, 1) := by decide +kernel
theorem dL_seen_29 : decode cL_seen 29 = .ok (.aload_n 0, 1) := by decide +kernel
theorem dL_seen_30 : decode cL_seen 30 = .ok (.invokevirtual 149, 3) := by decide +kernel
theorem dL_seen_33 : decode cL_seen 33 = .ok (.if_icmp .ge 22, 3) := by decide +kernel
theorem dL_seen_36 : decode cL_seen 36 = .ok (.ldc2_w 252, 3) := by decide +kernel
theorem dL_seen_39 : decode cL_seen 39 = .ok (.lload_n 1, 1) := by decide +kernel
theorem dL_seen_40 : decode cL_seen 40 = .ok (.lmul, 1) := by decide +kernel
theorem dL_seen_41 : decode cL_seen 41 = .ok (.aload_n 0, 1) := by decide +kernel
theorem dL_seen_42 : decode cL_seen 42 = .ok (.iload_n 3, 1) := by decide +kernel
theorem dL_seen_43 : decode cL_seen 43 = .ok (.invokestatic 190, 3) := by decide +kernel
theorem dL_seen_46 : decode cL_seen 46 = .ok (.i2l, 1) := by decide +kernel
theorem dL_seen_47 : decode cL_seen 47 = .ok (.ladd, 1) := by decide +kernel
theorem dL_seen_48 : decode cL_seen 48 = .ok (.lstore_n 1, 1) := by decide +kernel
theorem dL_seen_49 : decode cL_seen 49 = .ok (.iinc 3 1, 3) := by decide +kernel
theorem dL_seen_52 : decode cL_seen 52 = .ok (.goto (-24), 3) := by decide +kernel
theorem dL_seen_55 : decode cL_seen 55 = .ok (.lload_n 1, 1) := by decide +kernel
theorem dL_seen_56 : decode cL_seen 56 = .ok (.lreturn, 1) := by decide +kernel
theorem dL_isAlike_0 : decode cL_isAlike 0 = .ok (.aload_n 0, 1) := by decide +kernel
theorem dL_isAlike_1 : decode cL_isAlike 1 = .ok (.invokestatic 262, 3) := by decide +kernel
theorem dL_isAlike_4 : decode cL_isAlike 4 = .ok (.lstore_n 3, 1) := by decide +kernel
theorem dL_isAlike_5 : decode cL_isAlike 5 = .ok (.aload_n 0, 1) := by decide +kernel
theorem dL_isAlike_6 : decode cL_isAlike 6 = .ok (.iload_n 1, 1) := by decide +kernel
theorem dL_isAlike_7 : decode cL_isAlike 7 = .ok (.invokestatic 176, 3) := by decide +kernel
theorem dL_isAlike_10 : decode cL_isAlike 10 = .ok (.pop, 1) := by decide +kernel
theorem dL_isAlike_11 : decode cL_isAlike 11 = .ok (.aload_n 0, 1) := by decide +kernel
theorem dL_isAlike_12 : decode cL_isAlike 12 = .ok (.iload_n 2, 1) := by decide +kernel
theorem dL_isAlike_13 : decode cL_isAlike 13 = .ok (.invokestatic 176, 3) := by decide +kernel
theorem dL_isAlike_16 : decode cL_isAlike 16 = .ok (.pop, 1) := by decide +kernel
theorem dL_isAlike_17 : decode cL_isAlike 17 = .ok (.aload_n 0, 1) := by decide +kernel
theorem dL_isAlike_18 : decode cL_isAlike 18 = .ok (.invokestatic 262, 3) := by decide +kernel
theorem dL_isAlike_21 : decode cL_isAlike 21 = .ok (.lstore 5, 2) := by decide +kernel
theorem dL_isAlike_23 : decode cL_isAlike 23 = .ok (.aload_n 0, 1) := by decide +kernel
theorem dL_isAlike_24 : decode cL_isAlike 24 = .ok (.invokevirtual 266, 3) := by decide +kernel
theorem dL_isAlike_27 : decode cL_isAlike 27 = .ok (.pop, 1) := by decide +kernel
theorem dL_isAlike_28 : decode cL_isAlike 28 = .ok (.aload_n 0, 1) := by decide +kernel
theorem dL_isAlike_29 : decode cL_isAlike 29 = .ok (.invokevirtual 266, 3) := by decide +kernel
theorem dL_isAlike_32 : decode cL_isAlike 32 = .ok (.pop, 1) := by decide +kernel
theorem dL_isAlike_33 : decode cL_isAlike 33 = .ok (.aload_n 0, 1) := by decide +kernel
theorem dL_isAlike_34 : decode cL_isAlike 34 = .ok (.iload_n 1, 1) := by decide +kernel
theorem dL_isAlike_35 : decode cL_isAlike 35 = .ok (.iload_n 2, 1) := by decide +kernel
theorem dL_isAlike_36 : decode cL_isAlike 36 = .ok (.iadd, 1) := by decide +kernel
theorem dL_isAlike_37 : decode cL_isAlike 37 = .ok (.invokestatic 176, 3) := by decide +kernel
theorem dL_isAlike_40 : decode cL_isAlike 40 = .ok (.istore 7, 2) := by decide +kernel
theorem dL_isAlike_42 : decode cL_isAlike 42 = .ok (.aload_n 0, 1) := by decide +kernel
