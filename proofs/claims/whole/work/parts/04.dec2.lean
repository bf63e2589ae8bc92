theorem dX9_pinBest_11 : decode cX9_pinBest 11 = .ok (.iload_n 1, 1) := by decide +kernel
theorem dX9_pinBest_12 : decode cX9_pinBest 12 = .ok (.iconst (-1), 1) := by decide +kernel
theorem dX9_pinBest_13 : decode cX9_pinBest 13 = .ok (.if_icmp .ne 7, 3) := by decide +kernel
theorem dX9_pinBest_16 : decode cX9_pinBest 16 = .ok (.iconst 1, 1) := by decide +kernel
theorem dX9_pinBest_17 : decode cX9_pinBest 17 = .ok (.goto 4, 3) := by decide +kernel
theorem dX9_pinBest_20 : decode cX9_pinBest 20 = .ok (.iconst 0, 1) := by decide +kernel
theorem dX9_pinBest_21 : decode cX9_pinBest 21 = .ok (.iconst 1, 1) := by decide +kernel
theorem dX9_pinBest_22 : decode cX9_pinBest 22 = .ok (.invokevirtual 145, 3) := by decide +kernel
theorem dX9_pinBest_25 : decode cX9_pinBest 25 = .ok (.ifCond .eq 5, 3) := by decide +kernel
theorem dX9_pinBest_28 : decode cX9_pinBest 28 = .ok (.iconst 0, 1) := by decide +kernel
theorem dX9_pinBest_29 : decode cX9_pinBest 29 = .ok (.ireturn, 1) := by decide +kernel
theorem dX9_pinBest_30 : decode cX9_pinBest 30 = .ok (.aload_n 0, 1) := by decide +kernel
theorem dX9_pinBest_31 : decode cX9_pinBest 31 = .ok (.aload_n 0, 1) := by decide +kernel
theorem dX9_pinBest_32 : decode cX9_pinBest 32 = .ok (.getfield 9, 3) := by decide +kernel
theorem dX9_pinBest_35 : decode cX9_pinBest 35 = .ok (.invokevirtual 130, 3) := by decide +kernel
theorem dX9_pinBest_38 : decode cX9_pinBest 38 = .ok (.aload_n 0, 1) := by decide +kernel
theorem dX9_pinBest_39 : decode cX9_pinBest 39 = .ok (.iload_n 1, 1) := by decide +kernel
theorem dX9_pinBest_40 : decode cX9_pinBest 40 = .ok (.invokevirtual 149, 3) := by decide +kernel
theorem dX9_pinBest_43 : decode cX9_pinBest 43 = .ok (.ireturn, 1) := by decide +kernel
theorem dX9_runBackup_0 : decode cX9_runBackup 0 = .ok (.aload_n 0, 1) := by decide +kernel
theorem dX9_runBackup_1 : decode cX9_runBackup 1 = .ok (.iconst 0, 1) := by decide +kernel
theorem dX9_runBackup_2 : decode cX9_runBackup 2 = .ok (.putfield 59, 3) := by decide +kernel
theorem dX9_runBackup_5 : decode cX9_runBackup 5 = .ok (.aload_n 0, 1) := by decide +kernel
theorem dX9_runBackup_6 : decode cX9_runBackup 6 = .ok (.aload_n 0, 1) := by decide +kernel
theorem dX9_runBackup_7 : decode cX9_runBackup 7 = .ok (.getfield 9, 3) := by decide +kernel
theorem dX9_runBackup_10 : decode cX9_runBackup 10 = .ok (.invokevirtual 130, 3) := by decide +kernel
theorem dX9_runBackup_13 : decode cX9_runBackup 13 = .ok (.aload_n 0, 1) := by decide +kernel
theorem dX9_runBackup_14 : decode cX9_runBackup 14 = .ok (.invokevirtual 127, 3) := by decide +kernel
theorem dX9_runBackup_17 : decode cX9_runBackup 17 = .ok (.ireturn, 1) := by decide +kernel
theorem dX9_runBackups_0 : decode cX9_runBackups 0 = .ok (.aload_n 0, 1) := by decide +kernel
theorem dX9_runBackups_1 : decode cX9_runBackups 1 = .ok (.iconst 0, 1) := by decide +kernel
theorem dX9_runBackups_2 : decode cX9_runBackups 2 = .ok (.putfield 59, 3) := by decide +kernel
theorem dX9_runBackups_5 : decode cX9_runBackups 5 = .ok (.aload_n 0, 1) := by decide +kernel
theorem dX9_runBackups_6 : decode cX9_runBackups 6 = .ok (.iload_n 1, 1) := by decide +kernel
theorem dX9_runBackups_7 : decode cX9_runBackups 7 = .ok (.iconst 1, 1) := by decide +kernel
theorem dX9_runBackups_8 : decode cX9_runBackups 8 = .ok (.bipush 50, 2) := by decide +kernel
theorem dX9_runBackups_10 : decode cX9_runBackups 10 = .ok (.iconst 1, 1) := by decide +kernel
theorem dX9_runBackups_11 : decode cX9_runBackups 11 = .ok (.invokevirtual 69, 3) := by decide +kernel
theorem dX9_runBackups_14 : decode cX9_runBackups 14 = .ok (.ifCond .eq 5, 3) := by decide +kernel
theorem dX9_runBackups_17 : decode cX9_runBackups 17 = .ok (.iconst 0, 1) := by decide +kernel
theorem dX9_runBackups_18 : decode cX9_runBackups 18 = .ok (.ireturn, 1) := by decide +kernel
theorem dX9_runBackups_19 : decode cX9_runBackups 19 = .ok (.aload_n 0, 1) := by decide +kernel
theorem dX9_runBackups_20 : decode cX9_runBackups 20 = .ok (.aload_n 0, 1) := by decide +kernel
theorem dX9_runBackups_21 : decode cX9_runBackups 21 = .ok (.getfield 9, 3) := by decide +kernel
theorem dX9_runBackups_24 : decode cX9_runBackups 24 = .ok (.invokevirtual 130, 3) := by decide +kernel
theorem dX9_runBackups_27 : decode cX9_runBackups 27 = .ok (.aload_n 0, 1) := by decide +kernel
theorem dX9_runBackups_28 : decode cX9_runBackups 28 = .ok (.iload_n 1, 1) := by decide +kernel
theorem dX9_runBackups_29 : decode cX9_runBackups 29 = .ok (.invokevirtual 152, 3) := by decide +kernel
theorem dX9_runBackups_32 : decode cX9_runBackups 32 = .ok (.invokestatic 155, 3) := by decide +kernel
theorem dX9_runBackups_35 : decode cX9_runBackups 35 = .ok (.ireturn, 1) := by decide +kernel
theorem dX9_undo_0 : decode cX9_undo 0 = .ok (.aload_n 0, 1) := by decide +kernel
theorem dX9_undo_1 : decode cX9_undo 1 = .ok (.iconst 0, 1) := by decide +kernel
theorem dX9_undo_2 : decode cX9_undo 2 = .ok (.putfield 59, 3) := by decide +kernel
theorem dX9_undo_5 : decode cX9_undo 5 = .ok (.aload_n 0, 1) := by decide +kernel
theorem dX9_undo_6 : decode cX9_undo 6 = .ok (.getfield 62, 3) := by decide +kernel
theorem dX9_undo_9 : decode cX9_undo 9 = .ok (.ifCond .ne 5, 3) := by decide +kernel
theorem dX9_undo_12 : decode cX9_undo 12 = .ok (.iconst (-1), 1) := by decide +kernel
theorem dX9_undo_13 : decode cX9_undo 13 = .ok (.ireturn, 1) := by decide +kernel
theorem dX9_undo_14 : decode cX9_undo 14 = .ok (.aload_n 0, 1) := by decide +kernel
theorem dX9_undo_15 : decode cX9_undo 15 = .ok (.dup, 1) := by decide +kernel
theorem dX9_undo_16 : decode cX9_undo 16 = .ok (.getfield 62, 3) := by decide +kernel
theorem dX9_undo_19 : decode cX9_undo 19 = .ok (.iconst 1, 1) := by decide +kernel
theorem dX9_undo_20 : decode cX9_undo 20 = .ok (.isub, 1) := by decide +kernel
theorem dX9_undo_21 : decode cX9_undo 21 = .ok (.putfield 62, 3) := by decide +kernel
theorem dX9_undo_24 : decode cX9_undo 24 = .ok (.aload_n 0, 1) := by decide +kernel
theorem dX9_undo_25 : decode cX9_undo 25 = .ok (.getfield 15, 3) := by decide +kernel
theorem dX9_undo_28 : decode cX9_undo 28 = .ok (.aload_n 0, 1) := by decide +kernel
theorem dX9_undo_29 : decode cX9_undo 29 = .ok (.getfield 62, 3) := by decide +kernel
theorem dX9_undo_32 : decode cX9_undo 32 = .ok (.aaload, 1) := by decide +kernel
theorem dX9_undo_33 : decode cX9_undo 33 = .ok (.aload_n 0, 1) := by decide +kernel
theorem dX9_undo_34 : decode cX9_undo 34 = .ok (.getfield 9, 3) := by decide +kernel
theorem dX9_undo_37 : decode cX9_undo 37 = .ok (.invokestatic 65, 3) := by decide +kernel
theorem dX9_undo_40 : decode cX9_undo 40 = .ok (.aload_n 0, 1) := by decide +kernel
theorem dX9_undo_41 : decode cX9_undo 41 = .ok (.getfield 62, 3) := by decide +kernel
theorem dX9_undo_44 : decode cX9_undo 44 = .ok (.ireturn, 1) := by decide +kernel
theorem dX9_undoCount_0 : decode cX9_undoCount 0 = .ok (.aload_n 0, 1) := by decide +kernel
theorem dX9_undoCount_1 : decode cX9_undoCount 1 = .ok (.iconst 0, 1) := by decide +kernel
theorem dX9_undoCount_2 : decode cX9_undoCount 2 = .ok (.putfield 59, 3) := by decide +kernel
theorem dX9_undoCount_5 : decode cX9_undoCount 5 = .ok (.aload_n 0, 1) := by decide +kernel
theorem dX9_undoCount_6 : decode cX9_undoCount 6 = .ok (.getfield 62, 3) := by decide +kernel
theorem dX9_undoCount_9 : decode cX9_undoCount 9 = .ok (.ireturn, 1) := by decide +kernel
theorem dX9_saveSnapshot_0 : decode cX9_saveSnapshot 0 = .ok (.aload_n 0, 1) := by decide +kernel
theorem dX9_saveSnapshot_1 : decode cX9_saveSnapshot 1 = .ok (.iconst 0, 1) := by decide +kernel
theorem dX9_saveSnapshot_2 : decode cX9_saveSnapshot 2 = .ok (.putfield 59, 3) := by decide +kernel
theorem dX9_saveSnapshot_5 : decode cX9_saveSnapshot 5 = .ok (.aload_n 0, 1) := by decide +kernel
theorem dX9_saveSnapshot_6 : decode cX9_saveSnapshot 6 = .ok (.getfield 9, 3) := by decide +kernel
theorem dX9_saveSnapshot_9 : decode cX9_saveSnapshot 9 = .ok (.aload_n 0, 1) := by decide +kernel
theorem dX9_saveSnapshot_10 : decode cX9_saveSnapshot 10 = .ok (.getfield 18, 3) := by decide +kernel
theorem dX9_saveSnapshot_13 : decode cX9_saveSnapshot 13 = .ok (.invokestatic 65, 3) := by decide +kernel
theorem dX9_saveSnapshot_16 : decode cX9_saveSnapshot 16 = .ok (.aload_n 0, 1) := by decide +kernel
theorem dX9_saveSnapshot_17 : decode cX9_saveSnapshot 17 = .ok (.iconst 1, 1) := by decide +kernel
theorem dX9_saveSnapshot_18 : decode cX9_saveSnapshot 18 = .ok (.putfield 158, 3) := by decide +kernel
theorem dX9_saveSnapshot_21 : decode cX9_saveSnapshot 21 = .ok (.aload_n 0, 1) := by decide +kernel
theorem dX9_saveSnapshot_22 : decode cX9_saveSnapshot 22 = .ok (.getfield 9, 3) := by decide +kernel
theorem dX9_saveSnapshot_25 : decode cX9_saveSnapshot 25 = .ok (.iconst 1, 1) := by decide +kernel
theorem dX9_saveSnapshot_26 : decode cX9_saveSnapshot 26 = .ok (.iaload, 1) := by decide +kernel
theorem dX9_saveSnapshot_27 : decode cX9_saveSnapshot 27 = .ok (.ireturn, 1) := by decide +kernel
theorem dX9_restoreSnapshot_0 : decode cX9_restoreSnapshot 0 = .ok (.aload_n 0, 1) := by decide +kernel
theorem dX9_restoreSnapshot_1 : decode cX9_restoreSnapshot 1 = .ok (.iconst 0, 1) := by decide +kernel
theorem dX9_restoreSnapshot_2 : decode cX9_restoreSnapshot 2 = .ok (.putfield 59, 3) := by decide +kernel
theorem dX9_restoreSnapshot_5 : decode cX9_restoreSnapshot 5 = .ok (.aload_n 0, 1) := by decide +kernel
theorem dX9_restoreSnapshot_6 : decode cX9_restoreSnapshot 6 = .ok (.aload_n 0, 1) := by decide +kernel
theorem dX9_restoreSnapshot_7 : decode cX9_restoreSnapshot 7 = .ok (.getfield 158, 3) := by decide +kernel
theorem dX9_restoreSnapshot_10 : decode cX9_restoreSnapshot 10 = .ok (.ifCond .ne 7, 3) := by decide +kernel
theorem dX9_restoreSnapshot_13 : decode cX9_restoreSnapshot 13 = .ok (.iconst 1, 1) := by decide +kernel
theorem dX9_restoreSnapshot_14 : decode cX9_restoreSnapshot 14 = .ok (.goto 4, 3) := by decide +kernel
theorem dX9_restoreSnapshot_17 : decode cX9_restoreSnapshot 17 = .ok (.iconst 0, 1) := by decide +kernel
theorem dX9_restoreSnapshot_18 : decode cX9_restoreSnapshot 18 = .ok (.iconst 1, 1) := by decide +kernel
theorem dX9_restoreSnapshot_19 : decode cX9_restoreSnapshot 19 = .ok (.invokevirtual 145, 3) := by decide +kernel
theorem dX9_restoreSnapshot_22 : decode cX9_restoreSnapshot 22 = .ok (.ifCond .eq 5, 3) := by decide +kernel
theorem dX9_restoreSnapshot_25 : decode cX9_restoreSnapshot 25 = .ok (.iconst 0, 1) := by decide +kernel
theorem dX9_restoreSnapshot_26 : decode cX9_restoreSnapshot 26 = .ok (.ireturn, 1) := by decide +kernel
theorem dX9_restoreSnapshot_27 : decode cX9_restoreSnapshot 27 = .ok (.aload_n 0, 1) := by decide +kernel
theorem dX9_restoreSnapshot_28 : decode cX9_restoreSnapshot 28 = .ok (.getfield 18, 3) := by decide +kernel
theorem dX9_restoreSnapshot_31 : decode cX9_restoreSnapshot 31 = .ok (.aload_n 0, 1) := by decide +kernel
theorem dX9_restoreSnapshot_32 : decode cX9_restoreSnapshot 32 = .ok (.getfield 9, 3) := by decide +kernel
theorem dX9_restoreSnapshot_35 : decode cX9_restoreSnapshot 35 = .ok (.invokestatic 65, 3) := by decide +kernel
theorem dX9_restoreSnapshot_38 : decode cX9_restoreSnapshot 38 = .ok (.aload_n 0, 1) := by decide +kernel
theorem dX9_restoreSnapshot_39 : decode cX9_restoreSnapshot 39 = .ok (.iconst 0, 1) := by decide +kernel
theorem dX9_restoreSnapshot_40 : decode cX9_restoreSnapshot 40 = .ok (.putfield 62, 3) := by decide +kernel
theorem dX9_restoreSnapshot_43 : decode cX9_restoreSnapshot 43 = .ok (.aload_n 0, 1) := by decide +kernel
theorem dX9_restoreSnapshot_44 : decode cX9_restoreSnapshot 44 = .ok (.getfield 9, 3) := by decide +kernel
theorem dX9_restoreSnapshot_47 : decode cX9_restoreSnapshot 47 = .ok (.iconst 1, 1) := by decide +kernel
theorem dX9_restoreSnapshot_48 : decode cX9_restoreSnapshot 48 = .ok (.iaload, 1) := by decide +kernel
theorem dX9_restoreSnapshot_49 : decode cX9_restoreSnapshot 49 = .ok (.ireturn, 1) := by decide +kernel
theorem dX9_letterAt_0 : decode cX9_letterAt 0 = .ok (.iload_n 1, 1) := by decide +kernel
theorem dX9_letterAt_1 : decode cX9_letterAt 1 = .ok (.aload_n 0, 1) := by decide +kernel
theorem dX9_letterAt_2 : decode cX9_letterAt 2 = .ok (.getfield 162, 3) := by decide +kernel
theorem dX9_letterAt_5 : decode cX9_letterAt 5 = .ok (.if_icmp .ge 29, 3) := by decide +kernel
theorem dX9_letterAt_8 : decode cX9_letterAt 8 = .ok (.aload_n 0, 1) := by decide +kernel
theorem dX9_letterAt_9 : decode cX9_letterAt 9 = .ok (.getfield 27, 3) := by decide +kernel
theorem dX9_letterAt_12 : decode cX9_letterAt 12 = .ok (.iload_n 1, 1) := by decide +kernel
theorem dX9_letterAt_13 : decode cX9_letterAt 13 = .ok (.iaload, 1) := by decide +kernel
theorem dX9_letterAt_14 : decode cX9_letterAt 14 = .ok (.bipush 97, 2) := by decide +kernel
theorem dX9_letterAt_16 : decode cX9_letterAt 16 = .ok (.if_icmp .lt 18, 3) := by decide +kernel
theorem dX9_letterAt_19 : decode cX9_letterAt 19 = .ok (.aload_n 0, 1) := by decide +kernel
theorem dX9_letterAt_20 : decode cX9_letterAt 20 = .ok (.getfield 27, 3) := by decide +kernel
theorem dX9_letterAt_23 : decode cX9_letterAt 23 = .ok (.iload_n 1, 1) := by decide +kernel
theorem dX9_letterAt_24 : decode cX9_letterAt 24 = .ok (.iaload, 1) := by decide +kernel
theorem dX9_letterAt_25 : decode cX9_letterAt 25 = .ok (.bipush 122, 2) := by decide +kernel
theorem dX9_letterAt_27 : decode cX9_letterAt 27 = .ok (.if_icmp .gt 7, 3) := by decide +kernel
theorem dX9_letterAt_30 : decode cX9_letterAt 30 = .ok (.iconst 1, 1) := by decide +kernel
theorem dX9_letterAt_31 : decode cX9_letterAt 31 = .ok (.goto 4, 3) := by decide +kernel
theorem dX9_letterAt_34 : decode cX9_letterAt 34 = .ok (.iconst 0, 1) := by decide +kernel
theorem dX9_letterAt_35 : decode cX9_letterAt 35 = .ok (.ireturn, 1) := by decide +kernel
theorem dX9_digitAt_0 : decode cX9_digitAt 0 = .ok (.iload_n 1, 1) := by decide +kernel
theorem dX9_digitAt_1 : decode cX9_digitAt 1 = .ok (.aload_n 0, 1) := by decide +kernel
theorem dX9_digitAt_2 : decode cX9_digitAt 2 = .ok (.getfield 162, 3) := by decide +kernel
theorem dX9_digitAt_5 : decode cX9_digitAt 5 = .ok (.if_icmp .ge 29, 3) := by decide +kernel
theorem dX9_digitAt_8 : decode cX9_digitAt 8 = .ok (.aload_n 0, 1) := by decide +kernel
theorem dX9_digitAt_9 : decode cX9_digitAt 9 = .ok (.getfield 27, 3) := by decide +kernel
theorem dX9_digitAt_12 : decode cX9_digitAt 12 = .ok (.iload_n 1, 1) := by decide +kernel
theorem dX9_digitAt_13 : decode cX9_digitAt 13 = .ok (.iaload, 1) := by decide +kernel
theorem dX9_digitAt_14 : decode cX9_digitAt 14 = .ok (.bipush 48, 2) := by decide +kernel
theorem dX9_digitAt_16 : decode cX9_digitAt 16 = .ok (.if_icmp .lt 18, 3) := by decide +kernel
theorem dX9_digitAt_19 : decode cX9_digitAt 19 = .ok (.aload_n 0, 1) := by decide +kernel
theorem dX9_digitAt_20 : decode cX9_digitAt 20 = .ok (.getfield 27, 3) := by decide +kernel
theorem dX9_digitAt_23 : decode cX9_digitAt 23 = .ok (.iload_n 1, 1) := by decide +kernel
theorem dX9_digitAt_24 : decode cX9_digitAt 24 = .ok (.iaload, 1) := by decide +kernel
theorem dX9_digitAt_25 : decode cX9_digitAt 25 = .ok (.bipush 57, 2) := by decide +kernel
theorem dX9_digitAt_27 : decode cX9_digitAt 27 = .ok (.if_icmp .gt 7, 3) := by decide +kernel
theorem dX9_digitAt_30 : decode cX9_digitAt 30 = .ok (.iconst 1, 1) := by decide +kernel
theorem dX9_digitAt_31 : decode cX9_digitAt 31 = .ok (.goto 4, 3) := by decide +kernel
theorem dX9_digitAt_34 : decode cX9_digitAt 34 = .ok (.iconst 0, 1) := by decide +kernel
theorem dX9_digitAt_35 : decode cX9_digitAt 35 = .ok (.ireturn, 1) := by decide +kernel
theorem dX9_scan_0 : decode cX9_scan 0 = .ok (.aload_n 0, 1) := by decide +kernel
theorem dX9_scan_1 : decode cX9_scan 1 = .ok (.getfield 165, 3) := by decide +kernel
theorem dX9_scan_4 : decode cX9_scan 4 = .ok (.aload_n 0, 1) := by decide +kernel
theorem dX9_scan_5 : decode cX9_scan 5 = .ok (.getfield 162, 3) := by decide +kernel
theorem dX9_scan_8 : decode cX9_scan 8 = .ok (.if_icmp .ge 44, 3) := by decide +kernel
theorem dX9_scan_11 : decode cX9_scan 11 = .ok (.aload_n 0, 1) := by decide +kernel
theorem dX9_scan_12 : decode cX9_scan 12 = .ok (.getfield 27, 3) := by decide +kernel
theorem dX9_scan_15 : decode cX9_scan 15 = .ok (.aload_n 0, 1) := by decide +kernel
theorem dX9_scan_16 : decode cX9_scan 16 = .ok (.getfield 165, 3) := by decide +kernel
theorem dX9_scan_19 : decode cX9_scan 19 = .ok (.iaload, 1) := by decide +kernel
theorem dX9_scan_20 : decode cX9_scan 20 = .ok (.bipush 32, 2) := by decide +kernel
theorem dX9_scan_22 : decode cX9_scan 22 = .ok (.if_icmp .eq 17, 3) := by decide +kernel
theorem dX9_scan_25 : decode cX9_scan 25 = .ok (.aload_n 0, 1) := by decide +kernel
theorem dX9_scan_26 : decode cX9_scan 26 = .ok (.getfield 27, 3) := by decide +kernel
theorem dX9_scan_29 : decode cX9_scan 29 = .ok (.aload_n 0, 1) := by decide +kernel
theorem dX9_scan_30 : decode cX9_scan 30 = .ok (.getfield 165, 3) := by decide +kernel
theorem dX9_scan_33 : decode cX9_scan 33 = .ok (.iaload, 1) := by decide +kernel
theorem dX9_scan_34 : decode cX9_scan 34 = .ok (.bipush 10, 2) := by decide +kernel
theorem dX9_scan_36 : decode cX9_scan 36 = .ok (.if_icmp .ne 16, 3) := by decide +kernel
theorem dX9_scan_39 : decode cX9_scan 39 = .ok (.aload_n 0, 1) := by decide +kernel
theorem dX9_scan_40 : decode cX9_scan 40 = .ok (.dup, 1) := by decide +kernel
theorem dX9_scan_41 : decode cX9_scan 41 = .ok (.getfield 165, 3) := by decide +kernel
theorem dX9_scan_44 : decode cX9_scan 44 = .ok (.iconst 1, 1) := by decide +kernel
theorem dX9_scan_45 : decode cX9_scan 45 = .ok (.iadd, 1) := by decide +kernel
theorem dX9_scan_46 : decode cX9_scan 46 = .ok (.putfield 165, 3) := by decide +kernel
theorem dX9_scan_49 : decode cX9_scan 49 = .ok (.goto (-49), 3) := by decide +kernel
theorem dX9_scan_52 : decode cX9_scan 52 = .ok (.aload_n 0, 1) := by decide +kernel
theorem dX9_scan_53 : decode cX9_scan 53 = .ok (.aload_n 0, 1) := by decide +kernel
theorem dX9_scan_54 : decode cX9_scan 54 = .ok (.getfield 165, 3) := by decide +kernel
theorem dX9_scan_57 : decode cX9_scan 57 = .ok (.putfield 168, 3) := by decide +kernel
theorem dX9_scan_60 : decode cX9_scan 60 = .ok (.aload_n 0, 1) := by decide +kernel
theorem dX9_scan_61 : decode cX9_scan 61 = .ok (.getfield 165, 3) := by decide +kernel
theorem dX9_scan_64 : decode cX9_scan 64 = .ok (.aload_n 0, 1) := by decide +kernel
theorem dX9_scan_65 : decode cX9_scan 65 = .ok (.getfield 162, 3) := by decide +kernel
theorem dX9_scan_68 : decode cX9_scan 68 = .ok (.if_icmp .ne 11, 3) := by decide +kernel
theorem dX9_scan_71 : decode cX9_scan 71 = .ok (.aload_n 0, 1) := by decide +kernel
theorem dX9_scan_72 : decode cX9_scan 72 = .ok (.iconst 0, 1) := by decide +kernel
theorem dX9_scan_73 : decode cX9_scan 73 = .ok (.putfield 171, 3) := by decide +kernel
theorem dX9_scan_76 : decode cX9_scan 76 = .ok (.goto 225, 3) := by decide +kernel
theorem dX9_scan_79 : decode cX9_scan 79 = .ok (.aload_n 0, 1) := by decide +kernel
theorem dX9_scan_80 : decode cX9_scan 80 = .ok (.aload_n 0, 1) := by decide +kernel
theorem dX9_scan_81 : decode cX9_scan 81 = .ok (.getfield 165, 3) := by decide +kernel
theorem dX9_scan_84 : decode cX9_scan 84 = .ok (.invokevirtual 174, 3) := by decide +kernel
theorem dX9_scan_87 : decode cX9_scan 87 = .ok (.ifCond .eq 35, 3) := by decide +kernel
theorem dX9_scan_90 : decode cX9_scan 90 = .ok (.aload_n 0, 1) := by decide +kernel
theorem dX9_scan_91 : decode cX9_scan 91 = .ok (.aload_n 0, 1) := by decide +kernel
theorem dX9_scan_92 : decode cX9_scan 92 = .ok (.getfield 165, 3) := by decide +kernel
theorem dX9_scan_95 : decode cX9_scan 95 = .ok (.invokevirtual 174, 3) := by decide +kernel
theorem dX9_scan_98 : decode cX9_scan 98 = .ok (.ifCond .eq 16, 3) := by decide +kernel
theorem dX9_scan_101 : decode cX9_scan 101 = .ok (.aload_n 0, 1) := by decide +kernel
theorem dX9_scan_102 : decode cX9_scan 102 = .ok (.dup, 1) := by decide +kernel
theorem dX9_scan_103 : decode cX9_scan 103 = .ok (.getfield 165, 3) := by decide +kernel
theorem dX9_scan_106 : decode cX9_scan 106 = .ok (.iconst 1, 1) := by decide +kernel
theorem dX9_scan_107 : decode cX9_scan 107 = .ok (.iadd, 1) := by decide +kernel
theorem dX9_scan_108 : decode cX9_scan 108 = .ok (.putfield 165, 3) := by decide +kernel
theorem dX9_scan_111 : decode cX9_scan 111 = .ok (.goto (-21), 3) := by decide +kernel
theorem dX9_scan_114 : decode cX9_scan 114 = .ok (.aload_n 0, 1) := by decide +kernel
theorem dX9_scan_115 : decode cX9_scan 115 = .ok (.iconst 3, 1) := by decide +kernel
theorem dX9_scan_116 : decode cX9_scan 116 = .ok (.putfield 171, 3) := by decide +kernel
theorem dX9_scan_119 : decode cX9_scan 119 = .ok (.goto 182, 3) := by decide +kernel
theorem dX9_scan_122 : decode cX9_scan 122 = .ok (.aload_n 0, 1) := by decide +kernel
theorem dX9_scan_123 : decode cX9_scan 123 = .ok (.aload_n 0, 1) := by decide +kernel
theorem dX9_scan_124 : decode cX9_scan 124 = .ok (.getfield 165, 3) := by decide +kernel
theorem dX9_scan_127 : decode cX9_scan 127 = .ok (.invokevirtual 177, 3) := by decide +kernel
theorem dX9_scan_130 : decode cX9_scan 130 = .ok (.ifCond .eq 101, 3) := by decide +kernel
theorem dX9_scan_133 : decode cX9_scan 133 = .ok (.aload_n 0, 1) := by decide +kernel
theorem dX9_scan_134 : decode cX9_scan 134 = .ok (.iconst 0, 1) := by decide +kernel
theorem dX9_scan_135 : decode cX9_scan 135 = .ok (.putfield 180, 3) := by decide +kernel
theorem dX9_scan_138 : decode cX9_scan 138 = .ok (.aload_n 0, 1) := by decide +kernel
theorem dX9_scan_139 : decode cX9_scan 139 = .ok (.aload_n 0, 1) := by decide +kernel
theorem dX9_scan_140 : decode cX9_scan 140 = .ok (.getfield 165, 3) := by decide +kernel
theorem dX9_scan_143 : decode cX9_scan 143 = .ok (.invokevirtual 177, 3) := by decide +kernel
theorem dX9_scan_146 : decode cX9_scan 146 = .ok (.ifCond .eq 60, 3) := by decide +kernel
theorem dX9_scan_149 : decode cX9_scan 149 = .ok (.aload_n 0, 1) := by decide +kernel
theorem dX9_scan_150 : decode cX9_scan 150 = .ok (.aload_n 0, 1) := by decide +kernel
theorem dX9_scan_151 : decode cX9_scan 151 = .ok (.getfield 165, 3) := by decide +kernel
theorem dX9_scan_154 : decode cX9_scan 154 = .ok (.aload_n 0, 1) := by decide +kernel
theorem dX9_scan_155 : decode cX9_scan 155 = .ok (.getfield 168, 3) := by decide +kernel
theorem dX9_scan_158 : decode cX9_scan 158 = .ok (.isub, 1) := by decide +kernel
theorem dX9_scan_159 : decode cX9_scan 159 = .ok (.iconst 4, 1) := by decide +kernel
theorem dX9_scan_160 : decode cX9_scan 160 = .ok (.if_icmp .ge 26, 3) := by decide +kernel
theorem dX9_scan_163 : decode cX9_scan 163 = .ok (.bipush 10, 2) := by decide +kernel
theorem dX9_scan_165 : decode cX9_scan 165 = .ok (.aload_n 0, 1) := by decide +kernel
theorem dX9_scan_166 : decode cX9_scan 166 = .ok (.getfield 180, 3) := by decide +kernel
theorem dX9_scan_169 : decode cX9_scan 169 = .ok (.imul, 1) := by decide +kernel
theorem dX9_scan_170 : decode cX9_scan 170 = .ok (.aload_n 0, 1) := by decide +kernel
theorem dX9_scan_171 : decode cX9_scan 171 = .ok (.getfield 27, 3) := by decide +kernel
theorem dX9_scan_174 : decode cX9_scan 174 = .ok (.aload_n 0, 1) := by decide +kernel
theorem dX9_scan_175 : decode cX9_scan 175 = .ok (.getfield 165, 3) := by decide +kernel
theorem dX9_scan_178 : decode cX9_scan 178 = .ok (.iaload, 1) := by decide +kernel
theorem dX9_scan_179 : decode cX9_scan 179 = .ok (.iadd, 1) := by decide +kernel
theorem dX9_scan_180 : decode cX9_scan 180 = .ok (.bipush 48, 2) := by decide +kernel
theorem dX9_scan_182 : decode cX9_scan 182 = .ok (.isub, 1) := by decide +kernel
theorem dX9_scan_183 : decode cX9_scan 183 = .ok (.goto 7, 3) := by decide +kernel
theorem dX9_scan_186 : decode cX9_scan 186 = .ok (.aload_n 0, 1) := by decide +kernel
theorem dX9_scan_187 : decode cX9_scan 187 = .ok (.getfield 180, 3) := by decide +kernel
theorem dX9_scan_190 : decode cX9_scan 190 = .ok (.putfield 180, 3) := by decide +kernel
theorem dX9_scan_193 : decode cX9_scan 193 = .ok (.aload_n 0, 1) := by decide +kernel
theorem dX9_scan_194 : decode cX9_scan 194 = .ok (.dup, 1) := by decide +kernel
theorem dX9_scan_195 : decode cX9_scan 195 = .ok (.getfield 165, 3) := by decide +kernel
theorem dX9_scan_198 : decode cX9_scan 198 = .ok (.iconst 1, 1) := by decide +kernel
theorem dX9_scan_199 : decode cX9_scan 199 = .ok (.iadd, 1) := by decide +kernel
theorem dX9_scan_200 : decode cX9_scan 200 = .ok (.putfield 165, 3) := by decide +kernel
theorem dX9_scan_203 : decode cX9_scan 203 = .ok (.goto (-65), 3) := by decide +kernel
theorem dX9_scan_206 : decode cX9_scan 206 = .ok (.aload_n 0, 1) := by decide +kernel
theorem dX9_scan_207 : decode cX9_scan 207 = .ok (.aload_n 0, 1) := by decide +kernel
theorem dX9_scan_208 : decode cX9_scan 208 = .ok (.getfield 165, 3) := by decide +kernel
theorem dX9_scan_211 : decode cX9_scan 211 = .ok (.aload_n 0, 1) := by decide +kernel
theorem dX9_scan_212 : decode cX9_scan 212 = .ok (.getfield 168, 3) := by decide +kernel
theorem dX9_scan_215 : decode cX9_scan 215 = .ok (.isub, 1) := by decide +kernel
theorem dX9_scan_216 : decode cX9_scan 216 = .ok (.iconst 4, 1) := by decide +kernel
theorem dX9_scan_217 : decode cX9_scan 217 = .ok (.if_icmp .le 7, 3) := by decide +kernel
theorem dX9_scan_220 : decode cX9_scan 220 = .ok (.iconst 4, 1) := by decide +kernel
theorem dX9_scan_221 : decode cX9_scan 221 = .ok (.goto 4, 3) := by decide +kernel
theorem dX9_scan_224 : decode cX9_scan 224 = .ok (.iconst 2, 1) := by decide +kernel
theorem dX9_scan_225 : decode cX9_scan 225 = .ok (.putfield 171, 3) := by decide +kernel
theorem dX9_scan_228 : decode cX9_scan 228 = .ok (.goto 73, 3) := by decide +kernel
theorem dX9_scan_231 : decode cX9_scan 231 = .ok (.aload_n 0, 1) := by decide +kernel
theorem dX9_scan_232 : decode cX9_scan 232 = .ok (.aload_n 0, 1) := by decide +kernel
theorem dX9_scan_233 : decode cX9_scan 233 = .ok (.getfield 27, 3) := by decide +kernel
theorem dX9_scan_236 : decode cX9_scan 236 = .ok (.aload_n 0, 1) := by decide +kernel
theorem dX9_scan_237 : decode cX9_scan 237 = .ok (.getfield 165, 3) := by decide +kernel
theorem dX9_scan_240 : decode cX9_scan 240 = .ok (.iaload, 1) := by decide +kernel
theorem dX9_scan_241 : decode cX9_scan 241 = .ok (.bipush 59, 2) := by decide +kernel
theorem dX9_scan_243 : decode cX9_scan 243 = .ok (.if_icmp .ne 7, 3) := by decide +kernel
theorem dX9_scan_246 : decode cX9_scan 246 = .ok (.iconst 1, 1) := by decide +kernel
theorem dX9_scan_247 : decode cX9_scan 247 = .ok (.goto 41, 3) := by decide +kernel
theorem dX9_scan_250 : decode cX9_scan 250 = .ok (.aload_n 0, 1) := by decide +kernel
theorem dX9_scan_251 : decode cX9_scan 251 = .ok (.getfield 27, 3) := by decide +kernel
theorem dX9_scan_254 : decode cX9_scan 254 = .ok (.aload_n 0, 1) := by decide +kernel
theorem dX9_scan_255 : decode cX9_scan 255 = .ok (.getfield 165, 3) := by decide +kernel
theorem dX9_scan_258 : decode cX9_scan 258 = .ok (.iaload, 1) := by decide +kernel
theorem dX9_scan_259 : decode cX9_scan 259 = .ok (.bipush 40, 2) := by decide +kernel
theorem dX9_scan_261 : decode cX9_scan 261 = .ok (.if_icmp .ne 7, 3) := by decide +kernel
theorem dX9_scan_264 : decode cX9_scan 264 = .ok (.iconst 5, 1) := by decide +kernel
theorem dX9_scan_265 : decode cX9_scan 265 = .ok (.goto 23, 3) := by decide +kernel
theorem dX9_scan_268 : decode cX9_scan 268 = .ok (.aload_n 0, 1) := by decide +kernel
theorem dX9_scan_269 : decode cX9_scan 269 = .ok (.getfield 27, 3) := by decide +kernel
theorem dX9_scan_272 : decode cX9_scan 272 = .ok (.aload_n 0, 1) := by decide +kernel
theorem dX9_scan_273 : decode cX9_scan 273 = .ok (.getfield 165, 3) := by decide +kernel
theorem dX9_scan_276 : decode cX9_scan 276 = .ok (.iaload, 1) := by decide +kernel
theorem dX9_scan_277 : decode cX9_scan 277 = .ok (.bipush 41, 2) := by decide +kernel
theorem dX9_scan_279 : decode cX9_scan 279 = .ok (.if_icmp .ne 8, 3) := by decide +kernel
theorem dX9_scan_282 : decode cX9_scan 282 = .ok (.bipush 6, 2) := by decide +kernel
theorem dX9_scan_284 : decode cX9_scan 284 = .ok (.goto 4, 3) := by decide +kernel
theorem dX9_scan_287 : decode cX9_scan 287 = .ok (.iconst 4, 1) := by decide +kernel
theorem dX9_scan_288 : decode cX9_scan 288 = .ok (.putfield 171, 3) := by decide +kernel
theorem dX9_scan_291 : decode cX9_scan 291 = .ok (.aload_n 0, 1) := by decide +kernel
theorem dX9_scan_292 : decode cX9_scan 292 = .ok (.dup, 1) := by decide +kernel
theorem dX9_scan_293 : decode cX9_scan 293 = .ok (.getfield 165, 3) := by decide +kernel
theorem dX9_scan_296 : decode cX9_scan 296 = .ok (.iconst 1, 1) := by decide +kernel
theorem dX9_scan_297 : decode cX9_scan 297 = .ok (.iadd, 1) := by decide +kernel
theorem dX9_scan_298 : decode cX9_scan 298 = .ok (.putfield 165, 3) := by decide +kernel
theorem dX9_scan_301 : decode cX9_scan 301 = .ok (.return_, 1) := by decide +kernel
theorem dX9_isWord_0 : decode cX9_isWord 0 = .ok (.aload_n 0, 1) := by decide +kernel
theorem dX9_isWord_1 : decode cX9_isWord 1 = .ok (.getfield 183, 3) := by decide +kernel
theorem dX9_isWord_4 : decode cX9_isWord 4 = .ok (.ifCond .ne 31, 3) := by decide +kernel
theorem dX9_isWord_7 : decode cX9_isWord 7 = .ok (.aload_n 0, 1) := by decide +kernel
theorem dX9_isWord_8 : decode cX9_isWord 8 = .ok (.getfield 171, 3) := by decide +kernel
theorem dX9_isWord_11 : decode cX9_isWord 11 = .ok (.iconst 3, 1) := by decide +kernel
theorem dX9_isWord_12 : decode cX9_isWord 12 = .ok (.if_icmp .ne 23, 3) := by decide +kernel
theorem dX9_isWord_15 : decode cX9_isWord 15 = .ok (.aload_n 0, 1) := by decide +kernel
theorem dX9_isWord_16 : decode cX9_isWord 16 = .ok (.getfield 165, 3) := by decide +kernel
theorem dX9_isWord_19 : decode cX9_isWord 19 = .ok (.aload_n 0, 1) := by decide +kernel
theorem dX9_isWord_20 : decode cX9_isWord 20 = .ok (.getfield 168, 3) := by decide +kernel
theorem dX9_isWord_23 : decode cX9_isWord 23 = .ok (.isub, 1) := by decide +kernel
theorem dX9_isWord_24 : decode cX9_isWord 24 = .ok (.aload_n 1, 1) := by decide +kernel
theorem dX9_isWord_25 : decode cX9_isWord 25 = .ok (.invokevirtual 186, 3) := by decide +kernel
theorem dX9_isWord_28 : decode cX9_isWord 28 = .ok (.if_icmp .ne 7, 3) := by decide +kernel
theorem dX9_isWord_31 : decode cX9_isWord 31 = .ok (.iconst 1, 1) := by decide +kernel
theorem dX9_isWord_32 : decode cX9_isWord 32 = .ok (.goto 4, 3) := by decide +kernel
theorem dX9_isWord_35 : decode cX9_isWord 35 = .ok (.iconst 0, 1) := by decide +kernel
theorem dX9_isWord_36 : decode cX9_isWord 36 = .ok (.istore_n 2, 1) := by decide +kernel
theorem dX9_isWord_37 : decode cX9_isWord 37 = .ok (.iconst 0, 1) := by decide +kernel
theorem dX9_isWord_38 : decode cX9_isWord 38 = .ok (.istore_n 3, 1) := by decide +kernel
theorem dX9_isWord_39 : decode cX9_isWord 39 = .ok (.iload_n 2, 1) := by decide +kernel
theorem dX9_isWord_40 : decode cX9_isWord 40 = .ok (.ifCond .eq 42, 3) := by decide +kernel
theorem dX9_isWord_43 : decode cX9_isWord 43 = .ok (.iload_n 3, 1) := by decide +kernel
theorem dX9_isWord_44 : decode cX9_isWord 44 = .ok (.aload_n 1, 1) := by decide +kernel
theorem dX9_isWord_45 : decode cX9_isWord 45 = .ok (.invokevirtual 186, 3) := by decide +kernel
theorem dX9_isWord_48 : decode cX9_isWord 48 = .ok (.if_icmp .ge 34, 3) := by decide +kernel
theorem dX9_isWord_51 : decode cX9_isWord 51 = .ok (.aload_n 0, 1) := by decide +kernel
theorem dX9_isWord_52 : decode cX9_isWord 52 = .ok (.getfield 27, 3) := by decide +kernel
theorem dX9_isWord_55 : decode cX9_isWord 55 = .ok (.aload_n 0, 1) := by decide +kernel
theorem dX9_isWord_56 : decode cX9_isWord 56 = .ok (.getfield 168, 3) := by decide +kernel
theorem dX9_isWord_59 : decode cX9_isWord 59 = .ok (.iload_n 3, 1) := by decide +kernel
theorem dX9_isWord_60 : decode cX9_isWord 60 = .ok (.iadd, 1) := by decide +kernel
theorem dX9_isWord_61 : decode cX9_isWord 61 = .ok (.iaload, 1) := by decide +kernel
theorem dX9_isWord_62 : decode cX9_isWord 62 = .ok (.aload_n 1, 1) := by decide +kernel
theorem dX9_isWord_63 : decode cX9_isWord 63 = .ok (.iload_n 3, 1) := by decide +kernel
theorem dX9_isWord_64 : decode cX9_isWord 64 = .ok (.invokevirtual 191, 3) := by decide +kernel
theorem dX9_isWord_67 : decode cX9_isWord 67 = .ok (.if_icmp .ne 7, 3) := by decide +kernel
theorem dX9_isWord_70 : decode cX9_isWord 70 = .ok (.iconst 1, 1) := by decide +kernel
theorem dX9_isWord_71 : decode cX9_isWord 71 = .ok (.goto 4, 3) := by decide +kernel
theorem dX9_isWord_74 : decode cX9_isWord 74 = .ok (.iconst 0, 1) := by decide +kernel
theorem dX9_isWord_75 : decode cX9_isWord 75 = .ok (.istore_n 2, 1) := by decide +kernel
theorem dX9_isWord_76 : decode cX9_isWord 76 = .ok (.iinc 3 1, 3) := by decide +kernel
theorem dX9_isWord_79 : decode cX9_isWord 79 = .ok (.goto (-40), 3) := by decide +kernel
theorem dX9_isWord_82 : decode cX9_isWord 82 = .ok (.iload_n 2, 1) := by decide +kernel
theorem dX9_isWord_83 : decode cX9_isWord 83 = .ok (.ireturn, 1) := by decide +kernel
theorem dX9_fail_0 : decode cX9_fail 0 = .ok (.aload_n 0, 1) := by decide +kernel
theorem dX9_fail_1 : decode cX9_fail 1 = .ok (.getfield 183, 3) := by decide +kernel
theorem dX9_fail_4 : decode cX9_fail 4 = .ok (.ifCond .ne 16, 3) := by decide +kernel
theorem dX9_fail_7 : decode cX9_fail 7 = .ok (.aload_n 0, 1) := by decide +kernel
theorem dX9_fail_8 : decode cX9_fail 8 = .ok (.iload_n 1, 1) := by decide +kernel
theorem dX9_fail_9 : decode cX9_fail 9 = .ok (.putfield 183, 3) := by decide +kernel
theorem dX9_fail_12 : decode cX9_fail 12 = .ok (.aload_n 0, 1) := by decide +kernel
theorem dX9_fail_13 : decode cX9_fail 13 = .ok (.aload_n 0, 1) := by decide +kernel
theorem dX9_fail_14 : decode cX9_fail 14 = .ok (.getfield 168, 3) := by decide +kernel
theorem dX9_fail_17 : decode cX9_fail 17 = .ok (.putfield 195, 3) := by decide +kernel
theorem dX9_fail_20 : decode cX9_fail 20 = .ok (.return_, 1) := by decide +kernel
theorem dX9_good_0 : decode cX9_good 0 = .ok (.aload_n 0, 1) := by decide +kernel
theorem dX9_good_1 : decode cX9_good 1 = .ok (.getfield 183, 3) := by decide +kernel
theorem dX9_good_4 : decode cX9_good 4 = .ok (.ifCond .ne 7, 3) := by decide +kernel
theorem dX9_good_7 : decode cX9_good 7 = .ok (.iconst 1, 1) := by decide +kernel
theorem dX9_good_8 : decode cX9_good 8 = .ok (.goto 4, 3) := by decide +kernel
theorem dX9_good_11 : decode cX9_good 11 = .ok (.iconst 0, 1) := by decide +kernel
theorem dX9_good_12 : decode cX9_good 12 = .ok (.ireturn, 1) := by decide +kernel
theorem dX9_advance_0 : decode cX9_advance 0 = .ok (.aload_n 0, 1) := by decide +kernel
theorem dX9_advance_1 : decode cX9_advance 1 = .ok (.invokevirtual 198, 3) := by decide +kernel
theorem dX9_advance_4 : decode cX9_advance 4 = .ok (.ifCond .eq 7, 3) := by decide +kernel
theorem dX9_advance_7 : decode cX9_advance 7 = .ok (.aload_n 0, 1) := by decide +kernel
theorem dX9_advance_8 : decode cX9_advance 8 = .ok (.invokevirtual 202, 3) := by decide +kernel
theorem dX9_advance_11 : decode cX9_advance 11 = .ok (.return_, 1) := by decide +kernel
theorem dX9_number_0 : decode cX9_number 0 = .ok (.aload_n 0, 1) := by decide +kernel
theorem dX9_number_1 : decode cX9_number 1 = .ok (.getfield 171, 3) := by decide +kernel
theorem dX9_number_4 : decode cX9_number 4 = .ok (.iconst 2, 1) := by decide +kernel
theorem dX9_number_5 : decode cX9_number 5 = .ok (.if_icmp .eq 11, 3) := by decide +kernel
theorem dX9_number_8 : decode cX9_number 8 = .ok (.aload_n 0, 1) := by decide +kernel
theorem dX9_number_9 : decode cX9_number 9 = .ok (.iconst 1, 1) := by decide +kernel
theorem dX9_number_10 : decode cX9_number 10 = .ok (.invokevirtual 205, 3) := by decide +kernel
theorem dX9_number_13 : decode cX9_number 13 = .ok (.goto 24, 3) := by decide +kernel
theorem dX9_number_16 : decode cX9_number 16 = .ok (.aload_n 0, 1) := by decide +kernel
theorem dX9_number_17 : decode cX9_number 17 = .ok (.getfield 180, 3) := by decide +kernel
theorem dX9_number_20 : decode cX9_number 20 = .ok (.iload_n 1, 1) := by decide +kernel
theorem dX9_number_21 : decode cX9_number 21 = .ok (.if_icmp .lt 11, 3) := by decide +kernel
theorem dX9_number_24 : decode cX9_number 24 = .ok (.aload_n 0, 1) := by decide +kernel
theorem dX9_number_25 : decode cX9_number 25 = .ok (.getfield 180, 3) := by decide +kernel
theorem dX9_number_28 : decode cX9_number 28 = .ok (.iload_n 2, 1) := by decide +kernel
theorem dX9_number_29 : decode cX9_number 29 = .ok (.if_icmp .le 8, 3) := by decide +kernel
theorem dX9_number_32 : decode cX9_number 32 = .ok (.aload_n 0, 1) := by decide +kernel
theorem dX9_number_33 : decode cX9_number 33 = .ok (.iconst 2, 1) := by decide +kernel
theorem dX9_number_34 : decode cX9_number 34 = .ok (.invokevirtual 205, 3) := by decide +kernel
theorem dX9_number_37 : decode cX9_number 37 = .ok (.aload_n 0, 1) := by decide +kernel
theorem dX9_number_38 : decode cX9_number 38 = .ok (.getfield 180, 3) := by decide +kernel
theorem dX9_number_41 : decode cX9_number 41 = .ok (.istore_n 3, 1) := by decide +kernel
theorem dX9_number_42 : decode cX9_number 42 = .ok (.aload_n 0, 1) := by decide +kernel
theorem dX9_number_43 : decode cX9_number 43 = .ok (.invokevirtual 208, 3) := by decide +kernel
theorem dX9_number_46 : decode cX9_number 46 = .ok (.aload_n 0, 1) := by decide +kernel
theorem dX9_number_47 : decode cX9_number 47 = .ok (.invokevirtual 198, 3) := by decide +kernel
theorem dX9_number_50 : decode cX9_number 50 = .ok (.ifCond .eq 7, 3) := by decide +kernel
theorem dX9_number_53 : decode cX9_number 53 = .ok (.iload_n 3, 1) := by decide +kernel
theorem dX9_number_54 : decode cX9_number 54 = .ok (.goto 4, 3) := by decide +kernel
theorem dX9_number_57 : decode cX9_number 57 = .ok (.iconst 0, 1) := by decide +kernel
theorem dX9_number_58 : decode cX9_number 58 = .ok (.ireturn, 1) := by decide +kernel
theorem dX9_anItem_0 : decode cX9_anItem 0 = .ok (.aload_n 0, 1) := by decide +kernel
theorem dX9_anItem_1 : decode cX9_anItem 1 = .ok (.iconst 0, 1) := by decide +kernel
theorem dX9_anItem_2 : decode cX9_anItem 2 = .ok (.aload_n 0, 1) := by decide +kernel
theorem dX9_anItem_3 : decode cX9_anItem 3 = .ok (.getfield 9, 3) := by decide +kernel
theorem dX9_anItem_6 : decode cX9_anItem 6 = .ok (.iconst 1, 1) := by decide +kernel
theorem dX9_anItem_7 : decode cX9_anItem 7 = .ok (.iaload, 1) := by decide +kernel
theorem dX9_anItem_8 : decode cX9_anItem 8 = .ok (.iconst 1, 1) := by decide +kernel
theorem dX9_anItem_9 : decode cX9_anItem 9 = .ok (.isub, 1) := by decide +kernel
theorem dX9_anItem_10 : decode cX9_anItem 10 = .ok (.invokevirtual 211, 3) := by decide +kernel
theorem dX9_anItem_13 : decode cX9_anItem 13 = .ok (.ireturn, 1) := by decide +kernel
theorem dX9_ends_0 : decode cX9_ends 0 = .ok (.aload_n 0, 1) := by decide +kernel
theorem dX9_ends_1 : decode cX9_ends 1 = .ok (.getfield 171, 3) := by decide +kernel
theorem dX9_ends_4 : decode cX9_ends 4 = .ok (.iconst 1, 1) := by decide +kernel
theorem dX9_ends_5 : decode cX9_ends 5 = .ok (.if_icmp .eq 8, 3) := by decide +kernel
theorem dX9_ends_8 : decode cX9_ends 8 = .ok (.aload_n 0, 1) := by decide +kernel
theorem dX9_ends_9 : decode cX9_ends 9 = .ok (.iconst 1, 1) := by decide +kernel
theorem dX9_ends_10 : decode cX9_ends 10 = .ok (.invokevirtual 205, 3) := by decide +kernel
theorem dX9_ends_13 : decode cX9_ends 13 = .ok (.iload_n 1, 1) := by decide +kernel
theorem dX9_ends_14 : decode cX9_ends 14 = .ok (.ifCond .ne 8, 3) := by decide +kernel
theorem dX9_ends_17 : decode cX9_ends 17 = .ok (.aload_n 0, 1) := by decide +kernel
theorem dX9_ends_18 : decode cX9_ends 18 = .ok (.iconst 3, 1) := by decide +kernel
theorem dX9_ends_19 : decode cX9_ends 19 = .ok (.invokevirtual 205, 3) := by decide +kernel
theorem dX9_ends_22 : decode cX9_ends 22 = .ok (.aload_n 0, 1) := by decide +kernel
theorem dX9_ends_23 : decode cX9_ends 23 = .ok (.invokevirtual 198, 3) := by decide +kernel
theorem dX9_ends_26 : decode cX9_ends 26 = .ok (.ireturn, 1) := by decide +kernel
theorem dX9_runScript_0 : decode cX9_runScript 0 = .ok (.aload_n 0, 1) := by decide +kernel
theorem dX9_runScript_1 : decode cX9_runScript 1 = .ok (.iconst 0, 1) := by decide +kernel
theorem dX9_runScript_2 : decode cX9_runScript 2 = .ok (.putfield 59, 3) := by decide +kernel
theorem dX9_runScript_5 : decode cX9_runScript 5 = .ok (.aload_n 0, 1) := by decide +kernel
theorem dX9_runScript_6 : decode cX9_runScript 6 = .ok (.getfield 9, 3) := by decide +kernel
theorem dX9_runScript_9 : decode cX9_runScript 9 = .ok (.aload_n 0, 1) := by decide +kernel
theorem dX9_runScript_10 : decode cX9_runScript 10 = .ok (.getfield 21, 3) := by decide +kernel
theorem dX9_runScript_13 : decode cX9_runScript 13 = .ok (.invokestatic 65, 3) := by decide +kernel
theorem dX9_runScript_16 : decode cX9_runScript 16 = .ok (.aload_n 0, 1) := by decide +kernel
theorem dX9_runScript_17 : decode cX9_runScript 17 = .ok (.iconst 0, 1) := by decide +kernel
theorem dX9_runScript_18 : decode cX9_runScript 18 = .ok (.putfield 165, 3) := by decide +kernel
theorem dX9_runScript_21 : decode cX9_runScript 21 = .ok (.aload_n 0, 1) := by decide +kernel
theorem dX9_runScript_22 : decode cX9_runScript 22 = .ok (.iconst 0, 1) := by decide +kernel
theorem dX9_runScript_23 : decode cX9_runScript 23 = .ok (.putfield 183, 3) := by decide +kernel
theorem dX9_runScript_26 : decode cX9_runScript 26 = .ok (.aload_n 0, 1) := by decide +kernel
theorem dX9_runScript_27 : decode cX9_runScript 27 = .ok (.iconst (-1), 1) := by decide +kernel
theorem dX9_runScript_28 : decode cX9_runScript 28 = .ok (.putfield 195, 3) := by decide +kernel
theorem dX9_runScript_31 : decode cX9_runScript 31 = .ok (.aload_n 0, 1) := by decide +kernel
theorem dX9_runScript_32 : decode cX9_runScript 32 = .ok (.iconst 0, 1) := by decide +kernel
theorem dX9_runScript_33 : decode cX9_runScript 33 = .ok (.putfield 214, 3) := by decide +kernel
theorem dX9_runScript_36 : decode cX9_runScript 36 = .ok (.aload_n 0, 1) := by decide +kernel
theorem dX9_runScript_37 : decode cX9_runScript 37 = .ok (.iconst 0, 1) := by decide +kernel
theorem dX9_runScript_38 : decode cX9_runScript 38 = .ok (.putfield 217, 3) := by decide +kernel
theorem dX9_runScript_41 : decode cX9_runScript 41 = .ok (.aload_n 0, 1) := by decide +kernel
theorem dX9_runScript_42 : decode cX9_runScript 42 = .ok (.invokevirtual 202, 3) := by decide +kernel
theorem dX9_runScript_45 : decode cX9_runScript 45 = .ok (.aload_n 0, 1) := by decide +kernel
theorem dX9_runScript_46 : decode cX9_runScript 46 = .ok (.ldc 220, 2) := by decide +kernel
theorem dX9_runScript_48 : decode cX9_runScript 48 = .ok (.invokevirtual 222, 3) := by decide +kernel
theorem dX9_runScript_51 : decode cX9_runScript 51 = .ok (.ifCond .ne 8, 3) := by decide +kernel
theorem dX9_runScript_54 : decode cX9_runScript 54 = .ok (.aload_n 0, 1) := by decide +kernel
theorem dX9_runScript_55 : decode cX9_runScript 55 = .ok (.iconst 1, 1) := by decide +kernel
theorem dX9_runScript_56 : decode cX9_runScript 56 = .ok (.invokevirtual 205, 3) := by decide +kernel
theorem dX9_runScript_59 : decode cX9_runScript 59 = .ok (.aload_n 0, 1) := by decide +kernel
theorem dX9_runScript_60 : decode cX9_runScript 60 = .ok (.invokevirtual 208, 3) := by decide +kernel
theorem dX9_runScript_63 : decode cX9_runScript 63 = .ok (.aload_n 0, 1) := by decide +kernel
theorem dX9_runScript_64 : decode cX9_runScript 64 = .ok (.iconst 0, 1) := by decide +kernel
theorem dX9_runScript_65 : decode cX9_runScript 65 = .ok (.bipush 100, 2) := by decide +kernel
theorem dX9_runScript_67 : decode cX9_runScript 67 = .ok (.invokevirtual 211, 3) := by decide +kernel
theorem dX9_runScript_70 : decode cX9_runScript 70 = .ok (.istore_n 1, 1) := by decide +kernel
theorem dX9_runScript_71 : decode cX9_runScript 71 = .ok (.aload_n 0, 1) := by decide +kernel
theorem dX9_runScript_72 : decode cX9_runScript 72 = .ok (.iconst 1, 1) := by decide +kernel
theorem dX9_runScript_73 : decode cX9_runScript 73 = .ok (.invokevirtual 226, 3) := by decide +kernel
theorem dX9_runScript_76 : decode cX9_runScript 76 = .ok (.ifCond .eq 8, 3) := by decide +kernel
theorem dX9_runScript_79 : decode cX9_runScript 79 = .ok (.aload_n 0, 1) := by decide +kernel
theorem dX9_runScript_80 : decode cX9_runScript 80 = .ok (.iload_n 1, 1) := by decide +kernel
theorem dX9_runScript_81 : decode cX9_runScript 81 = .ok (.invokevirtual 47, 3) := by decide +kernel
theorem dX9_runScript_84 : decode cX9_runScript 84 = .ok (.aload_n 0, 1) := by decide +kernel
theorem dX9_runScript_85 : decode cX9_runScript 85 = .ok (.invokevirtual 208, 3) := by decide +kernel
theorem dX9_runScript_88 : decode cX9_runScript 88 = .ok (.aload_n 0, 1) := by decide +kernel
theorem dX9_runScript_89 : decode cX9_runScript 89 = .ok (.invokevirtual 198, 3) := by decide +kernel
theorem dX9_runScript_92 : decode cX9_runScript 92 = .ok (.ifCond .eq 21, 3) := by decide +kernel
theorem dX9_runScript_95 : decode cX9_runScript 95 = .ok (.aload_n 0, 1) := by decide +kernel
theorem dX9_runScript_96 : decode cX9_runScript 96 = .ok (.getfield 171, 3) := by decide +kernel
theorem dX9_runScript_99 : decode cX9_runScript 99 = .ok (.ifCond .eq 14, 3) := by decide +kernel
theorem dX9_runScript_102 : decode cX9_runScript 102 = .ok (.aload_n 0, 1) := by decide +kernel
theorem dX9_runScript_103 : decode cX9_runScript 103 = .ok (.invokevirtual 230, 3) := by decide +kernel
theorem dX9_runScript_106 : decode cX9_runScript 106 = .ok (.aload_n 0, 1) := by decide +kernel
theorem dX9_runScript_107 : decode cX9_runScript 107 = .ok (.invokevirtual 208, 3) := by decide +kernel
theorem dX9_runScript_110 : decode cX9_runScript 110 = .ok (.goto (-22), 3) := by decide +kernel
theorem dX9_runScript_113 : decode cX9_runScript 113 = .ok (.aload_n 0, 1) := by decide +kernel
theorem dX9_runScript_114 : decode cX9_runScript 114 = .ok (.iconst 0, 1) := by decide +kernel
theorem dX9_runScript_115 : decode cX9_runScript 115 = .ok (.putfield 162, 3) := by decide +kernel
theorem dX9_runScript_118 : decode cX9_runScript 118 = .ok (.aload_n 0, 1) := by decide +kernel
theorem dX9_runScript_119 : decode cX9_runScript 119 = .ok (.aload_n 0, 1) := by decide +kernel
theorem dX9_runScript_120 : decode cX9_runScript 120 = .ok (.getfield 183, 3) := by decide +kernel
theorem dX9_runScript_123 : decode cX9_runScript 123 = .ok (.putfield 233, 3) := by decide +kernel
theorem dX9_runScript_126 : decode cX9_runScript 126 = .ok (.aload_n 0, 1) := by decide +kernel
theorem dX9_runScript_127 : decode cX9_runScript 127 = .ok (.aload_n 0, 1) := by decide +kernel
theorem dX9_runScript_128 : decode cX9_runScript 128 = .ok (.getfield 195, 3) := by decide +kernel
theorem dX9_runScript_131 : decode cX9_runScript 131 = .ok (.putfield 43, 3) := by decide +kernel
theorem dX9_runScript_134 : decode cX9_runScript 134 = .ok (.aload_n 0, 1) := by decide +kernel
theorem dX9_runScript_135 : decode cX9_runScript 135 = .ok (.invokevirtual 198, 3) := by decide +kernel
theorem dX9_runScript_138 : decode cX9_runScript 138 = .ok (.ifCond .ne 16, 3) := by decide +kernel
theorem dX9_runScript_141 : decode cX9_runScript 141 = .ok (.aload_n 0, 1) := by decide +kernel
theorem dX9_runScript_142 : decode cX9_runScript 142 = .ok (.getfield 21, 3) := by decide +kernel
theorem dX9_runScript_145 : decode cX9_runScript 145 = .ok (.aload_n 0, 1) := by decide +kernel
theorem dX9_runScript_146 : decode cX9_runScript 146 = .ok (.getfield 9, 3) := by decide +kernel
theorem dX9_runScript_149 : decode cX9_runScript 149 = .ok (.invokestatic 65, 3) := by decide +kernel
theorem dX9_runScript_152 : decode cX9_runScript 152 = .ok (.iconst (-1), 1) := by decide +kernel
theorem dX9_runScript_153 : decode cX9_runScript 153 = .ok (.ireturn, 1) := by decide +kernel
theorem dX9_runScript_154 : decode cX9_runScript 154 = .ok (.aload_n 0, 1) := by decide +kernel
theorem dX9_runScript_155 : decode cX9_runScript 155 = .ok (.aload_n 0, 1) := by decide +kernel
theorem dX9_runScript_156 : decode cX9_runScript 156 = .ok (.getfield 21, 3) := by decide +kernel
theorem dX9_runScript_159 : decode cX9_runScript 159 = .ok (.invokevirtual 130, 3) := by decide +kernel
theorem dX9_runScript_162 : decode cX9_runScript 162 = .ok (.aload_n 0, 1) := by decide +kernel
theorem dX9_runScript_163 : decode cX9_runScript 163 = .ok (.getfield 9, 3) := by decide +kernel
theorem dX9_runScript_166 : decode cX9_runScript 166 = .ok (.iconst 1, 1) := by decide +kernel
theorem dX9_runScript_167 : decode cX9_runScript 167 = .ok (.iaload, 1) := by decide +kernel
theorem dX9_runScript_168 : decode cX9_runScript 168 = .ok (.ireturn, 1) := by decide +kernel
theorem dX9_stateHere_0 : decode cX9_stateHere 0 = .ok (.aload_n 0, 1) := by decide +kernel
theorem dX9_stateHere_1 : decode cX9_stateHere 1 = .ok (.ldc 236, 2) := by decide +kernel
theorem dX9_stateHere_3 : decode cX9_stateHere 3 = .ok (.invokevirtual 222, 3) := by decide +kernel
theorem dX9_stateHere_6 : decode cX9_stateHere 6 = .ok (.ifCond .eq 5, 3) := by decide +kernel
theorem dX9_stateHere_9 : decode cX9_stateHere 9 = .ok (.iconst 1, 1) := by decide +kernel
theorem dX9_stateHere_10 : decode cX9_stateHere 10 = .ok (.ireturn, 1) := by decide +kernel
theorem dX9_stateHere_11 : decode cX9_stateHere 11 = .ok (.aload_n 0, 1) := by decide +kernel
theorem dX9_stateHere_12 : decode cX9_stateHere 12 = .ok (.ldc 238, 2) := by decide +kernel
theorem dX9_stateHere_14 : decode cX9_stateHere 14 = .ok (.invokevirtual 222, 3) := by decide +kernel
theorem dX9_stateHere_17 : decode cX9_stateHere 17 = .ok (.ifCond .eq 5, 3) := by decide +kernel
theorem dX9_stateHere_20 : decode cX9_stateHere 20 = .ok (.iconst 2, 1) := by decide +kernel
theorem dX9_stateHere_21 : decode cX9_stateHere 21 = .ok (.ireturn, 1) := by decide +kernel
theorem dX9_stateHere_22 : decode cX9_stateHere 22 = .ok (.aload_n 0, 1) := by decide +kernel
theorem dX9_stateHere_23 : decode cX9_stateHere 23 = .ok (.ldc 240, 2) := by decide +kernel
theorem dX9_stateHere_25 : decode cX9_stateHere 25 = .ok (.invokevirtual 222, 3) := by decide +kernel
theorem dX9_stateHere_28 : decode cX9_stateHere 28 = .ok (.ifCond .eq 7, 3) := by decide +kernel
theorem dX9_stateHere_31 : decode cX9_stateHere 31 = .ok (.iconst 0, 1) := by decide +kernel
theorem dX9_stateHere_32 : decode cX9_stateHere 32 = .ok (.goto 4, 3) := by decide +kernel
theorem dX9_stateHere_35 : decode cX9_stateHere 35 = .ok (.iconst (-1), 1) := by decide +kernel
theorem dX9_stateHere_36 : decode cX9_stateHere 36 = .ok (.ireturn, 1) := by decide +kernel
theorem dX9_isCommand_0 : decode cX9_isCommand 0 = .ok (.aload_n 0, 1) := by decide +kernel
theorem dX9_isCommand_1 : decode cX9_isCommand 1 = .ok (.invokevirtual 242, 3) := by decide +kernel
theorem dX9_isCommand_4 : decode cX9_isCommand 4 = .ok (.iconst (-1), 1) := by decide +kernel
theorem dX9_isCommand_5 : decode cX9_isCommand 5 = .ok (.if_icmp .ne 30, 3) := by decide +kernel
theorem dX9_isCommand_8 : decode cX9_isCommand 8 = .ok (.aload_n 0, 1) := by decide +kernel
theorem dX9_isCommand_9 : decode cX9_isCommand 9 = .ok (.ldc 245, 2) := by decide +kernel
theorem dX9_isCommand_11 : decode cX9_isCommand 11 = .ok (.invokevirtual 222, 3) := by decide +kernel
theorem dX9_isCommand_14 : decode cX9_isCommand 14 = .ok (.ifCond .ne 21, 3) := by decide +kernel
theorem dX9_isCommand_17 : decode cX9_isCommand 17 = .ok (.aload_n 0, 1) := by decide +kernel
theorem dX9_isCommand_18 : decode cX9_isCommand 18 = .ok (.ldc 247, 2) := by decide +kernel
theorem dX9_isCommand_20 : decode cX9_isCommand 20 = .ok (.invokevirtual 222, 3) := by decide +kernel
theorem dX9_isCommand_23 : decode cX9_isCommand 23 = .ok (.ifCond .ne 12, 3) := by decide +kernel
theorem dX9_isCommand_26 : decode cX9_isCommand 26 = .ok (.aload_n 0, 1) := by decide +kernel
theorem dX9_isCommand_27 : decode cX9_isCommand 27 = .ok (.ldc 248, 2) := by decide +kernel
theorem dX9_isCommand_29 : decode cX9_isCommand 29 = .ok (.invokevirtual 222, 3) := by decide +kernel
theorem dX9_isCommand_32 : decode cX9_isCommand 32 = .ok (.ifCond .eq 7, 3) := by decide +kernel
theorem dX9_isCommand_35 : decode cX9_isCommand 35 = .ok (.iconst 1, 1) := by decide +kernel
theorem dX9_isCommand_36 : decode cX9_isCommand 36 = .ok (.goto 4, 3) := by decide +kernel
theorem dX9_isCommand_39 : decode cX9_isCommand 39 = .ok (.iconst 0, 1) := by decide +kernel
theorem dX9_isCommand_40 : decode cX9_isCommand 40 = .ok (.istore_n 1, 1) := by decide +kernel
theorem dX9_isCommand_41 : decode cX9_isCommand 41 = .ok (.iload_n 1, 1) := by decide +kernel
theorem dX9_isCommand_42 : decode cX9_isCommand 42 = .ok (.ifCond .ne 39, 3) := by decide +kernel
theorem dX9_isCommand_45 : decode cX9_isCommand 45 = .ok (.aload_n 0, 1) := by decide +kernel
theorem dX9_isCommand_46 : decode cX9_isCommand 46 = .ok (.ldc 250, 2) := by decide +kernel
theorem dX9_isCommand_48 : decode cX9_isCommand 48 = .ok (.invokevirtual 222, 3) := by decide +kernel
theorem dX9_isCommand_51 : decode cX9_isCommand 51 = .ok (.ifCond .ne 30, 3) := by decide +kernel
theorem dX9_isCommand_54 : decode cX9_isCommand 54 = .ok (.aload_n 0, 1) := by decide +kernel
theorem dX9_isCommand_55 : decode cX9_isCommand 55 = .ok (.ldc 251, 2) := by decide +kernel
theorem dX9_isCommand_57 : decode cX9_isCommand 57 = .ok (.invokevirtual 222, 3) := by decide +kernel
theorem dX9_isCommand_60 : decode cX9_isCommand 60 = .ok (.ifCond .ne 21, 3) := by decide +kernel
theorem dX9_isCommand_63 : decode cX9_isCommand 63 = .ok (.aload_n 0, 1) := by decide +kernel
theorem dX9_isCommand_64 : decode cX9_isCommand 64 = .ok (.ldc 253, 2) := by decide +kernel
theorem dX9_isCommand_66 : decode cX9_isCommand 66 = .ok (.invokevirtual 222, 3) := by decide +kernel
theorem dX9_isCommand_69 : decode cX9_isCommand 69 = .ok (.ifCond .ne 12, 3) := by decide +kernel
theorem dX9_isCommand_72 : decode cX9_isCommand 72 = .ok (.aload_n 0, 1) := by decide +kernel
theorem dX9_isCommand_73 : decode cX9_isCommand 73 = .ok (.ldc 255, 2) := by decide +kernel
theorem dX9_isCommand_75 : decode cX9_isCommand 75 = .ok (.invokevirtual 222, 3) := by decide +kernel
theorem dX9_isCommand_78 : decode cX9_isCommand 78 = .ok (.ifCond .eq 7, 3) := by decide +kernel
theorem dX9_isCommand_81 : decode cX9_isCommand 81 = .ok (.iconst 1, 1) := by decide +kernel
theorem dX9_isCommand_82 : decode cX9_isCommand 82 = .ok (.goto 4, 3) := by decide +kernel
theorem dX9_isCommand_85 : decode cX9_isCommand 85 = .ok (.iconst 0, 1) := by decide +kernel
theorem dX9_isCommand_86 : decode cX9_isCommand 86 = .ok (.ireturn, 1) := by decide +kernel
theorem dX9_command_0 : decode cX9_command 0 = .ok (.aload_n 0, 1) := by decide +kernel
theorem dX9_command_1 : decode cX9_command 1 = .ok (.ldc_w 257, 3) := by decide +kernel
theorem dX9_command_4 : decode cX9_command 4 = .ok (.invokevirtual 222, 3) := by decide +kernel
theorem dX9_command_7 : decode cX9_command 7 = .ok (.ifCond .eq 8, 3) := by decide +kernel
theorem dX9_command_10 : decode cX9_command 10 = .ok (.aload_n 0, 1) := by decide +kernel
theorem dX9_command_11 : decode cX9_command 11 = .ok (.invokevirtual 259, 3) := by decide +kernel
theorem dX9_command_14 : decode cX9_command 14 = .ok (.return_, 1) := by decide +kernel
theorem dX9_command_15 : decode cX9_command 15 = .ok (.aload_n 0, 1) := by decide +kernel
theorem dX9_command_16 : decode cX9_command 16 = .ok (.invokevirtual 262, 3) := by decide +kernel
theorem dX9_command_19 : decode cX9_command 19 = .ok (.ifCond .ne 11, 3) := by decide +kernel
theorem dX9_command_22 : decode cX9_command 22 = .ok (.aload_n 0, 1) := by decide +kernel
theorem dX9_command_23 : decode cX9_command 23 = .ok (.iconst 1, 1) := by decide +kernel
theorem dX9_command_24 : decode cX9_command 24 = .ok (.invokevirtual 205, 3) := by decide +kernel
theorem dX9_command_27 : decode cX9_command 27 = .ok (.goto 17, 3) := by decide +kernel
theorem dX9_command_30 : decode cX9_command 30 = .ok (.aload_n 0, 1) := by decide +kernel
theorem dX9_command_31 : decode cX9_command 31 = .ok (.getfield 217, 3) := by decide +kernel
theorem dX9_command_34 : decode cX9_command 34 = .ok (.bipush 100, 2) := by decide +kernel
theorem dX9_command_36 : decode cX9_command 36 = .ok (.if_icmp .ne 8, 3) := by decide +kernel
theorem dX9_command_39 : decode cX9_command 39 = .ok (.aload_n 0, 1) := by decide +kernel
theorem dX9_command_40 : decode cX9_command 40 = .ok (.iconst 5, 1) := by decide +kernel
theorem dX9_command_41 : decode cX9_command 41 = .ok (.invokevirtual 205, 3) := by decide +kernel
theorem dX9_command_44 : decode cX9_command 44 = .ok (.aload_n 0, 1) := by decide +kernel
theorem dX9_command_45 : decode cX9_command 45 = .ok (.dup, 1) := by decide +kernel
theorem dX9_command_46 : decode cX9_command 46 = .ok (.getfield 217, 3) := by decide +kernel
theorem dX9_command_49 : decode cX9_command 49 = .ok (.iconst 1, 1) := by decide +kernel
theorem dX9_command_50 : decode cX9_command 50 = .ok (.iadd, 1) := by decide +kernel
theorem dX9_command_51 : decode cX9_command 51 = .ok (.putfield 217, 3) := by decide +kernel
theorem dX9_command_54 : decode cX9_command 54 = .ok (.aload_n 0, 1) := by decide +kernel
theorem dX9_command_55 : decode cX9_command 55 = .ok (.invokevirtual 198, 3) := by decide +kernel
theorem dX9_command_58 : decode cX9_command 58 = .ok (.ifCond .eq 7, 3) := by decide +kernel
theorem dX9_command_61 : decode cX9_command 61 = .ok (.aload_n 0, 1) := by decide +kernel
theorem dX9_command_62 : decode cX9_command 62 = .ok (.invokevirtual 265, 3) := by decide +kernel
theorem dX9_command_65 : decode cX9_command 65 = .ok (.return_, 1) := by decide +kernel
theorem dX9_repeatCommand_0 : decode cX9_repeatCommand 0 = .ok (.aload_n 0, 1) := by decide +kernel
theorem dX9_repeatCommand_1 : decode cX9_repeatCommand 1 = .ok (.getfield 214, 3) := by decide +kernel
theorem dX9_repeatCommand_4 : decode cX9_repeatCommand 4 = .ok (.iconst 2, 1) := by decide +kernel
theorem dX9_repeatCommand_5 : decode cX9_repeatCommand 5 = .ok (.if_icmp .ne 8, 3) := by decide +kernel
theorem dX9_repeatCommand_8 : decode cX9_repeatCommand 8 = .ok (.aload_n 0, 1) := by decide +kernel
theorem dX9_repeatCommand_9 : decode cX9_repeatCommand 9 = .ok (.iconst 4, 1) := by decide +kernel
theorem dX9_repeatCommand_10 : decode cX9_repeatCommand 10 = .ok (.invokevirtual 205, 3) := by decide +kernel
theorem dX9_repeatCommand_13 : decode cX9_repeatCommand 13 = .ok (.aload_n 0, 1) := by decide +kernel
theorem dX9_repeatCommand_14 : decode cX9_repeatCommand 14 = .ok (.invokevirtual 208, 3) := by decide +kernel
theorem dX9_repeatCommand_17 : decode cX9_repeatCommand 17 = .ok (.aload_n 0, 1) := by decide +kernel
theorem dX9_repeatCommand_18 : decode cX9_repeatCommand 18 = .ok (.iconst 1, 1) := by decide +kernel
theorem dX9_repeatCommand_19 : decode cX9_repeatCommand 19 = .ok (.bipush 20, 2) := by decide +kernel
theorem dX9_repeatCommand_21 : decode cX9_repeatCommand 21 = .ok (.invokevirtual 211, 3) := by decide +kernel
theorem dX9_repeatCommand_24 : decode cX9_repeatCommand 24 = .ok (.istore_n 1, 1) := by decide +kernel
theorem dX9_repeatCommand_25 : decode cX9_repeatCommand 25 = .ok (.aload_n 0, 1) := by decide +kernel
theorem dX9_repeatCommand_26 : decode cX9_repeatCommand 26 = .ok (.getfield 171, 3) := by decide +kernel
theorem dX9_repeatCommand_29 : decode cX9_repeatCommand 29 = .ok (.iconst 5, 1) := by decide +kernel
theorem dX9_repeatCommand_30 : decode cX9_repeatCommand 30 = .ok (.if_icmp .eq 8, 3) := by decide +kernel
theorem dX9_repeatCommand_33 : decode cX9_repeatCommand 33 = .ok (.aload_n 0, 1) := by decide +kernel
theorem dX9_repeatCommand_34 : decode cX9_repeatCommand 34 = .ok (.iconst 1, 1) := by decide +kernel
theorem dX9_repeatCommand_35 : decode cX9_repeatCommand 35 = .ok (.invokevirtual 205, 3) := by decide +kernel
theorem dX9_repeatCommand_38 : decode cX9_repeatCommand 38 = .ok (.aload_n 0, 1) := by decide +kernel
theorem dX9_repeatCommand_39 : decode cX9_repeatCommand 39 = .ok (.getfield 165, 3) := by decide +kernel
theorem dX9_repeatCommand_42 : decode cX9_repeatCommand 42 = .ok (.istore_n 2, 1) := by decide +kernel
theorem dX9_repeatCommand_43 : decode cX9_repeatCommand 43 = .ok (.aload_n 0, 1) := by decide +kernel
theorem dX9_repeatCommand_44 : decode cX9_repeatCommand 44 = .ok (.dup, 1) := by decide +kernel
theorem dX9_repeatCommand_45 : decode cX9_repeatCommand 45 = .ok (.getfield 214, 3) := by decide +kernel
theorem dX9_repeatCommand_48 : decode cX9_repeatCommand 48 = .ok (.iconst 1, 1) := by decide +kernel
theorem dX9_repeatCommand_49 : decode cX9_repeatCommand 49 = .ok (.iadd, 1) := by decide +kernel
theorem dX9_repeatCommand_50 : decode cX9_repeatCommand 50 = .ok (.putfield 214, 3) := by decide +kernel
theorem dX9_repeatCommand_53 : decode cX9_repeatCommand 53 = .ok (.iconst 0, 1) := by decide +kernel
theorem dX9_repeatCommand_54 : decode cX9_repeatCommand 54 = .ok (.istore_n 3, 1) := by decide +kernel
theorem dX9_repeatCommand_55 : decode cX9_repeatCommand 55 = .ok (.iload_n 3, 1) := by decide +kernel
theorem dX9_repeatCommand_56 : decode cX9_repeatCommand 56 = .ok (.iload_n 1, 1) := by decide +kernel
theorem dX9_repeatCommand_57 : decode cX9_repeatCommand 57 = .ok (.if_icmp .ge 52, 3) := by decide +kernel
theorem dX9_repeatCommand_60 : decode cX9_repeatCommand 60 = .ok (.aload_n 0, 1) := by decide +kernel
theorem dX9_repeatCommand_61 : decode cX9_repeatCommand 61 = .ok (.invokevirtual 198, 3) := by decide +kernel
theorem dX9_repeatCommand_64 : decode cX9_repeatCommand 64 = .ok (.ifCond .eq 45, 3) := by decide +kernel
theorem dX9_repeatCommand_67 : decode cX9_repeatCommand 67 = .ok (.aload_n 0, 1) := by decide +kernel
theorem dX9_repeatCommand_68 : decode cX9_repeatCommand 68 = .ok (.iload_n 2, 1) := by decide +kernel
theorem dX9_repeatCommand_69 : decode cX9_repeatCommand 69 = .ok (.putfield 165, 3) := by decide +kernel
theorem dX9_repeatCommand_72 : decode cX9_repeatCommand 72 = .ok (.aload_n 0, 1) := by decide +kernel
theorem dX9_repeatCommand_73 : decode cX9_repeatCommand 73 = .ok (.invokevirtual 202, 3) := by decide +kernel
theorem dX9_repeatCommand_76 : decode cX9_repeatCommand 76 = .ok (.aload_n 0, 1) := by decide +kernel
theorem dX9_repeatCommand_77 : decode cX9_repeatCommand 77 = .ok (.invokevirtual 198, 3) := by decide +kernel
theorem dX9_repeatCommand_80 : decode cX9_repeatCommand 80 = .ok (.ifCond .eq 23, 3) := by decide +kernel
theorem dX9_repeatCommand_83 : decode cX9_repeatCommand 83 = .ok (.aload_n 0, 1) := by decide +kernel
theorem dX9_repeatCommand_84 : decode cX9_repeatCommand 84 = .ok (.getfield 171, 3) := by decide +kernel
theorem dX9_repeatCommand_87 : decode cX9_repeatCommand 87 = .ok (.bipush 6, 2) := by decide +kernel
theorem dX9_repeatCommand_89 : decode cX9_repeatCommand 89 = .ok (.if_icmp .eq 14, 3) := by decide +kernel
theorem dX9_repeatCommand_92 : decode cX9_repeatCommand 92 = .ok (.aload_n 0, 1) := by decide +kernel
theorem dX9_repeatCommand_93 : decode cX9_repeatCommand 93 = .ok (.invokevirtual 230, 3) := by decide +kernel
theorem dX9_repeatCommand_96 : decode cX9_repeatCommand 96 = .ok (.aload_n 0, 1) := by decide +kernel
theorem dX9_repeatCommand_97 : decode cX9_repeatCommand 97 = .ok (.invokevirtual 208, 3) := by decide +kernel
theorem dX9_repeatCommand_100 : decode cX9_repeatCommand 100 = .ok (.goto (-24), 3) := by decide +kernel
theorem dX9_repeatCommand_103 : decode cX9_repeatCommand 103 = .ok (.iinc 3 1, 3) := by decide +kernel
theorem dX9_repeatCommand_106 : decode cX9_repeatCommand 106 = .ok (.goto (-51), 3) := by decide +kernel
theorem dX9_repeatCommand_109 : decode cX9_repeatCommand 109 = .ok (.aload_n 0, 1) := by decide +kernel
theorem dX9_repeatCommand_110 : decode cX9_repeatCommand 110 = .ok (.dup, 1) := by decide +kernel
theorem dX9_repeatCommand_111 : decode cX9_repeatCommand 111 = .ok (.getfield 214, 3) := by decide +kernel
theorem dX9_repeatCommand_114 : decode cX9_repeatCommand 114 = .ok (.iconst 1, 1) := by decide +kernel
theorem dX9_repeatCommand_115 : decode cX9_repeatCommand 115 = .ok (.isub, 1) := by decide +kernel
theorem dX9_repeatCommand_116 : decode cX9_repeatCommand 116 = .ok (.putfield 214, 3) := by decide +kernel
theorem dX9_repeatCommand_119 : decode cX9_repeatCommand 119 = .ok (.aload_n 0, 1) := by decide +kernel
theorem dX9_repeatCommand_120 : decode cX9_repeatCommand 120 = .ok (.invokevirtual 208, 3) := by decide +kernel
theorem dX9_repeatCommand_123 : decode cX9_repeatCommand 123 = .ok (.aload_n 0, 1) := by decide +kernel
theorem dX9_repeatCommand_124 : decode cX9_repeatCommand 124 = .ok (.iconst 1, 1) := by decide +kernel
theorem dX9_repeatCommand_125 : decode cX9_repeatCommand 125 = .ok (.invokevirtual 226, 3) := by decide +kernel
theorem dX9_repeatCommand_128 : decode cX9_repeatCommand 128 = .ok (.istore_n 3, 1) := by decide +kernel
theorem dX9_repeatCommand_129 : decode cX9_repeatCommand 129 = .ok (.return_, 1) := by decide +kernel
theorem dX9_numberCommand_0 : decode cX9_numberCommand 0 = .ok (.aload_n 0, 1) := by decide +kernel
theorem dX9_numberCommand_1 : decode cX9_numberCommand 1 = .ok (.invokevirtual 202, 3) := by decide +kernel
theorem dX9_numberCommand_4 : decode cX9_numberCommand 4 = .ok (.aload_n 0, 1) := by decide +kernel
theorem dX9_numberCommand_5 : decode cX9_numberCommand 5 = .ok (.invokevirtual 268, 3) := by decide +kernel
theorem dX9_numberCommand_8 : decode cX9_numberCommand 8 = .ok (.istore 4, 2) := by decide +kernel
theorem dX9_numberCommand_10 : decode cX9_numberCommand 10 = .ok (.aload_n 0, 1) := by decide +kernel
theorem dX9_numberCommand_11 : decode cX9_numberCommand 11 = .ok (.iload_n 2, 1) := by decide +kernel
theorem dX9_numberCommand_12 : decode cX9_numberCommand 12 = .ok (.iload_n 3, 1) := by decide +kernel
theorem dX9_numberCommand_13 : decode cX9_numberCommand 13 = .ok (.invokevirtual 211, 3) := by decide +kernel
theorem dX9_numberCommand_16 : decode cX9_numberCommand 16 = .ok (.istore 5, 2) := by decide +kernel
theorem dX9_numberCommand_18 : decode cX9_numberCommand 18 = .ok (.aload_n 0, 1) := by decide +kernel
theorem dX9_numberCommand_19 : decode cX9_numberCommand 19 = .ok (.iconst 1, 1) := by decide +kernel
theorem dX9_numberCommand_20 : decode cX9_numberCommand 20 = .ok (.invokevirtual 226, 3) := by decide +kernel
theorem dX9_numberCommand_23 : decode cX9_numberCommand 23 = .ok (.ifCond .eq 12, 3) := by decide +kernel
theorem dX9_numberCommand_26 : decode cX9_numberCommand 26 = .ok (.aload_n 0, 1) := by decide +kernel
theorem dX9_numberCommand_27 : decode cX9_numberCommand 27 = .ok (.iload 4, 2) := by decide +kernel
theorem dX9_numberCommand_29 : decode cX9_numberCommand 29 = .ok (.iload_n 1, 1) := by decide +kernel
theorem dX9_numberCommand_30 : decode cX9_numberCommand 30 = .ok (.iload 5, 2) := by decide +kernel
theorem dX9_numberCommand_32 : decode cX9_numberCommand 32 = .ok (.invokevirtual 55, 3) := by decide +kernel
theorem dX9_numberCommand_35 : decode cX9_numberCommand 35 = .ok (.return_, 1) := by decide +kernel
theorem dX9_oneCommand_0 : decode cX9_oneCommand 0 = .ok (.aload_n 0, 1) := by decide +kernel
theorem dX9_oneCommand_1 : decode cX9_oneCommand 1 = .ok (.invokevirtual 242, 3) := by decide +kernel
theorem dX9_oneCommand_4 : decode cX9_oneCommand 4 = .ok (.istore_n 1, 1) := by decide +kernel
theorem dX9_oneCommand_5 : decode cX9_oneCommand 5 = .ok (.iload_n 1, 1) := by decide +kernel
theorem dX9_oneCommand_6 : decode cX9_oneCommand 6 = .ok (.iconst (-1), 1) := by decide +kernel
theorem dX9_oneCommand_7 : decode cX9_oneCommand 7 = .ok (.if_icmp .eq 30, 3) := by decide +kernel
theorem dX9_oneCommand_10 : decode cX9_oneCommand 10 = .ok (.aload_n 0, 1) := by decide +kernel
theorem dX9_oneCommand_11 : decode cX9_oneCommand 11 = .ok (.invokevirtual 202, 3) := by decide +kernel
theorem dX9_oneCommand_14 : decode cX9_oneCommand 14 = .ok (.aload_n 0, 1) := by decide +kernel
theorem dX9_oneCommand_15 : decode cX9_oneCommand 15 = .ok (.invokevirtual 268, 3) := by decide +kernel
theorem dX9_oneCommand_18 : decode cX9_oneCommand 18 = .ok (.istore_n 2, 1) := by decide +kernel
theorem dX9_oneCommand_19 : decode cX9_oneCommand 19 = .ok (.aload_n 0, 1) := by decide +kernel
theorem dX9_oneCommand_20 : decode cX9_oneCommand 20 = .ok (.iconst 1, 1) := by decide +kernel
theorem dX9_oneCommand_21 : decode cX9_oneCommand 21 = .ok (.invokevirtual 226, 3) := by decide +kernel
theorem dX9_oneCommand_24 : decode cX9_oneCommand 24 = .ok (.ifCond .eq 10, 3) := by decide +kernel
theorem dX9_oneCommand_27 : decode cX9_oneCommand 27 = .ok (.aload_n 0, 1) := by decide +kernel
theorem dX9_oneCommand_28 : decode cX9_oneCommand 28 = .ok (.iload_n 2, 1) := by decide +kernel
theorem dX9_oneCommand_29 : decode cX9_oneCommand 29 = .ok (.iconst 3, 1) := by decide +kernel
theorem dX9_oneCommand_30 : decode cX9_oneCommand 30 = .ok (.iload_n 1, 1) := by decide +kernel
theorem dX9_oneCommand_31 : decode cX9_oneCommand 31 = .ok (.invokevirtual 55, 3) := by decide +kernel
theorem dX9_oneCommand_34 : decode cX9_oneCommand 34 = .ok (.goto 262, 3) := by decide +kernel
theorem dX9_oneCommand_37 : decode cX9_oneCommand 37 = .ok (.aload_n 0, 1) := by decide +kernel
theorem dX9_oneCommand_38 : decode cX9_oneCommand 38 = .ok (.ldc 245, 2) := by decide +kernel
theorem dX9_oneCommand_40 : decode cX9_oneCommand 40 = .ok (.invokevirtual 222, 3) := by decide +kernel
theorem dX9_oneCommand_43 : decode cX9_oneCommand 43 = .ok (.ifCond .eq 58, 3) := by decide +kernel
theorem dX9_oneCommand_46 : decode cX9_oneCommand 46 = .ok (.aload_n 0, 1) := by decide +kernel
theorem dX9_oneCommand_47 : decode cX9_oneCommand 47 = .ok (.invokevirtual 202, 3) := by decide +kernel
theorem dX9_oneCommand_50 : decode cX9_oneCommand 50 = .ok (.aload_n 0, 1) := by decide +kernel
theorem dX9_oneCommand_51 : decode cX9_oneCommand 51 = .ok (.iconst 1, 1) := by decide +kernel
theorem dX9_oneCommand_52 : decode cX9_oneCommand 52 = .ok (.bipush 60, 2) := by decide +kernel
theorem dX9_oneCommand_54 : decode cX9_oneCommand 54 = .ok (.invokevirtual 211, 3) := by decide +kernel
theorem dX9_oneCommand_57 : decode cX9_oneCommand 57 = .ok (.istore_n 2, 1) := by decide +kernel
theorem dX9_oneCommand_58 : decode cX9_oneCommand 58 = .ok (.aload_n 0, 1) := by decide +kernel
theorem dX9_oneCommand_59 : decode cX9_oneCommand 59 = .ok (.iconst 0, 1) := by decide +kernel
theorem dX9_oneCommand_60 : decode cX9_oneCommand 60 = .ok (.sipush 999, 3) := by decide +kernel
theorem dX9_oneCommand_63 : decode cX9_oneCommand 63 = .ok (.invokevirtual 211, 3) := by decide +kernel
theorem dX9_oneCommand_66 : decode cX9_oneCommand 66 = .ok (.istore_n 3, 1) := by decide +kernel
theorem dX9_oneCommand_67 : decode cX9_oneCommand 67 = .ok (.aload_n 0, 1) := by decide +kernel
theorem dX9_oneCommand_68 : decode cX9_oneCommand 68 = .ok (.aload_n 0, 1) := by decide +kernel
theorem dX9_oneCommand_69 : decode cX9_oneCommand 69 = .ok (.getfield 9, 3) := by decide +kernel
theorem dX9_oneCommand_72 : decode cX9_oneCommand 72 = .ok (.iconst 1, 1) := by decide +kernel
theorem dX9_oneCommand_73 : decode cX9_oneCommand 73 = .ok (.iaload, 1) := by decide +kernel
theorem dX9_oneCommand_74 : decode cX9_oneCommand 74 = .ok (.bipush 14, 2) := by decide +kernel
theorem dX9_oneCommand_76 : decode cX9_oneCommand 76 = .ok (.if_icmp .ge 7, 3) := by decide +kernel
theorem dX9_oneCommand_79 : decode cX9_oneCommand 79 = .ok (.iconst 1, 1) := by decide +kernel
theorem dX9_oneCommand_80 : decode cX9_oneCommand 80 = .ok (.goto 4, 3) := by decide +kernel
theorem dX9_oneCommand_83 : decode cX9_oneCommand 83 = .ok (.iconst 0, 1) := by decide +kernel
theorem dX9_oneCommand_84 : decode cX9_oneCommand 84 = .ok (.invokevirtual 226, 3) := by decide +kernel
theorem dX9_oneCommand_87 : decode cX9_oneCommand 87 = .ok (.ifCond .eq 11, 3) := by decide +kernel
theorem dX9_oneCommand_90 : decode cX9_oneCommand 90 = .ok (.aload_n 0, 1) := by decide +kernel
theorem dX9_oneCommand_91 : decode cX9_oneCommand 91 = .ok (.iload_n 2, 1) := by decide +kernel
theorem dX9_oneCommand_92 : decode cX9_oneCommand 92 = .ok (.iload_n 3, 1) := by decide +kernel
theorem dX9_oneCommand_93 : decode cX9_oneCommand 93 = .ok (.invokevirtual 51, 3) := by decide +kernel
theorem dX9_oneCommand_96 : decode cX9_oneCommand 96 = .ok (.istore 4, 2) := by decide +kernel
theorem dX9_oneCommand_98 : decode cX9_oneCommand 98 = .ok (.goto 198, 3) := by decide +kernel
theorem dX9_oneCommand_101 : decode cX9_oneCommand 101 = .ok (.aload_n 0, 1) := by decide +kernel
theorem dX9_oneCommand_102 : decode cX9_oneCommand 102 = .ok (.ldc 247, 2) := by decide +kernel
theorem dX9_oneCommand_104 : decode cX9_oneCommand 104 = .ok (.invokevirtual 222, 3) := by decide +kernel
theorem dX9_oneCommand_107 : decode cX9_oneCommand 107 = .ok (.ifCond .eq 28, 3) := by decide +kernel
theorem dX9_oneCommand_110 : decode cX9_oneCommand 110 = .ok (.aload_n 0, 1) := by decide +kernel
theorem dX9_oneCommand_111 : decode cX9_oneCommand 111 = .ok (.invokevirtual 202, 3) := by decide +kernel
theorem dX9_oneCommand_114 : decode cX9_oneCommand 114 = .ok (.aload_n 0, 1) := by decide +kernel
theorem dX9_oneCommand_115 : decode cX9_oneCommand 115 = .ok (.invokevirtual 268, 3) := by decide +kernel
theorem dX9_oneCommand_118 : decode cX9_oneCommand 118 = .ok (.istore_n 2, 1) := by decide +kernel
theorem dX9_oneCommand_119 : decode cX9_oneCommand 119 = .ok (.aload_n 0, 1) := by decide +kernel
theorem dX9_oneCommand_120 : decode cX9_oneCommand 120 = .ok (.iconst 1, 1) := by decide +kernel
theorem dX9_oneCommand_121 : decode cX9_oneCommand 121 = .ok (.invokevirtual 226, 3) := by decide +kernel
theorem dX9_oneCommand_124 : decode cX9_oneCommand 124 = .ok (.ifCond .eq 8, 3) := by decide +kernel
theorem dX9_oneCommand_127 : decode cX9_oneCommand 127 = .ok (.aload_n 0, 1) := by decide +kernel
theorem dX9_oneCommand_128 : decode cX9_oneCommand 128 = .ok (.iload_n 2, 1) := by decide +kernel
theorem dX9_oneCommand_129 : decode cX9_oneCommand 129 = .ok (.invokevirtual 138, 3) := by decide +kernel
theorem dX9_oneCommand_132 : decode cX9_oneCommand 132 = .ok (.goto 164, 3) := by decide +kernel
theorem dX9_oneCommand_135 : decode cX9_oneCommand 135 = .ok (.aload_n 0, 1) := by decide +kernel
theorem dX9_oneCommand_136 : decode cX9_oneCommand 136 = .ok (.ldc 248, 2) := by decide +kernel
theorem dX9_oneCommand_138 : decode cX9_oneCommand 138 = .ok (.invokevirtual 222, 3) := by decide +kernel
theorem dX9_oneCommand_141 : decode cX9_oneCommand 141 = .ok (.ifCond .eq 33, 3) := by decide +kernel
theorem dX9_oneCommand_144 : decode cX9_oneCommand 144 = .ok (.aload_n 0, 1) := by decide +kernel
theorem dX9_oneCommand_145 : decode cX9_oneCommand 145 = .ok (.invokevirtual 202, 3) := by decide +kernel
theorem dX9_oneCommand_148 : decode cX9_oneCommand 148 = .ok (.aload_n 0, 1) := by decide +kernel
theorem dX9_oneCommand_149 : decode cX9_oneCommand 149 = .ok (.iconst 0, 1) := by decide +kernel
theorem dX9_oneCommand_150 : decode cX9_oneCommand 150 = .ok (.bipush 100, 2) := by decide +kernel
theorem dX9_oneCommand_152 : decode cX9_oneCommand 152 = .ok (.invokevirtual 211, 3) := by decide +kernel
theorem dX9_oneCommand_155 : decode cX9_oneCommand 155 = .ok (.istore_n 2, 1) := by decide +kernel
theorem dX9_oneCommand_156 : decode cX9_oneCommand 156 = .ok (.aload_n 0, 1) := by decide +kernel
theorem dX9_oneCommand_157 : decode cX9_oneCommand 157 = .ok (.iconst 1, 1) := by decide +kernel
theorem dX9_oneCommand_158 : decode cX9_oneCommand 158 = .ok (.invokevirtual 226, 3) := by decide +kernel
theorem dX9_oneCommand_161 : decode cX9_oneCommand 161 = .ok (.ifCond .eq 10, 3) := by decide +kernel
theorem dX9_oneCommand_164 : decode cX9_oneCommand 164 = .ok (.aload_n 0, 1) := by decide +kernel
theorem dX9_oneCommand_165 : decode cX9_oneCommand 165 = .ok (.getfield 9, 3) := by decide +kernel
theorem dX9_oneCommand_168 : decode cX9_oneCommand 168 = .ok (.iconst 0, 1) := by decide +kernel
theorem dX9_oneCommand_169 : decode cX9_oneCommand 169 = .ok (.iload_n 2, 1) := by decide +kernel
theorem dX9_oneCommand_170 : decode cX9_oneCommand 170 = .ok (.iastore, 1) := by decide +kernel
theorem dX9_oneCommand_171 : decode cX9_oneCommand 171 = .ok (.goto 125, 3) := by decide +kernel
theorem dX9_oneCommand_174 : decode cX9_oneCommand 174 = .ok (.aload_n 0, 1) := by decide +kernel
theorem dX9_oneCommand_175 : decode cX9_oneCommand 175 = .ok (.ldc 250, 2) := by decide +kernel
theorem dX9_oneCommand_177 : decode cX9_oneCommand 177 = .ok (.invokevirtual 222, 3) := by decide +kernel
theorem dX9_oneCommand_180 : decode cX9_oneCommand 180 = .ok (.ifCond .eq 32, 3) := by decide +kernel
theorem dX9_oneCommand_183 : decode cX9_oneCommand 183 = .ok (.aload_n 0, 1) := by decide +kernel
theorem dX9_oneCommand_184 : decode cX9_oneCommand 184 = .ok (.invokevirtual 202, 3) := by decide +kernel
theorem dX9_oneCommand_187 : decode cX9_oneCommand 187 = .ok (.aload_n 0, 1) := by decide +kernel
theorem dX9_oneCommand_188 : decode cX9_oneCommand 188 = .ok (.iconst 1, 1) := by decide +kernel
theorem dX9_oneCommand_189 : decode cX9_oneCommand 189 = .ok (.bipush 50, 2) := by decide +kernel
theorem dX9_oneCommand_191 : decode cX9_oneCommand 191 = .ok (.invokevirtual 211, 3) := by decide +kernel
theorem dX9_oneCommand_194 : decode cX9_oneCommand 194 = .ok (.istore_n 2, 1) := by decide +kernel
theorem dX9_oneCommand_195 : decode cX9_oneCommand 195 = .ok (.aload_n 0, 1) := by decide +kernel
theorem dX9_oneCommand_196 : decode cX9_oneCommand 196 = .ok (.iconst 1, 1) := by decide +kernel
theorem dX9_oneCommand_197 : decode cX9_oneCommand 197 = .ok (.invokevirtual 226, 3) := by decide +kernel
theorem dX9_oneCommand_200 : decode cX9_oneCommand 200 = .ok (.ifCond .eq 9, 3) := by decide +kernel
theorem dX9_oneCommand_203 : decode cX9_oneCommand 203 = .ok (.aload_n 0, 1) := by decide +kernel
theorem dX9_oneCommand_204 : decode cX9_oneCommand 204 = .ok (.iload_n 2, 1) := by decide +kernel
theorem dX9_oneCommand_205 : decode cX9_oneCommand 205 = .ok (.invokevirtual 152, 3) := by decide +kernel
theorem dX9_oneCommand_208 : decode cX9_oneCommand 208 = .ok (.istore_n 3, 1) := by decide +kernel
theorem dX9_oneCommand_209 : decode cX9_oneCommand 209 = .ok (.goto 87, 3) := by decide +kernel
theorem dX9_oneCommand_212 : decode cX9_oneCommand 212 = .ok (.aload_n 0, 1) := by decide +kernel
theorem dX9_oneCommand_213 : decode cX9_oneCommand 213 = .ok (.ldc 255, 2) := by decide +kernel
theorem dX9_oneCommand_215 : decode cX9_oneCommand 215 = .ok (.invokevirtual 222, 3) := by decide +kernel
theorem dX9_oneCommand_218 : decode cX9_oneCommand 218 = .ok (.ifCond .eq 49, 3) := by decide +kernel
theorem dX9_oneCommand_221 : decode cX9_oneCommand 221 = .ok (.aload_n 0, 1) := by decide +kernel
theorem dX9_oneCommand_222 : decode cX9_oneCommand 222 = .ok (.invokevirtual 202, 3) := by decide +kernel
theorem dX9_oneCommand_225 : decode cX9_oneCommand 225 = .ok (.aload_n 0, 1) := by decide +kernel
theorem dX9_oneCommand_226 : decode cX9_oneCommand 226 = .ok (.invokevirtual 198, 3) := by decide +kernel
theorem dX9_oneCommand_229 : decode cX9_oneCommand 229 = .ok (.ifCond .eq 10, 3) := by decide +kernel
theorem dX9_oneCommand_232 : decode cX9_oneCommand 232 = .ok (.aload_n 0, 1) := by decide +kernel
theorem dX9_oneCommand_233 : decode cX9_oneCommand 233 = .ok (.invokevirtual 123, 3) := by decide +kernel
theorem dX9_oneCommand_236 : decode cX9_oneCommand 236 = .ok (.goto 4, 3) := by decide +kernel
theorem dX9_oneCommand_239 : decode cX9_oneCommand 239 = .ok (.iconst (-1), 1) := by decide +kernel
theorem dX9_oneCommand_240 : decode cX9_oneCommand 240 = .ok (.istore_n 2, 1) := by decide +kernel
theorem dX9_oneCommand_241 : decode cX9_oneCommand 241 = .ok (.aload_n 0, 1) := by decide +kernel
theorem dX9_oneCommand_242 : decode cX9_oneCommand 242 = .ok (.iload_n 2, 1) := by decide +kernel
theorem dX9_oneCommand_243 : decode cX9_oneCommand 243 = .ok (.iconst (-1), 1) := by decide +kernel
theorem dX9_oneCommand_244 : decode cX9_oneCommand 244 = .ok (.if_icmp .eq 7, 3) := by decide +kernel
theorem dX9_oneCommand_247 : decode cX9_oneCommand 247 = .ok (.iconst 1, 1) := by decide +kernel
theorem dX9_oneCommand_248 : decode cX9_oneCommand 248 = .ok (.goto 4, 3) := by decide +kernel
theorem dX9_oneCommand_251 : decode cX9_oneCommand 251 = .ok (.iconst 0, 1) := by decide +kernel
theorem dX9_oneCommand_252 : decode cX9_oneCommand 252 = .ok (.invokevirtual 226, 3) := by decide +kernel
theorem dX9_oneCommand_255 : decode cX9_oneCommand 255 = .ok (.ifCond .eq 9, 3) := by decide +kernel
theorem dX9_oneCommand_258 : decode cX9_oneCommand 258 = .ok (.aload_n 0, 1) := by decide +kernel
theorem dX9_oneCommand_259 : decode cX9_oneCommand 259 = .ok (.iload_n 2, 1) := by decide +kernel
theorem dX9_oneCommand_260 : decode cX9_oneCommand 260 = .ok (.invokevirtual 149, 3) := by decide +kernel
theorem dX9_oneCommand_263 : decode cX9_oneCommand 263 = .ok (.istore_n 3, 1) := by decide +kernel
theorem dX9_oneCommand_264 : decode cX9_oneCommand 264 = .ok (.goto 32, 3) := by decide +kernel
theorem dX9_oneCommand_267 : decode cX9_oneCommand 267 = .ok (.aload_n 0, 1) := by decide +kernel
theorem dX9_oneCommand_268 : decode cX9_oneCommand 268 = .ok (.ldc 251, 2) := by decide +kernel
theorem dX9_oneCommand_270 : decode cX9_oneCommand 270 = .ok (.invokevirtual 222, 3) := by decide +kernel
theorem dX9_oneCommand_273 : decode cX9_oneCommand 273 = .ok (.ifCond .eq 14, 3) := by decide +kernel
theorem dX9_oneCommand_276 : decode cX9_oneCommand 276 = .ok (.aload_n 0, 1) := by decide +kernel
theorem dX9_oneCommand_277 : decode cX9_oneCommand 277 = .ok (.iconst 0, 1) := by decide +kernel
theorem dX9_oneCommand_278 : decode cX9_oneCommand 278 = .ok (.iconst 1, 1) := by decide +kernel
theorem dX9_oneCommand_279 : decode cX9_oneCommand 279 = .ok (.bipush 60, 2) := by decide +kernel
theorem dX9_oneCommand_281 : decode cX9_oneCommand 281 = .ok (.invokevirtual 271, 3) := by decide +kernel
theorem dX9_oneCommand_284 : decode cX9_oneCommand 284 = .ok (.goto 12, 3) := by decide +kernel
theorem dX9_oneCommand_287 : decode cX9_oneCommand 287 = .ok (.aload_n 0, 1) := by decide +kernel
theorem dX9_oneCommand_288 : decode cX9_oneCommand 288 = .ok (.iconst 1, 1) := by decide +kernel
theorem dX9_oneCommand_289 : decode cX9_oneCommand 289 = .ok (.iconst 0, 1) := by decide +kernel
theorem dX9_oneCommand_290 : decode cX9_oneCommand 290 = .ok (.sipush 999, 3) := by decide +kernel
theorem dX9_oneCommand_293 : decode cX9_oneCommand 293 = .ok (.invokevirtual 271, 3) := by decide +kernel
theorem dX9_oneCommand_296 : decode cX9_oneCommand 296 = .ok (.return_, 1) := by decide +kernel
theorem dX9_type_0 : decode cX9_type 0 = .ok (.bipush 24, 2) := by decide +kernel
theorem dX9_type_2 : decode cX9_type 2 = .ok (.istore_n 2, 1) := by decide +kernel
theorem dX9_type_3 : decode cX9_type 3 = .ok (.iload_n 2, 1) := by decide +kernel
theorem dX9_type_4 : decode cX9_type 4 = .ok (.ifCond .lt 35, 3) := by decide +kernel
theorem dX9_type_7 : decode cX9_type 7 = .ok (.aload_n 0, 1) := by decide +kernel
theorem dX9_type_8 : decode cX9_type 8 = .ok (.getfield 27, 3) := by decide +kernel
theorem dX9_type_11 : decode cX9_type 11 = .ok (.aload_n 0, 1) := by decide +kernel
theorem dX9_type_12 : decode cX9_type 12 = .ok (.getfield 162, 3) := by decide +kernel
theorem dX9_type_15 : decode cX9_type 15 = .ok (.iload_n 1, 1) := by decide +kernel
theorem dX9_type_16 : decode cX9_type 16 = .ok (.iload_n 2, 1) := by decide +kernel
theorem dX9_type_17 : decode cX9_type 17 = .ok (.iushr, 1) := by decide +kernel
theorem dX9_type_18 : decode cX9_type 18 = .ok (.sipush 255, 3) := by decide +kernel
theorem dX9_type_21 : decode cX9_type 21 = .ok (.iand, 1) := by decide +kernel
theorem dX9_type_22 : decode cX9_type 22 = .ok (.iastore, 1) := by decide +kernel
theorem dX9_type_23 : decode cX9_type 23 = .ok (.aload_n 0, 1) := by decide +kernel
theorem dX9_type_24 : decode cX9_type 24 = .ok (.dup, 1) := by decide +kernel
theorem dX9_type_25 : decode cX9_type 25 = .ok (.getfield 162, 3) := by decide +kernel
theorem dX9_type_28 : decode cX9_type 28 = .ok (.iconst 1, 1) := by decide +kernel
theorem dX9_type_29 : decode cX9_type 29 = .ok (.iadd, 1) := by decide +kernel
theorem dX9_type_30 : decode cX9_type 30 = .ok (.putfield 162, 3) := by decide +kernel
theorem dX9_type_33 : decode cX9_type 33 = .ok (.iinc 2 (-8), 3) := by decide +kernel
theorem dX9_type_36 : decode cX9_type 36 = .ok (.goto (-33), 3) := by decide +kernel
theorem dX9_type_39 : decode cX9_type 39 = .ok (.return_, 1) := by decide +kernel
theorem dX9_append_0 : decode cX9_append 0 = .ok (.aload_n 0, 1) := by decide +kernel
theorem dX9_append_1 : decode cX9_append 1 = .ok (.iconst 0, 1) := by decide +kernel
theorem dX9_append_2 : decode cX9_append 2 = .ok (.putfield 59, 3) := by decide +kernel
theorem dX9_append_5 : decode cX9_append 5 = .ok (.aload_n 0, 1) := by decide +kernel
theorem dX9_append_6 : decode cX9_append 6 = .ok (.getfield 162, 3) := by decide +kernel
theorem dX9_append_9 : decode cX9_append 9 = .ok (.bipush 20, 2) := by decide +kernel
theorem dX9_append_11 : decode cX9_append 11 = .ok (.iadd, 1) := by decide +kernel
theorem dX9_append_12 : decode cX9_append 12 = .ok (.sipush 500, 3) := by decide +kernel
theorem dX9_append_15 : decode cX9_append 15 = .ok (.if_icmp .le 6, 3) := by decide +kernel
theorem dX9_append_18 : decode cX9_append 18 = .ok (.bipush (-2), 2) := by decide +kernel
theorem dX9_append_20 : decode cX9_append 20 = .ok (.ireturn, 1) := by decide +kernel
theorem dX9_append_21 : decode cX9_append 21 = .ok (.aload_n 0, 1) := by decide +kernel
theorem dX9_append_22 : decode cX9_append 22 = .ok (.iload_n 1, 1) := by decide +kernel
theorem dX9_append_23 : decode cX9_append 23 = .ok (.invokevirtual 274, 3) := by decide +kernel
theorem dX9_append_26 : decode cX9_append 26 = .ok (.aload_n 0, 1) := by decide +kernel
theorem dX9_append_27 : decode cX9_append 27 = .ok (.iload_n 2, 1) := by decide +kernel
theorem dX9_append_28 : decode cX9_append 28 = .ok (.invokevirtual 274, 3) := by decide +kernel
theorem dX9_append_31 : decode cX9_append 31 = .ok (.aload_n 0, 1) := by decide +kernel
theorem dX9_append_32 : decode cX9_append 32 = .ok (.iload_n 3, 1) := by decide +kernel
theorem dX9_append_33 : decode cX9_append 33 = .ok (.invokevirtual 274, 3) := by decide +kernel
theorem dX9_append_36 : decode cX9_append 36 = .ok (.aload_n 0, 1) := by decide +kernel
theorem dX9_append_37 : decode cX9_append 37 = .ok (.iload 4, 2) := by decide +kernel
theorem dX9_append_39 : decode cX9_append 39 = .ok (.invokevirtual 274, 3) := by decide +kernel
theorem dX9_append_42 : decode cX9_append 42 = .ok (.aload_n 0, 1) := by decide +kernel
theorem dX9_append_43 : decode cX9_append 43 = .ok (.iload 5, 2) := by decide +kernel
theorem dX9_append_45 : decode cX9_append 45 = .ok (.invokevirtual 274, 3) := by decide +kernel
theorem dX9_append_48 : decode cX9_append 48 = .ok (.aload_n 0, 1) := by decide +kernel
theorem dX9_append_49 : decode cX9_append 49 = .ok (.getfield 162, 3) := by decide +kernel
theorem dX9_append_52 : decode cX9_append 52 = .ok (.ireturn, 1) := by decide +kernel
theorem dX9_truncateInput_0 : decode cX9_truncateInput 0 = .ok (.aload_n 0, 1) := by decide +kernel
theorem dX9_truncateInput_1 : decode cX9_truncateInput 1 = .ok (.iconst 0, 1) := by decide +kernel
theorem dX9_truncateInput_2 : decode cX9_truncateInput 2 = .ok (.putfield 59, 3) := by decide +kernel
theorem dX9_truncateInput_5 : decode cX9_truncateInput 5 = .ok (.aload_n 0, 1) := by decide +kernel
theorem dX9_truncateInput_6 : decode cX9_truncateInput 6 = .ok (.iload_n 1, 1) := by decide +kernel
theorem dX9_truncateInput_7 : decode cX9_truncateInput 7 = .ok (.iconst 0, 1) := by decide +kernel
theorem dX9_truncateInput_8 : decode cX9_truncateInput 8 = .ok (.aload_n 0, 1) := by decide +kernel
theorem dX9_truncateInput_9 : decode cX9_truncateInput 9 = .ok (.getfield 162, 3) := by decide +kernel
theorem dX9_truncateInput_12 : decode cX9_truncateInput 12 = .ok (.iconst 1, 1) := by decide +kernel
theorem dX9_truncateInput_13 : decode cX9_truncateInput 13 = .ok (.invokevirtual 69, 3) := by decide +kernel
theorem dX9_truncateInput_16 : decode cX9_truncateInput 16 = .ok (.ifCond .eq 5, 3) := by decide +kernel
theorem dX9_truncateInput_19 : decode cX9_truncateInput 19 = .ok (.iconst 0, 1) := by decide +kernel
theorem dX9_truncateInput_20 : decode cX9_truncateInput 20 = .ok (.ireturn, 1) := by decide +kernel
theorem dX9_truncateInput_21 : decode cX9_truncateInput 21 = .ok (.aload_n 0, 1) := by decide +kernel
theorem dX9_truncateInput_22 : decode cX9_truncateInput 22 = .ok (.iload_n 1, 1) := by decide +kernel
theorem dX9_truncateInput_23 : decode cX9_truncateInput 23 = .ok (.putfield 162, 3) := by decide +kernel
theorem dX9_truncateInput_26 : decode cX9_truncateInput 26 = .ok (.aload_n 0, 1) := by decide +kernel
theorem dX9_truncateInput_27 : decode cX9_truncateInput 27 = .ok (.getfield 162, 3) := by decide +kernel
theorem dX9_truncateInput_30 : decode cX9_truncateInput 30 = .ok (.ireturn, 1) := by decide +kernel
theorem dX9_inputLength_0 : decode cX9_inputLength 0 = .ok (.aload_n 0, 1) := by decide +kernel
theorem dX9_inputLength_1 : decode cX9_inputLength 1 = .ok (.iconst 0, 1) := by decide +kernel
theorem dX9_inputLength_2 : decode cX9_inputLength 2 = .ok (.putfield 59, 3) := by decide +kernel
theorem dX9_inputLength_5 : decode cX9_inputLength 5 = .ok (.aload_n 0, 1) := by decide +kernel
theorem dX9_inputLength_6 : decode cX9_inputLength 6 = .ok (.getfield 162, 3) := by decide +kernel
theorem dX9_inputLength_9 : decode cX9_inputLength 9 = .ok (.ireturn, 1) := by decide +kernel
theorem dX9_scriptErrorKind_0 : decode cX9_scriptErrorKind 0 = .ok (.aload_n 0, 1) := by decide +kernel
theorem dX9_scriptErrorKind_1 : decode cX9_scriptErrorKind 1 = .ok (.iconst 0, 1) := by decide +kernel
theorem dX9_scriptErrorKind_2 : decode cX9_scriptErrorKind 2 = .ok (.putfield 59, 3) := by decide +kernel
theorem dX9_scriptErrorKind_5 : decode cX9_scriptErrorKind 5 = .ok (.aload_n 0, 1) := by decide +kernel
theorem dX9_scriptErrorKind_6 : decode cX9_scriptErrorKind 6 = .ok (.getfield 233, 3) := by decide +kernel
theorem dX9_scriptErrorKind_9 : decode cX9_scriptErrorKind 9 = .ok (.ireturn, 1) := by decide +kernel
theorem dX9_scriptErrorOffset_0 : decode cX9_scriptErrorOffset 0 = .ok (.aload_n 0, 1) := by decide +kernel
theorem dX9_scriptErrorOffset_1 : decode cX9_scriptErrorOffset 1 = .ok (.iconst 0, 1) := by decide +kernel
theorem dX9_scriptErrorOffset_2 : decode cX9_scriptErrorOffset 2 = .ok (.putfield 59, 3) := by decide +kernel
theorem dX9_scriptErrorOffset_5 : decode cX9_scriptErrorOffset 5 = .ok (.aload_n 0, 1) := by decide +kernel
theorem dX9_scriptErrorOffset_6 : decode cX9_scriptErrorOffset 6 = .ok (.getfield 43, 3) := by decide +kernel
theorem dX9_scriptErrorOffset_9 : decode cX9_scriptErrorOffset 9 = .ok (.ireturn, 1) := by decide +kernel
theorem dX9_itemCount_0 : decode cX9_itemCount 0 = .ok (.aload_n 0, 1) := by decide +kernel
theorem dX9_itemCount_1 : decode cX9_itemCount 1 = .ok (.iconst 0, 1) := by decide +kernel
theorem dX9_itemCount_2 : decode cX9_itemCount 2 = .ok (.putfield 59, 3) := by decide +kernel
theorem dX9_itemCount_5 : decode cX9_itemCount 5 = .ok (.aload_n 0, 1) := by decide +kernel
theorem dX9_itemCount_6 : decode cX9_itemCount 6 = .ok (.getfield 9, 3) := by decide +kernel
theorem dX9_itemCount_9 : decode cX9_itemCount 9 = .ok (.iconst 1, 1) := by decide +kernel
theorem dX9_itemCount_10 : decode cX9_itemCount 10 = .ok (.iaload, 1) := by decide +kernel
theorem dX9_itemCount_11 : decode cX9_itemCount 11 = .ok (.ireturn, 1) := by decide +kernel
theorem dX9_capacity_0 : decode cX9_capacity 0 = .ok (.aload_n 0, 1) := by decide +kernel
theorem dX9_capacity_1 : decode cX9_capacity 1 = .ok (.iconst 0, 1) := by decide +kernel
theorem dX9_capacity_2 : decode cX9_capacity 2 = .ok (.putfield 59, 3) := by decide +kernel
theorem dX9_capacity_5 : decode cX9_capacity 5 = .ok (.aload_n 0, 1) := by decide +kernel
theorem dX9_capacity_6 : decode cX9_capacity 6 = .ok (.getfield 9, 3) := by decide +kernel
theorem dX9_capacity_9 : decode cX9_capacity 9 = .ok (.iconst 0, 1) := by decide +kernel
theorem dX9_capacity_10 : decode cX9_capacity 10 = .ok (.iaload, 1) := by decide +kernel
theorem dX9_capacity_11 : decode cX9_capacity 11 = .ok (.ireturn, 1) := by decide +kernel
theorem dX9_field_0 : decode cX9_field 0 = .ok (.aload_n 0, 1) := by decide +kernel
theorem dX9_field_1 : decode cX9_field 1 = .ok (.iconst 0, 1) := by decide +kernel
theorem dX9_field_2 : decode cX9_field 2 = .ok (.putfield 59, 3) := by decide +kernel
theorem dX9_field_5 : decode cX9_field 5 = .ok (.aload_n 0, 1) := by decide +kernel
theorem dX9_field_6 : decode cX9_field 6 = .ok (.iload_n 1, 1) := by decide +kernel
theorem dX9_field_7 : decode cX9_field 7 = .ok (.invokevirtual 134, 3) := by decide +kernel
theorem dX9_field_10 : decode cX9_field 10 = .ok (.ifCond .eq 7, 3) := by decide +kernel
theorem dX9_field_13 : decode cX9_field 13 = .ok (.iconst 0, 1) := by decide +kernel
theorem dX9_field_14 : decode cX9_field 14 = .ok (.goto 9, 3) := by decide +kernel
theorem dX9_field_17 : decode cX9_field 17 = .ok (.aload_n 0, 1) := by decide +kernel
theorem dX9_field_18 : decode cX9_field 18 = .ok (.iload_n 1, 1) := by decide +kernel
theorem dX9_field_19 : decode cX9_field 19 = .ok (.iload_n 2, 1) := by decide +kernel
theorem dX9_field_20 : decode cX9_field 20 = .ok (.invokevirtual 73, 3) := by decide +kernel
theorem dX9_field_23 : decode cX9_field 23 = .ok (.ireturn, 1) := by decide +kernel
theorem dX9_size_0 : decode cX9_size 0 = .ok (.aload_n 0, 1) := by decide +kernel
theorem dX9_size_1 : decode cX9_size 1 = .ok (.iload_n 1, 1) := by decide +kernel
theorem dX9_size_2 : decode cX9_size 2 = .ok (.iconst 0, 1) := by decide +kernel
theorem dX9_size_3 : decode cX9_size 3 = .ok (.invokevirtual 277, 3) := by decide +kernel
theorem dX9_size_6 : decode cX9_size 6 = .ok (.ireturn, 1) := by decide +kernel
theorem dX9_value_0 : decode cX9_value 0 = .ok (.aload_n 0, 1) := by decide +kernel
theorem dX9_value_1 : decode cX9_value 1 = .ok (.iload_n 1, 1) := by decide +kernel
theorem dX9_value_2 : decode cX9_value 2 = .ok (.iconst 1, 1) := by decide +kernel
theorem dX9_value_3 : decode cX9_value 3 = .ok (.invokevirtual 277, 3) := by decide +kernel
theorem dX9_value_6 : decode cX9_value 6 = .ok (.ireturn, 1) := by decide +kernel
theorem dX9_age_0 : decode cX9_age 0 = .ok (.aload_n 0, 1) := by decide +kernel
theorem dX9_age_1 : decode cX9_age 1 = .ok (.iload_n 1, 1) := by decide +kernel
theorem dX9_age_2 : decode cX9_age 2 = .ok (.iconst 2, 1) := by decide +kernel
theorem dX9_age_3 : decode cX9_age 3 = .ok (.invokevirtual 277, 3) := by decide +kernel
theorem dX9_age_6 : decode cX9_age 6 = .ok (.ireturn, 1) := by decide +kernel
theorem dX9_state_0 : decode cX9_state 0 = .ok (.aload_n 0, 1) := by decide +kernel
theorem dX9_state_1 : decode cX9_state 1 = .ok (.iload_n 1, 1) := by decide +kernel
theorem dX9_state_2 : decode cX9_state 2 = .ok (.iconst 3, 1) := by decide +kernel
theorem dX9_state_3 : decode cX9_state 3 = .ok (.invokevirtual 277, 3) := by decide +kernel
theorem dX9_state_6 : decode cX9_state 6 = .ok (.ireturn, 1) := by decide +kernel
theorem dX9_weight_0 : decode cX9_weight 0 = .ok (.aload_n 0, 1) := by decide +kernel
theorem dX9_weight_1 : decode cX9_weight 1 = .ok (.iconst 0, 1) := by decide +kernel
theorem dX9_weight_2 : decode cX9_weight 2 = .ok (.putfield 59, 3) := by decide +kernel
theorem dX9_weight_5 : decode cX9_weight 5 = .ok (.aload_n 0, 1) := by decide +kernel
theorem dX9_weight_6 : decode cX9_weight 6 = .ok (.iload_n 1, 1) := by decide +kernel
theorem dX9_weight_7 : decode cX9_weight 7 = .ok (.invokevirtual 134, 3) := by decide +kernel
theorem dX9_weight_10 : decode cX9_weight 10 = .ok (.ifCond .eq 7, 3) := by decide +kernel
theorem dX9_weight_13 : decode cX9_weight 13 = .ok (.iconst 0, 1) := by decide +kernel
theorem dX9_weight_14 : decode cX9_weight 14 = .ok (.goto 8, 3) := by decide +kernel
theorem dX9_weight_17 : decode cX9_weight 17 = .ok (.aload_n 0, 1) := by decide +kernel
theorem dX9_weight_18 : decode cX9_weight 18 = .ok (.iload_n 1, 1) := by decide +kernel
theorem dX9_weight_19 : decode cX9_weight 19 = .ok (.invokevirtual 83, 3) := by decide +kernel
theorem dX9_weight_22 : decode cX9_weight 22 = .ok (.ireturn, 1) := by decide +kernel
theorem dX9_pinnedItems_0 : decode cX9_pinnedItems 0 = .ok (.aload_n 0, 1) := by decide +kernel
theorem dX9_pinnedItems_1 : decode cX9_pinnedItems 1 = .ok (.iconst 0, 1) := by decide +kernel
theorem dX9_pinnedItems_2 : decode cX9_pinnedItems 2 = .ok (.putfield 59, 3) := by decide +kernel
theorem dX9_pinnedItems_5 : decode cX9_pinnedItems 5 = .ok (.aload_n 0, 1) := by decide +kernel
theorem dX9_pinnedItems_6 : decode cX9_pinnedItems 6 = .ok (.iconst 1, 1) := by decide +kernel
theorem dX9_pinnedItems_7 : decode cX9_pinnedItems 7 = .ok (.invokevirtual 93, 3) := by decide +kernel
theorem dX9_pinnedItems_10 : decode cX9_pinnedItems 10 = .ok (.ireturn, 1) := by decide +kernel
theorem dX9_pinnedSize_0 : decode cX9_pinnedSize 0 = .ok (.aload_n 0, 1) := by decide +kernel
theorem dX9_pinnedSize_1 : decode cX9_pinnedSize 1 = .ok (.iconst 0, 1) := by decide +kernel
theorem dX9_pinnedSize_2 : decode cX9_pinnedSize 2 = .ok (.putfield 59, 3) := by decide +kernel
theorem dX9_pinnedSize_5 : decode cX9_pinnedSize 5 = .ok (.aload_n 0, 1) := by decide +kernel
theorem dX9_pinnedSize_6 : decode cX9_pinnedSize 6 = .ok (.aload_n 0, 1) := by decide +kernel
theorem dX9_pinnedSize_7 : decode cX9_pinnedSize 7 = .ok (.iconst 1, 1) := by decide +kernel
theorem dX9_pinnedSize_8 : decode cX9_pinnedSize 8 = .ok (.invokevirtual 93, 3) := by decide +kernel
theorem dX9_pinnedSize_11 : decode cX9_pinnedSize 11 = .ok (.invokevirtual 96, 3) := by decide +kernel
theorem dX9_pinnedSize_14 : decode cX9_pinnedSize 14 = .ok (.ireturn, 1) := by decide +kernel
theorem dX9_densestItem_0 : decode cX9_densestItem 0 = .ok (.aload_n 0, 1) := by decide +kernel
theorem dX9_densestItem_1 : decode cX9_densestItem 1 = .ok (.iconst 0, 1) := by decide +kernel
theorem dX9_densestItem_2 : decode cX9_densestItem 2 = .ok (.putfield 59, 3) := by decide +kernel
theorem dX9_densestItem_5 : decode cX9_densestItem 5 = .ok (.aload_n 0, 1) := by decide +kernel
theorem dX9_densestItem_6 : decode cX9_densestItem 6 = .ok (.iconst 0, 1) := by decide +kernel
theorem dX9_densestItem_7 : decode cX9_densestItem 7 = .ok (.invokevirtual 120, 3) := by decide +kernel
theorem dX9_densestItem_10 : decode cX9_densestItem 10 = .ok (.ireturn, 1) := by decide +kernel
theorem dX9_hasPlan_0 : decode cX9_hasPlan 0 = .ok (.aload_n 0, 1) := by decide +kernel
theorem dX9_hasPlan_1 : decode cX9_hasPlan 1 = .ok (.iconst 0, 1) := by decide +kernel
theorem dX9_hasPlan_2 : decode cX9_hasPlan 2 = .ok (.putfield 59, 3) := by decide +kernel
theorem dX9_hasPlan_5 : decode cX9_hasPlan 5 = .ok (.aload_n 0, 1) := by decide +kernel
theorem dX9_hasPlan_6 : decode cX9_hasPlan 6 = .ok (.aload_n 0, 1) := by decide +kernel
theorem dX9_hasPlan_7 : decode cX9_hasPlan 7 = .ok (.getfield 9, 3) := by decide +kernel
theorem dX9_hasPlan_10 : decode cX9_hasPlan 10 = .ok (.iconst 0, 1) := by decide +kernel
theorem dX9_hasPlan_11 : decode cX9_hasPlan 11 = .ok (.iaload, 1) := by decide +kernel
theorem dX9_hasPlan_12 : decode cX9_hasPlan 12 = .ok (.invokevirtual 99, 3) := by decide +kernel
theorem dX9_hasPlan_15 : decode cX9_hasPlan 15 = .ok (.ifCond .lt 7, 3) := by decide +kernel
theorem dX9_hasPlan_18 : decode cX9_hasPlan 18 = .ok (.iconst 1, 1) := by decide +kernel
theorem dX9_hasPlan_19 : decode cX9_hasPlan 19 = .ok (.goto 4, 3) := by decide +kernel
theorem dX9_hasPlan_22 : decode cX9_hasPlan 22 = .ok (.iconst 0, 1) := by decide +kernel
theorem dX9_hasPlan_23 : decode cX9_hasPlan 23 = .ok (.ireturn, 1) := by decide +kernel
theorem dX9_bestWeight_0 : decode cX9_bestWeight 0 = .ok (.aload_n 0, 1) := by decide +kernel
theorem dX9_bestWeight_1 : decode cX9_bestWeight 1 = .ok (.iconst 0, 1) := by decide +kernel
theorem dX9_bestWeight_2 : decode cX9_bestWeight 2 = .ok (.putfield 59, 3) := by decide +kernel
theorem dX9_bestWeight_5 : decode cX9_bestWeight 5 = .ok (.aload_n 0, 1) := by decide +kernel
theorem dX9_bestWeight_6 : decode cX9_bestWeight 6 = .ok (.invokevirtual 280, 3) := by decide +kernel
theorem dX9_bestWeight_9 : decode cX9_bestWeight 9 = .ok (.ireturn, 1) := by decide +kernel
theorem dX9_bestPlan_0 : decode cX9_bestPlan 0 = .ok (.aload_n 0, 1) := by decide +kernel
theorem dX9_bestPlan_1 : decode cX9_bestPlan 1 = .ok (.iconst 0, 1) := by decide +kernel
theorem dX9_bestPlan_2 : decode cX9_bestPlan 2 = .ok (.putfield 59, 3) := by decide +kernel
theorem dX9_bestPlan_5 : decode cX9_bestPlan 5 = .ok (.aload_n 0, 1) := by decide +kernel
theorem dX9_bestPlan_6 : decode cX9_bestPlan 6 = .ok (.invokevirtual 123, 3) := by decide +kernel
theorem dX9_bestPlan_9 : decode cX9_bestPlan 9 = .ok (.ireturn, 1) := by decide +kernel
theorem dX9_bestSizeNow_0 : decode cX9_bestSizeNow 0 = .ok (.aload_n 0, 1) := by decide +kernel
theorem dX9_bestSizeNow_1 : decode cX9_bestSizeNow 1 = .ok (.invokevirtual 123, 3) := by decide +kernel
theorem dX9_bestSizeNow_4 : decode cX9_bestSizeNow 4 = .ok (.istore_n 1, 1) := by decide +kernel
theorem dX9_bestSizeNow_5 : decode cX9_bestSizeNow 5 = .ok (.iload_n 1, 1) := by decide +kernel
theorem dX9_bestSizeNow_6 : decode cX9_bestSizeNow 6 = .ok (.iconst (-1), 1) := by decide +kernel
theorem dX9_bestSizeNow_7 : decode cX9_bestSizeNow 7 = .ok (.if_icmp .ne 7, 3) := by decide +kernel
theorem dX9_bestSizeNow_10 : decode cX9_bestSizeNow 10 = .ok (.iconst (-1), 1) := by decide +kernel
theorem dX9_bestSizeNow_11 : decode cX9_bestSizeNow 11 = .ok (.goto 8, 3) := by decide +kernel
theorem dX9_bestSizeNow_14 : decode cX9_bestSizeNow 14 = .ok (.aload_n 0, 1) := by decide +kernel
theorem dX9_bestSizeNow_15 : decode cX9_bestSizeNow 15 = .ok (.iload_n 1, 1) := by decide +kernel
theorem dX9_bestSizeNow_16 : decode cX9_bestSizeNow 16 = .ok (.invokevirtual 96, 3) := by decide +kernel
theorem dX9_bestSizeNow_19 : decode cX9_bestSizeNow 19 = .ok (.ireturn, 1) := by decide +kernel
theorem dX9_bestSize_0 : decode cX9_bestSize 0 = .ok (.aload_n 0, 1) := by decide +kernel
theorem dX9_bestSize_1 : decode cX9_bestSize 1 = .ok (.iconst 0, 1) := by decide +kernel
theorem dX9_bestSize_2 : decode cX9_bestSize 2 = .ok (.putfield 59, 3) := by decide +kernel
theorem dX9_bestSize_5 : decode cX9_bestSize 5 = .ok (.aload_n 0, 1) := by decide +kernel
theorem dX9_bestSize_6 : decode cX9_bestSize 6 = .ok (.invokevirtual 283, 3) := by decide +kernel
theorem dX9_bestSize_9 : decode cX9_bestSize 9 = .ok (.ireturn, 1) := by decide +kernel
theorem dX9_slack_0 : decode cX9_slack 0 = .ok (.aload_n 0, 1) := by decide +kernel
theorem dX9_slack_1 : decode cX9_slack 1 = .ok (.iconst 0, 1) := by decide +kernel
theorem dX9_slack_2 : decode cX9_slack 2 = .ok (.putfield 59, 3) := by decide +kernel
theorem dX9_slack_5 : decode cX9_slack 5 = .ok (.aload_n 0, 1) := by decide +kernel
theorem dX9_slack_6 : decode cX9_slack 6 = .ok (.invokevirtual 123, 3) := by decide +kernel
theorem dX9_slack_9 : decode cX9_slack 9 = .ok (.iconst (-1), 1) := by decide +kernel
theorem dX9_slack_10 : decode cX9_slack 10 = .ok (.if_icmp .ne 7, 3) := by decide +kernel
theorem dX9_slack_13 : decode cX9_slack 13 = .ok (.iconst (-1), 1) := by decide +kernel
theorem dX9_slack_14 : decode cX9_slack 14 = .ok (.goto 14, 3) := by decide +kernel
theorem dX9_slack_17 : decode cX9_slack 17 = .ok (.aload_n 0, 1) := by decide +kernel
theorem dX9_slack_18 : decode cX9_slack 18 = .ok (.getfield 9, 3) := by decide +kernel
theorem dX9_slack_21 : decode cX9_slack 21 = .ok (.iconst 0, 1) := by decide +kernel
theorem dX9_slack_22 : decode cX9_slack 22 = .ok (.iaload, 1) := by decide +kernel
theorem dX9_slack_23 : decode cX9_slack 23 = .ok (.aload_n 0, 1) := by decide +kernel
theorem dX9_slack_24 : decode cX9_slack 24 = .ok (.invokevirtual 283, 3) := by decide +kernel
theorem dX9_slack_27 : decode cX9_slack 27 = .ok (.isub, 1) := by decide +kernel
theorem dX9_slack_28 : decode cX9_slack 28 = .ok (.ireturn, 1) := by decide +kernel
theorem dX9_isTaken_0 : decode cX9_isTaken 0 = .ok (.aload_n 0, 1) := by decide +kernel
theorem dX9_isTaken_1 : decode cX9_isTaken 1 = .ok (.iconst 0, 1) := by decide +kernel
theorem dX9_isTaken_2 : decode cX9_isTaken 2 = .ok (.putfield 59, 3) := by decide +kernel
theorem dX9_isTaken_5 : decode cX9_isTaken 5 = .ok (.aload_n 0, 1) := by decide +kernel
theorem dX9_isTaken_6 : decode cX9_isTaken 6 = .ok (.iload_n 1, 1) := by decide +kernel
theorem dX9_isTaken_7 : decode cX9_isTaken 7 = .ok (.invokevirtual 134, 3) := by decide +kernel
theorem dX9_isTaken_10 : decode cX9_isTaken 10 = .ok (.ifCond .ne 26, 3) := by decide +kernel
theorem dX9_isTaken_13 : decode cX9_isTaken 13 = .ok (.aload_n 0, 1) := by decide +kernel
theorem dX9_isTaken_14 : decode cX9_isTaken 14 = .ok (.invokevirtual 123, 3) := by decide +kernel
theorem dX9_isTaken_17 : decode cX9_isTaken 17 = .ok (.iconst (-1), 1) := by decide +kernel
theorem dX9_isTaken_18 : decode cX9_isTaken 18 = .ok (.if_icmp .eq 18, 3) := by decide +kernel
theorem dX9_isTaken_21 : decode cX9_isTaken 21 = .ok (.aload_n 0, 1) := by decide +kernel
theorem dX9_isTaken_22 : decode cX9_isTaken 22 = .ok (.invokevirtual 123, 3) := by decide +kernel
theorem dX9_isTaken_25 : decode cX9_isTaken 25 = .ok (.iload_n 1, 1) := by decide +kernel
theorem dX9_isTaken_26 : decode cX9_isTaken 26 = .ok (.invokestatic 80, 3) := by decide +kernel
theorem dX9_isTaken_29 : decode cX9_isTaken 29 = .ok (.ifCond .eq 7, 3) := by decide +kernel
theorem dX9_isTaken_32 : decode cX9_isTaken 32 = .ok (.iconst 1, 1) := by decide +kernel
theorem dX9_isTaken_33 : decode cX9_isTaken 33 = .ok (.goto 4, 3) := by decide +kernel
theorem dX9_isTaken_36 : decode cX9_isTaken 36 = .ok (.iconst 0, 1) := by decide +kernel
theorem dX9_isTaken_37 : decode cX9_isTaken 37 = .ok (.ireturn, 1) := by decide +kernel
theorem dX9_optimalPlans_0 : decode cX9_optimalPlans 0 = .ok (.aload_n 0, 1) := by decide +kernel
theorem dX9_optimalPlans_1 : decode cX9_optimalPlans 1 = .ok (.iconst 0, 1) := by decide +kernel
theorem dX9_optimalPlans_2 : decode cX9_optimalPlans 2 = .ok (.putfield 59, 3) := by decide +kernel
theorem dX9_optimalPlans_5 : decode cX9_optimalPlans 5 = .ok (.aload_n 0, 1) := by decide +kernel
theorem dX9_optimalPlans_6 : decode cX9_optimalPlans 6 = .ok (.aload_n 0, 1) := by decide +kernel
theorem dX9_optimalPlans_7 : decode cX9_optimalPlans 7 = .ok (.getfield 9, 3) := by decide +kernel
theorem dX9_optimalPlans_10 : decode cX9_optimalPlans 10 = .ok (.iconst 0, 1) := by decide +kernel
theorem dX9_optimalPlans_11 : decode cX9_optimalPlans 11 = .ok (.iaload, 1) := by decide +kernel
theorem dX9_optimalPlans_12 : decode cX9_optimalPlans 12 = .ok (.invokevirtual 99, 3) := by decide +kernel
theorem dX9_optimalPlans_15 : decode cX9_optimalPlans 15 = .ok (.istore_n 1, 1) := by decide +kernel
theorem dX9_optimalPlans_16 : decode cX9_optimalPlans 16 = .ok (.iload_n 1, 1) := by decide +kernel
theorem dX9_optimalPlans_17 : decode cX9_optimalPlans 17 = .ok (.ifCond .ge 5, 3) := by decide +kernel
theorem dX9_optimalPlans_20 : decode cX9_optimalPlans 20 = .ok (.iconst 0, 1) := by decide +kernel
theorem dX9_optimalPlans_21 : decode cX9_optimalPlans 21 = .ok (.ireturn, 1) := by decide +kernel
theorem dX9_optimalPlans_22 : decode cX9_optimalPlans 22 = .ok (.aload_n 0, 1) := by decide +kernel
theorem dX9_optimalPlans_23 : decode cX9_optimalPlans 23 = .ok (.bipush 14, 2) := by decide +kernel
theorem dX9_optimalPlans_25 : decode cX9_optimalPlans 25 = .ok (.invokevirtual 102, 3) := by decide +kernel
theorem dX9_optimalPlans_28 : decode cX9_optimalPlans 28 = .ok (.aload_n 0, 1) := by decide +kernel
theorem dX9_optimalPlans_29 : decode cX9_optimalPlans 29 = .ok (.iload_n 1, 1) := by decide +kernel
theorem dX9_optimalPlans_30 : decode cX9_optimalPlans 30 = .ok (.invokevirtual 105, 3) := by decide +kernel
theorem dX9_optimalPlans_33 : decode cX9_optimalPlans 33 = .ok (.istore_n 2, 1) := by decide +kernel
theorem dX9_optimalPlans_34 : decode cX9_optimalPlans 34 = .ok (.iconst 0, 1) := by decide +kernel
theorem dX9_optimalPlans_35 : decode cX9_optimalPlans 35 = .ok (.istore_n 3, 1) := by decide +kernel
theorem dX9_optimalPlans_36 : decode cX9_optimalPlans 36 = .ok (.iconst 0, 1) := by decide +kernel
theorem dX9_optimalPlans_37 : decode cX9_optimalPlans 37 = .ok (.istore 4, 2) := by decide +kernel
theorem dX9_optimalPlans_39 : decode cX9_optimalPlans 39 = .ok (.iload 4, 2) := by decide +kernel
theorem dX9_optimalPlans_41 : decode cX9_optimalPlans 41 = .ok (.iload_n 1, 1) := by decide +kernel
theorem dX9_optimalPlans_42 : decode cX9_optimalPlans 42 = .ok (.if_icmp .gt 39, 3) := by decide +kernel
theorem dX9_optimalPlans_45 : decode cX9_optimalPlans 45 = .ok (.iload_n 3, 1) := by decide +kernel
theorem dX9_optimalPlans_46 : decode cX9_optimalPlans 46 = .ok (.aload_n 0, 1) := by decide +kernel
theorem dX9_optimalPlans_47 : decode cX9_optimalPlans 47 = .ok (.getfield 34, 3) := by decide +kernel
theorem dX9_optimalPlans_50 : decode cX9_optimalPlans 50 = .ok (.iload 4, 2) := by decide +kernel
theorem dX9_optimalPlans_52 : decode cX9_optimalPlans 52 = .ok (.iaload, 1) := by decide +kernel
theorem dX9_optimalPlans_53 : decode cX9_optimalPlans 53 = .ok (.aload_n 0, 1) := by decide +kernel
theorem dX9_optimalPlans_54 : decode cX9_optimalPlans 54 = .ok (.getfield 34, 3) := by decide +kernel
theorem dX9_optimalPlans_57 : decode cX9_optimalPlans 57 = .ok (.iload_n 2, 1) := by decide +kernel
theorem dX9_optimalPlans_58 : decode cX9_optimalPlans 58 = .ok (.iaload, 1) := by decide +kernel
theorem dX9_optimalPlans_59 : decode cX9_optimalPlans 59 = .ok (.if_icmp .ne 13, 3) := by decide +kernel
theorem dX9_optimalPlans_62 : decode cX9_optimalPlans 62 = .ok (.aload_n 0, 1) := by decide +kernel
theorem dX9_optimalPlans_63 : decode cX9_optimalPlans 63 = .ok (.getfield 40, 3) := by decide +kernel
theorem dX9_optimalPlans_66 : decode cX9_optimalPlans 66 = .ok (.iload 4, 2) := by decide +kernel
theorem dX9_optimalPlans_68 : decode cX9_optimalPlans 68 = .ok (.iaload, 1) := by decide +kernel
theorem dX9_optimalPlans_69 : decode cX9_optimalPlans 69 = .ok (.goto 4, 3) := by decide +kernel
theorem dX9_optimalPlans_72 : decode cX9_optimalPlans 72 = .ok (.iconst 0, 1) := by decide +kernel
theorem dX9_optimalPlans_73 : decode cX9_optimalPlans 73 = .ok (.iadd, 1) := by decide +kernel
theorem dX9_optimalPlans_74 : decode cX9_optimalPlans 74 = .ok (.istore_n 3, 1) := by decide +kernel
theorem dX9_optimalPlans_75 : decode cX9_optimalPlans 75 = .ok (.iinc 4 1, 3) := by decide +kernel
theorem dX9_optimalPlans_78 : decode cX9_optimalPlans 78 = .ok (.goto (-39), 3) := by decide +kernel
theorem dX9_optimalPlans_81 : decode cX9_optimalPlans 81 = .ok (.iload_n 3, 1) := by decide +kernel
theorem dX9_optimalPlans_82 : decode cX9_optimalPlans 82 = .ok (.ireturn, 1) := by decide +kernel
theorem dX9_weightAt_0 : decode cX9_weightAt 0 = .ok (.aload_n 0, 1) := by decide +kernel
theorem dX9_weightAt_1 : decode cX9_weightAt 1 = .ok (.iconst 0, 1) := by decide +kernel
theorem dX9_weightAt_2 : decode cX9_weightAt 2 = .ok (.putfield 59, 3) := by decide +kernel
theorem dX9_weightAt_5 : decode cX9_weightAt 5 = .ok (.aload_n 0, 1) := by decide +kernel
theorem dX9_weightAt_6 : decode cX9_weightAt 6 = .ok (.iload_n 1, 1) := by decide +kernel
theorem dX9_weightAt_7 : decode cX9_weightAt 7 = .ok (.iconst 0, 1) := by decide +kernel
theorem dX9_weightAt_8 : decode cX9_weightAt 8 = .ok (.bipush 100, 2) := by decide +kernel
theorem dX9_weightAt_10 : decode cX9_weightAt 10 = .ok (.iconst 1, 1) := by decide +kernel
theorem dX9_weightAt_11 : decode cX9_weightAt 11 = .ok (.invokevirtual 69, 3) := by decide +kernel
theorem dX9_weightAt_14 : decode cX9_weightAt 14 = .ok (.ifCond .eq 7, 3) := by decide +kernel
theorem dX9_weightAt_17 : decode cX9_weightAt 17 = .ok (.iconst 0, 1) := by decide +kernel
theorem dX9_weightAt_18 : decode cX9_weightAt 18 = .ok (.goto 8, 3) := by decide +kernel
theorem dX9_weightAt_21 : decode cX9_weightAt 21 = .ok (.aload_n 0, 1) := by decide +kernel
theorem dX9_weightAt_22 : decode cX9_weightAt 22 = .ok (.iload_n 1, 1) := by decide +kernel
theorem dX9_weightAt_23 : decode cX9_weightAt 23 = .ok (.invokevirtual 114, 3) := by decide +kernel
theorem dX9_weightAt_26 : decode cX9_weightAt 26 = .ok (.ireturn, 1) := by decide +kernel
theorem dX9_planAt_0 : decode cX9_planAt 0 = .ok (.aload_n 0, 1) := by decide +kernel
theorem dX9_planAt_1 : decode cX9_planAt 1 = .ok (.iconst 0, 1) := by decide +kernel
theorem dX9_planAt_2 : decode cX9_planAt 2 = .ok (.putfield 59, 3) := by decide +kernel
theorem dX9_planAt_5 : decode cX9_planAt 5 = .ok (.aload_n 0, 1) := by decide +kernel
theorem dX9_planAt_6 : decode cX9_planAt 6 = .ok (.iload_n 1, 1) := by decide +kernel
theorem dX9_planAt_7 : decode cX9_planAt 7 = .ok (.iconst 0, 1) := by decide +kernel
theorem dX9_planAt_8 : decode cX9_planAt 8 = .ok (.bipush 100, 2) := by decide +kernel
theorem dX9_planAt_10 : decode cX9_planAt 10 = .ok (.iconst 1, 1) := by decide +kernel
theorem dX9_planAt_11 : decode cX9_planAt 11 = .ok (.invokevirtual 69, 3) := by decide +kernel
theorem dX9_planAt_14 : decode cX9_planAt 14 = .ok (.ifCond .eq 7, 3) := by decide +kernel
theorem dX9_planAt_17 : decode cX9_planAt 17 = .ok (.iconst 0, 1) := by decide +kernel
theorem dX9_planAt_18 : decode cX9_planAt 18 = .ok (.goto 8, 3) := by decide +kernel
theorem dX9_planAt_21 : decode cX9_planAt 21 = .ok (.aload_n 0, 1) := by decide +kernel
theorem dX9_planAt_22 : decode cX9_planAt 22 = .ok (.iload_n 1, 1) := by decide +kernel
theorem dX9_planAt_23 : decode cX9_planAt 23 = .ok (.invokevirtual 108, 3) := by decide +kernel
theorem dX9_planAt_26 : decode cX9_planAt 26 = .ok (.ireturn, 1) := by decide +kernel
theorem dX9_capacityFor_0 : decode cX9_capacityFor 0 = .ok (.aload_n 0, 1) := by decide +kernel
theorem dX9_capacityFor_1 : decode cX9_capacityFor 1 = .ok (.iconst 0, 1) := by decide +kernel
theorem dX9_capacityFor_2 : decode cX9_capacityFor 2 = .ok (.putfield 59, 3) := by decide +kernel
theorem dX9_capacityFor_5 : decode cX9_capacityFor 5 = .ok (.iconst 0, 1) := by decide +kernel
theorem dX9_capacityFor_6 : decode cX9_capacityFor 6 = .ok (.istore_n 2, 1) := by decide +kernel
theorem dX9_capacityFor_7 : decode cX9_capacityFor 7 = .ok (.iload_n 2, 1) := by decide +kernel
theorem dX9_capacityFor_8 : decode cX9_capacityFor 8 = .ok (.bipush 100, 2) := by decide +kernel
theorem dX9_capacityFor_10 : decode cX9_capacityFor 10 = .ok (.if_icmp .gt 29, 3) := by decide +kernel
theorem dX9_capacityFor_13 : decode cX9_capacityFor 13 = .ok (.aload_n 0, 1) := by decide +kernel
theorem dX9_capacityFor_14 : decode cX9_capacityFor 14 = .ok (.iload_n 2, 1) := by decide +kernel
theorem dX9_capacityFor_15 : decode cX9_capacityFor 15 = .ok (.invokevirtual 108, 3) := by decide +kernel
theorem dX9_capacityFor_18 : decode cX9_capacityFor 18 = .ok (.iconst (-1), 1) := by decide +kernel
theorem dX9_capacityFor_19 : decode cX9_capacityFor 19 = .ok (.if_icmp .eq 14, 3) := by decide +kernel
theorem dX9_capacityFor_22 : decode cX9_capacityFor 22 = .ok (.aload_n 0, 1) := by decide +kernel
theorem dX9_capacityFor_23 : decode cX9_capacityFor 23 = .ok (.iload_n 2, 1) := by decide +kernel
theorem dX9_capacityFor_24 : decode cX9_capacityFor 24 = .ok (.invokevirtual 114, 3) := by decide +kernel
theorem dX9_capacityFor_27 : decode cX9_capacityFor 27 = .ok (.iload_n 1, 1) := by decide +kernel
theorem dX9_capacityFor_28 : decode cX9_capacityFor 28 = .ok (.if_icmp .lt 5, 3) := by decide +kernel
theorem dX9_capacityFor_31 : decode cX9_capacityFor 31 = .ok (.iload_n 2, 1) := by decide +kernel
theorem dX9_capacityFor_32 : decode cX9_capacityFor 32 = .ok (.ireturn, 1) := by decide +kernel
theorem dX9_capacityFor_33 : decode cX9_capacityFor 33 = .ok (.iinc 2 1, 3) := by decide +kernel
theorem dX9_capacityFor_36 : decode cX9_capacityFor 36 = .ok (.goto (-29), 3) := by decide +kernel
theorem dX9_capacityFor_39 : decode cX9_capacityFor 39 = .ok (.iconst (-1), 1) := by decide +kernel
theorem dX9_capacityFor_40 : decode cX9_capacityFor 40 = .ok (.ireturn, 1) := by decide +kernel
theorem dX9_steps_0 : decode cX9_steps 0 = .ok (.aload_n 0, 1) := by decide +kernel
theorem dX9_steps_1 : decode cX9_steps 1 = .ok (.iconst 0, 1) := by decide +kernel
theorem dX9_steps_2 : decode cX9_steps 2 = .ok (.putfield 59, 3) := by decide +kernel
theorem dX9_steps_5 : decode cX9_steps 5 = .ok (.iconst 0, 1) := by decide +kernel
theorem dX9_steps_6 : decode cX9_steps 6 = .ok (.istore_n 1, 1) := by decide +kernel
theorem dX9_steps_7 : decode cX9_steps 7 = .ok (.iconst 1, 1) := by decide +kernel
theorem dX9_steps_8 : decode cX9_steps 8 = .ok (.istore_n 2, 1) := by decide +kernel
theorem dX9_steps_9 : decode cX9_steps 9 = .ok (.iload_n 2, 1) := by decide +kernel
theorem dX9_steps_10 : decode cX9_steps 10 = .ok (.bipush 100, 2) := by decide +kernel
theorem dX9_steps_12 : decode cX9_steps 12 = .ok (.if_icmp .gt 32, 3) := by decide +kernel
theorem dX9_steps_15 : decode cX9_steps 15 = .ok (.iload_n 1, 1) := by decide +kernel
theorem dX9_steps_16 : decode cX9_steps 16 = .ok (.aload_n 0, 1) := by decide +kernel
theorem dX9_steps_17 : decode cX9_steps 17 = .ok (.iload_n 2, 1) := by decide +kernel
theorem dX9_steps_18 : decode cX9_steps 18 = .ok (.invokevirtual 114, 3) := by decide +kernel
theorem dX9_steps_21 : decode cX9_steps 21 = .ok (.aload_n 0, 1) := by decide +kernel
theorem dX9_steps_22 : decode cX9_steps 22 = .ok (.iload_n 2, 1) := by decide +kernel
theorem dX9_steps_23 : decode cX9_steps 23 = .ok (.iconst 1, 1) := by decide +kernel
theorem dX9_steps_24 : decode cX9_steps 24 = .ok (.isub, 1) := by decide +kernel
theorem dX9_steps_25 : decode cX9_steps 25 = .ok (.invokevirtual 114, 3) := by decide +kernel
theorem dX9_steps_28 : decode cX9_steps 28 = .ok (.if_icmp .le 7, 3) := by decide +kernel
theorem dX9_steps_31 : decode cX9_steps 31 = .ok (.iconst 1, 1) := by decide +kernel
theorem dX9_steps_32 : decode cX9_steps 32 = .ok (.goto 4, 3) := by decide +kernel
theorem dX9_steps_35 : decode cX9_steps 35 = .ok (.iconst 0, 1) := by decide +kernel
theorem dX9_steps_36 : decode cX9_steps 36 = .ok (.iadd, 1) := by decide +kernel
theorem dX9_steps_37 : decode cX9_steps 37 = .ok (.istore_n 1, 1) := by decide +kernel
theorem dX9_steps_38 : decode cX9_steps 38 = .ok (.iinc 2 1, 3) := by decide +kernel
theorem dX9_steps_41 : decode cX9_steps 41 = .ok (.goto (-32), 3) := by decide +kernel
theorem dX9_steps_44 : decode cX9_steps 44 = .ok (.iload_n 1, 1) := by decide +kernel
theorem dX9_steps_45 : decode cX9_steps 45 = .ok (.ireturn, 1) := by decide +kernel
theorem dX9_nextStep_0 : decode cX9_nextStep 0 = .ok (.aload_n 0, 1) := by decide +kernel
theorem dX9_nextStep_1 : decode cX9_nextStep 1 = .ok (.iconst 0, 1) := by decide +kernel
theorem dX9_nextStep_2 : decode cX9_nextStep 2 = .ok (.putfield 59, 3) := by decide +kernel
theorem dX9_nextStep_5 : decode cX9_nextStep 5 = .ok (.aload_n 0, 1) := by decide +kernel
theorem dX9_nextStep_6 : decode cX9_nextStep 6 = .ok (.invokevirtual 280, 3) := by decide +kernel
theorem dX9_nextStep_9 : decode cX9_nextStep 9 = .ok (.istore_n 1, 1) := by decide +kernel
theorem dX9_nextStep_10 : decode cX9_nextStep 10 = .ok (.aload_n 0, 1) := by decide +kernel
theorem dX9_nextStep_11 : decode cX9_nextStep 11 = .ok (.getfield 9, 3) := by decide +kernel
theorem dX9_nextStep_14 : decode cX9_nextStep 14 = .ok (.iconst 0, 1) := by decide +kernel
theorem dX9_nextStep_15 : decode cX9_nextStep 15 = .ok (.iaload, 1) := by decide +kernel
theorem dX9_nextStep_16 : decode cX9_nextStep 16 = .ok (.iconst 1, 1) := by decide +kernel
theorem dX9_nextStep_17 : decode cX9_nextStep 17 = .ok (.iadd, 1) := by decide +kernel
theorem dX9_nextStep_18 : decode cX9_nextStep 18 = .ok (.istore_n 2, 1) := by decide +kernel
theorem dX9_nextStep_19 : decode cX9_nextStep 19 = .ok (.iload_n 2, 1) := by decide +kernel
theorem dX9_nextStep_20 : decode cX9_nextStep 20 = .ok (.bipush 100, 2) := by decide +kernel
theorem dX9_nextStep_22 : decode cX9_nextStep 22 = .ok (.if_icmp .gt 20, 3) := by decide +kernel
theorem dX9_nextStep_25 : decode cX9_nextStep 25 = .ok (.aload_n 0, 1) := by decide +kernel
theorem dX9_nextStep_26 : decode cX9_nextStep 26 = .ok (.iload_n 2, 1) := by decide +kernel
theorem dX9_nextStep_27 : decode cX9_nextStep 27 = .ok (.invokevirtual 114, 3) := by decide +kernel
theorem dX9_nextStep_30 : decode cX9_nextStep 30 = .ok (.iload_n 1, 1) := by decide +kernel
theorem dX9_nextStep_31 : decode cX9_nextStep 31 = .ok (.if_icmp .le 5, 3) := by decide +kernel
theorem dX9_nextStep_34 : decode cX9_nextStep 34 = .ok (.iload_n 2, 1) := by decide +kernel
theorem dX9_nextStep_35 : decode cX9_nextStep 35 = .ok (.ireturn, 1) := by decide +kernel
theorem dX9_nextStep_36 : decode cX9_nextStep 36 = .ok (.iinc 2 1, 3) := by decide +kernel
theorem dX9_nextStep_39 : decode cX9_nextStep 39 = .ok (.goto (-20), 3) := by decide +kernel
theorem dX9_nextStep_42 : decode cX9_nextStep 42 = .ok (.iconst (-1), 1) := by decide +kernel
theorem dX9_nextStep_43 : decode cX9_nextStep 43 = .ok (.ireturn, 1) := by decide +kernel
theorem dX9_freeItems_0 : decode cX9_freeItems 0 = .ok (.aload_n 0, 1) := by decide +kernel
theorem dX9_freeItems_1 : decode cX9_freeItems 1 = .ok (.iconst 0, 1) := by decide +kernel
theorem dX9_freeItems_2 : decode cX9_freeItems 2 = .ok (.invokevirtual 93, 3) := by decide +kernel
theorem dX9_freeItems_5 : decode cX9_freeItems 5 = .ok (.invokestatic 155, 3) := by decide +kernel
theorem dX9_freeItems_8 : decode cX9_freeItems 8 = .ok (.ireturn, 1) := by decide +kernel
theorem dX9_freeCount_0 : decode cX9_freeCount 0 = .ok (.aload_n 0, 1) := by decide +kernel
theorem dX9_freeCount_1 : decode cX9_freeCount 1 = .ok (.iconst 0, 1) := by decide +kernel
theorem dX9_freeCount_2 : decode cX9_freeCount 2 = .ok (.putfield 59, 3) := by decide +kernel
theorem dX9_freeCount_5 : decode cX9_freeCount 5 = .ok (.aload_n 0, 1) := by decide +kernel
theorem dX9_freeCount_6 : decode cX9_freeCount 6 = .ok (.invokevirtual 286, 3) := by decide +kernel
theorem dX9_freeCount_9 : decode cX9_freeCount 9 = .ok (.ireturn, 1) := by decide +kernel
theorem dX9_cellOf_0 : decode cX9_cellOf 0 = .ok (.aload_n 0, 1) := by decide +kernel
theorem dX9_cellOf_1 : decode cX9_cellOf 1 = .ok (.iload_n 1, 1) := by decide +kernel
theorem dX9_cellOf_2 : decode cX9_cellOf 2 = .ok (.invokevirtual 102, 3) := by decide +kernel
theorem dX9_cellOf_5 : decode cX9_cellOf 5 = .ok (.aload_n 0, 1) := by decide +kernel
theorem dX9_cellOf_6 : decode cX9_cellOf 6 = .ok (.getfield 34, 3) := by decide +kernel
theorem dX9_cellOf_9 : decode cX9_cellOf 9 = .ok (.aload_n 0, 1) := by decide +kernel
theorem dX9_cellOf_10 : decode cX9_cellOf 10 = .ok (.iload_n 2, 1) := by decide +kernel
theorem dX9_cellOf_11 : decode cX9_cellOf 11 = .ok (.invokevirtual 105, 3) := by decide +kernel
theorem dX9_cellOf_14 : decode cX9_cellOf 14 = .ok (.iaload, 1) := by decide +kernel
theorem dX9_cellOf_15 : decode cX9_cellOf 15 = .ok (.ireturn, 1) := by decide +kernel
theorem dX9_noCell_0 : decode cX9_noCell 0 = .ok (.aload_n 0, 1) := by decide +kernel
theorem dX9_noCell_1 : decode cX9_noCell 1 = .ok (.iload_n 1, 1) := by decide +kernel
theorem dX9_noCell_2 : decode cX9_noCell 2 = .ok (.iload_n 3, 1) := by decide +kernel
theorem dX9_noCell_3 : decode cX9_noCell 3 = .ok (.aload_n 0, 1) := by decide +kernel
theorem dX9_noCell_4 : decode cX9_noCell 4 = .ok (.invokevirtual 286, 3) := by decide +kernel
theorem dX9_noCell_7 : decode cX9_noCell 7 = .ok (.iconst 1, 1) := by decide +kernel
theorem dX9_noCell_8 : decode cX9_noCell 8 = .ok (.invokevirtual 69, 3) := by decide +kernel
theorem dX9_noCell_11 : decode cX9_noCell 11 = .ok (.ifCond .ne 15, 3) := by decide +kernel
theorem dX9_noCell_14 : decode cX9_noCell 14 = .ok (.aload_n 0, 1) := by decide +kernel
theorem dX9_noCell_15 : decode cX9_noCell 15 = .ok (.iload_n 2, 1) := by decide +kernel
theorem dX9_noCell_16 : decode cX9_noCell 16 = .ok (.iconst 0, 1) := by decide +kernel
theorem dX9_noCell_17 : decode cX9_noCell 17 = .ok (.bipush 100, 2) := by decide +kernel
theorem dX9_noCell_19 : decode cX9_noCell 19 = .ok (.iconst 1, 1) := by decide +kernel
theorem dX9_noCell_20 : decode cX9_noCell 20 = .ok (.invokevirtual 69, 3) := by decide +kernel
theorem dX9_noCell_23 : decode cX9_noCell 23 = .ok (.ifCond .eq 7, 3) := by decide +kernel
theorem dX9_noCell_26 : decode cX9_noCell 26 = .ok (.iconst 1, 1) := by decide +kernel
theorem dX9_noCell_27 : decode cX9_noCell 27 = .ok (.goto 4, 3) := by decide +kernel
theorem dX9_noCell_30 : decode cX9_noCell 30 = .ok (.iconst 0, 1) := by decide +kernel
theorem dX9_noCell_31 : decode cX9_noCell 31 = .ok (.ireturn, 1) := by decide +kernel
theorem dX9_cell_0 : decode cX9_cell 0 = .ok (.aload_n 0, 1) := by decide +kernel
theorem dX9_cell_1 : decode cX9_cell 1 = .ok (.iconst 0, 1) := by decide +kernel
theorem dX9_cell_2 : decode cX9_cell 2 = .ok (.putfield 59, 3) := by decide +kernel
theorem dX9_cell_5 : decode cX9_cell 5 = .ok (.aload_n 0, 1) := by decide +kernel
theorem dX9_cell_6 : decode cX9_cell 6 = .ok (.iload_n 1, 1) := by decide +kernel
theorem dX9_cell_7 : decode cX9_cell 7 = .ok (.iload_n 2, 1) := by decide +kernel
theorem dX9_cell_8 : decode cX9_cell 8 = .ok (.iconst 0, 1) := by decide +kernel
theorem dX9_cell_9 : decode cX9_cell 9 = .ok (.invokevirtual 289, 3) := by decide +kernel
theorem dX9_cell_12 : decode cX9_cell 12 = .ok (.ifCond .eq 7, 3) := by decide +kernel
theorem dX9_cell_15 : decode cX9_cell 15 = .ok (.iconst 0, 1) := by decide +kernel
theorem dX9_cell_16 : decode cX9_cell 16 = .ok (.goto 9, 3) := by decide +kernel
theorem dX9_cell_19 : decode cX9_cell 19 = .ok (.aload_n 0, 1) := by decide +kernel
theorem dX9_cell_20 : decode cX9_cell 20 = .ok (.iload_n 1, 1) := by decide +kernel
theorem dX9_cell_21 : decode cX9_cell 21 = .ok (.iload_n 2, 1) := by decide +kernel
theorem dX9_cell_22 : decode cX9_cell 22 = .ok (.invokevirtual 293, 3) := by decide +kernel
theorem dX9_cell_25 : decode cX9_cell 25 = .ok (.ireturn, 1) := by decide +kernel
theorem dX9_isRaised_0 : decode cX9_isRaised 0 = .ok (.aload_n 0, 1) := by decide +kernel
theorem dX9_isRaised_1 : decode cX9_isRaised 1 = .ok (.iconst 0, 1) := by decide +kernel
theorem dX9_isRaised_2 : decode cX9_isRaised 2 = .ok (.putfield 59, 3) := by decide +kernel
theorem dX9_isRaised_5 : decode cX9_isRaised 5 = .ok (.aload_n 0, 1) := by decide +kernel
theorem dX9_isRaised_6 : decode cX9_isRaised 6 = .ok (.iload_n 1, 1) := by decide +kernel
theorem dX9_isRaised_7 : decode cX9_isRaised 7 = .ok (.iload_n 2, 1) := by decide +kernel
theorem dX9_isRaised_8 : decode cX9_isRaised 8 = .ok (.iconst 1, 1) := by decide +kernel
theorem dX9_isRaised_9 : decode cX9_isRaised 9 = .ok (.invokevirtual 289, 3) := by decide +kernel
theorem dX9_isRaised_12 : decode cX9_isRaised 12 = .ok (.ifCond .ne 24, 3) := by decide +kernel
theorem dX9_isRaised_15 : decode cX9_isRaised 15 = .ok (.aload_n 0, 1) := by decide +kernel
theorem dX9_isRaised_16 : decode cX9_isRaised 16 = .ok (.iload_n 1, 1) := by decide +kernel
theorem dX9_isRaised_17 : decode cX9_isRaised 17 = .ok (.iload_n 2, 1) := by decide +kernel
theorem dX9_isRaised_18 : decode cX9_isRaised 18 = .ok (.invokevirtual 293, 3) := by decide +kernel
theorem dX9_isRaised_21 : decode cX9_isRaised 21 = .ok (.aload_n 0, 1) := by decide +kernel
theorem dX9_isRaised_22 : decode cX9_isRaised 22 = .ok (.iload_n 1, 1) := by decide +kernel
theorem dX9_isRaised_23 : decode cX9_isRaised 23 = .ok (.iconst 1, 1) := by decide +kernel
theorem dX9_isRaised_24 : decode cX9_isRaised 24 = .ok (.isub, 1) := by decide +kernel
theorem dX9_isRaised_25 : decode cX9_isRaised 25 = .ok (.iload_n 2, 1) := by decide +kernel
theorem dX9_isRaised_26 : decode cX9_isRaised 26 = .ok (.invokevirtual 293, 3) := by decide +kernel
theorem dX9_isRaised_29 : decode cX9_isRaised 29 = .ok (.if_icmp .le 7, 3) := by decide +kernel
theorem dX9_isRaised_32 : decode cX9_isRaised 32 = .ok (.iconst 1, 1) := by decide +kernel
theorem dX9_isRaised_33 : decode cX9_isRaised 33 = .ok (.goto 4, 3) := by decide +kernel
theorem dX9_isRaised_36 : decode cX9_isRaised 36 = .ok (.iconst 0, 1) := by decide +kernel
theorem dX9_isRaised_37 : decode cX9_isRaised 37 = .ok (.ireturn, 1) := by decide +kernel
theorem dX9_greedyPlan_0 : decode cX9_greedyPlan 0 = .ok (.aload_n 0, 1) := by decide +kernel
theorem dX9_greedyPlan_1 : decode cX9_greedyPlan 1 = .ok (.iconst 0, 1) := by decide +kernel
theorem dX9_greedyPlan_2 : decode cX9_greedyPlan 2 = .ok (.putfield 59, 3) := by decide +kernel
theorem dX9_greedyPlan_5 : decode cX9_greedyPlan 5 = .ok (.aload_n 0, 1) := by decide +kernel
theorem dX9_greedyPlan_6 : decode cX9_greedyPlan 6 = .ok (.invokevirtual 296, 3) := by decide +kernel
theorem dX9_greedyPlan_9 : decode cX9_greedyPlan 9 = .ok (.ireturn, 1) := by decide +kernel
theorem dX9_greedyWeightNow_0 : decode cX9_greedyWeightNow 0 = .ok (.aload_n 0, 1) := by decide +kernel
theorem dX9_greedyWeightNow_1 : decode cX9_greedyWeightNow 1 = .ok (.invokevirtual 296, 3) := by decide +kernel
theorem dX9_greedyWeightNow_4 : decode cX9_greedyWeightNow 4 = .ok (.istore_n 1, 1) := by decide +kernel
theorem dX9_greedyWeightNow_5 : decode cX9_greedyWeightNow 5 = .ok (.iload_n 1, 1) := by decide +kernel
theorem dX9_greedyWeightNow_6 : decode cX9_greedyWeightNow 6 = .ok (.iconst (-1), 1) := by decide +kernel
theorem dX9_greedyWeightNow_7 : decode cX9_greedyWeightNow 7 = .ok (.if_icmp .ne 7, 3) := by decide +kernel
theorem dX9_greedyWeightNow_10 : decode cX9_greedyWeightNow 10 = .ok (.iconst (-1), 1) := by decide +kernel
theorem dX9_greedyWeightNow_11 : decode cX9_greedyWeightNow 11 = .ok (.goto 8, 3) := by decide +kernel
theorem dX9_greedyWeightNow_14 : decode cX9_greedyWeightNow 14 = .ok (.aload_n 0, 1) := by decide +kernel
theorem dX9_greedyWeightNow_15 : decode cX9_greedyWeightNow 15 = .ok (.iload_n 1, 1) := by decide +kernel
theorem dX9_greedyWeightNow_16 : decode cX9_greedyWeightNow 16 = .ok (.invokevirtual 111, 3) := by decide +kernel
theorem dX9_greedyWeightNow_19 : decode cX9_greedyWeightNow 19 = .ok (.ireturn, 1) := by decide +kernel
theorem dX9_greedyWeight_0 : decode cX9_greedyWeight 0 = .ok (.aload_n 0, 1) := by decide +kernel
theorem dX9_greedyWeight_1 : decode cX9_greedyWeight 1 = .ok (.iconst 0, 1) := by decide +kernel
theorem dX9_greedyWeight_2 : decode cX9_greedyWeight 2 = .ok (.putfield 59, 3) := by decide +kernel
theorem dX9_greedyWeight_5 : decode cX9_greedyWeight 5 = .ok (.aload_n 0, 1) := by decide +kernel
theorem dX9_greedyWeight_6 : decode cX9_greedyWeight 6 = .ok (.invokevirtual 299, 3) := by decide +kernel
theorem dX9_greedyWeight_9 : decode cX9_greedyWeight 9 = .ok (.ireturn, 1) := by decide +kernel
theorem dX9_upperBound_0 : decode cX9_upperBound 0 = .ok (.aload_n 0, 1) := by decide +kernel
theorem dX9_upperBound_1 : decode cX9_upperBound 1 = .ok (.iconst 0, 1) := by decide +kernel
theorem dX9_upperBound_2 : decode cX9_upperBound 2 = .ok (.putfield 59, 3) := by decide +kernel
theorem dX9_upperBound_5 : decode cX9_upperBound 5 = .ok (.aload_n 0, 1) := by decide +kernel
theorem dX9_upperBound_6 : decode cX9_upperBound 6 = .ok (.invokevirtual 302, 3) := by decide +kernel
theorem dX9_upperBound_9 : decode cX9_upperBound 9 = .ok (.ireturn, 1) := by decide +kernel
theorem dX9_weightIf_0 : decode cX9_weightIf 0 = .ok (.aload_n 0, 1) := by decide +kernel
theorem dX9_weightIf_1 : decode cX9_weightIf 1 = .ok (.iload_n 1, 1) := by decide +kernel
theorem dX9_weightIf_2 : decode cX9_weightIf 2 = .ok (.iconst 3, 1) := by decide +kernel
theorem dX9_weightIf_3 : decode cX9_weightIf 3 = .ok (.invokevirtual 73, 3) := by decide +kernel
theorem dX9_weightIf_6 : decode cX9_weightIf 6 = .ok (.istore_n 3, 1) := by decide +kernel
theorem dX9_weightIf_7 : decode cX9_weightIf 7 = .ok (.aload_n 0, 1) := by decide +kernel
theorem dX9_weightIf_8 : decode cX9_weightIf 8 = .ok (.iload_n 1, 1) := by decide +kernel
theorem dX9_weightIf_9 : decode cX9_weightIf 9 = .ok (.iconst 3, 1) := by decide +kernel
theorem dX9_weightIf_10 : decode cX9_weightIf 10 = .ok (.iload_n 2, 1) := by decide +kernel
theorem dX9_weightIf_11 : decode cX9_weightIf 11 = .ok (.invokevirtual 55, 3) := by decide +kernel
theorem dX9_weightIf_14 : decode cX9_weightIf 14 = .ok (.aload_n 0, 1) := by decide +kernel
theorem dX9_weightIf_15 : decode cX9_weightIf 15 = .ok (.invokevirtual 280, 3) := by decide +kernel
theorem dX9_weightIf_18 : decode cX9_weightIf 18 = .ok (.istore 4, 2) := by decide +kernel
theorem dX9_weightIf_20 : decode cX9_weightIf 20 = .ok (.aload_n 0, 1) := by decide +kernel
theorem dX9_weightIf_21 : decode cX9_weightIf 21 = .ok (.iload_n 1, 1) := by decide +kernel
theorem dX9_weightIf_22 : decode cX9_weightIf 22 = .ok (.iconst 3, 1) := by decide +kernel
theorem dX9_weightIf_23 : decode cX9_weightIf 23 = .ok (.iload_n 3, 1) := by decide +kernel
theorem dX9_weightIf_24 : decode cX9_weightIf 24 = .ok (.invokevirtual 55, 3) := by decide +kernel
theorem dX9_weightIf_27 : decode cX9_weightIf 27 = .ok (.iload 4, 2) := by decide +kernel
theorem dX9_weightIf_29 : decode cX9_weightIf 29 = .ok (.ireturn, 1) := by decide +kernel
theorem dX9_lossIfExcluded_0 : decode cX9_lossIfExcluded 0 = .ok (.aload_n 0, 1) := by decide +kernel
theorem dX9_lossIfExcluded_1 : decode cX9_lossIfExcluded 1 = .ok (.iconst 0, 1) := by decide +kernel
theorem dX9_lossIfExcluded_2 : decode cX9_lossIfExcluded 2 = .ok (.putfield 59, 3) := by decide +kernel
theorem dX9_lossIfExcluded_5 : decode cX9_lossIfExcluded 5 = .ok (.aload_n 0, 1) := by decide +kernel
theorem dX9_lossIfExcluded_6 : decode cX9_lossIfExcluded 6 = .ok (.iload_n 1, 1) := by decide +kernel
theorem dX9_lossIfExcluded_7 : decode cX9_lossIfExcluded 7 = .ok (.invokevirtual 134, 3) := by decide +kernel
theorem dX9_lossIfExcluded_10 : decode cX9_lossIfExcluded 10 = .ok (.ifCond .ne 11, 3) := by decide +kernel
theorem dX9_lossIfExcluded_13 : decode cX9_lossIfExcluded 13 = .ok (.aload_n 0, 1) := by decide +kernel
theorem dX9_lossIfExcluded_14 : decode cX9_lossIfExcluded 14 = .ok (.invokevirtual 123, 3) := by decide +kernel
theorem dX9_lossIfExcluded_17 : decode cX9_lossIfExcluded 17 = .ok (.iconst (-1), 1) := by decide +kernel
theorem dX9_lossIfExcluded_18 : decode cX9_lossIfExcluded 18 = .ok (.if_icmp .ne 5, 3) := by decide +kernel
theorem dX9_lossIfExcluded_21 : decode cX9_lossIfExcluded 21 = .ok (.iconst 0, 1) := by decide +kernel
theorem dX9_lossIfExcluded_22 : decode cX9_lossIfExcluded 22 = .ok (.ireturn, 1) := by decide +kernel
theorem dX9_lossIfExcluded_23 : decode cX9_lossIfExcluded 23 = .ok (.aload_n 0, 1) := by decide +kernel
theorem dX9_lossIfExcluded_24 : decode cX9_lossIfExcluded 24 = .ok (.invokevirtual 280, 3) := by decide +kernel
theorem dX9_lossIfExcluded_27 : decode cX9_lossIfExcluded 27 = .ok (.aload_n 0, 1) := by decide +kernel
theorem dX9_lossIfExcluded_28 : decode cX9_lossIfExcluded 28 = .ok (.iload_n 1, 1) := by decide +kernel
theorem dX9_lossIfExcluded_29 : decode cX9_lossIfExcluded 29 = .ok (.iconst 2, 1) := by decide +kernel
theorem dX9_lossIfExcluded_30 : decode cX9_lossIfExcluded 30 = .ok (.invokevirtual 305, 3) := by decide +kernel
theorem dX9_lossIfExcluded_33 : decode cX9_lossIfExcluded 33 = .ok (.isub, 1) := by decide +kernel
theorem dX9_lossIfExcluded_34 : decode cX9_lossIfExcluded 34 = .ok (.ireturn, 1) := by decide +kernel
theorem dX9_lossIfPinned_0 : decode cX9_lossIfPinned 0 = .ok (.aload_n 0, 1) := by decide +kernel
theorem dX9_lossIfPinned_1 : decode cX9_lossIfPinned 1 = .ok (.iconst 0, 1) := by decide +kernel
theorem dX9_lossIfPinned_2 : decode cX9_lossIfPinned 2 = .ok (.putfield 59, 3) := by decide +kernel
theorem dX9_lossIfPinned_5 : decode cX9_lossIfPinned 5 = .ok (.aload_n 0, 1) := by decide +kernel
theorem dX9_lossIfPinned_6 : decode cX9_lossIfPinned 6 = .ok (.iload_n 1, 1) := by decide +kernel
theorem dX9_lossIfPinned_7 : decode cX9_lossIfPinned 7 = .ok (.invokevirtual 134, 3) := by decide +kernel
theorem dX9_lossIfPinned_10 : decode cX9_lossIfPinned 10 = .ok (.ifCond .eq 5, 3) := by decide +kernel
theorem dX9_lossIfPinned_13 : decode cX9_lossIfPinned 13 = .ok (.iconst 0, 1) := by decide +kernel
theorem dX9_lossIfPinned_14 : decode cX9_lossIfPinned 14 = .ok (.ireturn, 1) := by decide +kernel
theorem dX9_lossIfPinned_15 : decode cX9_lossIfPinned 15 = .ok (.aload_n 0, 1) := by decide +kernel
theorem dX9_lossIfPinned_16 : decode cX9_lossIfPinned 16 = .ok (.iload_n 1, 1) := by decide +kernel
theorem dX9_lossIfPinned_17 : decode cX9_lossIfPinned 17 = .ok (.iconst 1, 1) := by decide +kernel
theorem dX9_lossIfPinned_18 : decode cX9_lossIfPinned 18 = .ok (.invokevirtual 305, 3) := by decide +kernel
theorem dX9_lossIfPinned_21 : decode cX9_lossIfPinned 21 = .ok (.istore_n 2, 1) := by decide +kernel
theorem dX9_lossIfPinned_22 : decode cX9_lossIfPinned 22 = .ok (.aload_n 0, 1) := by decide +kernel
theorem dX9_lossIfPinned_23 : decode cX9_lossIfPinned 23 = .ok (.invokevirtual 123, 3) := by decide +kernel
theorem dX9_lossIfPinned_26 : decode cX9_lossIfPinned 26 = .ok (.iconst (-1), 1) := by decide +kernel
theorem dX9_lossIfPinned_27 : decode cX9_lossIfPinned 27 = .ok (.if_icmp .eq 8, 3) := by decide +kernel
theorem dX9_lossIfPinned_30 : decode cX9_lossIfPinned 30 = .ok (.iload_n 2, 1) := by decide +kernel
theorem dX9_lossIfPinned_31 : decode cX9_lossIfPinned 31 = .ok (.iconst (-1), 1) := by decide +kernel
theorem dX9_lossIfPinned_32 : decode cX9_lossIfPinned 32 = .ok (.if_icmp .ne 7, 3) := by decide +kernel
theorem dX9_lossIfPinned_35 : decode cX9_lossIfPinned 35 = .ok (.iconst (-1), 1) := by decide +kernel
theorem dX9_lossIfPinned_36 : decode cX9_lossIfPinned 36 = .ok (.goto 9, 3) := by decide +kernel
theorem dX9_lossIfPinned_39 : decode cX9_lossIfPinned 39 = .ok (.aload_n 0, 1) := by decide +kernel
theorem dX9_lossIfPinned_40 : decode cX9_lossIfPinned 40 = .ok (.invokevirtual 280, 3) := by decide +kernel
theorem dX9_lossIfPinned_43 : decode cX9_lossIfPinned 43 = .ok (.iload_n 2, 1) := by decide +kernel
theorem dX9_lossIfPinned_44 : decode cX9_lossIfPinned 44 = .ok (.isub, 1) := by decide +kernel
theorem dX9_lossIfPinned_45 : decode cX9_lossIfPinned 45 = .ok (.ireturn, 1) := by decide +kernel
theorem dX9_valueNeeded_0 : decode cX9_valueNeeded 0 = .ok (.aload_n 0, 1) := by decide +kernel
theorem dX9_valueNeeded_1 : decode cX9_valueNeeded 1 = .ok (.iconst 0, 1) := by decide +kernel
theorem dX9_valueNeeded_2 : decode cX9_valueNeeded 2 = .ok (.putfield 59, 3) := by decide +kernel
theorem dX9_valueNeeded_5 : decode cX9_valueNeeded 5 = .ok (.aload_n 0, 1) := by decide +kernel
theorem dX9_valueNeeded_6 : decode cX9_valueNeeded 6 = .ok (.iload_n 1, 1) := by decide +kernel
theorem dX9_valueNeeded_7 : decode cX9_valueNeeded 7 = .ok (.invokevirtual 134, 3) := by decide +kernel
theorem dX9_valueNeeded_10 : decode cX9_valueNeeded 10 = .ok (.ifCond .eq 5, 3) := by decide +kernel
theorem dX9_valueNeeded_13 : decode cX9_valueNeeded 13 = .ok (.iconst 0, 1) := by decide +kernel
theorem dX9_valueNeeded_14 : decode cX9_valueNeeded 14 = .ok (.ireturn, 1) := by decide +kernel
theorem dX9_valueNeeded_15 : decode cX9_valueNeeded 15 = .ok (.aload_n 0, 1) := by decide +kernel
theorem dX9_valueNeeded_16 : decode cX9_valueNeeded 16 = .ok (.iload_n 1, 1) := by decide +kernel
theorem dX9_valueNeeded_17 : decode cX9_valueNeeded 17 = .ok (.iconst 1, 1) := by decide +kernel
theorem dX9_valueNeeded_18 : decode cX9_valueNeeded 18 = .ok (.invokevirtual 73, 3) := by decide +kernel
theorem dX9_valueNeeded_21 : decode cX9_valueNeeded 21 = .ok (.istore_n 2, 1) := by decide +kernel
theorem dX9_valueNeeded_22 : decode cX9_valueNeeded 22 = .ok (.iconst (-1), 1) := by decide +kernel
theorem dX9_valueNeeded_23 : decode cX9_valueNeeded 23 = .ok (.istore_n 3, 1) := by decide +kernel
theorem dX9_valueNeeded_24 : decode cX9_valueNeeded 24 = .ok (.aload_n 0, 1) := by decide +kernel
theorem dX9_valueNeeded_25 : decode cX9_valueNeeded 25 = .ok (.iload_n 1, 1) := by decide +kernel
theorem dX9_valueNeeded_26 : decode cX9_valueNeeded 26 = .ok (.iconst 0, 1) := by decide +kernel
theorem dX9_valueNeeded_27 : decode cX9_valueNeeded 27 = .ok (.invokevirtual 76, 3) := by decide +kernel
theorem dX9_valueNeeded_30 : decode cX9_valueNeeded 30 = .ok (.ifCond .eq 15, 3) := by decide +kernel
theorem dX9_valueNeeded_33 : decode cX9_valueNeeded 33 = .ok (.aload_n 0, 1) := by decide +kernel
theorem dX9_valueNeeded_34 : decode cX9_valueNeeded 34 = .ok (.invokevirtual 123, 3) := by decide +kernel
theorem dX9_valueNeeded_37 : decode cX9_valueNeeded 37 = .ok (.iconst (-1), 1) := by decide +kernel
theorem dX9_valueNeeded_38 : decode cX9_valueNeeded 38 = .ok (.if_icmp .eq 7, 3) := by decide +kernel
theorem dX9_valueNeeded_41 : decode cX9_valueNeeded 41 = .ok (.iconst 1, 1) := by decide +kernel
theorem dX9_valueNeeded_42 : decode cX9_valueNeeded 42 = .ok (.goto 4, 3) := by decide +kernel
theorem dX9_valueNeeded_45 : decode cX9_valueNeeded 45 = .ok (.iconst 0, 1) := by decide +kernel
theorem dX9_valueNeeded_46 : decode cX9_valueNeeded 46 = .ok (.istore 4, 2) := by decide +kernel
theorem dX9_valueNeeded_48 : decode cX9_valueNeeded 48 = .ok (.iconst 0, 1) := by decide +kernel
theorem dX9_valueNeeded_49 : decode cX9_valueNeeded 49 = .ok (.istore 5, 2) := by decide +kernel
theorem dX9_valueNeeded_51 : decode cX9_valueNeeded 51 = .ok (.iload 5, 2) := by decide +kernel
theorem dX9_valueNeeded_53 : decode cX9_valueNeeded 53 = .ok (.sipush 999, 3) := by decide +kernel
theorem dX9_valueNeeded_56 : decode cX9_valueNeeded 56 = .ok (.if_icmp .gt 45, 3) := by decide +kernel
theorem dX9_valueNeeded_59 : decode cX9_valueNeeded 59 = .ok (.iload 4, 2) := by decide +kernel
theorem dX9_valueNeeded_61 : decode cX9_valueNeeded 61 = .ok (.ifCond .eq 40, 3) := by decide +kernel
theorem dX9_valueNeeded_64 : decode cX9_valueNeeded 64 = .ok (.iload_n 3, 1) := by decide +kernel
theorem dX9_valueNeeded_65 : decode cX9_valueNeeded 65 = .ok (.iconst (-1), 1) := by decide +kernel
theorem dX9_valueNeeded_66 : decode cX9_valueNeeded 66 = .ok (.if_icmp .ne 35, 3) := by decide +kernel
theorem dX9_valueNeeded_69 : decode cX9_valueNeeded 69 = .ok (.aload_n 0, 1) := by decide +kernel
theorem dX9_valueNeeded_70 : decode cX9_valueNeeded 70 = .ok (.iload_n 1, 1) := by decide +kernel
theorem dX9_valueNeeded_71 : decode cX9_valueNeeded 71 = .ok (.iconst 1, 1) := by decide +kernel
theorem dX9_valueNeeded_72 : decode cX9_valueNeeded 72 = .ok (.iload 5, 2) := by decide +kernel
theorem dX9_valueNeeded_74 : decode cX9_valueNeeded 74 = .ok (.invokevirtual 55, 3) := by decide +kernel
theorem dX9_valueNeeded_77 : decode cX9_valueNeeded 77 = .ok (.aload_n 0, 1) := by decide +kernel
theorem dX9_valueNeeded_78 : decode cX9_valueNeeded 78 = .ok (.invokevirtual 123, 3) := by decide +kernel
theorem dX9_valueNeeded_81 : decode cX9_valueNeeded 81 = .ok (.iload_n 1, 1) := by decide +kernel
theorem dX9_valueNeeded_82 : decode cX9_valueNeeded 82 = .ok (.invokestatic 80, 3) := by decide +kernel
theorem dX9_valueNeeded_85 : decode cX9_valueNeeded 85 = .ok (.ifCond .eq 8, 3) := by decide +kernel
theorem dX9_valueNeeded_88 : decode cX9_valueNeeded 88 = .ok (.iload 5, 2) := by decide +kernel
theorem dX9_valueNeeded_90 : decode cX9_valueNeeded 90 = .ok (.goto 4, 3) := by decide +kernel
theorem dX9_valueNeeded_93 : decode cX9_valueNeeded 93 = .ok (.iconst (-1), 1) := by decide +kernel
theorem dX9_valueNeeded_94 : decode cX9_valueNeeded 94 = .ok (.istore_n 3, 1) := by decide +kernel
theorem dX9_valueNeeded_95 : decode cX9_valueNeeded 95 = .ok (.iinc 5 1, 3) := by decide +kernel
theorem dX9_valueNeeded_98 : decode cX9_valueNeeded 98 = .ok (.goto (-47), 3) := by decide +kernel
theorem dX9_valueNeeded_101 : decode cX9_valueNeeded 101 = .ok (.aload_n 0, 1) := by decide +kernel
theorem dX9_valueNeeded_102 : decode cX9_valueNeeded 102 = .ok (.iload_n 1, 1) := by decide +kernel
theorem dX9_valueNeeded_103 : decode cX9_valueNeeded 103 = .ok (.iconst 1, 1) := by decide +kernel
theorem dX9_valueNeeded_104 : decode cX9_valueNeeded 104 = .ok (.iload_n 2, 1) := by decide +kernel
theorem dX9_valueNeeded_105 : decode cX9_valueNeeded 105 = .ok (.invokevirtual 55, 3) := by decide +kernel
theorem dX9_valueNeeded_108 : decode cX9_valueNeeded 108 = .ok (.iload_n 3, 1) := by decide +kernel
theorem dX9_valueNeeded_109 : decode cX9_valueNeeded 109 = .ok (.ireturn, 1) := by decide +kernel
theorem dX9_takenInBackup_0 : decode cX9_takenInBackup 0 = .ok (.aload_n 0, 1) := by decide +kernel
theorem dX9_takenInBackup_1 : decode cX9_takenInBackup 1 = .ok (.iconst 0, 1) := by decide +kernel
theorem dX9_takenInBackup_2 : decode cX9_takenInBackup 2 = .ok (.putfield 59, 3) := by decide +kernel
theorem dX9_takenInBackup_5 : decode cX9_takenInBackup 5 = .ok (.aload_n 0, 1) := by decide +kernel
theorem dX9_takenInBackup_6 : decode cX9_takenInBackup 6 = .ok (.iload_n 1, 1) := by decide +kernel
theorem dX9_takenInBackup_7 : decode cX9_takenInBackup 7 = .ok (.iconst 1, 1) := by decide +kernel
theorem dX9_takenInBackup_8 : decode cX9_takenInBackup 8 = .ok (.bipush 50, 2) := by decide +kernel
theorem dX9_takenInBackup_10 : decode cX9_takenInBackup 10 = .ok (.iconst 1, 1) := by decide +kernel
theorem dX9_takenInBackup_11 : decode cX9_takenInBackup 11 = .ok (.invokevirtual 69, 3) := by decide +kernel
theorem dX9_takenInBackup_14 : decode cX9_takenInBackup 14 = .ok (.ifCond .eq 5, 3) := by decide +kernel
theorem dX9_takenInBackup_17 : decode cX9_takenInBackup 17 = .ok (.iconst 0, 1) := by decide +kernel
theorem dX9_takenInBackup_18 : decode cX9_takenInBackup 18 = .ok (.ireturn, 1) := by decide +kernel
theorem dX9_takenInBackup_19 : decode cX9_takenInBackup 19 = .ok (.aload_n 0, 1) := by decide +kernel
theorem dX9_takenInBackup_20 : decode cX9_takenInBackup 20 = .ok (.getfield 9, 3) := by decide +kernel
theorem dX9_takenInBackup_23 : decode cX9_takenInBackup 23 = .ok (.aload_n 0, 1) := by decide +kernel
theorem dX9_takenInBackup_24 : decode cX9_takenInBackup 24 = .ok (.getfield 24, 3) := by decide +kernel
theorem dX9_takenInBackup_27 : decode cX9_takenInBackup 27 = .ok (.invokestatic 65, 3) := by decide +kernel
theorem dX9_takenInBackup_30 : decode cX9_takenInBackup 30 = .ok (.iconst 0, 1) := by decide +kernel
theorem dX9_takenInBackup_31 : decode cX9_takenInBackup 31 = .ok (.istore_n 2, 1) := by decide +kernel
theorem dX9_takenInBackup_32 : decode cX9_takenInBackup 32 = .ok (.iconst 0, 1) := by decide +kernel
theorem dX9_takenInBackup_33 : decode cX9_takenInBackup 33 = .ok (.istore_n 3, 1) := by decide +kernel
theorem dX9_takenInBackup_34 : decode cX9_takenInBackup 34 = .ok (.iload_n 3, 1) := by decide +kernel
theorem dX9_takenInBackup_35 : decode cX9_takenInBackup 35 = .ok (.iload_n 1, 1) := by decide +kernel
theorem dX9_takenInBackup_36 : decode cX9_takenInBackup 36 = .ok (.if_icmp .ge 14, 3) := by decide +kernel
theorem dX9_takenInBackup_39 : decode cX9_takenInBackup 39 = .ok (.aload_n 0, 1) := by decide +kernel
theorem dX9_takenInBackup_40 : decode cX9_takenInBackup 40 = .ok (.invokevirtual 127, 3) := by decide +kernel
theorem dX9_takenInBackup_43 : decode cX9_takenInBackup 43 = .ok (.istore_n 2, 1) := by decide +kernel
theorem dX9_takenInBackup_44 : decode cX9_takenInBackup 44 = .ok (.iinc 3 1, 3) := by decide +kernel
theorem dX9_takenInBackup_47 : decode cX9_takenInBackup 47 = .ok (.goto (-13), 3) := by decide +kernel
theorem dX9_takenInBackup_50 : decode cX9_takenInBackup 50 = .ok (.aload_n 0, 1) := by decide +kernel
theorem dX9_takenInBackup_51 : decode cX9_takenInBackup 51 = .ok (.getfield 24, 3) := by decide +kernel
theorem dX9_takenInBackup_54 : decode cX9_takenInBackup 54 = .ok (.aload_n 0, 1) := by decide +kernel
theorem dX9_takenInBackup_55 : decode cX9_takenInBackup 55 = .ok (.getfield 9, 3) := by decide +kernel
theorem dX9_takenInBackup_58 : decode cX9_takenInBackup 58 = .ok (.invokestatic 65, 3) := by decide +kernel
theorem dX9_takenInBackup_61 : decode cX9_takenInBackup 61 = .ok (.iload_n 2, 1) := by decide +kernel
theorem dX9_takenInBackup_62 : decode cX9_takenInBackup 62 = .ok (.ireturn, 1) := by decide +kernel
theorem dX9_backupsUntil_0 : decode cX9_backupsUntil 0 = .ok (.aload_n 0, 1) := by decide +kernel
theorem dX9_backupsUntil_1 : decode cX9_backupsUntil 1 = .ok (.iconst 0, 1) := by decide +kernel
theorem dX9_backupsUntil_2 : decode cX9_backupsUntil 2 = .ok (.putfield 59, 3) := by decide +kernel
theorem dX9_backupsUntil_5 : decode cX9_backupsUntil 5 = .ok (.aload_n 0, 1) := by decide +kernel
theorem dX9_backupsUntil_6 : decode cX9_backupsUntil 6 = .ok (.iload_n 1, 1) := by decide +kernel
theorem dX9_backupsUntil_7 : decode cX9_backupsUntil 7 = .ok (.invokevirtual 134, 3) := by decide +kernel
theorem dX9_backupsUntil_10 : decode cX9_backupsUntil 10 = .ok (.ifCond .eq 5, 3) := by decide +kernel
theorem dX9_backupsUntil_13 : decode cX9_backupsUntil 13 = .ok (.iconst 0, 1) := by decide +kernel
theorem dX9_backupsUntil_14 : decode cX9_backupsUntil 14 = .ok (.ireturn, 1) := by decide +kernel
theorem dX9_backupsUntil_15 : decode cX9_backupsUntil 15 = .ok (.aload_n 0, 1) := by decide +kernel
theorem dX9_backupsUntil_16 : decode cX9_backupsUntil 16 = .ok (.getfield 9, 3) := by decide +kernel
theorem dX9_backupsUntil_19 : decode cX9_backupsUntil 19 = .ok (.aload_n 0, 1) := by decide +kernel
theorem dX9_backupsUntil_20 : decode cX9_backupsUntil 20 = .ok (.getfield 24, 3) := by decide +kernel
theorem dX9_backupsUntil_23 : decode cX9_backupsUntil 23 = .ok (.invokestatic 65, 3) := by decide +kernel
theorem dX9_backupsUntil_26 : decode cX9_backupsUntil 26 = .ok (.iconst 1, 1) := by decide +kernel
theorem dX9_backupsUntil_27 : decode cX9_backupsUntil 27 = .ok (.istore_n 2, 1) := by decide +kernel
theorem dX9_backupsUntil_28 : decode cX9_backupsUntil 28 = .ok (.iload_n 2, 1) := by decide +kernel
theorem dX9_backupsUntil_29 : decode cX9_backupsUntil 29 = .ok (.bipush 50, 2) := by decide +kernel
theorem dX9_backupsUntil_31 : decode cX9_backupsUntil 31 = .ok (.if_icmp .gt 20, 3) := by decide +kernel
theorem dX9_backupsUntil_34 : decode cX9_backupsUntil 34 = .ok (.aload_n 0, 1) := by decide +kernel
theorem dX9_backupsUntil_35 : decode cX9_backupsUntil 35 = .ok (.invokevirtual 127, 3) := by decide +kernel
theorem dX9_backupsUntil_38 : decode cX9_backupsUntil 38 = .ok (.iload_n 1, 1) := by decide +kernel
theorem dX9_backupsUntil_39 : decode cX9_backupsUntil 39 = .ok (.invokestatic 80, 3) := by decide +kernel
theorem dX9_backupsUntil_42 : decode cX9_backupsUntil 42 = .ok (.ifCond .ne 9, 3) := by decide +kernel
theorem dX9_backupsUntil_45 : decode cX9_backupsUntil 45 = .ok (.iinc 2 1, 3) := by decide +kernel
theorem dX9_backupsUntil_48 : decode cX9_backupsUntil 48 = .ok (.goto (-20), 3) := by decide +kernel
theorem dX9_backupsUntil_51 : decode cX9_backupsUntil 51 = .ok (.aload_n 0, 1) := by decide +kernel
theorem dX9_backupsUntil_52 : decode cX9_backupsUntil 52 = .ok (.getfield 24, 3) := by decide +kernel
theorem dX9_backupsUntil_55 : decode cX9_backupsUntil 55 = .ok (.aload_n 0, 1) := by decide +kernel
theorem dX9_backupsUntil_56 : decode cX9_backupsUntil 56 = .ok (.getfield 9, 3) := by decide +kernel
theorem dX9_backupsUntil_59 : decode cX9_backupsUntil 59 = .ok (.invokestatic 65, 3) := by decide +kernel
theorem dX9_backupsUntil_62 : decode cX9_backupsUntil 62 = .ok (.iload_n 2, 1) := by decide +kernel
theorem dX9_backupsUntil_63 : decode cX9_backupsUntil 63 = .ok (.bipush 50, 2) := by decide +kernel
theorem dX9_backupsUntil_65 : decode cX9_backupsUntil 65 = .ok (.if_icmp .le 7, 3) := by decide +kernel
theorem dX9_backupsUntil_68 : decode cX9_backupsUntil 68 = .ok (.iconst (-1), 1) := by decide +kernel
theorem dX9_backupsUntil_69 : decode cX9_backupsUntil 69 = .ok (.goto 4, 3) := by decide +kernel
theorem dX9_backupsUntil_72 : decode cX9_backupsUntil 72 = .ok (.iload_n 2, 1) := by decide +kernel
theorem dX9_backupsUntil_73 : decode cX9_backupsUntil 73 = .ok (.ireturn, 1) := by decide +kernel
theorem dX9_neglected_0 : decode cX9_neglected 0 = .ok (.aload_n 0, 1) := by decide +kernel
theorem dX9_neglected_1 : decode cX9_neglected 1 = .ok (.iconst 0, 1) := by decide +kernel
theorem dX9_neglected_2 : decode cX9_neglected 2 = .ok (.putfield 59, 3) := by decide +kernel
theorem dX9_neglected_5 : decode cX9_neglected 5 = .ok (.aload_n 0, 1) := by decide +kernel
theorem dX9_neglected_6 : decode cX9_neglected 6 = .ok (.iload_n 1, 1) := by decide +kernel
theorem dX9_neglected_7 : decode cX9_neglected 7 = .ok (.iconst 1, 1) := by decide +kernel
theorem dX9_neglected_8 : decode cX9_neglected 8 = .ok (.bipush 50, 2) := by decide +kernel
theorem dX9_neglected_10 : decode cX9_neglected 10 = .ok (.iconst 1, 1) := by decide +kernel
theorem dX9_neglected_11 : decode cX9_neglected 11 = .ok (.invokevirtual 69, 3) := by decide +kernel
theorem dX9_neglected_14 : decode cX9_neglected 14 = .ok (.ifCond .eq 5, 3) := by decide +kernel
theorem dX9_neglected_17 : decode cX9_neglected 17 = .ok (.iconst 0, 1) := by decide +kernel
theorem dX9_neglected_18 : decode cX9_neglected 18 = .ok (.ireturn, 1) := by decide +kernel
theorem dX9_neglected_19 : decode cX9_neglected 19 = .ok (.aload_n 0, 1) := by decide +kernel
theorem dX9_neglected_20 : decode cX9_neglected 20 = .ok (.getfield 9, 3) := by decide +kernel
theorem dX9_neglected_23 : decode cX9_neglected 23 = .ok (.aload_n 0, 1) := by decide +kernel
theorem dX9_neglected_24 : decode cX9_neglected 24 = .ok (.getfield 24, 3) := by decide +kernel
theorem dX9_neglected_27 : decode cX9_neglected 27 = .ok (.invokestatic 65, 3) := by decide +kernel
theorem dX9_neglected_30 : decode cX9_neglected 30 = .ok (.aload_n 0, 1) := by decide +kernel
theorem dX9_neglected_31 : decode cX9_neglected 31 = .ok (.iload_n 1, 1) := by decide +kernel
theorem dX9_neglected_32 : decode cX9_neglected 32 = .ok (.invokevirtual 152, 3) := by decide +kernel
theorem dX9_neglected_35 : decode cX9_neglected 35 = .ok (.istore_n 2, 1) := by decide +kernel
theorem dX9_neglected_36 : decode cX9_neglected 36 = .ok (.aload_n 0, 1) := by decide +kernel
theorem dX9_neglected_37 : decode cX9_neglected 37 = .ok (.getfield 24, 3) := by decide +kernel
theorem dX9_neglected_40 : decode cX9_neglected 40 = .ok (.aload_n 0, 1) := by decide +kernel
theorem dX9_neglected_41 : decode cX9_neglected 41 = .ok (.getfield 9, 3) := by decide +kernel
theorem dX9_neglected_44 : decode cX9_neglected 44 = .ok (.invokestatic 65, 3) := by decide +kernel
theorem dX9_neglected_47 : decode cX9_neglected 47 = .ok (.iconst 1, 1) := by decide +kernel
theorem dX9_neglected_48 : decode cX9_neglected 48 = .ok (.aload_n 0, 1) := by decide +kernel
theorem dX9_neglected_49 : decode cX9_neglected 49 = .ok (.getfield 9, 3) := by decide +kernel
theorem dX9_neglected_52 : decode cX9_neglected 52 = .ok (.iconst 1, 1) := by decide +kernel
theorem dX9_neglected_53 : decode cX9_neglected 53 = .ok (.iaload, 1) := by decide +kernel
theorem dX9_neglected_54 : decode cX9_neglected 54 = .ok (.ishl, 1) := by decide +kernel
theorem dX9_neglected_55 : decode cX9_neglected 55 = .ok (.iconst 1, 1) := by decide +kernel
theorem dX9_neglected_56 : decode cX9_neglected 56 = .ok (.isub, 1) := by decide +kernel
theorem dX9_neglected_57 : decode cX9_neglected 57 = .ok (.iload_n 2, 1) := by decide +kernel
theorem dX9_neglected_58 : decode cX9_neglected 58 = .ok (.iconst (-1), 1) := by decide +kernel
theorem dX9_neglected_59 : decode cX9_neglected 59 = .ok (.ixor, 1) := by decide +kernel
theorem dX9_neglected_60 : decode cX9_neglected 60 = .ok (.iand, 1) := by decide +kernel
theorem dX9_neglected_61 : decode cX9_neglected 61 = .ok (.ireturn, 1) := by decide +kernel
theorem dX9_backupCount_0 : decode cX9_backupCount 0 = .ok (.aload_n 0, 1) := by decide +kernel
theorem dX9_backupCount_1 : decode cX9_backupCount 1 = .ok (.iconst 0, 1) := by decide +kernel
theorem dX9_backupCount_2 : decode cX9_backupCount 2 = .ok (.putfield 59, 3) := by decide +kernel
theorem dX9_backupCount_5 : decode cX9_backupCount 5 = .ok (.aload_n 0, 1) := by decide +kernel
theorem dX9_backupCount_6 : decode cX9_backupCount 6 = .ok (.getfield 9, 3) := by decide +kernel
theorem dX9_backupCount_9 : decode cX9_backupCount 9 = .ok (.iconst 2, 1) := by decide +kernel
theorem dX9_backupCount_10 : decode cX9_backupCount 10 = .ok (.iaload, 1) := by decide +kernel
theorem dX9_backupCount_11 : decode cX9_backupCount 11 = .ok (.ireturn, 1) := by decide +kernel
theorem dX9_backedUpSize_0 : decode cX9_backedUpSize 0 = .ok (.aload_n 0, 1) := by decide +kernel
theorem dX9_backedUpSize_1 : decode cX9_backedUpSize 1 = .ok (.iconst 0, 1) := by decide +kernel
theorem dX9_backedUpSize_2 : decode cX9_backedUpSize 2 = .ok (.putfield 59, 3) := by decide +kernel
theorem dX9_backedUpSize_5 : decode cX9_backedUpSize 5 = .ok (.aload_n 0, 1) := by decide +kernel
theorem dX9_backedUpSize_6 : decode cX9_backedUpSize 6 = .ok (.getfield 9, 3) := by decide +kernel
theorem dX9_backedUpSize_9 : decode cX9_backedUpSize 9 = .ok (.iconst 3, 1) := by decide +kernel
theorem dX9_backedUpSize_10 : decode cX9_backedUpSize 10 = .ok (.iaload, 1) := by decide +kernel
theorem dX9_backedUpSize_11 : decode cX9_backedUpSize 11 = .ok (.ireturn, 1) := by decide +kernel
theorem dX9_backedUpWeight_0 : decode cX9_backedUpWeight 0 = .ok (.aload_n 0, 1) := by decide +kernel
theorem dX9_backedUpWeight_1 : decode cX9_backedUpWeight 1 = .ok (.iconst 0, 1) := by decide +kernel
theorem dX9_backedUpWeight_2 : decode cX9_backedUpWeight 2 = .ok (.putfield 59, 3) := by decide +kernel
theorem dX9_backedUpWeight_5 : decode cX9_backedUpWeight 5 = .ok (.aload_n 0, 1) := by decide +kernel
theorem dX9_backedUpWeight_6 : decode cX9_backedUpWeight 6 = .ok (.getfield 9, 3) := by decide +kernel
theorem dX9_backedUpWeight_9 : decode cX9_backedUpWeight 9 = .ok (.iconst 4, 1) := by decide +kernel
theorem dX9_backedUpWeight_10 : decode cX9_backedUpWeight 10 = .ok (.iaload, 1) := by decide +kernel
theorem dX9_backedUpWeight_11 : decode cX9_backedUpWeight 11 = .ok (.ireturn, 1) := by decide +kernel
theorem dX9_fill_0 : decode cX9_fill 0 = .ok (.aload_n 0, 1) := by decide +kernel
theorem dX9_fill_1 : decode cX9_fill 1 = .ok (.iconst 0, 1) := by decide +kernel
theorem dX9_fill_2 : decode cX9_fill 2 = .ok (.putfield 59, 3) := by decide +kernel
theorem dX9_fill_5 : decode cX9_fill 5 = .ok (.aload_n 0, 1) := by decide +kernel
theorem dX9_fill_6 : decode cX9_fill 6 = .ok (.invokevirtual 283, 3) := by decide +kernel
theorem dX9_fill_9 : decode cX9_fill 9 = .ok (.istore_n 1, 1) := by decide +kernel
theorem dX9_fill_10 : decode cX9_fill 10 = .ok (.iload_n 1, 1) := by decide +kernel
theorem dX9_fill_11 : decode cX9_fill 11 = .ok (.iconst (-1), 1) := by decide +kernel
theorem dX9_fill_12 : decode cX9_fill 12 = .ok (.if_icmp .eq 12, 3) := by decide +kernel
theorem dX9_fill_15 : decode cX9_fill 15 = .ok (.aload_n 0, 1) := by decide +kernel
theorem dX9_fill_16 : decode cX9_fill 16 = .ok (.getfield 9, 3) := by decide +kernel
theorem dX9_fill_19 : decode cX9_fill 19 = .ok (.iconst 0, 1) := by decide +kernel
theorem dX9_fill_20 : decode cX9_fill 20 = .ok (.iaload, 1) := by decide +kernel
theorem dX9_fill_21 : decode cX9_fill 21 = .ok (.ifCond .ne 7, 3) := by decide +kernel
theorem dX9_fill_24 : decode cX9_fill 24 = .ok (.dconst 0, 1) := by decide +kernel
theorem dX9_fill_25 : decode cX9_fill 25 = .ok (.goto 13, 3) := by decide +kernel
theorem dX9_fill_28 : decode cX9_fill 28 = .ok (.iload_n 1, 1) := by decide +kernel
theorem dX9_fill_29 : decode cX9_fill 29 = .ok (.i2d, 1) := by decide +kernel
theorem dX9_fill_30 : decode cX9_fill 30 = .ok (.aload_n 0, 1) := by decide +kernel
theorem dX9_fill_31 : decode cX9_fill 31 = .ok (.getfield 9, 3) := by decide +kernel
theorem dX9_fill_34 : decode cX9_fill 34 = .ok (.iconst 0, 1) := by decide +kernel
theorem dX9_fill_35 : decode cX9_fill 35 = .ok (.iaload, 1) := by decide +kernel
theorem dX9_fill_36 : decode cX9_fill 36 = .ok (.i2d, 1) := by decide +kernel
theorem dX9_fill_37 : decode cX9_fill 37 = .ok (.ddiv, 1) := by decide +kernel
theorem dX9_fill_38 : decode cX9_fill 38 = .ok (.dreturn, 1) := by decide +kernel
theorem dX9_greedyShare_0 : decode cX9_greedyShare 0 = .ok (.aload_n 0, 1) := by decide +kernel
theorem dX9_greedyShare_1 : decode cX9_greedyShare 1 = .ok (.iconst 0, 1) := by decide +kernel
theorem dX9_greedyShare_2 : decode cX9_greedyShare 2 = .ok (.putfield 59, 3) := by decide +kernel
theorem dX9_greedyShare_5 : decode cX9_greedyShare 5 = .ok (.aload_n 0, 1) := by decide +kernel
theorem dX9_greedyShare_6 : decode cX9_greedyShare 6 = .ok (.invokevirtual 280, 3) := by decide +kernel
theorem dX9_greedyShare_9 : decode cX9_greedyShare 9 = .ok (.istore_n 1, 1) := by decide +kernel
theorem dX9_greedyShare_10 : decode cX9_greedyShare 10 = .ok (.iload_n 1, 1) := by decide +kernel
theorem dX9_greedyShare_11 : decode cX9_greedyShare 11 = .ok (.iconst (-1), 1) := by decide +kernel
theorem dX9_greedyShare_12 : decode cX9_greedyShare 12 = .ok (.if_icmp .eq 7, 3) := by decide +kernel
theorem dX9_greedyShare_15 : decode cX9_greedyShare 15 = .ok (.iload_n 1, 1) := by decide +kernel
theorem dX9_greedyShare_16 : decode cX9_greedyShare 16 = .ok (.ifCond .ne 7, 3) := by decide +kernel
theorem dX9_greedyShare_19 : decode cX9_greedyShare 19 = .ok (.fconst 1, 1) := by decide +kernel
theorem dX9_greedyShare_20 : decode cX9_greedyShare 20 = .ok (.goto 11, 3) := by decide +kernel
theorem dX9_greedyShare_23 : decode cX9_greedyShare 23 = .ok (.aload_n 0, 1) := by decide +kernel
theorem dX9_greedyShare_24 : decode cX9_greedyShare 24 = .ok (.invokevirtual 299, 3) := by decide +kernel
theorem dX9_greedyShare_27 : decode cX9_greedyShare 27 = .ok (.i2f, 1) := by decide +kernel
theorem dX9_greedyShare_28 : decode cX9_greedyShare 28 = .ok (.iload_n 1, 1) := by decide +kernel
theorem dX9_greedyShare_29 : decode cX9_greedyShare 29 = .ok (.i2f, 1) := by decide +kernel
theorem dX9_greedyShare_30 : decode cX9_greedyShare 30 = .ok (.fdiv, 1) := by decide +kernel
theorem dX9_greedyShare_31 : decode cX9_greedyShare 31 = .ok (.freturn, 1) := by decide +kernel
theorem dX9_bit_0 : decode cX9_bit 0 = .ok (.iload_n 0, 1) := by decide +kernel
theorem dX9_bit_1 : decode cX9_bit 1 = .ok (.ifCond .eq 7, 3) := by decide +kernel
theorem dX9_bit_4 : decode cX9_bit 4 = .ok (.iconst 1, 1) := by decide +kernel
theorem dX9_bit_5 : decode cX9_bit 5 = .ok (.goto 4, 3) := by decide +kernel
theorem dX9_bit_8 : decode cX9_bit 8 = .ok (.iconst 0, 1) := by decide +kernel
theorem dX9_bit_9 : decode cX9_bit 9 = .ok (.ireturn, 1) := by decide +kernel
theorem dX9_violations_0 : decode cX9_violations 0 = .ok (.aload_n 0, 1) := by decide +kernel
theorem dX9_violations_1 : decode cX9_violations 1 = .ok (.iconst 0, 1) := by decide +kernel
theorem dX9_violations_2 : decode cX9_violations 2 = .ok (.putfield 59, 3) := by decide +kernel
theorem dX9_violations_5 : decode cX9_violations 5 = .ok (.aload_n 0, 1) := by decide +kernel
theorem dX9_violations_6 : decode cX9_violations 6 = .ok (.invokevirtual 123, 3) := by decide +kernel
theorem dX9_violations_9 : decode cX9_violations 9 = .ok (.istore_n 1, 1) := by decide +kernel
theorem dX9_violations_10 : decode cX9_violations 10 = .ok (.iload_n 1, 1) := by decide +kernel
theorem dX9_violations_11 : decode cX9_violations 11 = .ok (.iconst (-1), 1) := by decide +kernel
theorem dX9_violations_12 : decode cX9_violations 12 = .ok (.if_icmp .ne 5, 3) := by decide +kernel
theorem dX9_violations_15 : decode cX9_violations 15 = .ok (.iconst 0, 1) := by decide +kernel
theorem dX9_violations_16 : decode cX9_violations 16 = .ok (.ireturn, 1) := by decide +kernel
theorem dX9_violations_17 : decode cX9_violations 17 = .ok (.aload_n 0, 1) := by decide +kernel
theorem dX9_violations_18 : decode cX9_violations 18 = .ok (.iconst 1, 1) := by decide +kernel
theorem dX9_violations_19 : decode cX9_violations 19 = .ok (.invokevirtual 93, 3) := by decide +kernel
theorem dX9_violations_22 : decode cX9_violations 22 = .ok (.istore_n 2, 1) := by decide +kernel
theorem dX9_violations_23 : decode cX9_violations 23 = .ok (.aload_n 0, 1) := by decide +kernel
theorem dX9_violations_24 : decode cX9_violations 24 = .ok (.iload_n 1, 1) := by decide +kernel
theorem dX9_violations_25 : decode cX9_violations 25 = .ok (.invokevirtual 111, 3) := by decide +kernel
theorem dX9_violations_28 : decode cX9_violations 28 = .ok (.aload_n 0, 1) := by decide +kernel
theorem dX9_violations_29 : decode cX9_violations 29 = .ok (.bipush 14, 2) := by decide +kernel
theorem dX9_violations_31 : decode cX9_violations 31 = .ok (.aload_n 0, 1) := by decide +kernel
theorem dX9_violations_32 : decode cX9_violations 32 = .ok (.aload_n 0, 1) := by decide +kernel
theorem dX9_violations_33 : decode cX9_violations 33 = .ok (.getfield 9, 3) := by decide +kernel
theorem dX9_violations_36 : decode cX9_violations 36 = .ok (.iconst 0, 1) := by decide +kernel
theorem dX9_violations_37 : decode cX9_violations 37 = .ok (.iaload, 1) := by decide +kernel
theorem dX9_violations_38 : decode cX9_violations 38 = .ok (.invokevirtual 99, 3) := by decide +kernel
theorem dX9_violations_41 : decode cX9_violations 41 = .ok (.invokevirtual 293, 3) := by decide +kernel
theorem dX9_violations_44 : decode cX9_violations 44 = .ok (.aload_n 0, 1) := by decide +kernel
theorem dX9_violations_45 : decode cX9_violations 45 = .ok (.iload_n 2, 1) := by decide +kernel
theorem dX9_violations_46 : decode cX9_violations 46 = .ok (.invokevirtual 111, 3) := by decide +kernel
theorem dX9_violations_49 : decode cX9_violations 49 = .ok (.iadd, 1) := by decide +kernel
theorem dX9_violations_50 : decode cX9_violations 50 = .ok (.if_icmp .eq 7, 3) := by decide +kernel
theorem dX9_violations_53 : decode cX9_violations 53 = .ok (.iconst 1, 1) := by decide +kernel
theorem dX9_violations_54 : decode cX9_violations 54 = .ok (.goto 4, 3) := by decide +kernel
theorem dX9_violations_57 : decode cX9_violations 57 = .ok (.iconst 0, 1) := by decide +kernel
theorem dX9_violations_58 : decode cX9_violations 58 = .ok (.invokestatic 308, 3) := by decide +kernel
theorem dX9_violations_61 : decode cX9_violations 61 = .ok (.istore_n 3, 1) := by decide +kernel
theorem dX9_violations_62 : decode cX9_violations 62 = .ok (.aload_n 0, 1) := by decide +kernel
theorem dX9_violations_63 : decode cX9_violations 63 = .ok (.iload_n 1, 1) := by decide +kernel
theorem dX9_violations_64 : decode cX9_violations 64 = .ok (.invokevirtual 96, 3) := by decide +kernel
theorem dX9_violations_67 : decode cX9_violations 67 = .ok (.aload_n 0, 1) := by decide +kernel
theorem dX9_violations_68 : decode cX9_violations 68 = .ok (.getfield 9, 3) := by decide +kernel
theorem dX9_violations_71 : decode cX9_violations 71 = .ok (.iconst 0, 1) := by decide +kernel
theorem dX9_violations_72 : decode cX9_violations 72 = .ok (.iaload, 1) := by decide +kernel
theorem dX9_violations_73 : decode cX9_violations 73 = .ok (.if_icmp .gt 21, 3) := by decide +kernel
theorem dX9_violations_76 : decode cX9_violations 76 = .ok (.iload_n 1, 1) := by decide +kernel
theorem dX9_violations_77 : decode cX9_violations 77 = .ok (.aload_n 0, 1) := by decide +kernel
theorem dX9_violations_78 : decode cX9_violations 78 = .ok (.iconst 2, 1) := by decide +kernel
theorem dX9_violations_79 : decode cX9_violations 79 = .ok (.invokevirtual 93, 3) := by decide +kernel
theorem dX9_violations_82 : decode cX9_violations 82 = .ok (.iand, 1) := by decide +kernel
theorem dX9_violations_83 : decode cX9_violations 83 = .ok (.ifCond .ne 11, 3) := by decide +kernel
theorem dX9_violations_86 : decode cX9_violations 86 = .ok (.iload_n 2, 1) := by decide +kernel
theorem dX9_violations_87 : decode cX9_violations 87 = .ok (.iload_n 1, 1) := by decide +kernel
theorem dX9_violations_88 : decode cX9_violations 88 = .ok (.iconst (-1), 1) := by decide +kernel
theorem dX9_violations_89 : decode cX9_violations 89 = .ok (.ixor, 1) := by decide +kernel
theorem dX9_violations_90 : decode cX9_violations 90 = .ok (.iand, 1) := by decide +kernel
theorem dX9_violations_91 : decode cX9_violations 91 = .ok (.ifCond .eq 7, 3) := by decide +kernel
theorem dX9_violations_94 : decode cX9_violations 94 = .ok (.iconst 1, 1) := by decide +kernel
theorem dX9_violations_95 : decode cX9_violations 95 = .ok (.goto 4, 3) := by decide +kernel
theorem dX9_violations_98 : decode cX9_violations 98 = .ok (.iconst 0, 1) := by decide +kernel
theorem dX9_violations_99 : decode cX9_violations 99 = .ok (.istore 4, 2) := by decide +kernel
theorem dX9_violations_101 : decode cX9_violations 101 = .ok (.iload_n 3, 1) := by decide +kernel
theorem dX9_violations_102 : decode cX9_violations 102 = .ok (.iload 4, 2) := by decide +kernel
theorem dX9_violations_104 : decode cX9_violations 104 = .ok (.invokestatic 308, 3) := by decide +kernel
theorem dX9_violations_107 : decode cX9_violations 107 = .ok (.iadd, 1) := by decide +kernel
theorem dX9_violations_108 : decode cX9_violations 108 = .ok (.istore_n 3, 1) := by decide +kernel
theorem dX9_violations_109 : decode cX9_violations 109 = .ok (.iload_n 3, 1) := by decide +kernel
theorem dX9_violations_110 : decode cX9_violations 110 = .ok (.aload_n 0, 1) := by decide +kernel
theorem dX9_violations_111 : decode cX9_violations 111 = .ok (.invokevirtual 299, 3) := by decide +kernel
theorem dX9_violations_114 : decode cX9_violations 114 = .ok (.aload_n 0, 1) := by decide +kernel
theorem dX9_violations_115 : decode cX9_violations 115 = .ok (.iload_n 1, 1) := by decide +kernel
theorem dX9_violations_116 : decode cX9_violations 116 = .ok (.invokevirtual 111, 3) := by decide +kernel
theorem dX9_violations_119 : decode cX9_violations 119 = .ok (.if_icmp .gt 15, 3) := by decide +kernel
theorem dX9_violations_122 : decode cX9_violations 122 = .ok (.aload_n 0, 1) := by decide +kernel
theorem dX9_violations_123 : decode cX9_violations 123 = .ok (.iload_n 1, 1) := by decide +kernel
theorem dX9_violations_124 : decode cX9_violations 124 = .ok (.invokevirtual 111, 3) := by decide +kernel
theorem dX9_violations_127 : decode cX9_violations 127 = .ok (.aload_n 0, 1) := by decide +kernel
theorem dX9_violations_128 : decode cX9_violations 128 = .ok (.invokevirtual 302, 3) := by decide +kernel
theorem dX9_violations_131 : decode cX9_violations 131 = .ok (.if_icmp .le 7, 3) := by decide +kernel
theorem dX9_violations_134 : decode cX9_violations 134 = .ok (.iconst 1, 1) := by decide +kernel
theorem dX9_violations_135 : decode cX9_violations 135 = .ok (.goto 4, 3) := by decide +kernel
theorem dX9_violations_138 : decode cX9_violations 138 = .ok (.iconst 0, 1) := by decide +kernel
theorem dX9_violations_139 : decode cX9_violations 139 = .ok (.invokestatic 308, 3) := by decide +kernel
theorem dX9_violations_142 : decode cX9_violations 142 = .ok (.iadd, 1) := by decide +kernel
theorem dX9_violations_143 : decode cX9_violations 143 = .ok (.ireturn, 1) := by decide +kernel
theorem dX9_say_0 : decode cX9_say 0 = .ok (.aload_n 0, 1) := by decide +kernel
theorem dX9_say_1 : decode cX9_say 1 = .ok (.getfield 30, 3) := by decide +kernel
theorem dX9_say_4 : decode cX9_say 4 = .ok (.aload_n 0, 1) := by decide +kernel
theorem dX9_say_5 : decode cX9_say 5 = .ok (.getfield 312, 3) := by decide +kernel
theorem dX9_say_8 : decode cX9_say 8 = .ok (.iload_n 1, 1) := by decide +kernel
theorem dX9_say_9 : decode cX9_say 9 = .ok (.i2b, 1) := by decide +kernel
theorem dX9_say_10 : decode cX9_say 10 = .ok (.bastore, 1) := by decide +kernel
theorem dX9_say_11 : decode cX9_say 11 = .ok (.aload_n 0, 1) := by decide +kernel
theorem dX9_say_12 : decode cX9_say 12 = .ok (.dup, 1) := by decide +kernel
theorem dX9_say_13 : decode cX9_say 13 = .ok (.getfield 312, 3) := by decide +kernel
theorem dX9_say_16 : decode cX9_say 16 = .ok (.iconst 1, 1) := by decide +kernel
theorem dX9_say_17 : decode cX9_say 17 = .ok (.iadd, 1) := by decide +kernel
theorem dX9_say_18 : decode cX9_say 18 = .ok (.putfield 312, 3) := by decide +kernel
theorem dX9_say_21 : decode cX9_say 21 = .ok (.return_, 1) := by decide +kernel
theorem dX9_sayNumber_0 : decode cX9_sayNumber 0 = .ok (.iconst 1, 1) := by decide +kernel
theorem dX9_sayNumber_1 : decode cX9_sayNumber 1 = .ok (.istore_n 2, 1) := by decide +kernel
theorem dX9_sayNumber_2 : decode cX9_sayNumber 2 = .ok (.iload_n 1, 1) := by decide +kernel
theorem dX9_sayNumber_3 : decode cX9_sayNumber 3 = .ok (.iload_n 2, 1) := by decide +kernel
theorem dX9_sayNumber_4 : decode cX9_sayNumber 4 = .ok (.idiv, 1) := by decide +kernel
theorem dX9_sayNumber_5 : decode cX9_sayNumber 5 = .ok (.bipush 9, 2) := by decide +kernel
theorem dX9_sayNumber_7 : decode cX9_sayNumber 7 = .ok (.if_icmp .le 11, 3) := by decide +kernel
theorem dX9_sayNumber_10 : decode cX9_sayNumber 10 = .ok (.iload_n 2, 1) := by decide +kernel
theorem dX9_sayNumber_11 : decode cX9_sayNumber 11 = .ok (.bipush 10, 2) := by decide +kernel
theorem dX9_sayNumber_13 : decode cX9_sayNumber 13 = .ok (.imul, 1) := by decide +kernel
theorem dX9_sayNumber_14 : decode cX9_sayNumber 14 = .ok (.istore_n 2, 1) := by decide +kernel
theorem dX9_sayNumber_15 : decode cX9_sayNumber 15 = .ok (.goto (-13), 3) := by decide +kernel
theorem dX9_sayNumber_18 : decode cX9_sayNumber 18 = .ok (.iload_n 2, 1) := by decide +kernel
theorem dX9_sayNumber_19 : decode cX9_sayNumber 19 = .ok (.ifCond .le 24, 3) := by decide +kernel
theorem dX9_sayNumber_22 : decode cX9_sayNumber 22 = .ok (.aload_n 0, 1) := by decide +kernel
theorem dX9_sayNumber_23 : decode cX9_sayNumber 23 = .ok (.bipush 48, 2) := by decide +kernel
theorem dX9_sayNumber_25 : decode cX9_sayNumber 25 = .ok (.iload_n 1, 1) := by decide +kernel
theorem dX9_sayNumber_26 : decode cX9_sayNumber 26 = .ok (.iload_n 2, 1) := by decide +kernel
theorem dX9_sayNumber_27 : decode cX9_sayNumber 27 = .ok (.idiv, 1) := by decide +kernel
theorem dX9_sayNumber_28 : decode cX9_sayNumber 28 = .ok (.bipush 10, 2) := by decide +kernel
theorem dX9_sayNumber_30 : decode cX9_sayNumber 30 = .ok (.irem, 1) := by decide +kernel
theorem dX9_sayNumber_31 : decode cX9_sayNumber 31 = .ok (.iadd, 1) := by decide +kernel
theorem dX9_sayNumber_32 : decode cX9_sayNumber 32 = .ok (.invokevirtual 315, 3) := by decide +kernel
theorem dX9_sayNumber_35 : decode cX9_sayNumber 35 = .ok (.iload_n 2, 1) := by decide +kernel
theorem dX9_sayNumber_36 : decode cX9_sayNumber 36 = .ok (.bipush 10, 2) := by decide +kernel
theorem dX9_sayNumber_38 : decode cX9_sayNumber 38 = .ok (.idiv, 1) := by decide +kernel
theorem dX9_sayNumber_39 : decode cX9_sayNumber 39 = .ok (.istore_n 2, 1) := by decide +kernel
theorem dX9_sayNumber_40 : decode cX9_sayNumber 40 = .ok (.goto (-22), 3) := by decide +kernel
theorem dX9_sayNumber_43 : decode cX9_sayNumber 43 = .ok (.return_, 1) := by decide +kernel
theorem dX9_sayItem_0 : decode cX9_sayItem 0 = .ok (.aload_n 0, 1) := by decide +kernel
theorem dX9_sayItem_1 : decode cX9_sayItem 1 = .ok (.aload_n 0, 1) := by decide +kernel
theorem dX9_sayItem_2 : decode cX9_sayItem 2 = .ok (.iload_n 1, 1) := by decide +kernel
theorem dX9_sayItem_3 : decode cX9_sayItem 3 = .ok (.iconst 0, 1) := by decide +kernel
theorem dX9_sayItem_4 : decode cX9_sayItem 4 = .ok (.invokevirtual 73, 3) := by decide +kernel
theorem dX9_sayItem_7 : decode cX9_sayItem 7 = .ok (.invokevirtual 318, 3) := by decide +kernel
theorem dX9_sayItem_10 : decode cX9_sayItem 10 = .ok (.aload_n 0, 1) := by decide +kernel
theorem dX9_sayItem_11 : decode cX9_sayItem 11 = .ok (.bipush 58, 2) := by decide +kernel
theorem dX9_sayItem_13 : decode cX9_sayItem 13 = .ok (.invokevirtual 315, 3) := by decide +kernel
theorem dX9_sayItem_16 : decode cX9_sayItem 16 = .ok (.aload_n 0, 1) := by decide +kernel
theorem dX9_sayItem_17 : decode cX9_sayItem 17 = .ok (.aload_n 0, 1) := by decide +kernel
theorem dX9_sayItem_18 : decode cX9_sayItem 18 = .ok (.iload_n 1, 1) := by decide +kernel
theorem dX9_sayItem_19 : decode cX9_sayItem 19 = .ok (.invokevirtual 83, 3) := by decide +kernel
theorem dX9_sayItem_22 : decode cX9_sayItem 22 = .ok (.invokevirtual 318, 3) := by decide +kernel
theorem dX9_sayItem_25 : decode cX9_sayItem 25 = .ok (.aload_n 0, 1) := by decide +kernel
theorem dX9_sayItem_26 : decode cX9_sayItem 26 = .ok (.iload_n 1, 1) := by decide +kernel
theorem dX9_sayItem_27 : decode cX9_sayItem 27 = .ok (.iconst 0, 1) := by decide +kernel
theorem dX9_sayItem_28 : decode cX9_sayItem 28 = .ok (.invokevirtual 76, 3) := by decide +kernel
theorem dX9_sayItem_31 : decode cX9_sayItem 31 = .ok (.ifCond .ne 23, 3) := by decide +kernel
theorem dX9_sayItem_34 : decode cX9_sayItem 34 = .ok (.aload_n 0, 1) := by decide +kernel
theorem dX9_sayItem_35 : decode cX9_sayItem 35 = .ok (.aload_n 0, 1) := by decide +kernel
theorem dX9_sayItem_36 : decode cX9_sayItem 36 = .ok (.iload_n 1, 1) := by decide +kernel
theorem dX9_sayItem_37 : decode cX9_sayItem 37 = .ok (.iconst 1, 1) := by decide +kernel
theorem dX9_sayItem_38 : decode cX9_sayItem 38 = .ok (.invokevirtual 76, 3) := by decide +kernel
theorem dX9_sayItem_41 : decode cX9_sayItem 41 = .ok (.ifCond .eq 8, 3) := by decide +kernel
theorem dX9_sayItem_44 : decode cX9_sayItem 44 = .ok (.bipush 33, 2) := by decide +kernel
theorem dX9_sayItem_46 : decode cX9_sayItem 46 = .ok (.goto 5, 3) := by decide +kernel
theorem dX9_sayItem_49 : decode cX9_sayItem 49 = .ok (.bipush 45, 2) := by decide +kernel
theorem dX9_sayItem_51 : decode cX9_sayItem 51 = .ok (.invokevirtual 315, 3) := by decide +kernel
theorem dX9_sayItem_54 : decode cX9_sayItem 54 = .ok (.iload_n 2, 1) := by decide +kernel
theorem dX9_sayItem_55 : decode cX9_sayItem 55 = .ok (.iconst (-1), 1) := by decide +kernel
theorem dX9_sayItem_56 : decode cX9_sayItem 56 = .ok (.if_icmp .eq 17, 3) := by decide +kernel
theorem dX9_sayItem_59 : decode cX9_sayItem 59 = .ok (.iload_n 2, 1) := by decide +kernel
theorem dX9_sayItem_60 : decode cX9_sayItem 60 = .ok (.iload_n 1, 1) := by decide +kernel
theorem dX9_sayItem_61 : decode cX9_sayItem 61 = .ok (.invokestatic 80, 3) := by decide +kernel
theorem dX9_sayItem_64 : decode cX9_sayItem 64 = .ok (.ifCond .eq 9, 3) := by decide +kernel
theorem dX9_sayItem_67 : decode cX9_sayItem 67 = .ok (.aload_n 0, 1) := by decide +kernel
theorem dX9_sayItem_68 : decode cX9_sayItem 68 = .ok (.bipush 42, 2) := by decide +kernel
theorem dX9_sayItem_70 : decode cX9_sayItem 70 = .ok (.invokevirtual 315, 3) := by decide +kernel
theorem dX9_sayItem_73 : decode cX9_sayItem 73 = .ok (.return_, 1) := by decide +kernel
theorem dX9_writeItems_0 : decode cX9_writeItems 0 = .ok (.aload_n 0, 1) := by decide +kernel
theorem dX9_writeItems_1 : decode cX9_writeItems 1 = .ok (.iconst 0, 1) := by decide +kernel
theorem dX9_writeItems_2 : decode cX9_writeItems 2 = .ok (.putfield 59, 3) := by decide +kernel
theorem dX9_writeItems_5 : decode cX9_writeItems 5 = .ok (.aload_n 0, 1) := by decide +kernel
theorem dX9_writeItems_6 : decode cX9_writeItems 6 = .ok (.iconst 0, 1) := by decide +kernel
theorem dX9_writeItems_7 : decode cX9_writeItems 7 = .ok (.putfield 312, 3) := by decide +kernel
theorem dX9_writeItems_10 : decode cX9_writeItems 10 = .ok (.aload_n 0, 1) := by decide +kernel
theorem dX9_writeItems_11 : decode cX9_writeItems 11 = .ok (.invokevirtual 123, 3) := by decide +kernel
theorem dX9_writeItems_14 : decode cX9_writeItems 14 = .ok (.istore_n 1, 1) := by decide +kernel
theorem dX9_writeItems_15 : decode cX9_writeItems 15 = .ok (.iconst 0, 1) := by decide +kernel
theorem dX9_writeItems_16 : decode cX9_writeItems 16 = .ok (.istore_n 2, 1) := by decide +kernel
theorem dX9_writeItems_17 : decode cX9_writeItems 17 = .ok (.iload_n 2, 1) := by decide +kernel
theorem dX9_writeItems_18 : decode cX9_writeItems 18 = .ok (.aload_n 0, 1) := by decide +kernel
theorem dX9_writeItems_19 : decode cX9_writeItems 19 = .ok (.getfield 9, 3) := by decide +kernel
theorem dX9_writeItems_22 : decode cX9_writeItems 22 = .ok (.iconst 1, 1) := by decide +kernel
theorem dX9_writeItems_23 : decode cX9_writeItems 23 = .ok (.iaload, 1) := by decide +kernel
theorem dX9_writeItems_24 : decode cX9_writeItems 24 = .ok (.if_icmp .ge 25, 3) := by decide +kernel
theorem dX9_writeItems_27 : decode cX9_writeItems 27 = .ok (.iload_n 2, 1) := by decide +kernel
theorem dX9_writeItems_28 : decode cX9_writeItems 28 = .ok (.ifCond .le 9, 3) := by decide +kernel
theorem dX9_writeItems_31 : decode cX9_writeItems 31 = .ok (.aload_n 0, 1) := by decide +kernel
theorem dX9_writeItems_32 : decode cX9_writeItems 32 = .ok (.bipush 32, 2) := by decide +kernel
theorem dX9_writeItems_34 : decode cX9_writeItems 34 = .ok (.invokevirtual 315, 3) := by decide +kernel
theorem dX9_writeItems_37 : decode cX9_writeItems 37 = .ok (.aload_n 0, 1) := by decide +kernel
theorem dX9_writeItems_38 : decode cX9_writeItems 38 = .ok (.iload_n 2, 1) := by decide +kernel
theorem dX9_writeItems_39 : decode cX9_writeItems 39 = .ok (.iload_n 1, 1) := by decide +kernel
theorem dX9_writeItems_40 : decode cX9_writeItems 40 = .ok (.invokevirtual 321, 3) := by decide +kernel
theorem dX9_writeItems_43 : decode cX9_writeItems 43 = .ok (.iinc 2 1, 3) := by decide +kernel
theorem dX9_writeItems_46 : decode cX9_writeItems 46 = .ok (.goto (-29), 3) := by decide +kernel
theorem dX9_writeItems_49 : decode cX9_writeItems 49 = .ok (.aload_n 0, 1) := by decide +kernel
theorem dX9_writeItems_50 : decode cX9_writeItems 50 = .ok (.getfield 312, 3) := by decide +kernel
theorem dX9_writeItems_53 : decode cX9_writeItems 53 = .ok (.ireturn, 1) := by decide +kernel
theorem dX9_writeRow_0 : decode cX9_writeRow 0 = .ok (.aload_n 0, 1) := by decide +kernel
theorem dX9_writeRow_1 : decode cX9_writeRow 1 = .ok (.iconst 0, 1) := by decide +kernel
theorem dX9_writeRow_2 : decode cX9_writeRow 2 = .ok (.putfield 59, 3) := by decide +kernel
theorem dX9_writeRow_5 : decode cX9_writeRow 5 = .ok (.aload_n 0, 1) := by decide +kernel
theorem dX9_writeRow_6 : decode cX9_writeRow 6 = .ok (.iload_n 1, 1) := by decide +kernel
theorem dX9_writeRow_7 : decode cX9_writeRow 7 = .ok (.iconst 0, 1) := by decide +kernel
theorem dX9_writeRow_8 : decode cX9_writeRow 8 = .ok (.iconst 0, 1) := by decide +kernel
theorem dX9_writeRow_9 : decode cX9_writeRow 9 = .ok (.invokevirtual 289, 3) := by decide +kernel
theorem dX9_writeRow_12 : decode cX9_writeRow 12 = .ok (.ifCond .eq 5, 3) := by decide +kernel
theorem dX9_writeRow_15 : decode cX9_writeRow 15 = .ok (.iconst 0, 1) := by decide +kernel
theorem dX9_writeRow_16 : decode cX9_writeRow 16 = .ok (.ireturn, 1) := by decide +kernel
theorem dX9_writeRow_17 : decode cX9_writeRow 17 = .ok (.aload_n 0, 1) := by decide +kernel
theorem dX9_writeRow_18 : decode cX9_writeRow 18 = .ok (.iconst 0, 1) := by decide +kernel
theorem dX9_writeRow_19 : decode cX9_writeRow 19 = .ok (.putfield 312, 3) := by decide +kernel
theorem dX9_writeRow_22 : decode cX9_writeRow 22 = .ok (.iconst (-1), 1) := by decide +kernel
theorem dX9_writeRow_23 : decode cX9_writeRow 23 = .ok (.istore_n 2, 1) := by decide +kernel
theorem dX9_writeRow_24 : decode cX9_writeRow 24 = .ok (.iconst 0, 1) := by decide +kernel
theorem dX9_writeRow_25 : decode cX9_writeRow 25 = .ok (.istore_n 3, 1) := by decide +kernel
theorem dX9_writeRow_26 : decode cX9_writeRow 26 = .ok (.iload_n 3, 1) := by decide +kernel
theorem dX9_writeRow_27 : decode cX9_writeRow 27 = .ok (.bipush 100, 2) := by decide +kernel
theorem dX9_writeRow_29 : decode cX9_writeRow 29 = .ok (.if_icmp .gt 53, 3) := by decide +kernel
theorem dX9_writeRow_32 : decode cX9_writeRow 32 = .ok (.aload_n 0, 1) := by decide +kernel
theorem dX9_writeRow_33 : decode cX9_writeRow 33 = .ok (.iload_n 1, 1) := by decide +kernel
theorem dX9_writeRow_34 : decode cX9_writeRow 34 = .ok (.iload_n 3, 1) := by decide +kernel
theorem dX9_writeRow_35 : decode cX9_writeRow 35 = .ok (.invokevirtual 293, 3) := by decide +kernel
theorem dX9_writeRow_38 : decode cX9_writeRow 38 = .ok (.istore 4, 2) := by decide +kernel
theorem dX9_writeRow_40 : decode cX9_writeRow 40 = .ok (.iload 4, 2) := by decide +kernel
theorem dX9_writeRow_42 : decode cX9_writeRow 42 = .ok (.iload_n 2, 1) := by decide +kernel
theorem dX9_writeRow_43 : decode cX9_writeRow 43 = .ok (.if_icmp .le 30, 3) := by decide +kernel
theorem dX9_writeRow_46 : decode cX9_writeRow 46 = .ok (.iload_n 3, 1) := by decide +kernel
theorem dX9_writeRow_47 : decode cX9_writeRow 47 = .ok (.ifCond .le 9, 3) := by decide +kernel
theorem dX9_writeRow_50 : decode cX9_writeRow 50 = .ok (.aload_n 0, 1) := by decide +kernel
theorem dX9_writeRow_51 : decode cX9_writeRow 51 = .ok (.bipush 32, 2) := by decide +kernel
theorem dX9_writeRow_53 : decode cX9_writeRow 53 = .ok (.invokevirtual 315, 3) := by decide +kernel
theorem dX9_writeRow_56 : decode cX9_writeRow 56 = .ok (.aload_n 0, 1) := by decide +kernel
theorem dX9_writeRow_57 : decode cX9_writeRow 57 = .ok (.iload_n 3, 1) := by decide +kernel
theorem dX9_writeRow_58 : decode cX9_writeRow 58 = .ok (.invokevirtual 318, 3) := by decide +kernel
theorem dX9_writeRow_61 : decode cX9_writeRow 61 = .ok (.aload_n 0, 1) := by decide +kernel
theorem dX9_writeRow_62 : decode cX9_writeRow 62 = .ok (.bipush 58, 2) := by decide +kernel
theorem dX9_writeRow_64 : decode cX9_writeRow 64 = .ok (.invokevirtual 315, 3) := by decide +kernel
theorem dX9_writeRow_67 : decode cX9_writeRow 67 = .ok (.aload_n 0, 1) := by decide +kernel
theorem dX9_writeRow_68 : decode cX9_writeRow 68 = .ok (.iload 4, 2) := by decide +kernel
theorem dX9_writeRow_70 : decode cX9_writeRow 70 = .ok (.invokevirtual 318, 3) := by decide +kernel
theorem dX9_writeRow_73 : decode cX9_writeRow 73 = .ok (.iload 4, 2) := by decide +kernel
theorem dX9_writeRow_75 : decode cX9_writeRow 75 = .ok (.istore_n 2, 1) := by decide +kernel
theorem dX9_writeRow_76 : decode cX9_writeRow 76 = .ok (.iinc 3 1, 3) := by decide +kernel
theorem dX9_writeRow_79 : decode cX9_writeRow 79 = .ok (.goto (-53), 3) := by decide +kernel
theorem dX9_writeRow_82 : decode cX9_writeRow 82 = .ok (.aload_n 0, 1) := by decide +kernel
theorem dX9_writeRow_83 : decode cX9_writeRow 83 = .ok (.getfield 312, 3) := by decide +kernel
theorem dX9_writeRow_86 : decode cX9_writeRow 86 = .ok (.ireturn, 1) := by decide +kernel
theorem dX9_reportByte_0 : decode cX9_reportByte 0 = .ok (.aload_n 0, 1) := by decide +kernel
theorem dX9_reportByte_1 : decode cX9_reportByte 1 = .ok (.iconst 0, 1) := by decide +kernel
theorem dX9_reportByte_2 : decode cX9_reportByte 2 = .ok (.putfield 59, 3) := by decide +kernel
theorem dX9_reportByte_5 : decode cX9_reportByte 5 = .ok (.iload_n 1, 1) := by decide +kernel
theorem dX9_reportByte_6 : decode cX9_reportByte 6 = .ok (.ifCond .lt 11, 3) := by decide +kernel
theorem dX9_reportByte_9 : decode cX9_reportByte 9 = .ok (.iload_n 1, 1) := by decide +kernel
theorem dX9_reportByte_10 : decode cX9_reportByte 10 = .ok (.aload_n 0, 1) := by decide +kernel
theorem dX9_reportByte_11 : decode cX9_reportByte 11 = .ok (.getfield 312, 3) := by decide +kernel
theorem dX9_reportByte_14 : decode cX9_reportByte 14 = .ok (.if_icmp .lt 7, 3) := by decide +kernel
theorem dX9_reportByte_17 : decode cX9_reportByte 17 = .ok (.iconst (-1), 1) := by decide +kernel
theorem dX9_reportByte_18 : decode cX9_reportByte 18 = .ok (.goto 9, 3) := by decide +kernel
theorem dX9_reportByte_21 : decode cX9_reportByte 21 = .ok (.aload_n 0, 1) := by decide +kernel
theorem dX9_reportByte_22 : decode cX9_reportByte 22 = .ok (.getfield 30, 3) := by decide +kernel
theorem dX9_reportByte_25 : decode cX9_reportByte 25 = .ok (.iload_n 1, 1) := by decide +kernel
theorem dX9_reportByte_26 : decode cX9_reportByte 26 = .ok (.baload, 1) := by decide +kernel
theorem dX9_reportByte_27 : decode cX9_reportByte 27 = .ok (.ireturn, 1) := by decide +kernel
theorem dJx29ce0_ordinal_8abf5_0 : decode cJx29ce0_ordinal_8abf5 0 = .ok (.aload_n 0, 1) := by decide +kernel
theorem dJx29ce0_ordinal_8abf5_1 : decode cJx29ce0_ordinal_8abf5 1 = .ok (.getfield 7, 3) := by decide +kernel
theorem dJx29ce0_ordinal_8abf5_4 : decode cJx29ce0_ordinal_8abf5 4 = .ok (.ireturn, 1) := by decide +kernel
theorem dJ6_bitCount_0f7a4_0 : decode cJ6_bitCount_0f7a4 0 = .ok (.iload_n 0, 1) := by decide +kernel
theorem dJ6_bitCount_0f7a4_1 : decode cJ6_bitCount_0f7a4 1 = .ok (.iload_n 0, 1) := by decide +kernel
theorem dJ6_bitCount_0f7a4_2 : decode cJ6_bitCount_0f7a4 2 = .ok (.iconst 1, 1) := by decide +kernel
theorem dJ6_bitCount_0f7a4_3 : decode cJ6_bitCount_0f7a4 3 = .ok (.iushr, 1) := by decide +kernel
theorem dJ6_bitCount_0f7a4_4 : decode cJ6_bitCount_0f7a4 4 = .ok (.ldc_w 265, 3) := by decide +kernel
theorem dJ6_bitCount_0f7a4_7 : decode cJ6_bitCount_0f7a4 7 = .ok (.iand, 1) := by decide +kernel
theorem dJ6_bitCount_0f7a4_8 : decode cJ6_bitCount_0f7a4 8 = .ok (.isub, 1) := by decide +kernel
theorem dJ6_bitCount_0f7a4_9 : decode cJ6_bitCount_0f7a4 9 = .ok (.istore_n 0, 1) := by decide +kernel
theorem dJ6_bitCount_0f7a4_10 : decode cJ6_bitCount_0f7a4 10 = .ok (.iload_n 0, 1) := by decide +kernel
theorem dJ6_bitCount_0f7a4_11 : decode cJ6_bitCount_0f7a4 11 = .ok (.ldc_w 266, 3) := by decide +kernel
theorem dJ6_bitCount_0f7a4_14 : decode cJ6_bitCount_0f7a4 14 = .ok (.iand, 1) := by decide +kernel
theorem dJ6_bitCount_0f7a4_15 : decode cJ6_bitCount_0f7a4 15 = .ok (.iload_n 0, 1) := by decide +kernel
theorem dJ6_bitCount_0f7a4_16 : decode cJ6_bitCount_0f7a4 16 = .ok (.iconst 2, 1) := by decide +kernel
theorem dJ6_bitCount_0f7a4_17 : decode cJ6_bitCount_0f7a4 17 = .ok (.iushr, 1) := by decide +kernel
theorem dJ6_bitCount_0f7a4_18 : decode cJ6_bitCount_0f7a4 18 = .ok (.ldc_w 266, 3) := by decide +kernel
theorem dJ6_bitCount_0f7a4_21 : decode cJ6_bitCount_0f7a4 21 = .ok (.iand, 1) := by decide +kernel
theorem dJ6_bitCount_0f7a4_22 : decode cJ6_bitCount_0f7a4 22 = .ok (.iadd, 1) := by decide +kernel
theorem dJ6_bitCount_0f7a4_23 : decode cJ6_bitCount_0f7a4 23 = .ok (.istore_n 0, 1) := by decide +kernel
theorem dJ6_bitCount_0f7a4_24 : decode cJ6_bitCount_0f7a4 24 = .ok (.iload_n 0, 1) := by decide +kernel
theorem dJ6_bitCount_0f7a4_25 : decode cJ6_bitCount_0f7a4 25 = .ok (.iload_n 0, 1) := by decide +kernel
theorem dJ6_bitCount_0f7a4_26 : decode cJ6_bitCount_0f7a4 26 = .ok (.iconst 4, 1) := by decide +kernel
theorem dJ6_bitCount_0f7a4_27 : decode cJ6_bitCount_0f7a4 27 = .ok (.iushr, 1) := by decide +kernel
theorem dJ6_bitCount_0f7a4_28 : decode cJ6_bitCount_0f7a4 28 = .ok (.iadd, 1) := by decide +kernel
theorem dJ6_bitCount_0f7a4_29 : decode cJ6_bitCount_0f7a4 29 = .ok (.ldc_w 267, 3) := by decide +kernel
theorem dJ6_bitCount_0f7a4_32 : decode cJ6_bitCount_0f7a4 32 = .ok (.iand, 1) := by decide +kernel
theorem dJ6_bitCount_0f7a4_33 : decode cJ6_bitCount_0f7a4 33 = .ok (.istore_n 0, 1) := by decide +kernel
theorem dJ6_bitCount_0f7a4_34 : decode cJ6_bitCount_0f7a4 34 = .ok (.iload_n 0, 1) := by decide +kernel
theorem dJ6_bitCount_0f7a4_35 : decode cJ6_bitCount_0f7a4 35 = .ok (.iload_n 0, 1) := by decide +kernel
theorem dJ6_bitCount_0f7a4_36 : decode cJ6_bitCount_0f7a4 36 = .ok (.bipush 8, 2) := by decide +kernel
theorem dJ6_bitCount_0f7a4_38 : decode cJ6_bitCount_0f7a4 38 = .ok (.iushr, 1) := by decide +kernel
theorem dJ6_bitCount_0f7a4_39 : decode cJ6_bitCount_0f7a4 39 = .ok (.iadd, 1) := by decide +kernel
theorem dJ6_bitCount_0f7a4_40 : decode cJ6_bitCount_0f7a4 40 = .ok (.istore_n 0, 1) := by decide +kernel
theorem dJ6_bitCount_0f7a4_41 : decode cJ6_bitCount_0f7a4 41 = .ok (.iload_n 0, 1) := by decide +kernel
theorem dJ6_bitCount_0f7a4_42 : decode cJ6_bitCount_0f7a4 42 = .ok (.iload_n 0, 1) := by decide +kernel
theorem dJ6_bitCount_0f7a4_43 : decode cJ6_bitCount_0f7a4 43 = .ok (.bipush 16, 2) := by decide +kernel
theorem dJ6_bitCount_0f7a4_45 : decode cJ6_bitCount_0f7a4 45 = .ok (.iushr, 1) := by decide +kernel
theorem dJ6_bitCount_0f7a4_46 : decode cJ6_bitCount_0f7a4 46 = .ok (.iadd, 1) := by decide +kernel
theorem dJ6_bitCount_0f7a4_47 : decode cJ6_bitCount_0f7a4 47 = .ok (.istore_n 0, 1) := by decide +kernel
theorem dJ6_bitCount_0f7a4_48 : decode cJ6_bitCount_0f7a4 48 = .ok (.iload_n 0, 1) := by decide +kernel
theorem dJ6_bitCount_0f7a4_49 : decode cJ6_bitCount_0f7a4 49 = .ok (.bipush 63, 2) := by decide +kernel
theorem dJ6_bitCount_0f7a4_51 : decode cJ6_bitCount_0f7a4 51 = .ok (.iand, 1) := by decide +kernel
theorem dJ6_bitCount_0f7a4_52 : decode cJ6_bitCount_0f7a4 52 = .ok (.ireturn, 1) := by decide +kernel
theorem dJ0_length_8abf5_0 : decode cJ0_length_8abf5 0 = .ok (.aload_n 0, 1) := by decide +kernel
theorem dJ0_length_8abf5_1 : decode cJ0_length_8abf5 1 = .ok (.getfield 9, 3) := by decide +kernel
theorem dJ0_length_8abf5_4 : decode cJ0_length_8abf5 4 = .ok (.arraylength, 1) := by decide +kernel
theorem dJ0_length_8abf5_5 : decode cJ0_length_8abf5 5 = .ok (.aload_n 0, 1) := by decide +kernel
theorem dJ0_length_8abf5_6 : decode cJ0_length_8abf5 6 = .ok (.invokevirtual 335, 3) := by decide +kernel
theorem dJ0_length_8abf5_9 : decode cJ0_length_8abf5 9 = .ok (.ishr, 1) := by decide +kernel
theorem dJ0_length_8abf5_10 : decode cJ0_length_8abf5 10 = .ok (.ireturn, 1) := by decide +kernel
theorem dJ0_charAt_5068e_0 : decode cJ0_charAt_5068e 0 = .ok (.aload_n 0, 1) := by decide +kernel
theorem dJ0_charAt_5068e_1 : decode cJ0_charAt_5068e 1 = .ok (.invokevirtual 492, 3) := by decide +kernel
theorem dJ0_charAt_5068e_4 : decode cJ0_charAt_5068e 4 = .ok (.ifCond .eq 12, 3) := by decide +kernel
theorem dJ0_charAt_5068e_7 : decode cJ0_charAt_5068e 7 = .ok (.aload_n 0, 1) := by decide +kernel
theorem dJ0_charAt_5068e_8 : decode cJ0_charAt_5068e 8 = .ok (.getfield 9, 3) := by decide +kernel
theorem dJ0_charAt_5068e_11 : decode cJ0_charAt_5068e 11 = .ok (.iload_n 1, 1) := by decide +kernel
theorem dJ0_charAt_5068e_12 : decode cJ0_charAt_5068e 12 = .ok (.invokestatic 495, 3) := by decide +kernel
theorem dJ0_charAt_5068e_15 : decode cJ0_charAt_5068e 15 = .ok (.ireturn, 1) := by decide +kernel
theorem dJ0_charAt_5068e_16 : decode cJ0_charAt_5068e 16 = .ok (.aload_n 0, 1) := by decide +kernel
theorem dJ0_charAt_5068e_17 : decode cJ0_charAt_5068e 17 = .ok (.getfield 9, 3) := by decide +kernel
theorem dJ0_charAt_5068e_20 : decode cJ0_charAt_5068e 20 = .ok (.iload_n 1, 1) := by decide +kernel
theorem dJ0_charAt_5068e_21 : decode cJ0_charAt_5068e 21 = .ok (.invokestatic 498, 3) := by decide +kernel
theorem dJ0_charAt_5068e_24 : decode cJ0_charAt_5068e 24 = .ok (.ireturn, 1) := by decide +kernel
theorem dJ0_coder_7d493_0 : decode cJ0_coder_7d493 0 = .ok (.getstatic 38, 3) := by decide +kernel
theorem dJ0_coder_7d493_3 : decode cJ0_coder_7d493 3 = .ok (.ifCond .eq 10, 3) := by decide +kernel
theorem dJ0_coder_7d493_6 : decode cJ0_coder_7d493 6 = .ok (.aload_n 0, 1) := by decide +kernel
theorem dJ0_coder_7d493_7 : decode cJ0_coder_7d493 7 = .ok (.getfield 15, 3) := by decide +kernel
theorem dJ0_coder_7d493_10 : decode cJ0_coder_7d493 10 = .ok (.goto 4, 3) := by decide +kernel
theorem dJ0_coder_7d493_13 : decode cJ0_coder_7d493 13 = .ok (.iconst 1, 1) := by decide +kernel
theorem dJ0_coder_7d493_14 : decode cJ0_coder_7d493 14 = .ok (.ireturn, 1) := by decide +kernel
theorem dJ0_isLatin1_aae02_0 : decode cJ0_isLatin1_aae02 0 = .ok (.getstatic 38, 3) := by decide +kernel
theorem dJ0_isLatin1_aae02_3 : decode cJ0_isLatin1_aae02 3 = .ok (.ifCond .eq 14, 3) := by decide +kernel
theorem dJ0_isLatin1_aae02_6 : decode cJ0_isLatin1_aae02 6 = .ok (.aload_n 0, 1) := by decide +kernel
theorem dJ0_isLatin1_aae02_7 : decode cJ0_isLatin1_aae02 7 = .ok (.getfield 15, 3) := by decide +kernel
theorem dJ0_isLatin1_aae02_10 : decode cJ0_isLatin1_aae02 10 = .ok (.ifCond .ne 7, 3) := by decide +kernel
theorem dJ0_isLatin1_aae02_13 : decode cJ0_isLatin1_aae02 13 = .ok (.iconst 1, 1) := by decide +kernel
theorem dJ0_isLatin1_aae02_14 : decode cJ0_isLatin1_aae02 14 = .ok (.goto 4, 3) := by decide +kernel
theorem dJ0_isLatin1_aae02_17 : decode cJ0_isLatin1_aae02 17 = .ok (.iconst 0, 1) := by decide +kernel
theorem dJ0_isLatin1_aae02_18 : decode cJ0_isLatin1_aae02 18 = .ok (.ireturn, 1) := by decide +kernel
theorem dJ0_checkIndex_df160_0 : decode cJ0_checkIndex_df160 0 = .ok (.iload_n 0, 1) := by decide +kernel
theorem dJ0_checkIndex_df160_1 : decode cJ0_checkIndex_df160 1 = .ok (.iload_n 1, 1) := by decide +kernel
theorem dJ0_checkIndex_df160_2 : decode cJ0_checkIndex_df160 2 = .ok (.getstatic 1053, 3) := by decide +kernel
theorem dJ0_checkIndex_df160_5 : decode cJ0_checkIndex_df160 5 = .ok (.invokestatic 1059, 3) := by decide +kernel
theorem dJ0_checkIndex_df160_8 : decode cJ0_checkIndex_df160 8 = .ok (.pop, 1) := by decide +kernel
theorem dJ0_checkIndex_df160_9 : decode cJ0_checkIndex_df160 9 = .ok (.return_, 1) := by decide +kernel
theorem dJ1_charAt_3b067_0 : decode cJ1_charAt_3b067 0 = .ok (.iload_n 1, 1) := by decide +kernel
theorem dJ1_charAt_3b067_1 : decode cJ1_charAt_3b067 1 = .ok (.aload_n 0, 1) := by decide +kernel
theorem dJ1_charAt_3b067_2 : decode cJ1_charAt_3b067 2 = .ok (.arraylength, 1) := by decide +kernel
theorem dJ1_charAt_3b067_3 : decode cJ1_charAt_3b067 3 = .ok (.invokestatic 9, 3) := by decide +kernel
theorem dJ1_charAt_3b067_6 : decode cJ1_charAt_3b067 6 = .ok (.aload_n 0, 1) := by decide +kernel
theorem dJ1_charAt_3b067_7 : decode cJ1_charAt_3b067 7 = .ok (.iload_n 1, 1) := by decide +kernel
theorem dJ1_charAt_3b067_8 : decode cJ1_charAt_3b067 8 = .ok (.baload, 1) := by decide +kernel
theorem dJ1_charAt_3b067_9 : decode cJ1_charAt_3b067 9 = .ok (.sipush 255, 3) := by decide +kernel
theorem dJ1_charAt_3b067_12 : decode cJ1_charAt_3b067 12 = .ok (.iand, 1) := by decide +kernel
theorem dJ1_charAt_3b067_13 : decode cJ1_charAt_3b067 13 = .ok (.i2c, 1) := by decide +kernel
theorem dJ1_charAt_3b067_14 : decode cJ1_charAt_3b067 14 = .ok (.ireturn, 1) := by decide +kernel
theorem dJ2_getChar_3b067_0 : decode cJ2_getChar_3b067 0 = .ok (.getstatic 44, 3) := by decide +kernel
theorem dJ2_getChar_3b067_3 : decode cJ2_getChar_3b067 3 = .ok (.ifCond .ne 25, 3) := by decide +kernel
theorem dJ2_getChar_3b067_6 : decode cJ2_getChar_3b067 6 = .ok (.iload_n 1, 1) := by decide +kernel
theorem dJ2_getChar_3b067_7 : decode cJ2_getChar_3b067 7 = .ok (.ifCond .lt 11, 3) := by decide +kernel
theorem dJ2_getChar_3b067_10 : decode cJ2_getChar_3b067 10 = .ok (.iload_n 1, 1) := by decide +kernel
theorem dJ2_getChar_3b067_11 : decode cJ2_getChar_3b067 11 = .ok (.aload_n 0, 1) := by decide +kernel
theorem dJ2_getChar_3b067_12 : decode cJ2_getChar_3b067 12 = .ok (.invokestatic 48, 3) := by decide +kernel
theorem dJ2_getChar_3b067_15 : decode cJ2_getChar_3b067 15 = .ok (.if_icmp .lt 13, 3) := by decide +kernel
theorem dJ2_getChar_3b067_18 : decode cJ2_getChar_3b067 18 = .ok (.new 52, 3) := by decide +kernel
theorem dJ2_getChar_3b067_21 : decode cJ2_getChar_3b067 21 = .ok (.dup, 1) := by decide +kernel
theorem dJ2_getChar_3b067_22 : decode cJ2_getChar_3b067 22 = .ok (.ldc 54, 2) := by decide +kernel
theorem dJ2_getChar_3b067_24 : decode cJ2_getChar_3b067 24 = .ok (.invokespecial 56, 3) := by decide +kernel
theorem dJ2_getChar_3b067_27 : decode cJ2_getChar_3b067 27 = .ok (.athrow, 1) := by decide +kernel
theorem dJ2_getChar_3b067_28 : decode cJ2_getChar_3b067 28 = .ok (.iload_n 1, 1) := by decide +kernel
theorem dJ2_getChar_3b067_29 : decode cJ2_getChar_3b067 29 = .ok (.iconst 1, 1) := by decide +kernel
theorem dJ2_getChar_3b067_30 : decode cJ2_getChar_3b067 30 = .ok (.ishl, 1) := by decide +kernel
theorem dJ2_getChar_3b067_31 : decode cJ2_getChar_3b067 31 = .ok (.istore_n 1, 1) := by decide +kernel
theorem dJ2_getChar_3b067_32 : decode cJ2_getChar_3b067 32 = .ok (.aload_n 0, 1) := by decide +kernel
theorem dJ2_getChar_3b067_33 : decode cJ2_getChar_3b067 33 = .ok (.iload_n 1, 1) := by decide +kernel
theorem dJ2_getChar_3b067_34 : decode cJ2_getChar_3b067 34 = .ok (.iinc 1 1, 3) := by decide +kernel
theorem dJ2_getChar_3b067_37 : decode cJ2_getChar_3b067 37 = .ok (.baload, 1) := by decide +kernel
theorem dJ2_getChar_3b067_38 : decode cJ2_getChar_3b067 38 = .ok (.sipush 255, 3) := by decide +kernel
theorem dJ2_getChar_3b067_41 : decode cJ2_getChar_3b067 41 = .ok (.iand, 1) := by decide +kernel
theorem dJ2_getChar_3b067_42 : decode cJ2_getChar_3b067 42 = .ok (.getstatic 59, 3) := by decide +kernel
theorem dJ2_getChar_3b067_45 : decode cJ2_getChar_3b067 45 = .ok (.ishl, 1) := by decide +kernel
theorem dJ2_getChar_3b067_46 : decode cJ2_getChar_3b067 46 = .ok (.aload_n 0, 1) := by decide +kernel
theorem dJ2_getChar_3b067_47 : decode cJ2_getChar_3b067 47 = .ok (.iload_n 1, 1) := by decide +kernel
theorem dJ2_getChar_3b067_48 : decode cJ2_getChar_3b067 48 = .ok (.baload, 1) := by decide +kernel
theorem dJ2_getChar_3b067_49 : decode cJ2_getChar_3b067 49 = .ok (.sipush 255, 3) := by decide +kernel
theorem dJ2_getChar_3b067_52 : decode cJ2_getChar_3b067 52 = .ok (.iand, 1) := by decide +kernel
theorem dJ2_getChar_3b067_53 : decode cJ2_getChar_3b067 53 = .ok (.getstatic 63, 3) := by decide +kernel
theorem dJ2_getChar_3b067_56 : decode cJ2_getChar_3b067 56 = .ok (.ishl, 1) := by decide +kernel
theorem dJ2_getChar_3b067_57 : decode cJ2_getChar_3b067 57 = .ok (.ior, 1) := by decide +kernel
theorem dJ2_getChar_3b067_58 : decode cJ2_getChar_3b067 58 = .ok (.i2c, 1) := by decide +kernel
theorem dJ2_getChar_3b067_59 : decode cJ2_getChar_3b067 59 = .ok (.ireturn, 1) := by decide +kernel
theorem dJ2_length_9d52b_0 : decode cJ2_length_9d52b 0 = .ok (.aload_n 0, 1) := by decide +kernel
theorem dJ2_length_9d52b_1 : decode cJ2_length_9d52b 1 = .ok (.arraylength, 1) := by decide +kernel
theorem dJ2_length_9d52b_2 : decode cJ2_length_9d52b 2 = .ok (.iconst 1, 1) := by decide +kernel
theorem dJ2_length_9d52b_3 : decode cJ2_length_9d52b 3 = .ok (.ishr, 1) := by decide +kernel
theorem dJ2_length_9d52b_4 : decode cJ2_length_9d52b 4 = .ok (.ireturn, 1) := by decide +kernel
theorem dJ2_charAt_3b067_0 : decode cJ2_charAt_3b067 0 = .ok (.iload_n 1, 1) := by decide +kernel
theorem dJ2_charAt_3b067_1 : decode cJ2_charAt_3b067 1 = .ok (.aload_n 0, 1) := by decide +kernel
theorem dJ2_charAt_3b067_2 : decode cJ2_charAt_3b067 2 = .ok (.invokestatic 67, 3) := by decide +kernel
theorem dJ2_charAt_3b067_5 : decode cJ2_charAt_3b067 5 = .ok (.aload_n 0, 1) := by decide +kernel
theorem dJ2_charAt_3b067_6 : decode cJ2_charAt_3b067 6 = .ok (.iload_n 1, 1) := by decide +kernel
theorem dJ2_charAt_3b067_7 : decode cJ2_charAt_3b067 7 = .ok (.invokestatic 71, 3) := by decide +kernel
theorem dJ2_charAt_3b067_10 : decode cJ2_charAt_3b067 10 = .ok (.ireturn, 1) := by decide +kernel
theorem dJ2_checkIndex_2214a_0 : decode cJ2_checkIndex_2214a 0 = .ok (.iload_n 0, 1) := by decide +kernel
theorem dJ2_checkIndex_2214a_1 : decode cJ2_checkIndex_2214a 1 = .ok (.aload_n 1, 1) := by decide +kernel
theorem dJ2_checkIndex_2214a_2 : decode cJ2_checkIndex_2214a 2 = .ok (.invokestatic 48, 3) := by decide +kernel
theorem dJ2_checkIndex_2214a_5 : decode cJ2_checkIndex_2214a 5 = .ok (.invokestatic 414, 3) := by decide +kernel
theorem dJ2_checkIndex_2214a_8 : decode cJ2_checkIndex_2214a 8 = .ok (.return_, 1) := by decide +kernel
theorem dJ3_checkIndex_8e157_0 : decode cJ3_checkIndex_8e157 0 = .ok (.iload_n 0, 1) := by decide +kernel
theorem dJ3_checkIndex_8e157_1 : decode cJ3_checkIndex_8e157 1 = .ok (.ifCond .lt 8, 3) := by decide +kernel
theorem dJ3_checkIndex_8e157_4 : decode cJ3_checkIndex_8e157 4 = .ok (.iload_n 0, 1) := by decide +kernel
theorem dJ3_checkIndex_8e157_5 : decode cJ3_checkIndex_8e157 5 = .ok (.iload_n 1, 1) := by decide +kernel
theorem dJ3_checkIndex_8e157_6 : decode cJ3_checkIndex_8e157 6 = .ok (.if_icmp .lt 10, 3) := by decide +kernel
theorem dJ3_checkIndex_8e157_9 : decode cJ3_checkIndex_8e157 9 = .ok (.aload_n 2, 1) := by decide +kernel
theorem dJ3_checkIndex_8e157_10 : decode cJ3_checkIndex_8e157 10 = .ok (.iload_n 0, 1) := by decide +kernel
theorem dJ3_checkIndex_8e157_11 : decode cJ3_checkIndex_8e157 11 = .ok (.iload_n 1, 1) := by decide +kernel
theorem dJ3_checkIndex_8e157_12 : decode cJ3_checkIndex_8e157 12 = .ok (.invokestatic 95, 3) := by decide +kernel
theorem dJ3_checkIndex_8e157_15 : decode cJ3_checkIndex_8e157 15 = .ok (.athrow, 1) := by decide +kernel
theorem dJ3_checkIndex_8e157_16 : decode cJ3_checkIndex_8e157 16 = .ok (.iload_n 0, 1) := by decide +kernel
theorem dJ3_checkIndex_8e157_17 : decode cJ3_checkIndex_8e157 17 = .ok (.ireturn, 1) := by decide +kernel
theorem dL_truncateInput_0 : decode cL_truncateInput 0 = .ok (.aload_n 2, 1) := by decide +kernel
theorem dL_truncateInput_1 : decode cL_truncateInput 1 = .ok (.iconst 0, 1) := by decide +kernel
theorem dL_truncateInput_2 : decode cL_truncateInput 2 = .ok (.aload_n 0, 1) := by decide +kernel
theorem dL_truncateInput_3 : decode cL_truncateInput 3 = .ok (.iload_n 1, 1) := by decide +kernel
theorem dL_truncateInput_4 : decode cL_truncateInput 4 = .ok (.invokevirtual 7, 3) := by decide +kernel
theorem dL_truncateInput_7 : decode cL_truncateInput 7 = .ok (.i2l, 1) := by decide +kernel
theorem dL_truncateInput_8 : decode cL_truncateInput 8 = .ok (.lastore, 1) := by decide +kernel
theorem dL_truncateInput_9 : decode cL_truncateInput 9 = .ok (.goto 6, 3) := by decide +kernel
theorem dL_truncateInput_12 : decode cL_truncateInput 12 = .ok (.astore_n 3, 1) := by decide +kernel
theorem dL_truncateInput_13 : decode cL_truncateInput 13 = .ok (.iconst 1, 1) := by decide +kernel
theorem dL_truncateInput_14 : decode cL_truncateInput 14 = .ok (.ireturn, 1) := by decide +kernel
theorem dL_truncateInput_15 : decode cL_truncateInput 15 = .ok (.iconst 0, 1) := by decide +kernel
theorem dL_truncateInput_16 : decode cL_truncateInput 16 = .ok (.ireturn, 1) := by decide +kernel
theorem dL_addItem_0 : decode cL_addItem 0 = .ok (.aload_n 3, 1) := by decide +kernel
theorem dL_addItem_1 : decode cL_addItem 1 = .ok (.iconst 0, 1) := by decide +kernel
theorem dL_addItem_2 : decode cL_addItem 2 = .ok (.aload_n 0, 1) := by decide +kernel
theorem dL_addItem_3 : decode cL_addItem 3 = .ok (.iload_n 1, 1) := by decide +kernel
theorem dL_addItem_4 : decode cL_addItem 4 = .ok (.iload_n 2, 1) := by decide +kernel
theorem dL_addItem_5 : decode cL_addItem 5 = .ok (.invokevirtual 15, 3) := by decide +kernel
theorem dL_addItem_8 : decode cL_addItem 8 = .ok (.i2l, 1) := by decide +kernel
theorem dL_addItem_9 : decode cL_addItem 9 = .ok (.lastore, 1) := by decide +kernel
theorem dL_addItem_10 : decode cL_addItem 10 = .ok (.goto 7, 3) := by decide +kernel
theorem dL_addItem_13 : decode cL_addItem 13 = .ok (.astore 4, 2) := by decide +kernel
theorem dL_addItem_15 : decode cL_addItem 15 = .ok (.iconst 1, 1) := by decide +kernel
theorem dL_addItem_16 : decode cL_addItem 16 = .ok (.ireturn, 1) := by decide +kernel
theorem dL_addItem_17 : decode cL_addItem 17 = .ok (.iconst 0, 1) := by decide +kernel
theorem dL_addItem_18 : decode cL_addItem 18 = .ok (.ireturn, 1) := by decide +kernel
theorem dL_removeItem_0 : decode cL_removeItem 0 = .ok (.aload_n 2, 1) := by decide +kernel
theorem dL_removeItem_1 : decode cL_removeItem 1 = .ok (.iconst 0, 1) := by decide +kernel
theorem dL_removeItem_2 : decode cL_removeItem 2 = .ok (.aload_n 0, 1) := by decide +kernel
theorem dL_removeItem_3 : decode cL_removeItem 3 = .ok (.iload_n 1, 1) := by decide +kernel
theorem dL_removeItem_4 : decode cL_removeItem 4 = .ok (.invokevirtual 19, 3) := by decide +kernel
theorem dL_removeItem_7 : decode cL_removeItem 7 = .ok (.i2l, 1) := by decide +kernel
theorem dL_removeItem_8 : decode cL_removeItem 8 = .ok (.lastore, 1) := by decide +kernel
theorem dL_removeItem_9 : decode cL_removeItem 9 = .ok (.goto 6, 3) := by decide +kernel
theorem dL_removeItem_12 : decode cL_removeItem 12 = .ok (.astore_n 3, 1) := by decide +kernel
theorem dL_removeItem_13 : decode cL_removeItem 13 = .ok (.iconst 1, 1) := by decide +kernel
theorem dL_removeItem_14 : decode cL_removeItem 14 = .ok (.ireturn, 1) := by decide +kernel
theorem dL_removeItem_15 : decode cL_removeItem 15 = .ok (.iconst 0, 1) := by decide +kernel
theorem dL_removeItem_16 : decode cL_removeItem 16 = .ok (.ireturn, 1) := by decide +kernel
theorem dL_setSize_0 : decode cL_setSize 0 = .ok (.aload_n 3, 1) := by decide +kernel
theorem dL_setSize_1 : decode cL_setSize 1 = .ok (.iconst 0, 1) := by decide +kernel
theorem dL_setSize_2 : decode cL_setSize 2 = .ok (.aload_n 0, 1) := by decide +kernel
theorem dL_setSize_3 : decode cL_setSize 3 = .ok (.iload_n 1, 1) := by decide +kernel
theorem dL_setSize_4 : decode cL_setSize 4 = .ok (.iload_n 2, 1) := by decide +kernel
theorem dL_setSize_5 : decode cL_setSize 5 = .ok (.invokevirtual 24, 3) := by decide +kernel
theorem dL_setSize_8 : decode cL_setSize 8 = .ok (.i2l, 1) := by decide +kernel
theorem dL_setSize_9 : decode cL_setSize 9 = .ok (.lastore, 1) := by decide +kernel
theorem dL_setSize_10 : decode cL_setSize 10 = .ok (.goto 11, 3) := by decide +kernel
theorem dL_setSize_13 : decode cL_setSize 13 = .ok (.astore 4, 2) := by decide +kernel
