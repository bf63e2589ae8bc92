theorem dX8_slack_2 : decode cX8_slack 2 = .ok (.getfield 12, 3) := by decide +kernel
theorem dX8_slack_5 : decode cX8_slack 5 = .ok (.invokevirtual 121, 3) := by decide +kernel
theorem dX8_slack_8 : decode cX8_slack 8 = .ok (.lstore_n 1, 1) := by decide +kernel
theorem dX8_slack_9 : decode cX8_slack 9 = .ok (.lload_n 1, 1) := by decide +kernel
theorem dX8_slack_10 : decode cX8_slack 10 = .ok (.ldc2_w 125, 3) := by decide +kernel
theorem dX8_slack_13 : decode cX8_slack 13 = .ok (.lcmp, 1) := by decide +kernel
theorem dX8_slack_14 : decode cX8_slack 14 = .ok (.ifCond .ne 7, 3) := by decide +kernel
theorem dX8_slack_17 : decode cX8_slack 17 = .ok (.iconst (-1), 1) := by decide +kernel
theorem dX8_slack_18 : decode cX8_slack 18 = .ok (.goto 15, 3) := by decide +kernel
theorem dX8_slack_21 : decode cX8_slack 21 = .ok (.aload_n 0, 1) := by decide +kernel
theorem dX8_slack_22 : decode cX8_slack 22 = .ok (.getfield 12, 3) := by decide +kernel
theorem dX8_slack_25 : decode cX8_slack 25 = .ok (.getfield 118, 3) := by decide +kernel
theorem dX8_slack_28 : decode cX8_slack 28 = .ok (.lload_n 1, 1) := by decide +kernel
theorem dX8_slack_29 : decode cX8_slack 29 = .ok (.invokestatic 195, 3) := by decide +kernel
theorem dX8_slack_32 : decode cX8_slack 32 = .ok (.isub, 1) := by decide +kernel
theorem dX8_slack_33 : decode cX8_slack 33 = .ok (.ireturn, 1) := by decide +kernel
theorem dX8_isTaken_0 : decode cX8_isTaken 0 = .ok (.aload_n 0, 1) := by decide +kernel
theorem dX8_isTaken_1 : decode cX8_isTaken 1 = .ok (.iload_n 1, 1) := by decide +kernel
theorem dX8_isTaken_2 : decode cX8_isTaken 2 = .ok (.invokevirtual 102, 3) := by decide +kernel
theorem dX8_isTaken_5 : decode cX8_isTaken 5 = .ok (.aload_n 0, 1) := by decide +kernel
theorem dX8_isTaken_6 : decode cX8_isTaken 6 = .ok (.aload_n 0, 1) := by decide +kernel
theorem dX8_isTaken_7 : decode cX8_isTaken 7 = .ok (.getfield 12, 3) := by decide +kernel
theorem dX8_isTaken_10 : decode cX8_isTaken 10 = .ok (.invokevirtual 121, 3) := by decide +kernel
theorem dX8_isTaken_13 : decode cX8_isTaken 13 = .ok (.invokestatic 198, 3) := by decide +kernel
theorem dX8_isTaken_16 : decode cX8_isTaken 16 = .ok (.iload_n 1, 1) := by decide +kernel
theorem dX8_isTaken_17 : decode cX8_isTaken 17 = .ok (.invokestatic 201, 3) := by decide +kernel
theorem dX8_isTaken_20 : decode cX8_isTaken 20 = .ok (.ireturn, 1) := by decide +kernel
theorem dX8_optimalPlans_0 : decode cX8_optimalPlans 0 = .ok (.aload_n 0, 1) := by decide +kernel
theorem dX8_optimalPlans_1 : decode cX8_optimalPlans 1 = .ok (.getfield 12, 3) := by decide +kernel
theorem dX8_optimalPlans_4 : decode cX8_optimalPlans 4 = .ok (.invokevirtual 189, 3) := by decide +kernel
theorem dX8_optimalPlans_7 : decode cX8_optimalPlans 7 = .ok (.ifCond .ge 5, 3) := by decide +kernel
theorem dX8_optimalPlans_10 : decode cX8_optimalPlans 10 = .ok (.iconst 0, 1) := by decide +kernel
theorem dX8_optimalPlans_11 : decode cX8_optimalPlans 11 = .ok (.ireturn, 1) := by decide +kernel
theorem dX8_optimalPlans_12 : decode cX8_optimalPlans 12 = .ok (.aload_n 0, 1) := by decide +kernel
theorem dX8_optimalPlans_13 : decode cX8_optimalPlans 13 = .ok (.getfield 36, 3) := by decide +kernel
theorem dX8_optimalPlans_16 : decode cX8_optimalPlans 16 = .ok (.aload_n 0, 1) := by decide +kernel
theorem dX8_optimalPlans_17 : decode cX8_optimalPlans 17 = .ok (.getfield 12, 3) := by decide +kernel
theorem dX8_optimalPlans_20 : decode cX8_optimalPlans 20 = .ok (.bipush 100, 2) := by decide +kernel
theorem dX8_optimalPlans_22 : decode cX8_optimalPlans 22 = .ok (.invokevirtual 205, 3) := by decide +kernel
theorem dX8_optimalPlans_25 : decode cX8_optimalPlans 25 = .ok (.aload_n 0, 1) := by decide +kernel
theorem dX8_optimalPlans_26 : decode cX8_optimalPlans 26 = .ok (.getfield 36, 3) := by decide +kernel
theorem dX8_optimalPlans_29 : decode cX8_optimalPlans 29 = .ok (.aload_n 0, 1) := by decide +kernel
theorem dX8_optimalPlans_30 : decode cX8_optimalPlans 30 = .ok (.getfield 12, 3) := by decide +kernel
theorem dX8_optimalPlans_33 : decode cX8_optimalPlans 33 = .ok (.invokevirtual 209, 3) := by decide +kernel
theorem dX8_optimalPlans_36 : decode cX8_optimalPlans 36 = .ok (.ireturn, 1) := by decide +kernel
theorem dX8_weightAt_0 : decode cX8_weightAt 0 = .ok (.iload_n 1, 1) := by decide +kernel
theorem dX8_weightAt_1 : decode cX8_weightAt 1 = .ok (.iconst 0, 1) := by decide +kernel
theorem dX8_weightAt_2 : decode cX8_weightAt 2 = .ok (.bipush 100, 2) := by decide +kernel
theorem dX8_weightAt_4 : decode cX8_weightAt 4 = .ok (.invokestatic 80, 3) := by decide +kernel
theorem dX8_weightAt_7 : decode cX8_weightAt 7 = .ok (.aload_n 0, 1) := by decide +kernel
theorem dX8_weightAt_8 : decode cX8_weightAt 8 = .ok (.getfield 36, 3) := by decide +kernel
theorem dX8_weightAt_11 : decode cX8_weightAt 11 = .ok (.aload_n 0, 1) := by decide +kernel
theorem dX8_weightAt_12 : decode cX8_weightAt 12 = .ok (.getfield 12, 3) := by decide +kernel
theorem dX8_weightAt_15 : decode cX8_weightAt 15 = .ok (.iload_n 1, 1) := by decide +kernel
theorem dX8_weightAt_16 : decode cX8_weightAt 16 = .ok (.invokevirtual 205, 3) := by decide +kernel
theorem dX8_weightAt_19 : decode cX8_weightAt 19 = .ok (.aload_n 0, 1) := by decide +kernel
theorem dX8_weightAt_20 : decode cX8_weightAt 20 = .ok (.getfield 36, 3) := by decide +kernel
theorem dX8_weightAt_23 : decode cX8_weightAt 23 = .ok (.iload_n 1, 1) := by decide +kernel
theorem dX8_weightAt_24 : decode cX8_weightAt 24 = .ok (.invokevirtual 213, 3) := by decide +kernel
theorem dX8_weightAt_27 : decode cX8_weightAt 27 = .ok (.invokestatic 192, 3) := by decide +kernel
theorem dX8_weightAt_30 : decode cX8_weightAt 30 = .ok (.ireturn, 1) := by decide +kernel
theorem dX8_planAt_0 : decode cX8_planAt 0 = .ok (.iload_n 1, 1) := by decide +kernel
theorem dX8_planAt_1 : decode cX8_planAt 1 = .ok (.iconst 0, 1) := by decide +kernel
theorem dX8_planAt_2 : decode cX8_planAt 2 = .ok (.bipush 100, 2) := by decide +kernel
theorem dX8_planAt_4 : decode cX8_planAt 4 = .ok (.invokestatic 80, 3) := by decide +kernel
theorem dX8_planAt_7 : decode cX8_planAt 7 = .ok (.aload_n 0, 1) := by decide +kernel
theorem dX8_planAt_8 : decode cX8_planAt 8 = .ok (.getfield 36, 3) := by decide +kernel
theorem dX8_planAt_11 : decode cX8_planAt 11 = .ok (.aload_n 0, 1) := by decide +kernel
theorem dX8_planAt_12 : decode cX8_planAt 12 = .ok (.getfield 12, 3) := by decide +kernel
theorem dX8_planAt_15 : decode cX8_planAt 15 = .ok (.iload_n 1, 1) := by decide +kernel
theorem dX8_planAt_16 : decode cX8_planAt 16 = .ok (.invokevirtual 205, 3) := by decide +kernel
theorem dX8_planAt_19 : decode cX8_planAt 19 = .ok (.aload_n 0, 1) := by decide +kernel
theorem dX8_planAt_20 : decode cX8_planAt 20 = .ok (.getfield 36, 3) := by decide +kernel
theorem dX8_planAt_23 : decode cX8_planAt 23 = .ok (.iload_n 1, 1) := by decide +kernel
theorem dX8_planAt_24 : decode cX8_planAt 24 = .ok (.invokevirtual 213, 3) := by decide +kernel
theorem dX8_planAt_27 : decode cX8_planAt 27 = .ok (.invokestatic 134, 3) := by decide +kernel
theorem dX8_planAt_30 : decode cX8_planAt 30 = .ok (.ireturn, 1) := by decide +kernel
theorem dX8_capacityFor_0 : decode cX8_capacityFor 0 = .ok (.aload_n 0, 1) := by decide +kernel
theorem dX8_capacityFor_1 : decode cX8_capacityFor 1 = .ok (.iconst 0, 1) := by decide +kernel
theorem dX8_capacityFor_2 : decode cX8_capacityFor 2 = .ok (.iload_n 1, 1) := by decide +kernel
theorem dX8_capacityFor_3 : decode cX8_capacityFor 3 = .ok (.ifCond .ge 7, 3) := by decide +kernel
theorem dX8_capacityFor_6 : decode cX8_capacityFor 6 = .ok (.iconst 0, 1) := by decide +kernel
theorem dX8_capacityFor_7 : decode cX8_capacityFor 7 = .ok (.goto 4, 3) := by decide +kernel
theorem dX8_capacityFor_10 : decode cX8_capacityFor 10 = .ok (.iload_n 1, 1) := by decide +kernel
theorem dX8_capacityFor_11 : decode cX8_capacityFor 11 = .ok (.invokevirtual 217, 3) := by decide +kernel
theorem dX8_capacityFor_14 : decode cX8_capacityFor 14 = .ok (.ireturn, 1) := by decide +kernel
theorem dX8_steps_0 : decode cX8_steps 0 = .ok (.aload_n 0, 1) := by decide +kernel
theorem dX8_steps_1 : decode cX8_steps 1 = .ok (.getfield 36, 3) := by decide +kernel
theorem dX8_steps_4 : decode cX8_steps 4 = .ok (.aload_n 0, 1) := by decide +kernel
theorem dX8_steps_5 : decode cX8_steps 5 = .ok (.getfield 12, 3) := by decide +kernel
theorem dX8_steps_8 : decode cX8_steps 8 = .ok (.bipush 100, 2) := by decide +kernel
theorem dX8_steps_10 : decode cX8_steps 10 = .ok (.invokevirtual 205, 3) := by decide +kernel
theorem dX8_steps_13 : decode cX8_steps 13 = .ok (.iconst 0, 1) := by decide +kernel
theorem dX8_steps_14 : decode cX8_steps 14 = .ok (.istore_n 1, 1) := by decide +kernel
theorem dX8_steps_15 : decode cX8_steps 15 = .ok (.iconst 1, 1) := by decide +kernel
theorem dX8_steps_16 : decode cX8_steps 16 = .ok (.istore_n 2, 1) := by decide +kernel
theorem dX8_steps_17 : decode cX8_steps 17 = .ok (.iload_n 2, 1) := by decide +kernel
theorem dX8_steps_18 : decode cX8_steps 18 = .ok (.bipush 100, 2) := by decide +kernel
theorem dX8_steps_20 : decode cX8_steps 20 = .ok (.if_icmp .gt 39, 3) := by decide +kernel
theorem dX8_steps_23 : decode cX8_steps 23 = .ok (.aload_n 0, 1) := by decide +kernel
theorem dX8_steps_24 : decode cX8_steps 24 = .ok (.getfield 36, 3) := by decide +kernel
theorem dX8_steps_27 : decode cX8_steps 27 = .ok (.iload_n 2, 1) := by decide +kernel
theorem dX8_steps_28 : decode cX8_steps 28 = .ok (.invokevirtual 213, 3) := by decide +kernel
theorem dX8_steps_31 : decode cX8_steps 31 = .ok (.invokestatic 192, 3) := by decide +kernel
theorem dX8_steps_34 : decode cX8_steps 34 = .ok (.aload_n 0, 1) := by decide +kernel
theorem dX8_steps_35 : decode cX8_steps 35 = .ok (.getfield 36, 3) := by decide +kernel
theorem dX8_steps_38 : decode cX8_steps 38 = .ok (.iload_n 2, 1) := by decide +kernel
theorem dX8_steps_39 : decode cX8_steps 39 = .ok (.iconst 1, 1) := by decide +kernel
theorem dX8_steps_40 : decode cX8_steps 40 = .ok (.isub, 1) := by decide +kernel
theorem dX8_steps_41 : decode cX8_steps 41 = .ok (.invokevirtual 213, 3) := by decide +kernel
theorem dX8_steps_44 : decode cX8_steps 44 = .ok (.invokestatic 192, 3) := by decide +kernel
theorem dX8_steps_47 : decode cX8_steps 47 = .ok (.if_icmp .le 6, 3) := by decide +kernel
theorem dX8_steps_50 : decode cX8_steps 50 = .ok (.iinc 1 1, 3) := by decide +kernel
theorem dX8_steps_53 : decode cX8_steps 53 = .ok (.iinc 2 1, 3) := by decide +kernel
theorem dX8_steps_56 : decode cX8_steps 56 = .ok (.goto (-39), 3) := by decide +kernel
theorem dX8_steps_59 : decode cX8_steps 59 = .ok (.iload_n 1, 1) := by decide +kernel
theorem dX8_steps_60 : decode cX8_steps 60 = .ok (.ireturn, 1) := by decide +kernel
theorem dX8_nextStep_0 : decode cX8_nextStep 0 = .ok (.aload_n 0, 1) := by decide +kernel
theorem dX8_nextStep_1 : decode cX8_nextStep 1 = .ok (.aload_n 0, 1) := by decide +kernel
theorem dX8_nextStep_2 : decode cX8_nextStep 2 = .ok (.getfield 12, 3) := by decide +kernel
theorem dX8_nextStep_5 : decode cX8_nextStep 5 = .ok (.getfield 118, 3) := by decide +kernel
theorem dX8_nextStep_8 : decode cX8_nextStep 8 = .ok (.iconst 1, 1) := by decide +kernel
theorem dX8_nextStep_9 : decode cX8_nextStep 9 = .ok (.iadd, 1) := by decide +kernel
theorem dX8_nextStep_10 : decode cX8_nextStep 10 = .ok (.aload_n 0, 1) := by decide +kernel
theorem dX8_nextStep_11 : decode cX8_nextStep 11 = .ok (.aload_n 0, 1) := by decide +kernel
theorem dX8_nextStep_12 : decode cX8_nextStep 12 = .ok (.getfield 12, 3) := by decide +kernel
theorem dX8_nextStep_15 : decode cX8_nextStep 15 = .ok (.invokevirtual 121, 3) := by decide +kernel
theorem dX8_nextStep_18 : decode cX8_nextStep 18 = .ok (.invokestatic 192, 3) := by decide +kernel
theorem dX8_nextStep_21 : decode cX8_nextStep 21 = .ok (.iconst 1, 1) := by decide +kernel
theorem dX8_nextStep_22 : decode cX8_nextStep 22 = .ok (.iadd, 1) := by decide +kernel
theorem dX8_nextStep_23 : decode cX8_nextStep 23 = .ok (.invokevirtual 217, 3) := by decide +kernel
theorem dX8_nextStep_26 : decode cX8_nextStep 26 = .ok (.ireturn, 1) := by decide +kernel
theorem dX8_freeCount_0 : decode cX8_freeCount 0 = .ok (.aload_n 0, 1) := by decide +kernel
theorem dX8_freeCount_1 : decode cX8_freeCount 1 = .ok (.getfield 12, 3) := by decide +kernel
theorem dX8_freeCount_4 : decode cX8_freeCount 4 = .ok (.iconst 0, 1) := by decide +kernel
theorem dX8_freeCount_5 : decode cX8_freeCount 5 = .ok (.invokevirtual 176, 3) := by decide +kernel
theorem dX8_freeCount_8 : decode cX8_freeCount 8 = .ok (.invokestatic 150, 3) := by decide +kernel
theorem dX8_freeCount_11 : decode cX8_freeCount 11 = .ok (.ireturn, 1) := by decide +kernel
theorem dX8_cell_0 : decode cX8_cell 0 = .ok (.aload_n 0, 1) := by decide +kernel
theorem dX8_cell_1 : decode cX8_cell 1 = .ok (.iload_n 1, 1) := by decide +kernel
theorem dX8_cell_2 : decode cX8_cell 2 = .ok (.iconst 0, 1) := by decide +kernel
theorem dX8_cell_3 : decode cX8_cell 3 = .ok (.iload_n 2, 1) := by decide +kernel
theorem dX8_cell_4 : decode cX8_cell 4 = .ok (.invokevirtual 220, 3) := by decide +kernel
theorem dX8_cell_7 : decode cX8_cell 7 = .ok (.aload_n 0, 1) := by decide +kernel
theorem dX8_cell_8 : decode cX8_cell 8 = .ok (.getfield 36, 3) := by decide +kernel
theorem dX8_cell_11 : decode cX8_cell 11 = .ok (.aload_n 0, 1) := by decide +kernel
theorem dX8_cell_12 : decode cX8_cell 12 = .ok (.getfield 12, 3) := by decide +kernel
theorem dX8_cell_15 : decode cX8_cell 15 = .ok (.bipush 100, 2) := by decide +kernel
theorem dX8_cell_17 : decode cX8_cell 17 = .ok (.invokevirtual 205, 3) := by decide +kernel
theorem dX8_cell_20 : decode cX8_cell 20 = .ok (.aload_n 0, 1) := by decide +kernel
theorem dX8_cell_21 : decode cX8_cell 21 = .ok (.getfield 36, 3) := by decide +kernel
theorem dX8_cell_24 : decode cX8_cell 24 = .ok (.iload_n 1, 1) := by decide +kernel
theorem dX8_cell_25 : decode cX8_cell 25 = .ok (.iload_n 2, 1) := by decide +kernel
theorem dX8_cell_26 : decode cX8_cell 26 = .ok (.invokevirtual 223, 3) := by decide +kernel
theorem dX8_cell_29 : decode cX8_cell 29 = .ok (.ireturn, 1) := by decide +kernel
theorem dX8_isRaised_0 : decode cX8_isRaised 0 = .ok (.aload_n 0, 1) := by decide +kernel
theorem dX8_isRaised_1 : decode cX8_isRaised 1 = .ok (.iload_n 1, 1) := by decide +kernel
theorem dX8_isRaised_2 : decode cX8_isRaised 2 = .ok (.iconst 1, 1) := by decide +kernel
theorem dX8_isRaised_3 : decode cX8_isRaised 3 = .ok (.iload_n 2, 1) := by decide +kernel
theorem dX8_isRaised_4 : decode cX8_isRaised 4 = .ok (.invokevirtual 220, 3) := by decide +kernel
theorem dX8_isRaised_7 : decode cX8_isRaised 7 = .ok (.aload_n 0, 1) := by decide +kernel
theorem dX8_isRaised_8 : decode cX8_isRaised 8 = .ok (.getfield 36, 3) := by decide +kernel
theorem dX8_isRaised_11 : decode cX8_isRaised 11 = .ok (.aload_n 0, 1) := by decide +kernel
theorem dX8_isRaised_12 : decode cX8_isRaised 12 = .ok (.getfield 12, 3) := by decide +kernel
theorem dX8_isRaised_15 : decode cX8_isRaised 15 = .ok (.bipush 100, 2) := by decide +kernel
theorem dX8_isRaised_17 : decode cX8_isRaised 17 = .ok (.invokevirtual 205, 3) := by decide +kernel
theorem dX8_isRaised_20 : decode cX8_isRaised 20 = .ok (.aload_n 0, 1) := by decide +kernel
theorem dX8_isRaised_21 : decode cX8_isRaised 21 = .ok (.getfield 36, 3) := by decide +kernel
theorem dX8_isRaised_24 : decode cX8_isRaised 24 = .ok (.iload_n 1, 1) := by decide +kernel
theorem dX8_isRaised_25 : decode cX8_isRaised 25 = .ok (.iload_n 2, 1) := by decide +kernel
theorem dX8_isRaised_26 : decode cX8_isRaised 26 = .ok (.invokevirtual 223, 3) := by decide +kernel
theorem dX8_isRaised_29 : decode cX8_isRaised 29 = .ok (.aload_n 0, 1) := by decide +kernel
theorem dX8_isRaised_30 : decode cX8_isRaised 30 = .ok (.getfield 36, 3) := by decide +kernel
theorem dX8_isRaised_33 : decode cX8_isRaised 33 = .ok (.iload_n 1, 1) := by decide +kernel
theorem dX8_isRaised_34 : decode cX8_isRaised 34 = .ok (.iconst 1, 1) := by decide +kernel
theorem dX8_isRaised_35 : decode cX8_isRaised 35 = .ok (.isub, 1) := by decide +kernel
theorem dX8_isRaised_36 : decode cX8_isRaised 36 = .ok (.iload_n 2, 1) := by decide +kernel
theorem dX8_isRaised_37 : decode cX8_isRaised 37 = .ok (.invokevirtual 223, 3) := by decide +kernel
theorem dX8_isRaised_40 : decode cX8_isRaised 40 = .ok (.if_icmp .le 7, 3) := by decide +kernel
theorem dX8_isRaised_43 : decode cX8_isRaised 43 = .ok (.iconst 1, 1) := by decide +kernel
theorem dX8_isRaised_44 : decode cX8_isRaised 44 = .ok (.goto 4, 3) := by decide +kernel
theorem dX8_isRaised_47 : decode cX8_isRaised 47 = .ok (.iconst 0, 1) := by decide +kernel
theorem dX8_isRaised_48 : decode cX8_isRaised 48 = .ok (.ireturn, 1) := by decide +kernel
theorem dX8_greedyPlan_0 : decode cX8_greedyPlan 0 = .ok (.aload_n 0, 1) := by decide +kernel
theorem dX8_greedyPlan_1 : decode cX8_greedyPlan 1 = .ok (.getfield 12, 3) := by decide +kernel
theorem dX8_greedyPlan_4 : decode cX8_greedyPlan 4 = .ok (.invokevirtual 189, 3) := by decide +kernel
theorem dX8_greedyPlan_7 : decode cX8_greedyPlan 7 = .ok (.ifCond .ge 5, 3) := by decide +kernel
theorem dX8_greedyPlan_10 : decode cX8_greedyPlan 10 = .ok (.iconst (-1), 1) := by decide +kernel
theorem dX8_greedyPlan_11 : decode cX8_greedyPlan 11 = .ok (.ireturn, 1) := by decide +kernel
theorem dX8_greedyPlan_12 : decode cX8_greedyPlan 12 = .ok (.aload_n 0, 1) := by decide +kernel
theorem dX8_greedyPlan_13 : decode cX8_greedyPlan 13 = .ok (.getfield 43, 3) := by decide +kernel
theorem dX8_greedyPlan_16 : decode cX8_greedyPlan 16 = .ok (.aload_n 0, 1) := by decide +kernel
theorem dX8_greedyPlan_17 : decode cX8_greedyPlan 17 = .ok (.getfield 12, 3) := by decide +kernel
theorem dX8_greedyPlan_20 : decode cX8_greedyPlan 20 = .ok (.invokevirtual 182, 3) := by decide +kernel
theorem dX8_greedyPlan_23 : decode cX8_greedyPlan 23 = .ok (.aload_n 0, 1) := by decide +kernel
theorem dX8_greedyPlan_24 : decode cX8_greedyPlan 24 = .ok (.getfield 43, 3) := by decide +kernel
theorem dX8_greedyPlan_27 : decode cX8_greedyPlan 27 = .ok (.aload_n 0, 1) := by decide +kernel
theorem dX8_greedyPlan_28 : decode cX8_greedyPlan 28 = .ok (.getfield 12, 3) := by decide +kernel
theorem dX8_greedyPlan_31 : decode cX8_greedyPlan 31 = .ok (.invokevirtual 226, 3) := by decide +kernel
theorem dX8_greedyPlan_34 : decode cX8_greedyPlan 34 = .ok (.ireturn, 1) := by decide +kernel
theorem dX8_greedyWeight_0 : decode cX8_greedyWeight 0 = .ok (.aload_n 0, 1) := by decide +kernel
theorem dX8_greedyWeight_1 : decode cX8_greedyWeight 1 = .ok (.getfield 12, 3) := by decide +kernel
theorem dX8_greedyWeight_4 : decode cX8_greedyWeight 4 = .ok (.invokevirtual 189, 3) := by decide +kernel
theorem dX8_greedyWeight_7 : decode cX8_greedyWeight 7 = .ok (.ifCond .ge 5, 3) := by decide +kernel
theorem dX8_greedyWeight_10 : decode cX8_greedyWeight 10 = .ok (.iconst (-1), 1) := by decide +kernel
theorem dX8_greedyWeight_11 : decode cX8_greedyWeight 11 = .ok (.ireturn, 1) := by decide +kernel
theorem dX8_greedyWeight_12 : decode cX8_greedyWeight 12 = .ok (.aload_n 0, 1) := by decide +kernel
theorem dX8_greedyWeight_13 : decode cX8_greedyWeight 13 = .ok (.getfield 43, 3) := by decide +kernel
theorem dX8_greedyWeight_16 : decode cX8_greedyWeight 16 = .ok (.aload_n 0, 1) := by decide +kernel
theorem dX8_greedyWeight_17 : decode cX8_greedyWeight 17 = .ok (.getfield 12, 3) := by decide +kernel
theorem dX8_greedyWeight_20 : decode cX8_greedyWeight 20 = .ok (.invokevirtual 182, 3) := by decide +kernel
theorem dX8_greedyWeight_23 : decode cX8_greedyWeight 23 = .ok (.aload_n 0, 1) := by decide +kernel
theorem dX8_greedyWeight_24 : decode cX8_greedyWeight 24 = .ok (.getfield 12, 3) := by decide +kernel
theorem dX8_greedyWeight_27 : decode cX8_greedyWeight 27 = .ok (.aload_n 0, 1) := by decide +kernel
theorem dX8_greedyWeight_28 : decode cX8_greedyWeight 28 = .ok (.getfield 43, 3) := by decide +kernel
theorem dX8_greedyWeight_31 : decode cX8_greedyWeight 31 = .ok (.aload_n 0, 1) := by decide +kernel
theorem dX8_greedyWeight_32 : decode cX8_greedyWeight 32 = .ok (.getfield 12, 3) := by decide +kernel
theorem dX8_greedyWeight_35 : decode cX8_greedyWeight 35 = .ok (.invokevirtual 226, 3) := by decide +kernel
theorem dX8_greedyWeight_38 : decode cX8_greedyWeight 38 = .ok (.invokevirtual 229, 3) := by decide +kernel
theorem dX8_greedyWeight_41 : decode cX8_greedyWeight 41 = .ok (.ireturn, 1) := by decide +kernel
theorem dX8_upperBound_0 : decode cX8_upperBound 0 = .ok (.aload_n 0, 1) := by decide +kernel
theorem dX8_upperBound_1 : decode cX8_upperBound 1 = .ok (.getfield 12, 3) := by decide +kernel
theorem dX8_upperBound_4 : decode cX8_upperBound 4 = .ok (.invokevirtual 189, 3) := by decide +kernel
theorem dX8_upperBound_7 : decode cX8_upperBound 7 = .ok (.ifCond .ge 5, 3) := by decide +kernel
theorem dX8_upperBound_10 : decode cX8_upperBound 10 = .ok (.iconst (-1), 1) := by decide +kernel
theorem dX8_upperBound_11 : decode cX8_upperBound 11 = .ok (.ireturn, 1) := by decide +kernel
theorem dX8_upperBound_12 : decode cX8_upperBound 12 = .ok (.aload_n 0, 1) := by decide +kernel
theorem dX8_upperBound_13 : decode cX8_upperBound 13 = .ok (.getfield 43, 3) := by decide +kernel
theorem dX8_upperBound_16 : decode cX8_upperBound 16 = .ok (.aload_n 0, 1) := by decide +kernel
theorem dX8_upperBound_17 : decode cX8_upperBound 17 = .ok (.getfield 12, 3) := by decide +kernel
theorem dX8_upperBound_20 : decode cX8_upperBound 20 = .ok (.invokevirtual 182, 3) := by decide +kernel
theorem dX8_upperBound_23 : decode cX8_upperBound 23 = .ok (.aload_n 0, 1) := by decide +kernel
theorem dX8_upperBound_24 : decode cX8_upperBound 24 = .ok (.getfield 43, 3) := by decide +kernel
theorem dX8_upperBound_27 : decode cX8_upperBound 27 = .ok (.aload_n 0, 1) := by decide +kernel
theorem dX8_upperBound_28 : decode cX8_upperBound 28 = .ok (.getfield 12, 3) := by decide +kernel
theorem dX8_upperBound_31 : decode cX8_upperBound 31 = .ok (.invokevirtual 232, 3) := by decide +kernel
theorem dX8_upperBound_34 : decode cX8_upperBound 34 = .ok (.ireturn, 1) := by decide +kernel
theorem dX8_lossIfExcluded_0 : decode cX8_lossIfExcluded 0 = .ok (.aload_n 0, 1) := by decide +kernel
theorem dX8_lossIfExcluded_1 : decode cX8_lossIfExcluded 1 = .ok (.iload_n 1, 1) := by decide +kernel
theorem dX8_lossIfExcluded_2 : decode cX8_lossIfExcluded 2 = .ok (.invokevirtual 102, 3) := by decide +kernel
theorem dX8_lossIfExcluded_5 : decode cX8_lossIfExcluded 5 = .ok (.aload_n 0, 1) := by decide +kernel
theorem dX8_lossIfExcluded_6 : decode cX8_lossIfExcluded 6 = .ok (.aload_n 0, 1) := by decide +kernel
theorem dX8_lossIfExcluded_7 : decode cX8_lossIfExcluded 7 = .ok (.getfield 12, 3) := by decide +kernel
theorem dX8_lossIfExcluded_10 : decode cX8_lossIfExcluded 10 = .ok (.invokevirtual 121, 3) := by decide +kernel
theorem dX8_lossIfExcluded_13 : decode cX8_lossIfExcluded 13 = .ok (.lstore_n 2, 1) := by decide +kernel
theorem dX8_lossIfExcluded_14 : decode cX8_lossIfExcluded 14 = .ok (.lload_n 2, 1) := by decide +kernel
theorem dX8_lossIfExcluded_15 : decode cX8_lossIfExcluded 15 = .ok (.ldc2_w 125, 3) := by decide +kernel
theorem dX8_lossIfExcluded_18 : decode cX8_lossIfExcluded 18 = .ok (.lcmp, 1) := by decide +kernel
theorem dX8_lossIfExcluded_19 : decode cX8_lossIfExcluded 19 = .ok (.ifCond .ne 5, 3) := by decide +kernel
theorem dX8_lossIfExcluded_22 : decode cX8_lossIfExcluded 22 = .ok (.iconst 0, 1) := by decide +kernel
theorem dX8_lossIfExcluded_23 : decode cX8_lossIfExcluded 23 = .ok (.ireturn, 1) := by decide +kernel
theorem dX8_lossIfExcluded_24 : decode cX8_lossIfExcluded 24 = .ok (.lload_n 2, 1) := by decide +kernel
theorem dX8_lossIfExcluded_25 : decode cX8_lossIfExcluded 25 = .ok (.invokestatic 192, 3) := by decide +kernel
theorem dX8_lossIfExcluded_28 : decode cX8_lossIfExcluded 28 = .ok (.aload_n 0, 1) := by decide +kernel
theorem dX8_lossIfExcluded_29 : decode cX8_lossIfExcluded 29 = .ok (.iload_n 1, 1) := by decide +kernel
theorem dX8_lossIfExcluded_30 : decode cX8_lossIfExcluded 30 = .ok (.iconst 2, 1) := by decide +kernel
theorem dX8_lossIfExcluded_31 : decode cX8_lossIfExcluded 31 = .ok (.invokevirtual 235, 3) := by decide +kernel
theorem dX8_lossIfExcluded_34 : decode cX8_lossIfExcluded 34 = .ok (.invokestatic 192, 3) := by decide +kernel
theorem dX8_lossIfExcluded_37 : decode cX8_lossIfExcluded 37 = .ok (.isub, 1) := by decide +kernel
theorem dX8_lossIfExcluded_38 : decode cX8_lossIfExcluded 38 = .ok (.ireturn, 1) := by decide +kernel
theorem dX8_lossIfPinned_0 : decode cX8_lossIfPinned 0 = .ok (.aload_n 0, 1) := by decide +kernel
theorem dX8_lossIfPinned_1 : decode cX8_lossIfPinned 1 = .ok (.iload_n 1, 1) := by decide +kernel
theorem dX8_lossIfPinned_2 : decode cX8_lossIfPinned 2 = .ok (.invokevirtual 102, 3) := by decide +kernel
theorem dX8_lossIfPinned_5 : decode cX8_lossIfPinned 5 = .ok (.aload_n 0, 1) := by decide +kernel
theorem dX8_lossIfPinned_6 : decode cX8_lossIfPinned 6 = .ok (.aload_n 0, 1) := by decide +kernel
theorem dX8_lossIfPinned_7 : decode cX8_lossIfPinned 7 = .ok (.getfield 12, 3) := by decide +kernel
theorem dX8_lossIfPinned_10 : decode cX8_lossIfPinned 10 = .ok (.invokevirtual 121, 3) := by decide +kernel
theorem dX8_lossIfPinned_13 : decode cX8_lossIfPinned 13 = .ok (.lstore_n 2, 1) := by decide +kernel
theorem dX8_lossIfPinned_14 : decode cX8_lossIfPinned 14 = .ok (.aload_n 0, 1) := by decide +kernel
theorem dX8_lossIfPinned_15 : decode cX8_lossIfPinned 15 = .ok (.iload_n 1, 1) := by decide +kernel
theorem dX8_lossIfPinned_16 : decode cX8_lossIfPinned 16 = .ok (.iconst 1, 1) := by decide +kernel
theorem dX8_lossIfPinned_17 : decode cX8_lossIfPinned 17 = .ok (.invokevirtual 235, 3) := by decide +kernel
theorem dX8_lossIfPinned_20 : decode cX8_lossIfPinned 20 = .ok (.lstore 4, 2) := by decide +kernel
theorem dX8_lossIfPinned_22 : decode cX8_lossIfPinned 22 = .ok (.lload_n 2, 1) := by decide +kernel
theorem dX8_lossIfPinned_23 : decode cX8_lossIfPinned 23 = .ok (.ldc2_w 125, 3) := by decide +kernel
theorem dX8_lossIfPinned_26 : decode cX8_lossIfPinned 26 = .ok (.lcmp, 1) := by decide +kernel
theorem dX8_lossIfPinned_27 : decode cX8_lossIfPinned 27 = .ok (.ifCond .eq 12, 3) := by decide +kernel
theorem dX8_lossIfPinned_30 : decode cX8_lossIfPinned 30 = .ok (.lload 4, 2) := by decide +kernel
theorem dX8_lossIfPinned_32 : decode cX8_lossIfPinned 32 = .ok (.ldc2_w 125, 3) := by decide +kernel
theorem dX8_lossIfPinned_35 : decode cX8_lossIfPinned 35 = .ok (.lcmp, 1) := by decide +kernel
theorem dX8_lossIfPinned_36 : decode cX8_lossIfPinned 36 = .ok (.ifCond .ne 5, 3) := by decide +kernel
theorem dX8_lossIfPinned_39 : decode cX8_lossIfPinned 39 = .ok (.iconst (-1), 1) := by decide +kernel
theorem dX8_lossIfPinned_40 : decode cX8_lossIfPinned 40 = .ok (.ireturn, 1) := by decide +kernel
theorem dX8_lossIfPinned_41 : decode cX8_lossIfPinned 41 = .ok (.lload_n 2, 1) := by decide +kernel
theorem dX8_lossIfPinned_42 : decode cX8_lossIfPinned 42 = .ok (.invokestatic 192, 3) := by decide +kernel
theorem dX8_lossIfPinned_45 : decode cX8_lossIfPinned 45 = .ok (.lload 4, 2) := by decide +kernel
theorem dX8_lossIfPinned_47 : decode cX8_lossIfPinned 47 = .ok (.invokestatic 192, 3) := by decide +kernel
theorem dX8_lossIfPinned_50 : decode cX8_lossIfPinned 50 = .ok (.isub, 1) := by decide +kernel
theorem dX8_lossIfPinned_51 : decode cX8_lossIfPinned 51 = .ok (.ireturn, 1) := by decide +kernel
theorem dX8_valueNeeded_0 : decode cX8_valueNeeded 0 = .ok (.aload_n 0, 1) := by decide +kernel
theorem dX8_valueNeeded_1 : decode cX8_valueNeeded 1 = .ok (.iload_n 1, 1) := by decide +kernel
theorem dX8_valueNeeded_2 : decode cX8_valueNeeded 2 = .ok (.invokevirtual 102, 3) := by decide +kernel
theorem dX8_valueNeeded_5 : decode cX8_valueNeeded 5 = .ok (.aload_n 0, 1) := by decide +kernel
theorem dX8_valueNeeded_6 : decode cX8_valueNeeded 6 = .ok (.getfield 12, 3) := by decide +kernel
theorem dX8_valueNeeded_9 : decode cX8_valueNeeded 9 = .ok (.getfield 69, 3) := by decide +kernel
theorem dX8_valueNeeded_12 : decode cX8_valueNeeded 12 = .ok (.iload_n 1, 1) := by decide +kernel
theorem dX8_valueNeeded_13 : decode cX8_valueNeeded 13 = .ok (.iaload, 1) := by decide +kernel
theorem dX8_valueNeeded_14 : decode cX8_valueNeeded 14 = .ok (.ifCond .eq 5, 3) := by decide +kernel
theorem dX8_valueNeeded_17 : decode cX8_valueNeeded 17 = .ok (.iconst (-1), 1) := by decide +kernel
theorem dX8_valueNeeded_18 : decode cX8_valueNeeded 18 = .ok (.ireturn, 1) := by decide +kernel
theorem dX8_valueNeeded_19 : decode cX8_valueNeeded 19 = .ok (.aload_n 0, 1) := by decide +kernel
theorem dX8_valueNeeded_20 : decode cX8_valueNeeded 20 = .ok (.iload_n 1, 1) := by decide +kernel
theorem dX8_valueNeeded_21 : decode cX8_valueNeeded 21 = .ok (.iconst 2, 1) := by decide +kernel
theorem dX8_valueNeeded_22 : decode cX8_valueNeeded 22 = .ok (.invokevirtual 235, 3) := by decide +kernel
theorem dX8_valueNeeded_25 : decode cX8_valueNeeded 25 = .ok (.lstore_n 2, 1) := by decide +kernel
theorem dX8_valueNeeded_26 : decode cX8_valueNeeded 26 = .ok (.aload_n 0, 1) := by decide +kernel
theorem dX8_valueNeeded_27 : decode cX8_valueNeeded 27 = .ok (.getfield 36, 3) := by decide +kernel
theorem dX8_valueNeeded_30 : decode cX8_valueNeeded 30 = .ok (.aload_n 0, 1) := by decide +kernel
theorem dX8_valueNeeded_31 : decode cX8_valueNeeded 31 = .ok (.getfield 12, 3) := by decide +kernel
theorem dX8_valueNeeded_34 : decode cX8_valueNeeded 34 = .ok (.getfield 118, 3) := by decide +kernel
theorem dX8_valueNeeded_37 : decode cX8_valueNeeded 37 = .ok (.aload_n 0, 1) := by decide +kernel
theorem dX8_valueNeeded_38 : decode cX8_valueNeeded 38 = .ok (.getfield 12, 3) := by decide +kernel
theorem dX8_valueNeeded_41 : decode cX8_valueNeeded 41 = .ok (.getfield 108, 3) := by decide +kernel
theorem dX8_valueNeeded_44 : decode cX8_valueNeeded 44 = .ok (.iload_n 1, 1) := by decide +kernel
theorem dX8_valueNeeded_45 : decode cX8_valueNeeded 45 = .ok (.iaload, 1) := by decide +kernel
theorem dX8_valueNeeded_46 : decode cX8_valueNeeded 46 = .ok (.isub, 1) := by decide +kernel
theorem dX8_valueNeeded_47 : decode cX8_valueNeeded 47 = .ok (.invokevirtual 213, 3) := by decide +kernel
theorem dX8_valueNeeded_50 : decode cX8_valueNeeded 50 = .ok (.lstore 4, 2) := by decide +kernel
theorem dX8_valueNeeded_52 : decode cX8_valueNeeded 52 = .ok (.lload 4, 2) := by decide +kernel
theorem dX8_valueNeeded_54 : decode cX8_valueNeeded 54 = .ok (.ldc2_w 125, 3) := by decide +kernel
theorem dX8_valueNeeded_57 : decode cX8_valueNeeded 57 = .ok (.lcmp, 1) := by decide +kernel
theorem dX8_valueNeeded_58 : decode cX8_valueNeeded 58 = .ok (.ifCond .ne 5, 3) := by decide +kernel
theorem dX8_valueNeeded_61 : decode cX8_valueNeeded 61 = .ok (.iconst (-1), 1) := by decide +kernel
theorem dX8_valueNeeded_62 : decode cX8_valueNeeded 62 = .ok (.ireturn, 1) := by decide +kernel
theorem dX8_valueNeeded_63 : decode cX8_valueNeeded 63 = .ok (.iconst 0, 1) := by decide +kernel
theorem dX8_valueNeeded_64 : decode cX8_valueNeeded 64 = .ok (.istore 6, 2) := by decide +kernel
theorem dX8_valueNeeded_66 : decode cX8_valueNeeded 66 = .ok (.iload 6, 2) := by decide +kernel
theorem dX8_valueNeeded_68 : decode cX8_valueNeeded 68 = .ok (.sipush 999, 3) := by decide +kernel
theorem dX8_valueNeeded_71 : decode cX8_valueNeeded 71 = .ok (.if_icmp .gt 49, 3) := by decide +kernel
theorem dX8_valueNeeded_74 : decode cX8_valueNeeded 74 = .ok (.lload 4, 2) := by decide +kernel
theorem dX8_valueNeeded_76 : decode cX8_valueNeeded 76 = .ok (.iload 6, 2) := by decide +kernel
theorem dX8_valueNeeded_78 : decode cX8_valueNeeded 78 = .ok (.iconst 1, 1) := by decide +kernel
theorem dX8_valueNeeded_79 : decode cX8_valueNeeded 79 = .ok (.aload_n 0, 1) := by decide +kernel
theorem dX8_valueNeeded_80 : decode cX8_valueNeeded 80 = .ok (.getfield 12, 3) := by decide +kernel
theorem dX8_valueNeeded_83 : decode cX8_valueNeeded 83 = .ok (.getfield 170, 3) := by decide +kernel
theorem dX8_valueNeeded_86 : decode cX8_valueNeeded 86 = .ok (.iload_n 1, 1) := by decide +kernel
theorem dX8_valueNeeded_87 : decode cX8_valueNeeded 87 = .ok (.iaload, 1) := by decide +kernel
theorem dX8_valueNeeded_88 : decode cX8_valueNeeded 88 = .ok (.iadd, 1) := by decide +kernel
theorem dX8_valueNeeded_89 : decode cX8_valueNeeded 89 = .ok (.imul, 1) := by decide +kernel
theorem dX8_valueNeeded_90 : decode cX8_valueNeeded 90 = .ok (.aload_n 0, 1) := by decide +kernel
theorem dX8_valueNeeded_91 : decode cX8_valueNeeded 91 = .ok (.getfield 12, 3) := by decide +kernel
theorem dX8_valueNeeded_94 : decode cX8_valueNeeded 94 = .ok (.getfield 108, 3) := by decide +kernel
theorem dX8_valueNeeded_97 : decode cX8_valueNeeded 97 = .ok (.iload_n 1, 1) := by decide +kernel
theorem dX8_valueNeeded_98 : decode cX8_valueNeeded 98 = .ok (.iaload, 1) := by decide +kernel
theorem dX8_valueNeeded_99 : decode cX8_valueNeeded 99 = .ok (.iconst 1, 1) := by decide +kernel
theorem dX8_valueNeeded_100 : decode cX8_valueNeeded 100 = .ok (.iload_n 1, 1) := by decide +kernel
theorem dX8_valueNeeded_101 : decode cX8_valueNeeded 101 = .ok (.ishl, 1) := by decide +kernel
theorem dX8_valueNeeded_102 : decode cX8_valueNeeded 102 = .ok (.invokestatic 239, 3) := by decide +kernel
theorem dX8_valueNeeded_105 : decode cX8_valueNeeded 105 = .ok (.ladd, 1) := by decide +kernel
theorem dX8_valueNeeded_106 : decode cX8_valueNeeded 106 = .ok (.lload_n 2, 1) := by decide +kernel
theorem dX8_valueNeeded_107 : decode cX8_valueNeeded 107 = .ok (.lcmp, 1) := by decide +kernel
theorem dX8_valueNeeded_108 : decode cX8_valueNeeded 108 = .ok (.ifCond .le 6, 3) := by decide +kernel
theorem dX8_valueNeeded_111 : decode cX8_valueNeeded 111 = .ok (.iload 6, 2) := by decide +kernel
theorem dX8_valueNeeded_113 : decode cX8_valueNeeded 113 = .ok (.ireturn, 1) := by decide +kernel
theorem dX8_valueNeeded_114 : decode cX8_valueNeeded 114 = .ok (.iinc 6 1, 3) := by decide +kernel
theorem dX8_valueNeeded_117 : decode cX8_valueNeeded 117 = .ok (.goto (-51), 3) := by decide +kernel
theorem dX8_valueNeeded_120 : decode cX8_valueNeeded 120 = .ok (.iconst (-1), 1) := by decide +kernel
theorem dX8_valueNeeded_121 : decode cX8_valueNeeded 121 = .ok (.ireturn, 1) := by decide +kernel
theorem dX8_takenInBackup_0 : decode cX8_takenInBackup 0 = .ok (.iload_n 1, 1) := by decide +kernel
theorem dX8_takenInBackup_1 : decode cX8_takenInBackup 1 = .ok (.iconst 1, 1) := by decide +kernel
theorem dX8_takenInBackup_2 : decode cX8_takenInBackup 2 = .ok (.bipush 50, 2) := by decide +kernel
theorem dX8_takenInBackup_4 : decode cX8_takenInBackup 4 = .ok (.invokestatic 80, 3) := by decide +kernel
theorem dX8_takenInBackup_7 : decode cX8_takenInBackup 7 = .ok (.aload_n 0, 1) := by decide +kernel
theorem dX8_takenInBackup_8 : decode cX8_takenInBackup 8 = .ok (.getfield 16, 3) := by decide +kernel
theorem dX8_takenInBackup_11 : decode cX8_takenInBackup 11 = .ok (.aload_n 0, 1) := by decide +kernel
theorem dX8_takenInBackup_12 : decode cX8_takenInBackup 12 = .ok (.getfield 12, 3) := by decide +kernel
theorem dX8_takenInBackup_15 : decode cX8_takenInBackup 15 = .ok (.invokevirtual 96, 3) := by decide +kernel
theorem dX8_takenInBackup_18 : decode cX8_takenInBackup 18 = .ok (.iconst 0, 1) := by decide +kernel
theorem dX8_takenInBackup_19 : decode cX8_takenInBackup 19 = .ok (.istore_n 2, 1) := by decide +kernel
theorem dX8_takenInBackup_20 : decode cX8_takenInBackup 20 = .ok (.iconst 1, 1) := by decide +kernel
theorem dX8_takenInBackup_21 : decode cX8_takenInBackup 21 = .ok (.istore_n 3, 1) := by decide +kernel
theorem dX8_takenInBackup_22 : decode cX8_takenInBackup 22 = .ok (.iload_n 3, 1) := by decide +kernel
theorem dX8_takenInBackup_23 : decode cX8_takenInBackup 23 = .ok (.iload_n 1, 1) := by decide +kernel
theorem dX8_takenInBackup_24 : decode cX8_takenInBackup 24 = .ok (.if_icmp .gt 21, 3) := by decide +kernel
theorem dX8_takenInBackup_27 : decode cX8_takenInBackup 27 = .ok (.aload_n 0, 1) := by decide +kernel
theorem dX8_takenInBackup_28 : decode cX8_takenInBackup 28 = .ok (.getfield 16, 3) := by decide +kernel
theorem dX8_takenInBackup_31 : decode cX8_takenInBackup 31 = .ok (.aload_n 0, 1) := by decide +kernel
theorem dX8_takenInBackup_32 : decode cX8_takenInBackup 32 = .ok (.getfield 36, 3) := by decide +kernel
theorem dX8_takenInBackup_35 : decode cX8_takenInBackup 35 = .ok (.invokevirtual 142, 3) := by decide +kernel
theorem dX8_takenInBackup_38 : decode cX8_takenInBackup 38 = .ok (.istore_n 2, 1) := by decide +kernel
theorem dX8_takenInBackup_39 : decode cX8_takenInBackup 39 = .ok (.iinc 3 1, 3) := by decide +kernel
theorem dX8_takenInBackup_42 : decode cX8_takenInBackup 42 = .ok (.goto (-20), 3) := by decide +kernel
theorem dX8_takenInBackup_45 : decode cX8_takenInBackup 45 = .ok (.iload_n 2, 1) := by decide +kernel
theorem dX8_takenInBackup_46 : decode cX8_takenInBackup 46 = .ok (.ireturn, 1) := by decide +kernel
theorem dX8_backupsUntil_0 : decode cX8_backupsUntil 0 = .ok (.aload_n 0, 1) := by decide +kernel
theorem dX8_backupsUntil_1 : decode cX8_backupsUntil 1 = .ok (.iload_n 1, 1) := by decide +kernel
theorem dX8_backupsUntil_2 : decode cX8_backupsUntil 2 = .ok (.invokevirtual 102, 3) := by decide +kernel
theorem dX8_backupsUntil_5 : decode cX8_backupsUntil 5 = .ok (.aload_n 0, 1) := by decide +kernel
theorem dX8_backupsUntil_6 : decode cX8_backupsUntil 6 = .ok (.getfield 16, 3) := by decide +kernel
theorem dX8_backupsUntil_9 : decode cX8_backupsUntil 9 = .ok (.aload_n 0, 1) := by decide +kernel
theorem dX8_backupsUntil_10 : decode cX8_backupsUntil 10 = .ok (.getfield 12, 3) := by decide +kernel
theorem dX8_backupsUntil_13 : decode cX8_backupsUntil 13 = .ok (.invokevirtual 96, 3) := by decide +kernel
theorem dX8_backupsUntil_16 : decode cX8_backupsUntil 16 = .ok (.iconst 1, 1) := by decide +kernel
theorem dX8_backupsUntil_17 : decode cX8_backupsUntil 17 = .ok (.istore_n 2, 1) := by decide +kernel
theorem dX8_backupsUntil_18 : decode cX8_backupsUntil 18 = .ok (.iload_n 2, 1) := by decide +kernel
theorem dX8_backupsUntil_19 : decode cX8_backupsUntil 19 = .ok (.bipush 50, 2) := by decide +kernel
theorem dX8_backupsUntil_21 : decode cX8_backupsUntil 21 = .ok (.if_icmp .gt 29, 3) := by decide +kernel
theorem dX8_backupsUntil_24 : decode cX8_backupsUntil 24 = .ok (.aload_n 0, 1) := by decide +kernel
theorem dX8_backupsUntil_25 : decode cX8_backupsUntil 25 = .ok (.getfield 16, 3) := by decide +kernel
theorem dX8_backupsUntil_28 : decode cX8_backupsUntil 28 = .ok (.aload_n 0, 1) := by decide +kernel
theorem dX8_backupsUntil_29 : decode cX8_backupsUntil 29 = .ok (.getfield 36, 3) := by decide +kernel
theorem dX8_backupsUntil_32 : decode cX8_backupsUntil 32 = .ok (.invokevirtual 142, 3) := by decide +kernel
theorem dX8_backupsUntil_35 : decode cX8_backupsUntil 35 = .ok (.iload_n 1, 1) := by decide +kernel
theorem dX8_backupsUntil_36 : decode cX8_backupsUntil 36 = .ok (.invokestatic 201, 3) := by decide +kernel
theorem dX8_backupsUntil_39 : decode cX8_backupsUntil 39 = .ok (.ifCond .eq 5, 3) := by decide +kernel
theorem dX8_backupsUntil_42 : decode cX8_backupsUntil 42 = .ok (.iload_n 2, 1) := by decide +kernel
theorem dX8_backupsUntil_43 : decode cX8_backupsUntil 43 = .ok (.ireturn, 1) := by decide +kernel
theorem dX8_backupsUntil_44 : decode cX8_backupsUntil 44 = .ok (.iinc 2 1, 3) := by decide +kernel
theorem dX8_backupsUntil_47 : decode cX8_backupsUntil 47 = .ok (.goto (-29), 3) := by decide +kernel
theorem dX8_backupsUntil_50 : decode cX8_backupsUntil 50 = .ok (.iconst (-1), 1) := by decide +kernel
theorem dX8_backupsUntil_51 : decode cX8_backupsUntil 51 = .ok (.ireturn, 1) := by decide +kernel
theorem dX8_neglected_0 : decode cX8_neglected 0 = .ok (.iload_n 1, 1) := by decide +kernel
theorem dX8_neglected_1 : decode cX8_neglected 1 = .ok (.iconst 1, 1) := by decide +kernel
theorem dX8_neglected_2 : decode cX8_neglected 2 = .ok (.bipush 50, 2) := by decide +kernel
theorem dX8_neglected_4 : decode cX8_neglected 4 = .ok (.invokestatic 80, 3) := by decide +kernel
theorem dX8_neglected_7 : decode cX8_neglected 7 = .ok (.aload_n 0, 1) := by decide +kernel
theorem dX8_neglected_8 : decode cX8_neglected 8 = .ok (.getfield 16, 3) := by decide +kernel
theorem dX8_neglected_11 : decode cX8_neglected 11 = .ok (.aload_n 0, 1) := by decide +kernel
theorem dX8_neglected_12 : decode cX8_neglected 12 = .ok (.getfield 12, 3) := by decide +kernel
theorem dX8_neglected_15 : decode cX8_neglected 15 = .ok (.invokevirtual 96, 3) := by decide +kernel
theorem dX8_neglected_18 : decode cX8_neglected 18 = .ok (.iconst 1, 1) := by decide +kernel
theorem dX8_neglected_19 : decode cX8_neglected 19 = .ok (.aload_n 0, 1) := by decide +kernel
theorem dX8_neglected_20 : decode cX8_neglected 20 = .ok (.getfield 12, 3) := by decide +kernel
theorem dX8_neglected_23 : decode cX8_neglected 23 = .ok (.getfield 99, 3) := by decide +kernel
theorem dX8_neglected_26 : decode cX8_neglected 26 = .ok (.ishl, 1) := by decide +kernel
theorem dX8_neglected_27 : decode cX8_neglected 27 = .ok (.iconst 1, 1) := by decide +kernel
theorem dX8_neglected_28 : decode cX8_neglected 28 = .ok (.isub, 1) := by decide +kernel
theorem dX8_neglected_29 : decode cX8_neglected 29 = .ok (.istore_n 2, 1) := by decide +kernel
theorem dX8_neglected_30 : decode cX8_neglected 30 = .ok (.iload_n 2, 1) := by decide +kernel
theorem dX8_neglected_31 : decode cX8_neglected 31 = .ok (.aload_n 0, 1) := by decide +kernel
theorem dX8_neglected_32 : decode cX8_neglected 32 = .ok (.aload_n 0, 1) := by decide +kernel
theorem dX8_neglected_33 : decode cX8_neglected 33 = .ok (.getfield 16, 3) := by decide +kernel
theorem dX8_neglected_36 : decode cX8_neglected 36 = .ok (.iload_n 1, 1) := by decide +kernel
theorem dX8_neglected_37 : decode cX8_neglected 37 = .ok (.invokevirtual 146, 3) := by decide +kernel
theorem dX8_neglected_40 : decode cX8_neglected 40 = .ok (.iconst (-1), 1) := by decide +kernel
theorem dX8_neglected_41 : decode cX8_neglected 41 = .ok (.ixor, 1) := by decide +kernel
theorem dX8_neglected_42 : decode cX8_neglected 42 = .ok (.iand, 1) := by decide +kernel
theorem dX8_neglected_43 : decode cX8_neglected 43 = .ok (.ireturn, 1) := by decide +kernel
theorem dX8_backupCount_0 : decode cX8_backupCount 0 = .ok (.aload_n 0, 1) := by decide +kernel
theorem dX8_backupCount_1 : decode cX8_backupCount 1 = .ok (.getfield 12, 3) := by decide +kernel
theorem dX8_backupCount_4 : decode cX8_backupCount 4 = .ok (.getfield 243, 3) := by decide +kernel
theorem dX8_backupCount_7 : decode cX8_backupCount 7 = .ok (.ireturn, 1) := by decide +kernel
theorem dX8_backedUpSize_0 : decode cX8_backedUpSize 0 = .ok (.aload_n 0, 1) := by decide +kernel
theorem dX8_backedUpSize_1 : decode cX8_backedUpSize 1 = .ok (.getfield 12, 3) := by decide +kernel
theorem dX8_backedUpSize_4 : decode cX8_backedUpSize 4 = .ok (.getfield 246, 3) := by decide +kernel
theorem dX8_backedUpSize_7 : decode cX8_backedUpSize 7 = .ok (.ireturn, 1) := by decide +kernel
theorem dX8_backedUpWeight_0 : decode cX8_backedUpWeight 0 = .ok (.aload_n 0, 1) := by decide +kernel
theorem dX8_backedUpWeight_1 : decode cX8_backedUpWeight 1 = .ok (.getfield 12, 3) := by decide +kernel
theorem dX8_backedUpWeight_4 : decode cX8_backedUpWeight 4 = .ok (.getfield 249, 3) := by decide +kernel
theorem dX8_backedUpWeight_7 : decode cX8_backedUpWeight 7 = .ok (.ireturn, 1) := by decide +kernel
theorem dX8_fill_0 : decode cX8_fill 0 = .ok (.aload_n 0, 1) := by decide +kernel
theorem dX8_fill_1 : decode cX8_fill 1 = .ok (.aload_n 0, 1) := by decide +kernel
theorem dX8_fill_2 : decode cX8_fill 2 = .ok (.getfield 12, 3) := by decide +kernel
theorem dX8_fill_5 : decode cX8_fill 5 = .ok (.invokevirtual 121, 3) := by decide +kernel
theorem dX8_fill_8 : decode cX8_fill 8 = .ok (.lstore_n 1, 1) := by decide +kernel
theorem dX8_fill_9 : decode cX8_fill 9 = .ok (.lload_n 1, 1) := by decide +kernel
theorem dX8_fill_10 : decode cX8_fill 10 = .ok (.ldc2_w 125, 3) := by decide +kernel
theorem dX8_fill_13 : decode cX8_fill 13 = .ok (.lcmp, 1) := by decide +kernel
theorem dX8_fill_14 : decode cX8_fill 14 = .ok (.ifCond .eq 13, 3) := by decide +kernel
theorem dX8_fill_17 : decode cX8_fill 17 = .ok (.aload_n 0, 1) := by decide +kernel
theorem dX8_fill_18 : decode cX8_fill 18 = .ok (.getfield 12, 3) := by decide +kernel
theorem dX8_fill_21 : decode cX8_fill 21 = .ok (.getfield 118, 3) := by decide +kernel
theorem dX8_fill_24 : decode cX8_fill 24 = .ok (.ifCond .ne 5, 3) := by decide +kernel
theorem dX8_fill_27 : decode cX8_fill 27 = .ok (.dconst 0, 1) := by decide +kernel
theorem dX8_fill_28 : decode cX8_fill 28 = .ok (.dreturn, 1) := by decide +kernel
theorem dX8_fill_29 : decode cX8_fill 29 = .ok (.lload_n 1, 1) := by decide +kernel
theorem dX8_fill_30 : decode cX8_fill 30 = .ok (.invokestatic 195, 3) := by decide +kernel
theorem dX8_fill_33 : decode cX8_fill 33 = .ok (.i2d, 1) := by decide +kernel
theorem dX8_fill_34 : decode cX8_fill 34 = .ok (.aload_n 0, 1) := by decide +kernel
theorem dX8_fill_35 : decode cX8_fill 35 = .ok (.getfield 12, 3) := by decide +kernel
theorem dX8_fill_38 : decode cX8_fill 38 = .ok (.getfield 118, 3) := by decide +kernel
theorem dX8_fill_41 : decode cX8_fill 41 = .ok (.i2d, 1) := by decide +kernel
theorem dX8_fill_42 : decode cX8_fill 42 = .ok (.ddiv, 1) := by decide +kernel
theorem dX8_fill_43 : decode cX8_fill 43 = .ok (.dreturn, 1) := by decide +kernel
theorem dX8_greedyShare_0 : decode cX8_greedyShare 0 = .ok (.aload_n 0, 1) := by decide +kernel
theorem dX8_greedyShare_1 : decode cX8_greedyShare 1 = .ok (.aload_n 0, 1) := by decide +kernel
theorem dX8_greedyShare_2 : decode cX8_greedyShare 2 = .ok (.getfield 12, 3) := by decide +kernel
theorem dX8_greedyShare_5 : decode cX8_greedyShare 5 = .ok (.invokevirtual 121, 3) := by decide +kernel
theorem dX8_greedyShare_8 : decode cX8_greedyShare 8 = .ok (.invokestatic 192, 3) := by decide +kernel
theorem dX8_greedyShare_11 : decode cX8_greedyShare 11 = .ok (.istore_n 1, 1) := by decide +kernel
theorem dX8_greedyShare_12 : decode cX8_greedyShare 12 = .ok (.iload_n 1, 1) := by decide +kernel
theorem dX8_greedyShare_13 : decode cX8_greedyShare 13 = .ok (.ifCond .gt 5, 3) := by decide +kernel
theorem dX8_greedyShare_16 : decode cX8_greedyShare 16 = .ok (.fconst 1, 1) := by decide +kernel
theorem dX8_greedyShare_17 : decode cX8_greedyShare 17 = .ok (.freturn, 1) := by decide +kernel
theorem dX8_greedyShare_18 : decode cX8_greedyShare 18 = .ok (.aload_n 0, 1) := by decide +kernel
theorem dX8_greedyShare_19 : decode cX8_greedyShare 19 = .ok (.getfield 43, 3) := by decide +kernel
theorem dX8_greedyShare_22 : decode cX8_greedyShare 22 = .ok (.aload_n 0, 1) := by decide +kernel
theorem dX8_greedyShare_23 : decode cX8_greedyShare 23 = .ok (.getfield 12, 3) := by decide +kernel
theorem dX8_greedyShare_26 : decode cX8_greedyShare 26 = .ok (.invokevirtual 182, 3) := by decide +kernel
theorem dX8_greedyShare_29 : decode cX8_greedyShare 29 = .ok (.aload_n 0, 1) := by decide +kernel
theorem dX8_greedyShare_30 : decode cX8_greedyShare 30 = .ok (.getfield 12, 3) := by decide +kernel
theorem dX8_greedyShare_33 : decode cX8_greedyShare 33 = .ok (.aload_n 0, 1) := by decide +kernel
theorem dX8_greedyShare_34 : decode cX8_greedyShare 34 = .ok (.getfield 43, 3) := by decide +kernel
theorem dX8_greedyShare_37 : decode cX8_greedyShare 37 = .ok (.aload_n 0, 1) := by decide +kernel
theorem dX8_greedyShare_38 : decode cX8_greedyShare 38 = .ok (.getfield 12, 3) := by decide +kernel
theorem dX8_greedyShare_41 : decode cX8_greedyShare 41 = .ok (.invokevirtual 226, 3) := by decide +kernel
theorem dX8_greedyShare_44 : decode cX8_greedyShare 44 = .ok (.invokevirtual 229, 3) := by decide +kernel
theorem dX8_greedyShare_47 : decode cX8_greedyShare 47 = .ok (.i2f, 1) := by decide +kernel
theorem dX8_greedyShare_48 : decode cX8_greedyShare 48 = .ok (.iload_n 1, 1) := by decide +kernel
theorem dX8_greedyShare_49 : decode cX8_greedyShare 49 = .ok (.i2f, 1) := by decide +kernel
theorem dX8_greedyShare_50 : decode cX8_greedyShare 50 = .ok (.fdiv, 1) := by decide +kernel
theorem dX8_greedyShare_51 : decode cX8_greedyShare 51 = .ok (.freturn, 1) := by decide +kernel
theorem dX8_violations_0 : decode cX8_violations 0 = .ok (.aload_n 0, 1) := by decide +kernel
theorem dX8_violations_1 : decode cX8_violations 1 = .ok (.aload_n 0, 1) := by decide +kernel
theorem dX8_violations_2 : decode cX8_violations 2 = .ok (.getfield 12, 3) := by decide +kernel
theorem dX8_violations_5 : decode cX8_violations 5 = .ok (.invokevirtual 121, 3) := by decide +kernel
theorem dX8_violations_8 : decode cX8_violations 8 = .ok (.lstore_n 1, 1) := by decide +kernel
theorem dX8_violations_9 : decode cX8_violations 9 = .ok (.lload_n 1, 1) := by decide +kernel
theorem dX8_violations_10 : decode cX8_violations 10 = .ok (.ldc2_w 125, 3) := by decide +kernel
theorem dX8_violations_13 : decode cX8_violations 13 = .ok (.lcmp, 1) := by decide +kernel
theorem dX8_violations_14 : decode cX8_violations 14 = .ok (.ifCond .ne 5, 3) := by decide +kernel
theorem dX8_violations_17 : decode cX8_violations 17 = .ok (.iconst 0, 1) := by decide +kernel
theorem dX8_violations_18 : decode cX8_violations 18 = .ok (.ireturn, 1) := by decide +kernel
theorem dX8_violations_19 : decode cX8_violations 19 = .ok (.lload_n 1, 1) := by decide +kernel
theorem dX8_violations_20 : decode cX8_violations 20 = .ok (.invokestatic 134, 3) := by decide +kernel
theorem dX8_violations_23 : decode cX8_violations 23 = .ok (.istore_n 3, 1) := by decide +kernel
theorem dX8_violations_24 : decode cX8_violations 24 = .ok (.iconst 0, 1) := by decide +kernel
theorem dX8_violations_25 : decode cX8_violations 25 = .ok (.istore 4, 2) := by decide +kernel
theorem dX8_violations_27 : decode cX8_violations 27 = .ok (.aload_n 0, 1) := by decide +kernel
theorem dX8_violations_28 : decode cX8_violations 28 = .ok (.iload_n 3, 1) := by decide +kernel
theorem dX8_violations_29 : decode cX8_violations 29 = .ok (.invokevirtual 252, 3) := by decide +kernel
theorem dX8_violations_32 : decode cX8_violations 32 = .ok (.ifCond .eq 6, 3) := by decide +kernel
theorem dX8_violations_35 : decode cX8_violations 35 = .ok (.iinc 4 1, 3) := by decide +kernel
theorem dX8_violations_38 : decode cX8_violations 38 = .ok (.aload_n 0, 1) := by decide +kernel
theorem dX8_violations_39 : decode cX8_violations 39 = .ok (.iload_n 3, 1) := by decide +kernel
theorem dX8_violations_40 : decode cX8_violations 40 = .ok (.invokevirtual 256, 3) := by decide +kernel
theorem dX8_violations_43 : decode cX8_violations 43 = .ok (.ifCond .eq 6, 3) := by decide +kernel
theorem dX8_violations_46 : decode cX8_violations 46 = .ok (.iinc 4 1, 3) := by decide +kernel
theorem dX8_violations_49 : decode cX8_violations 49 = .ok (.aload_n 0, 1) := by decide +kernel
theorem dX8_violations_50 : decode cX8_violations 50 = .ok (.iload_n 3, 1) := by decide +kernel
theorem dX8_violations_51 : decode cX8_violations 51 = .ok (.invokevirtual 259, 3) := by decide +kernel
theorem dX8_violations_54 : decode cX8_violations 54 = .ok (.ifCond .eq 6, 3) := by decide +kernel
theorem dX8_violations_57 : decode cX8_violations 57 = .ok (.iinc 4 1, 3) := by decide +kernel
theorem dX8_violations_60 : decode cX8_violations 60 = .ok (.iload 4, 2) := by decide +kernel
theorem dX8_violations_62 : decode cX8_violations 62 = .ok (.ireturn, 1) := by decide +kernel
theorem dX8_writeItems_0 : decode cX8_writeItems 0 = .ok (.aload_n 0, 1) := by decide +kernel
theorem dX8_writeItems_1 : decode cX8_writeItems 1 = .ok (.aload_n 0, 1) := by decide +kernel
theorem dX8_writeItems_2 : decode cX8_writeItems 2 = .ok (.getfield 12, 3) := by decide +kernel
theorem dX8_writeItems_5 : decode cX8_writeItems 5 = .ok (.invokevirtual 121, 3) := by decide +kernel
theorem dX8_writeItems_8 : decode cX8_writeItems 8 = .ok (.invokestatic 198, 3) := by decide +kernel
theorem dX8_writeItems_11 : decode cX8_writeItems 11 = .ok (.istore_n 1, 1) := by decide +kernel
theorem dX8_writeItems_12 : decode cX8_writeItems 12 = .ok (.aload_n 0, 1) := by decide +kernel
theorem dX8_writeItems_13 : decode cX8_writeItems 13 = .ok (.getfield 57, 3) := by decide +kernel
theorem dX8_writeItems_16 : decode cX8_writeItems 16 = .ok (.iconst 0, 1) := by decide +kernel
theorem dX8_writeItems_17 : decode cX8_writeItems 17 = .ok (.putfield 262, 3) := by decide +kernel
theorem dX8_writeItems_20 : decode cX8_writeItems 20 = .ok (.iconst 0, 1) := by decide +kernel
theorem dX8_writeItems_21 : decode cX8_writeItems 21 = .ok (.istore_n 2, 1) := by decide +kernel
theorem dX8_writeItems_22 : decode cX8_writeItems 22 = .ok (.iload_n 2, 1) := by decide +kernel
theorem dX8_writeItems_23 : decode cX8_writeItems 23 = .ok (.aload_n 0, 1) := by decide +kernel
theorem dX8_writeItems_24 : decode cX8_writeItems 24 = .ok (.getfield 12, 3) := by decide +kernel
theorem dX8_writeItems_27 : decode cX8_writeItems 27 = .ok (.getfield 99, 3) := by decide +kernel
theorem dX8_writeItems_30 : decode cX8_writeItems 30 = .ok (.if_icmp .ge 97, 3) := by decide +kernel
theorem dX8_writeItems_33 : decode cX8_writeItems 33 = .ok (.aload_n 0, 1) := by decide +kernel
theorem dX8_writeItems_34 : decode cX8_writeItems 34 = .ok (.getfield 57, 3) := by decide +kernel
theorem dX8_writeItems_37 : decode cX8_writeItems 37 = .ok (.aload_n 0, 1) := by decide +kernel
theorem dX8_writeItems_38 : decode cX8_writeItems 38 = .ok (.getfield 12, 3) := by decide +kernel
theorem dX8_writeItems_41 : decode cX8_writeItems 41 = .ok (.getfield 108, 3) := by decide +kernel
theorem dX8_writeItems_44 : decode cX8_writeItems 44 = .ok (.iload_n 2, 1) := by decide +kernel
theorem dX8_writeItems_45 : decode cX8_writeItems 45 = .ok (.iaload, 1) := by decide +kernel
theorem dX8_writeItems_46 : decode cX8_writeItems 46 = .ok (.aload_n 0, 1) := by decide +kernel
theorem dX8_writeItems_47 : decode cX8_writeItems 47 = .ok (.getfield 12, 3) := by decide +kernel
theorem dX8_writeItems_50 : decode cX8_writeItems 50 = .ok (.iload_n 2, 1) := by decide +kernel
theorem dX8_writeItems_51 : decode cX8_writeItems 51 = .ok (.invokevirtual 173, 3) := by decide +kernel
theorem dX8_writeItems_54 : decode cX8_writeItems 54 = .ok (.invokevirtual 263, 3) := by decide +kernel
theorem dX8_writeItems_57 : decode cX8_writeItems 57 = .ok (.aload_n 0, 1) := by decide +kernel
theorem dX8_writeItems_58 : decode cX8_writeItems 58 = .ok (.getfield 12, 3) := by decide +kernel
theorem dX8_writeItems_61 : decode cX8_writeItems 61 = .ok (.getfield 69, 3) := by decide +kernel
theorem dX8_writeItems_64 : decode cX8_writeItems 64 = .ok (.iload_n 2, 1) := by decide +kernel
theorem dX8_writeItems_65 : decode cX8_writeItems 65 = .ok (.iaload, 1) := by decide +kernel
theorem dX8_writeItems_66 : decode cX8_writeItems 66 = .ok (.iconst 1, 1) := by decide +kernel
theorem dX8_writeItems_67 : decode cX8_writeItems 67 = .ok (.if_icmp .ne 15, 3) := by decide +kernel
theorem dX8_writeItems_70 : decode cX8_writeItems 70 = .ok (.aload_n 0, 1) := by decide +kernel
theorem dX8_writeItems_71 : decode cX8_writeItems 71 = .ok (.getfield 57, 3) := by decide +kernel
theorem dX8_writeItems_74 : decode cX8_writeItems 74 = .ok (.bipush 33, 2) := by decide +kernel
theorem dX8_writeItems_76 : decode cX8_writeItems 76 = .ok (.invokevirtual 266, 3) := by decide +kernel
theorem dX8_writeItems_79 : decode cX8_writeItems 79 = .ok (.goto 25, 3) := by decide +kernel
theorem dX8_writeItems_82 : decode cX8_writeItems 82 = .ok (.aload_n 0, 1) := by decide +kernel
theorem dX8_writeItems_83 : decode cX8_writeItems 83 = .ok (.getfield 12, 3) := by decide +kernel
theorem dX8_writeItems_86 : decode cX8_writeItems 86 = .ok (.getfield 69, 3) := by decide +kernel
theorem dX8_writeItems_89 : decode cX8_writeItems 89 = .ok (.iload_n 2, 1) := by decide +kernel
theorem dX8_writeItems_90 : decode cX8_writeItems 90 = .ok (.iaload, 1) := by decide +kernel
theorem dX8_writeItems_91 : decode cX8_writeItems 91 = .ok (.iconst 2, 1) := by decide +kernel
theorem dX8_writeItems_92 : decode cX8_writeItems 92 = .ok (.if_icmp .ne 12, 3) := by decide +kernel
theorem dX8_writeItems_95 : decode cX8_writeItems 95 = .ok (.aload_n 0, 1) := by decide +kernel
theorem dX8_writeItems_96 : decode cX8_writeItems 96 = .ok (.getfield 57, 3) := by decide +kernel
theorem dX8_writeItems_99 : decode cX8_writeItems 99 = .ok (.bipush 45, 2) := by decide +kernel
theorem dX8_writeItems_101 : decode cX8_writeItems 101 = .ok (.invokevirtual 266, 3) := by decide +kernel
theorem dX8_writeItems_104 : decode cX8_writeItems 104 = .ok (.iload_n 1, 1) := by decide +kernel
theorem dX8_writeItems_105 : decode cX8_writeItems 105 = .ok (.iload_n 2, 1) := by decide +kernel
theorem dX8_writeItems_106 : decode cX8_writeItems 106 = .ok (.invokestatic 201, 3) := by decide +kernel
theorem dX8_writeItems_109 : decode cX8_writeItems 109 = .ok (.ifCond .eq 12, 3) := by decide +kernel
theorem dX8_writeItems_112 : decode cX8_writeItems 112 = .ok (.aload_n 0, 1) := by decide +kernel
theorem dX8_writeItems_113 : decode cX8_writeItems 113 = .ok (.getfield 57, 3) := by decide +kernel
theorem dX8_writeItems_116 : decode cX8_writeItems 116 = .ok (.bipush 42, 2) := by decide +kernel
theorem dX8_writeItems_118 : decode cX8_writeItems 118 = .ok (.invokevirtual 266, 3) := by decide +kernel
theorem dX8_writeItems_121 : decode cX8_writeItems 121 = .ok (.iinc 2 1, 3) := by decide +kernel
theorem dX8_writeItems_124 : decode cX8_writeItems 124 = .ok (.goto (-102), 3) := by decide +kernel
theorem dX8_writeItems_127 : decode cX8_writeItems 127 = .ok (.aload_n 0, 1) := by decide +kernel
theorem dX8_writeItems_128 : decode cX8_writeItems 128 = .ok (.getfield 57, 3) := by decide +kernel
theorem dX8_writeItems_131 : decode cX8_writeItems 131 = .ok (.getfield 262, 3) := by decide +kernel
theorem dX8_writeItems_134 : decode cX8_writeItems 134 = .ok (.ireturn, 1) := by decide +kernel
theorem dX8_writeRow_0 : decode cX8_writeRow 0 = .ok (.aload_n 0, 1) := by decide +kernel
theorem dX8_writeRow_1 : decode cX8_writeRow 1 = .ok (.iload_n 1, 1) := by decide +kernel
theorem dX8_writeRow_2 : decode cX8_writeRow 2 = .ok (.iconst 0, 1) := by decide +kernel
theorem dX8_writeRow_3 : decode cX8_writeRow 3 = .ok (.iconst 0, 1) := by decide +kernel
theorem dX8_writeRow_4 : decode cX8_writeRow 4 = .ok (.invokevirtual 220, 3) := by decide +kernel
theorem dX8_writeRow_7 : decode cX8_writeRow 7 = .ok (.aload_n 0, 1) := by decide +kernel
theorem dX8_writeRow_8 : decode cX8_writeRow 8 = .ok (.getfield 36, 3) := by decide +kernel
theorem dX8_writeRow_11 : decode cX8_writeRow 11 = .ok (.aload_n 0, 1) := by decide +kernel
theorem dX8_writeRow_12 : decode cX8_writeRow 12 = .ok (.getfield 12, 3) := by decide +kernel
theorem dX8_writeRow_15 : decode cX8_writeRow 15 = .ok (.bipush 100, 2) := by decide +kernel
theorem dX8_writeRow_17 : decode cX8_writeRow 17 = .ok (.invokevirtual 205, 3) := by decide +kernel
theorem dX8_writeRow_20 : decode cX8_writeRow 20 = .ok (.aload_n 0, 1) := by decide +kernel
theorem dX8_writeRow_21 : decode cX8_writeRow 21 = .ok (.getfield 57, 3) := by decide +kernel
theorem dX8_writeRow_24 : decode cX8_writeRow 24 = .ok (.iconst 0, 1) := by decide +kernel
theorem dX8_writeRow_25 : decode cX8_writeRow 25 = .ok (.putfield 262, 3) := by decide +kernel
theorem dX8_writeRow_28 : decode cX8_writeRow 28 = .ok (.iconst 0, 1) := by decide +kernel
theorem dX8_writeRow_29 : decode cX8_writeRow 29 = .ok (.istore_n 2, 1) := by decide +kernel
theorem dX8_writeRow_30 : decode cX8_writeRow 30 = .ok (.iload_n 2, 1) := by decide +kernel
theorem dX8_writeRow_31 : decode cX8_writeRow 31 = .ok (.bipush 100, 2) := by decide +kernel
theorem dX8_writeRow_33 : decode cX8_writeRow 33 = .ok (.if_icmp .gt 47, 3) := by decide +kernel
theorem dX8_writeRow_36 : decode cX8_writeRow 36 = .ok (.aload_n 0, 1) := by decide +kernel
theorem dX8_writeRow_37 : decode cX8_writeRow 37 = .ok (.getfield 36, 3) := by decide +kernel
theorem dX8_writeRow_40 : decode cX8_writeRow 40 = .ok (.iload_n 1, 1) := by decide +kernel
theorem dX8_writeRow_41 : decode cX8_writeRow 41 = .ok (.iload_n 2, 1) := by decide +kernel
theorem dX8_writeRow_42 : decode cX8_writeRow 42 = .ok (.invokevirtual 223, 3) := by decide +kernel
theorem dX8_writeRow_45 : decode cX8_writeRow 45 = .ok (.istore_n 3, 1) := by decide +kernel
theorem dX8_writeRow_46 : decode cX8_writeRow 46 = .ok (.iload_n 2, 1) := by decide +kernel
theorem dX8_writeRow_47 : decode cX8_writeRow 47 = .ok (.ifCond .eq 18, 3) := by decide +kernel
theorem dX8_writeRow_50 : decode cX8_writeRow 50 = .ok (.iload_n 3, 1) := by decide +kernel
theorem dX8_writeRow_51 : decode cX8_writeRow 51 = .ok (.aload_n 0, 1) := by decide +kernel
theorem dX8_writeRow_52 : decode cX8_writeRow 52 = .ok (.getfield 36, 3) := by decide +kernel
theorem dX8_writeRow_55 : decode cX8_writeRow 55 = .ok (.iload_n 1, 1) := by decide +kernel
theorem dX8_writeRow_56 : decode cX8_writeRow 56 = .ok (.iload_n 2, 1) := by decide +kernel
theorem dX8_writeRow_57 : decode cX8_writeRow 57 = .ok (.iconst 1, 1) := by decide +kernel
theorem dX8_writeRow_58 : decode cX8_writeRow 58 = .ok (.isub, 1) := by decide +kernel
theorem dX8_writeRow_59 : decode cX8_writeRow 59 = .ok (.invokevirtual 223, 3) := by decide +kernel
theorem dX8_writeRow_62 : decode cX8_writeRow 62 = .ok (.if_icmp .le 12, 3) := by decide +kernel
theorem dX8_writeRow_65 : decode cX8_writeRow 65 = .ok (.aload_n 0, 1) := by decide +kernel
theorem dX8_writeRow_66 : decode cX8_writeRow 66 = .ok (.getfield 57, 3) := by decide +kernel
theorem dX8_writeRow_69 : decode cX8_writeRow 69 = .ok (.iload_n 2, 1) := by decide +kernel
theorem dX8_writeRow_70 : decode cX8_writeRow 70 = .ok (.iload_n 3, 1) := by decide +kernel
theorem dX8_writeRow_71 : decode cX8_writeRow 71 = .ok (.invokevirtual 263, 3) := by decide +kernel
theorem dX8_writeRow_74 : decode cX8_writeRow 74 = .ok (.iinc 2 1, 3) := by decide +kernel
theorem dX8_writeRow_77 : decode cX8_writeRow 77 = .ok (.goto (-47), 3) := by decide +kernel
theorem dX8_writeRow_80 : decode cX8_writeRow 80 = .ok (.aload_n 0, 1) := by decide +kernel
theorem dX8_writeRow_81 : decode cX8_writeRow 81 = .ok (.getfield 57, 3) := by decide +kernel
theorem dX8_writeRow_84 : decode cX8_writeRow 84 = .ok (.getfield 262, 3) := by decide +kernel
theorem dX8_writeRow_87 : decode cX8_writeRow 87 = .ok (.ireturn, 1) := by decide +kernel
theorem dX8_reportByte_0 : decode cX8_reportByte 0 = .ok (.aload_n 0, 1) := by decide +kernel
theorem dX8_reportByte_1 : decode cX8_reportByte 1 = .ok (.getfield 57, 3) := by decide +kernel
theorem dX8_reportByte_4 : decode cX8_reportByte 4 = .ok (.iload_n 1, 1) := by decide +kernel
theorem dX8_reportByte_5 : decode cX8_reportByte 5 = .ok (.invokevirtual 269, 3) := by decide +kernel
theorem dX8_reportByte_8 : decode cX8_reportByte 8 = .ok (.ireturn, 1) := by decide +kernel
theorem dX8_requireWithin_0 : decode cX8_requireWithin 0 = .ok (.iload_n 0, 1) := by decide +kernel
theorem dX8_requireWithin_1 : decode cX8_requireWithin 1 = .ok (.iload_n 1, 1) := by decide +kernel
theorem dX8_requireWithin_2 : decode cX8_requireWithin 2 = .ok (.if_icmp .lt 8, 3) := by decide +kernel
theorem dX8_requireWithin_5 : decode cX8_requireWithin 5 = .ok (.iload_n 0, 1) := by decide +kernel
theorem dX8_requireWithin_6 : decode cX8_requireWithin 6 = .ok (.iload_n 2, 1) := by decide +kernel
theorem dX8_requireWithin_7 : decode cX8_requireWithin 7 = .ok (.if_icmp .le 14, 3) := by decide +kernel
theorem dX8_requireWithin_10 : decode cX8_requireWithin 10 = .ok (.new 272, 3) := by decide +kernel
theorem dX8_requireWithin_13 : decode cX8_requireWithin 13 = .ok (.dup, 1) := by decide +kernel
theorem dX8_requireWithin_14 : decode cX8_requireWithin 14 = .ok (.ldc_w 274, 3) := by decide +kernel
theorem dX8_requireWithin_17 : decode cX8_requireWithin 17 = .ok (.invokespecial 276, 3) := by decide +kernel
theorem dX8_requireWithin_20 : decode cX8_requireWithin 20 = .ok (.athrow, 1) := by decide +kernel
theorem dX8_requireWithin_21 : decode cX8_requireWithin 21 = .ok (.return_, 1) := by decide +kernel
theorem dX8_requireItem_0 : decode cX8_requireItem 0 = .ok (.iload_n 1, 1) := by decide +kernel
theorem dX8_requireItem_1 : decode cX8_requireItem 1 = .ok (.ifCond .lt 14, 3) := by decide +kernel
theorem dX8_requireItem_4 : decode cX8_requireItem 4 = .ok (.iload_n 1, 1) := by decide +kernel
theorem dX8_requireItem_5 : decode cX8_requireItem 5 = .ok (.aload_n 0, 1) := by decide +kernel
theorem dX8_requireItem_6 : decode cX8_requireItem 6 = .ok (.getfield 12, 3) := by decide +kernel
theorem dX8_requireItem_9 : decode cX8_requireItem 9 = .ok (.getfield 99, 3) := by decide +kernel
theorem dX8_requireItem_12 : decode cX8_requireItem 12 = .ok (.if_icmp .lt 14, 3) := by decide +kernel
theorem dX8_requireItem_15 : decode cX8_requireItem 15 = .ok (.new 277, 3) := by decide +kernel
theorem dX8_requireItem_18 : decode cX8_requireItem 18 = .ok (.dup, 1) := by decide +kernel
theorem dX8_requireItem_19 : decode cX8_requireItem 19 = .ok (.ldc_w 279, 3) := by decide +kernel
theorem dX8_requireItem_22 : decode cX8_requireItem 22 = .ok (.invokespecial 281, 3) := by decide +kernel
theorem dX8_requireItem_25 : decode cX8_requireItem 25 = .ok (.athrow, 1) := by decide +kernel
theorem dX8_requireItem_26 : decode cX8_requireItem 26 = .ok (.return_, 1) := by decide +kernel
theorem dX8_requireCell_0 : decode cX8_requireCell 0 = .ok (.iload_n 1, 1) := by decide +kernel
theorem dX8_requireCell_1 : decode cX8_requireCell 1 = .ok (.iload_n 2, 1) := by decide +kernel
theorem dX8_requireCell_2 : decode cX8_requireCell 2 = .ok (.if_icmp .lt 28, 3) := by decide +kernel
theorem dX8_requireCell_5 : decode cX8_requireCell 5 = .ok (.iload_n 1, 1) := by decide +kernel
theorem dX8_requireCell_6 : decode cX8_requireCell 6 = .ok (.aload_n 0, 1) := by decide +kernel
theorem dX8_requireCell_7 : decode cX8_requireCell 7 = .ok (.getfield 12, 3) := by decide +kernel
theorem dX8_requireCell_10 : decode cX8_requireCell 10 = .ok (.iconst 0, 1) := by decide +kernel
theorem dX8_requireCell_11 : decode cX8_requireCell 11 = .ok (.invokevirtual 176, 3) := by decide +kernel
theorem dX8_requireCell_14 : decode cX8_requireCell 14 = .ok (.invokestatic 150, 3) := by decide +kernel
theorem dX8_requireCell_17 : decode cX8_requireCell 17 = .ok (.if_icmp .gt 13, 3) := by decide +kernel
theorem dX8_requireCell_20 : decode cX8_requireCell 20 = .ok (.iload_n 3, 1) := by decide +kernel
theorem dX8_requireCell_21 : decode cX8_requireCell 21 = .ok (.ifCond .lt 9, 3) := by decide +kernel
theorem dX8_requireCell_24 : decode cX8_requireCell 24 = .ok (.iload_n 3, 1) := by decide +kernel
theorem dX8_requireCell_25 : decode cX8_requireCell 25 = .ok (.bipush 100, 2) := by decide +kernel
theorem dX8_requireCell_27 : decode cX8_requireCell 27 = .ok (.if_icmp .le 14, 3) := by decide +kernel
theorem dX8_requireCell_30 : decode cX8_requireCell 30 = .ok (.new 277, 3) := by decide +kernel
theorem dX8_requireCell_33 : decode cX8_requireCell 33 = .ok (.dup, 1) := by decide +kernel
theorem dX8_requireCell_34 : decode cX8_requireCell 34 = .ok (.ldc_w 282, 3) := by decide +kernel
theorem dX8_requireCell_37 : decode cX8_requireCell 37 = .ok (.invokespecial 281, 3) := by decide +kernel
theorem dX8_requireCell_40 : decode cX8_requireCell 40 = .ok (.athrow, 1) := by decide +kernel
theorem dX8_requireCell_41 : decode cX8_requireCell 41 = .ok (.return_, 1) := by decide +kernel
theorem dX8_changeState_0 : decode cX8_changeState 0 = .ok (.aload_n 0, 1) := by decide +kernel
theorem dX8_changeState_1 : decode cX8_changeState 1 = .ok (.iload_n 1, 1) := by decide +kernel
theorem dX8_changeState_2 : decode cX8_changeState 2 = .ok (.invokevirtual 102, 3) := by decide +kernel
theorem dX8_changeState_5 : decode cX8_changeState 5 = .ok (.aload_n 0, 1) := by decide +kernel
theorem dX8_changeState_6 : decode cX8_changeState 6 = .ok (.getfield 29, 3) := by decide +kernel
theorem dX8_changeState_9 : decode cX8_changeState 9 = .ok (.aload_n 0, 1) := by decide +kernel
theorem dX8_changeState_10 : decode cX8_changeState 10 = .ok (.getfield 12, 3) := by decide +kernel
theorem dX8_changeState_13 : decode cX8_changeState 13 = .ok (.invokevirtual 92, 3) := by decide +kernel
theorem dX8_changeState_16 : decode cX8_changeState 16 = .ok (.aload_n 0, 1) := by decide +kernel
theorem dX8_changeState_17 : decode cX8_changeState 17 = .ok (.getfield 12, 3) := by decide +kernel
theorem dX8_changeState_20 : decode cX8_changeState 20 = .ok (.getfield 69, 3) := by decide +kernel
theorem dX8_changeState_23 : decode cX8_changeState 23 = .ok (.iload_n 1, 1) := by decide +kernel
theorem dX8_changeState_24 : decode cX8_changeState 24 = .ok (.iaload, 1) := by decide +kernel
theorem dX8_changeState_25 : decode cX8_changeState 25 = .ok (.istore_n 3, 1) := by decide +kernel
theorem dX8_changeState_26 : decode cX8_changeState 26 = .ok (.aload_n 0, 1) := by decide +kernel
theorem dX8_changeState_27 : decode cX8_changeState 27 = .ok (.getfield 12, 3) := by decide +kernel
theorem dX8_changeState_30 : decode cX8_changeState 30 = .ok (.getfield 69, 3) := by decide +kernel
theorem dX8_changeState_33 : decode cX8_changeState 33 = .ok (.iload_n 1, 1) := by decide +kernel
theorem dX8_changeState_34 : decode cX8_changeState 34 = .ok (.iload_n 2, 1) := by decide +kernel
theorem dX8_changeState_35 : decode cX8_changeState 35 = .ok (.iastore, 1) := by decide +kernel
theorem dX8_changeState_36 : decode cX8_changeState 36 = .ok (.iload_n 3, 1) := by decide +kernel
theorem dX8_changeState_37 : decode cX8_changeState 37 = .ok (.ireturn, 1) := by decide +kernel
theorem dX8_backUpAll_0 : decode cX8_backUpAll 0 = .ok (.iconst 0, 1) := by decide +kernel
theorem dX8_backUpAll_1 : decode cX8_backUpAll 1 = .ok (.istore_n 3, 1) := by decide +kernel
theorem dX8_backUpAll_2 : decode cX8_backUpAll 2 = .ok (.iconst 0, 1) := by decide +kernel
theorem dX8_backUpAll_3 : decode cX8_backUpAll 3 = .ok (.istore 4, 2) := by decide +kernel
theorem dX8_backUpAll_5 : decode cX8_backUpAll 5 = .ok (.iload 4, 2) := by decide +kernel
theorem dX8_backUpAll_7 : decode cX8_backUpAll 7 = .ok (.iload_n 2, 1) := by decide +kernel
theorem dX8_backUpAll_8 : decode cX8_backUpAll 8 = .ok (.if_icmp .ge 20, 3) := by decide +kernel
theorem dX8_backUpAll_11 : decode cX8_backUpAll 11 = .ok (.iload_n 3, 1) := by decide +kernel
theorem dX8_backUpAll_12 : decode cX8_backUpAll 12 = .ok (.aload_n 1, 1) := by decide +kernel
theorem dX8_backUpAll_13 : decode cX8_backUpAll 13 = .ok (.aload_n 0, 1) := by decide +kernel
theorem dX8_backUpAll_14 : decode cX8_backUpAll 14 = .ok (.getfield 36, 3) := by decide +kernel
theorem dX8_backUpAll_17 : decode cX8_backUpAll 17 = .ok (.invokevirtual 142, 3) := by decide +kernel
theorem dX8_backUpAll_20 : decode cX8_backUpAll 20 = .ok (.ior, 1) := by decide +kernel
theorem dX8_backUpAll_21 : decode cX8_backUpAll 21 = .ok (.istore_n 3, 1) := by decide +kernel
theorem dX8_backUpAll_22 : decode cX8_backUpAll 22 = .ok (.iinc 4 1, 3) := by decide +kernel
theorem dX8_backUpAll_25 : decode cX8_backUpAll 25 = .ok (.goto (-20), 3) := by decide +kernel
theorem dX8_backUpAll_28 : decode cX8_backUpAll 28 = .ok (.iload_n 3, 1) := by decide +kernel
theorem dX8_backUpAll_29 : decode cX8_backUpAll 29 = .ok (.ireturn, 1) := by decide +kernel
theorem dX8_bestRank_0 : decode cX8_bestRank 0 = .ok (.aload_n 0, 1) := by decide +kernel
theorem dX8_bestRank_1 : decode cX8_bestRank 1 = .ok (.getfield 36, 3) := by decide +kernel
theorem dX8_bestRank_4 : decode cX8_bestRank 4 = .ok (.aload_n 1, 1) := by decide +kernel
theorem dX8_bestRank_5 : decode cX8_bestRank 5 = .ok (.aload_n 1, 1) := by decide +kernel
theorem dX8_bestRank_6 : decode cX8_bestRank 6 = .ok (.getfield 118, 3) := by decide +kernel
theorem dX8_bestRank_9 : decode cX8_bestRank 9 = .ok (.invokevirtual 205, 3) := by decide +kernel
theorem dX8_bestRank_12 : decode cX8_bestRank 12 = .ok (.aload_n 0, 1) := by decide +kernel
theorem dX8_bestRank_13 : decode cX8_bestRank 13 = .ok (.getfield 36, 3) := by decide +kernel
theorem dX8_bestRank_16 : decode cX8_bestRank 16 = .ok (.aload_n 1, 1) := by decide +kernel
theorem dX8_bestRank_17 : decode cX8_bestRank 17 = .ok (.getfield 118, 3) := by decide +kernel
theorem dX8_bestRank_20 : decode cX8_bestRank 20 = .ok (.invokevirtual 213, 3) := by decide +kernel
theorem dX8_bestRank_23 : decode cX8_bestRank 23 = .ok (.lreturn, 1) := by decide +kernel
theorem dX8_rankIfState_0 : decode cX8_rankIfState 0 = .ok (.aload_n 0, 1) := by decide +kernel
theorem dX8_rankIfState_1 : decode cX8_rankIfState 1 = .ok (.getfield 16, 3) := by decide +kernel
theorem dX8_rankIfState_4 : decode cX8_rankIfState 4 = .ok (.aload_n 0, 1) := by decide +kernel
theorem dX8_rankIfState_5 : decode cX8_rankIfState 5 = .ok (.getfield 12, 3) := by decide +kernel
theorem dX8_rankIfState_8 : decode cX8_rankIfState 8 = .ok (.invokevirtual 96, 3) := by decide +kernel
theorem dX8_rankIfState_11 : decode cX8_rankIfState 11 = .ok (.aload_n 0, 1) := by decide +kernel
theorem dX8_rankIfState_12 : decode cX8_rankIfState 12 = .ok (.getfield 16, 3) := by decide +kernel
theorem dX8_rankIfState_15 : decode cX8_rankIfState 15 = .ok (.getfield 69, 3) := by decide +kernel
theorem dX8_rankIfState_18 : decode cX8_rankIfState 18 = .ok (.iload_n 1, 1) := by decide +kernel
theorem dX8_rankIfState_19 : decode cX8_rankIfState 19 = .ok (.iload_n 2, 1) := by decide +kernel
theorem dX8_rankIfState_20 : decode cX8_rankIfState 20 = .ok (.iastore, 1) := by decide +kernel
theorem dX8_rankIfState_21 : decode cX8_rankIfState 21 = .ok (.aload_n 0, 1) := by decide +kernel
theorem dX8_rankIfState_22 : decode cX8_rankIfState 22 = .ok (.aload_n 0, 1) := by decide +kernel
theorem dX8_rankIfState_23 : decode cX8_rankIfState 23 = .ok (.getfield 16, 3) := by decide +kernel
theorem dX8_rankIfState_26 : decode cX8_rankIfState 26 = .ok (.invokevirtual 121, 3) := by decide +kernel
theorem dX8_rankIfState_29 : decode cX8_rankIfState 29 = .ok (.lreturn, 1) := by decide +kernel
theorem dX8_firstCapacity_0 : decode cX8_firstCapacity 0 = .ok (.aload_n 0, 1) := by decide +kernel
theorem dX8_firstCapacity_1 : decode cX8_firstCapacity 1 = .ok (.getfield 36, 3) := by decide +kernel
theorem dX8_firstCapacity_4 : decode cX8_firstCapacity 4 = .ok (.aload_n 0, 1) := by decide +kernel
theorem dX8_firstCapacity_5 : decode cX8_firstCapacity 5 = .ok (.getfield 12, 3) := by decide +kernel
theorem dX8_firstCapacity_8 : decode cX8_firstCapacity 8 = .ok (.bipush 100, 2) := by decide +kernel
theorem dX8_firstCapacity_10 : decode cX8_firstCapacity 10 = .ok (.invokevirtual 205, 3) := by decide +kernel
theorem dX8_firstCapacity_13 : decode cX8_firstCapacity 13 = .ok (.iload_n 1, 1) := by decide +kernel
theorem dX8_firstCapacity_14 : decode cX8_firstCapacity 14 = .ok (.istore_n 3, 1) := by decide +kernel
theorem dX8_firstCapacity_15 : decode cX8_firstCapacity 15 = .ok (.iload_n 3, 1) := by decide +kernel
theorem dX8_firstCapacity_16 : decode cX8_firstCapacity 16 = .ok (.bipush 100, 2) := by decide +kernel
theorem dX8_firstCapacity_18 : decode cX8_firstCapacity 18 = .ok (.if_icmp .gt 26, 3) := by decide +kernel
theorem dX8_firstCapacity_21 : decode cX8_firstCapacity 21 = .ok (.aload_n 0, 1) := by decide +kernel
theorem dX8_firstCapacity_22 : decode cX8_firstCapacity 22 = .ok (.getfield 36, 3) := by decide +kernel
theorem dX8_firstCapacity_25 : decode cX8_firstCapacity 25 = .ok (.iload_n 3, 1) := by decide +kernel
theorem dX8_firstCapacity_26 : decode cX8_firstCapacity 26 = .ok (.invokevirtual 213, 3) := by decide +kernel
theorem dX8_firstCapacity_29 : decode cX8_firstCapacity 29 = .ok (.invokestatic 192, 3) := by decide +kernel
theorem dX8_firstCapacity_32 : decode cX8_firstCapacity 32 = .ok (.iload_n 2, 1) := by decide +kernel
theorem dX8_firstCapacity_33 : decode cX8_firstCapacity 33 = .ok (.if_icmp .lt 5, 3) := by decide +kernel
theorem dX8_firstCapacity_36 : decode cX8_firstCapacity 36 = .ok (.iload_n 3, 1) := by decide +kernel
theorem dX8_firstCapacity_37 : decode cX8_firstCapacity 37 = .ok (.ireturn, 1) := by decide +kernel
theorem dX8_firstCapacity_38 : decode cX8_firstCapacity 38 = .ok (.iinc 3 1, 3) := by decide +kernel
theorem dX8_firstCapacity_41 : decode cX8_firstCapacity 41 = .ok (.goto (-26), 3) := by decide +kernel
theorem dX8_firstCapacity_44 : decode cX8_firstCapacity 44 = .ok (.iconst (-1), 1) := by decide +kernel
theorem dX8_firstCapacity_45 : decode cX8_firstCapacity 45 = .ok (.ireturn, 1) := by decide +kernel
theorem dX8_differsFromTable_0 : decode cX8_differsFromTable 0 = .ok (.aload_n 0, 1) := by decide +kernel
theorem dX8_differsFromTable_1 : decode cX8_differsFromTable 1 = .ok (.getfield 36, 3) := by decide +kernel
theorem dX8_differsFromTable_4 : decode cX8_differsFromTable 4 = .ok (.aload_n 0, 1) := by decide +kernel
theorem dX8_differsFromTable_5 : decode cX8_differsFromTable 5 = .ok (.getfield 12, 3) := by decide +kernel
theorem dX8_differsFromTable_8 : decode cX8_differsFromTable 8 = .ok (.bipush 100, 2) := by decide +kernel
theorem dX8_differsFromTable_10 : decode cX8_differsFromTable 10 = .ok (.invokevirtual 205, 3) := by decide +kernel
theorem dX8_differsFromTable_13 : decode cX8_differsFromTable 13 = .ok (.aload_n 0, 1) := by decide +kernel
theorem dX8_differsFromTable_14 : decode cX8_differsFromTable 14 = .ok (.getfield 36, 3) := by decide +kernel
theorem dX8_differsFromTable_17 : decode cX8_differsFromTable 17 = .ok (.aload_n 0, 1) := by decide +kernel
theorem dX8_differsFromTable_18 : decode cX8_differsFromTable 18 = .ok (.getfield 36, 3) := by decide +kernel
theorem dX8_differsFromTable_21 : decode cX8_differsFromTable 21 = .ok (.getfield 284, 3) := by decide +kernel
theorem dX8_differsFromTable_24 : decode cX8_differsFromTable 24 = .ok (.aload_n 0, 1) := by decide +kernel
theorem dX8_differsFromTable_25 : decode cX8_differsFromTable 25 = .ok (.getfield 12, 3) := by decide +kernel
theorem dX8_differsFromTable_28 : decode cX8_differsFromTable 28 = .ok (.invokevirtual 189, 3) := by decide +kernel
theorem dX8_differsFromTable_31 : decode cX8_differsFromTable 31 = .ok (.invokevirtual 223, 3) := by decide +kernel
theorem dX8_differsFromTable_34 : decode cX8_differsFromTable 34 = .ok (.aload_n 0, 1) := by decide +kernel
theorem dX8_differsFromTable_35 : decode cX8_differsFromTable 35 = .ok (.getfield 12, 3) := by decide +kernel
theorem dX8_differsFromTable_38 : decode cX8_differsFromTable 38 = .ok (.aload_n 0, 1) := by decide +kernel
theorem dX8_differsFromTable_39 : decode cX8_differsFromTable 39 = .ok (.getfield 12, 3) := by decide +kernel
theorem dX8_differsFromTable_42 : decode cX8_differsFromTable 42 = .ok (.iconst 1, 1) := by decide +kernel
theorem dX8_differsFromTable_43 : decode cX8_differsFromTable 43 = .ok (.invokevirtual 176, 3) := by decide +kernel
theorem dX8_differsFromTable_46 : decode cX8_differsFromTable 46 = .ok (.invokevirtual 229, 3) := by decide +kernel
theorem dX8_differsFromTable_49 : decode cX8_differsFromTable 49 = .ok (.iadd, 1) := by decide +kernel
theorem dX8_differsFromTable_50 : decode cX8_differsFromTable 50 = .ok (.istore_n 2, 1) := by decide +kernel
theorem dX8_differsFromTable_51 : decode cX8_differsFromTable 51 = .ok (.aload_n 0, 1) := by decide +kernel
theorem dX8_differsFromTable_52 : decode cX8_differsFromTable 52 = .ok (.getfield 12, 3) := by decide +kernel
theorem dX8_differsFromTable_55 : decode cX8_differsFromTable 55 = .ok (.iload_n 1, 1) := by decide +kernel
theorem dX8_differsFromTable_56 : decode cX8_differsFromTable 56 = .ok (.invokevirtual 229, 3) := by decide +kernel
theorem dX8_differsFromTable_59 : decode cX8_differsFromTable 59 = .ok (.iload_n 2, 1) := by decide +kernel
theorem dX8_differsFromTable_60 : decode cX8_differsFromTable 60 = .ok (.if_icmp .eq 7, 3) := by decide +kernel
theorem dX8_differsFromTable_63 : decode cX8_differsFromTable 63 = .ok (.iconst 1, 1) := by decide +kernel
theorem dX8_differsFromTable_64 : decode cX8_differsFromTable 64 = .ok (.goto 4, 3) := by decide +kernel
theorem dX8_differsFromTable_67 : decode cX8_differsFromTable 67 = .ok (.iconst 0, 1) := by decide +kernel
theorem dX8_differsFromTable_68 : decode cX8_differsFromTable 68 = .ok (.ireturn, 1) := by decide +kernel
theorem dX8_isForbidden_0 : decode cX8_isForbidden 0 = .ok (.aload_n 0, 1) := by decide +kernel
theorem dX8_isForbidden_1 : decode cX8_isForbidden 1 = .ok (.getfield 12, 3) := by decide +kernel
theorem dX8_isForbidden_4 : decode cX8_isForbidden 4 = .ok (.iconst 1, 1) := by decide +kernel
theorem dX8_isForbidden_5 : decode cX8_isForbidden 5 = .ok (.invokevirtual 176, 3) := by decide +kernel
theorem dX8_isForbidden_8 : decode cX8_isForbidden 8 = .ok (.istore_n 2, 1) := by decide +kernel
theorem dX8_isForbidden_9 : decode cX8_isForbidden 9 = .ok (.aload_n 0, 1) := by decide +kernel
theorem dX8_isForbidden_10 : decode cX8_isForbidden 10 = .ok (.getfield 12, 3) := by decide +kernel
theorem dX8_isForbidden_13 : decode cX8_isForbidden 13 = .ok (.iload_n 1, 1) := by decide +kernel
theorem dX8_isForbidden_14 : decode cX8_isForbidden 14 = .ok (.invokevirtual 179, 3) := by decide +kernel
theorem dX8_isForbidden_17 : decode cX8_isForbidden 17 = .ok (.aload_n 0, 1) := by decide +kernel
theorem dX8_isForbidden_18 : decode cX8_isForbidden 18 = .ok (.getfield 12, 3) := by decide +kernel
theorem dX8_isForbidden_21 : decode cX8_isForbidden 21 = .ok (.getfield 118, 3) := by decide +kernel
theorem dX8_isForbidden_24 : decode cX8_isForbidden 24 = .ok (.if_icmp .gt 23, 3) := by decide +kernel
theorem dX8_isForbidden_27 : decode cX8_isForbidden 27 = .ok (.iload_n 1, 1) := by decide +kernel
theorem dX8_isForbidden_28 : decode cX8_isForbidden 28 = .ok (.aload_n 0, 1) := by decide +kernel
theorem dX8_isForbidden_29 : decode cX8_isForbidden 29 = .ok (.getfield 12, 3) := by decide +kernel
theorem dX8_isForbidden_32 : decode cX8_isForbidden 32 = .ok (.iconst 2, 1) := by decide +kernel
theorem dX8_isForbidden_33 : decode cX8_isForbidden 33 = .ok (.invokevirtual 176, 3) := by decide +kernel
theorem dX8_isForbidden_36 : decode cX8_isForbidden 36 = .ok (.iand, 1) := by decide +kernel
theorem dX8_isForbidden_37 : decode cX8_isForbidden 37 = .ok (.ifCond .ne 10, 3) := by decide +kernel
theorem dX8_isForbidden_40 : decode cX8_isForbidden 40 = .ok (.iload_n 1, 1) := by decide +kernel
theorem dX8_isForbidden_41 : decode cX8_isForbidden 41 = .ok (.iload_n 2, 1) := by decide +kernel
theorem dX8_isForbidden_42 : decode cX8_isForbidden 42 = .ok (.iand, 1) := by decide +kernel
theorem dX8_isForbidden_43 : decode cX8_isForbidden 43 = .ok (.iload_n 2, 1) := by decide +kernel
theorem dX8_isForbidden_44 : decode cX8_isForbidden 44 = .ok (.if_icmp .eq 7, 3) := by decide +kernel
theorem dX8_isForbidden_47 : decode cX8_isForbidden 47 = .ok (.iconst 1, 1) := by decide +kernel
theorem dX8_isForbidden_48 : decode cX8_isForbidden 48 = .ok (.goto 4, 3) := by decide +kernel
theorem dX8_isForbidden_51 : decode cX8_isForbidden 51 = .ok (.iconst 0, 1) := by decide +kernel
theorem dX8_isForbidden_52 : decode cX8_isForbidden 52 = .ok (.ireturn, 1) := by decide +kernel
theorem dX8_isOutOfBounds_0 : decode cX8_isOutOfBounds 0 = .ok (.aload_n 0, 1) := by decide +kernel
theorem dX8_isOutOfBounds_1 : decode cX8_isOutOfBounds 1 = .ok (.getfield 43, 3) := by decide +kernel
theorem dX8_isOutOfBounds_4 : decode cX8_isOutOfBounds 4 = .ok (.aload_n 0, 1) := by decide +kernel
theorem dX8_isOutOfBounds_5 : decode cX8_isOutOfBounds 5 = .ok (.getfield 12, 3) := by decide +kernel
theorem dX8_isOutOfBounds_8 : decode cX8_isOutOfBounds 8 = .ok (.invokevirtual 182, 3) := by decide +kernel
theorem dX8_isOutOfBounds_11 : decode cX8_isOutOfBounds 11 = .ok (.aload_n 0, 1) := by decide +kernel
theorem dX8_isOutOfBounds_12 : decode cX8_isOutOfBounds 12 = .ok (.getfield 12, 3) := by decide +kernel
theorem dX8_isOutOfBounds_15 : decode cX8_isOutOfBounds 15 = .ok (.iload_n 1, 1) := by decide +kernel
theorem dX8_isOutOfBounds_16 : decode cX8_isOutOfBounds 16 = .ok (.invokevirtual 229, 3) := by decide +kernel
theorem dX8_isOutOfBounds_19 : decode cX8_isOutOfBounds 19 = .ok (.istore_n 2, 1) := by decide +kernel
theorem dX8_isOutOfBounds_20 : decode cX8_isOutOfBounds 20 = .ok (.aload_n 0, 1) := by decide +kernel
theorem dX8_isOutOfBounds_21 : decode cX8_isOutOfBounds 21 = .ok (.getfield 12, 3) := by decide +kernel
theorem dX8_isOutOfBounds_24 : decode cX8_isOutOfBounds 24 = .ok (.aload_n 0, 1) := by decide +kernel
theorem dX8_isOutOfBounds_25 : decode cX8_isOutOfBounds 25 = .ok (.getfield 43, 3) := by decide +kernel
theorem dX8_isOutOfBounds_28 : decode cX8_isOutOfBounds 28 = .ok (.aload_n 0, 1) := by decide +kernel
theorem dX8_isOutOfBounds_29 : decode cX8_isOutOfBounds 29 = .ok (.getfield 12, 3) := by decide +kernel
theorem dX8_isOutOfBounds_32 : decode cX8_isOutOfBounds 32 = .ok (.invokevirtual 226, 3) := by decide +kernel
theorem dX8_isOutOfBounds_35 : decode cX8_isOutOfBounds 35 = .ok (.invokevirtual 229, 3) := by decide +kernel
theorem dX8_isOutOfBounds_38 : decode cX8_isOutOfBounds 38 = .ok (.iload_n 2, 1) := by decide +kernel
theorem dX8_isOutOfBounds_39 : decode cX8_isOutOfBounds 39 = .ok (.if_icmp .gt 18, 3) := by decide +kernel
theorem dX8_isOutOfBounds_42 : decode cX8_isOutOfBounds 42 = .ok (.iload_n 2, 1) := by decide +kernel
theorem dX8_isOutOfBounds_43 : decode cX8_isOutOfBounds 43 = .ok (.aload_n 0, 1) := by decide +kernel
theorem dX8_isOutOfBounds_44 : decode cX8_isOutOfBounds 44 = .ok (.getfield 43, 3) := by decide +kernel
theorem dX8_isOutOfBounds_47 : decode cX8_isOutOfBounds 47 = .ok (.aload_n 0, 1) := by decide +kernel
theorem dX8_isOutOfBounds_48 : decode cX8_isOutOfBounds 48 = .ok (.getfield 12, 3) := by decide +kernel
theorem dX8_isOutOfBounds_51 : decode cX8_isOutOfBounds 51 = .ok (.invokevirtual 232, 3) := by decide +kernel
theorem dX8_isOutOfBounds_54 : decode cX8_isOutOfBounds 54 = .ok (.if_icmp .le 7, 3) := by decide +kernel
theorem dX8_isOutOfBounds_57 : decode cX8_isOutOfBounds 57 = .ok (.iconst 1, 1) := by decide +kernel
theorem dX8_isOutOfBounds_58 : decode cX8_isOutOfBounds 58 = .ok (.goto 4, 3) := by decide +kernel
theorem dX8_isOutOfBounds_61 : decode cX8_isOutOfBounds 61 = .ok (.iconst 0, 1) := by decide +kernel
theorem dX8_isOutOfBounds_62 : decode cX8_isOutOfBounds 62 = .ok (.ireturn, 1) := by decide +kernel
theorem dX8_contains_0 : decode cX8_contains 0 = .ok (.iload_n 0, 1) := by decide +kernel
theorem dX8_contains_1 : decode cX8_contains 1 = .ok (.iload_n 1, 1) := by decide +kernel
theorem dX8_contains_2 : decode cX8_contains 2 = .ok (.ishr, 1) := by decide +kernel
theorem dX8_contains_3 : decode cX8_contains 3 = .ok (.iconst 1, 1) := by decide +kernel
theorem dX8_contains_4 : decode cX8_contains 4 = .ok (.iand, 1) := by decide +kernel
theorem dX8_contains_5 : decode cX8_contains 5 = .ok (.ifCond .eq 7, 3) := by decide +kernel
theorem dX8_contains_8 : decode cX8_contains 8 = .ok (.iconst 1, 1) := by decide +kernel
theorem dX8_contains_9 : decode cX8_contains 9 = .ok (.goto 4, 3) := by decide +kernel
theorem dX8_contains_12 : decode cX8_contains 12 = .ok (.iconst 0, 1) := by decide +kernel
theorem dX8_contains_13 : decode cX8_contains 13 = .ok (.ireturn, 1) := by decide +kernel
theorem dX8_rank_0 : decode cX8_rank 0 = .ok (.iload_n 0, 1) := by decide +kernel
theorem dX8_rank_1 : decode cX8_rank 1 = .ok (.i2l, 1) := by decide +kernel
theorem dX8_rank_2 : decode cX8_rank 2 = .ok (.bipush 28, 2) := by decide +kernel
theorem dX8_rank_4 : decode cX8_rank 4 = .ok (.lshl, 1) := by decide +kernel
theorem dX8_rank_5 : decode cX8_rank 5 = .ok (.iload_n 1, 1) := by decide +kernel
theorem dX8_rank_6 : decode cX8_rank 6 = .ok (.i2l, 1) := by decide +kernel
theorem dX8_rank_7 : decode cX8_rank 7 = .ok (.bipush 14, 2) := by decide +kernel
theorem dX8_rank_9 : decode cX8_rank 9 = .ok (.lshl, 1) := by decide +kernel
theorem dX8_rank_10 : decode cX8_rank 10 = .ok (.lsub, 1) := by decide +kernel
theorem dX8_rank_11 : decode cX8_rank 11 = .ok (.iload_n 2, 1) := by decide +kernel
theorem dX8_rank_12 : decode cX8_rank 12 = .ok (.i2l, 1) := by decide +kernel
theorem dX8_rank_13 : decode cX8_rank 13 = .ok (.lsub, 1) := by decide +kernel
theorem dX8_rank_14 : decode cX8_rank 14 = .ok (.lreturn, 1) := by decide +kernel
theorem dX8_rankWeight_0 : decode cX8_rankWeight 0 = .ok (.lload_n 0, 1) := by decide +kernel
theorem dX8_rankWeight_1 : decode cX8_rankWeight 1 = .ok (.ldc2_w 125, 3) := by decide +kernel
theorem dX8_rankWeight_4 : decode cX8_rankWeight 4 = .ok (.lcmp, 1) := by decide +kernel
theorem dX8_rankWeight_5 : decode cX8_rankWeight 5 = .ok (.ifCond .ne 5, 3) := by decide +kernel
theorem dX8_rankWeight_8 : decode cX8_rankWeight 8 = .ok (.iconst (-1), 1) := by decide +kernel
theorem dX8_rankWeight_9 : decode cX8_rankWeight 9 = .ok (.ireturn, 1) := by decide +kernel
theorem dX8_rankWeight_10 : decode cX8_rankWeight 10 = .ok (.lload_n 0, 1) := by decide +kernel
theorem dX8_rankWeight_11 : decode cX8_rankWeight 11 = .ok (.ldc2_w 287, 3) := by decide +kernel
theorem dX8_rankWeight_14 : decode cX8_rankWeight 14 = .ok (.ladd, 1) := by decide +kernel
theorem dX8_rankWeight_15 : decode cX8_rankWeight 15 = .ok (.lconst 1, 1) := by decide +kernel
theorem dX8_rankWeight_16 : decode cX8_rankWeight 16 = .ok (.lsub, 1) := by decide +kernel
theorem dX8_rankWeight_17 : decode cX8_rankWeight 17 = .ok (.bipush 28, 2) := by decide +kernel
theorem dX8_rankWeight_19 : decode cX8_rankWeight 19 = .ok (.lshr, 1) := by decide +kernel
theorem dX8_rankWeight_20 : decode cX8_rankWeight 20 = .ok (.l2i, 1) := by decide +kernel
theorem dX8_rankWeight_21 : decode cX8_rankWeight 21 = .ok (.ireturn, 1) := by decide +kernel
theorem dX8_rankSize_0 : decode cX8_rankSize 0 = .ok (.lload_n 0, 1) := by decide +kernel
theorem dX8_rankSize_1 : decode cX8_rankSize 1 = .ok (.ldc2_w 125, 3) := by decide +kernel
theorem dX8_rankSize_4 : decode cX8_rankSize 4 = .ok (.lcmp, 1) := by decide +kernel
theorem dX8_rankSize_5 : decode cX8_rankSize 5 = .ok (.ifCond .ne 7, 3) := by decide +kernel
theorem dX8_rankSize_8 : decode cX8_rankSize 8 = .ok (.iconst (-1), 1) := by decide +kernel
theorem dX8_rankSize_9 : decode cX8_rankSize 9 = .ok (.goto 13, 3) := by decide +kernel
theorem dX8_rankSize_12 : decode cX8_rankSize 12 = .ok (.lload_n 0, 1) := by decide +kernel
theorem dX8_rankSize_13 : decode cX8_rankSize 13 = .ok (.lneg, 1) := by decide +kernel
theorem dX8_rankSize_14 : decode cX8_rankSize 14 = .ok (.bipush 14, 2) := by decide +kernel
theorem dX8_rankSize_16 : decode cX8_rankSize 16 = .ok (.lshr, 1) := by decide +kernel
theorem dX8_rankSize_17 : decode cX8_rankSize 17 = .ok (.ldc2_w 289, 3) := by decide +kernel
theorem dX8_rankSize_20 : decode cX8_rankSize 20 = .ok (.land, 1) := by decide +kernel
theorem dX8_rankSize_21 : decode cX8_rankSize 21 = .ok (.l2i, 1) := by decide +kernel
theorem dX8_rankSize_22 : decode cX8_rankSize 22 = .ok (.ireturn, 1) := by decide +kernel
theorem dX8_rankSet_0 : decode cX8_rankSet 0 = .ok (.lload_n 0, 1) := by decide +kernel
theorem dX8_rankSet_1 : decode cX8_rankSet 1 = .ok (.ldc2_w 125, 3) := by decide +kernel
theorem dX8_rankSet_4 : decode cX8_rankSet 4 = .ok (.lcmp, 1) := by decide +kernel
theorem dX8_rankSet_5 : decode cX8_rankSet 5 = .ok (.ifCond .ne 7, 3) := by decide +kernel
theorem dX8_rankSet_8 : decode cX8_rankSet 8 = .ok (.iconst (-1), 1) := by decide +kernel
theorem dX8_rankSet_9 : decode cX8_rankSet 9 = .ok (.goto 10, 3) := by decide +kernel
theorem dX8_rankSet_12 : decode cX8_rankSet 12 = .ok (.lload_n 0, 1) := by decide +kernel
theorem dX8_rankSet_13 : decode cX8_rankSet 13 = .ok (.lneg, 1) := by decide +kernel
theorem dX8_rankSet_14 : decode cX8_rankSet 14 = .ok (.ldc2_w 289, 3) := by decide +kernel
theorem dX8_rankSet_17 : decode cX8_rankSet 17 = .ok (.land, 1) := by decide +kernel
theorem dX8_rankSet_18 : decode cX8_rankSet 18 = .ok (.l2i, 1) := by decide +kernel
theorem dX8_rankSet_19 : decode cX8_rankSet 19 = .ok (.ireturn, 1) := by decide +kernel
theorem dX8_rankSetOrEmpty_0 : decode cX8_rankSetOrEmpty 0 = .ok (.lload_n 0, 1) := by decide +kernel
theorem dX8_rankSetOrEmpty_1 : decode cX8_rankSetOrEmpty 1 = .ok (.ldc2_w 125, 3) := by decide +kernel
theorem dX8_rankSetOrEmpty_4 : decode cX8_rankSetOrEmpty 4 = .ok (.lcmp, 1) := by decide +kernel
theorem dX8_rankSetOrEmpty_5 : decode cX8_rankSetOrEmpty 5 = .ok (.ifCond .ne 7, 3) := by decide +kernel
theorem dX8_rankSetOrEmpty_8 : decode cX8_rankSetOrEmpty 8 = .ok (.iconst 0, 1) := by decide +kernel
theorem dX8_rankSetOrEmpty_9 : decode cX8_rankSetOrEmpty 9 = .ok (.goto 10, 3) := by decide +kernel
theorem dX8_rankSetOrEmpty_12 : decode cX8_rankSetOrEmpty 12 = .ok (.lload_n 0, 1) := by decide +kernel
theorem dX8_rankSetOrEmpty_13 : decode cX8_rankSetOrEmpty 13 = .ok (.lneg, 1) := by decide +kernel
theorem dX8_rankSetOrEmpty_14 : decode cX8_rankSetOrEmpty 14 = .ok (.ldc2_w 289, 3) := by decide +kernel
theorem dX8_rankSetOrEmpty_17 : decode cX8_rankSetOrEmpty 17 = .ok (.land, 1) := by decide +kernel
theorem dX8_rankSetOrEmpty_18 : decode cX8_rankSetOrEmpty 18 = .ok (.l2i, 1) := by decide +kernel
theorem dX8_rankSetOrEmpty_19 : decode cX8_rankSetOrEmpty 19 = .ok (.ireturn, 1) := by decide +kernel
theorem dX9_init_0 : decode cX9_init 0 = .ok (.aload_n 0, 1) := by decide +kernel
theorem dX9_init_1 : decode cX9_init 1 = .ok (.invokespecial 3, 3) := by decide +kernel
theorem dX9_init_4 : decode cX9_init 4 = .ok (.aload_n 0, 1) := by decide +kernel
theorem dX9_init_5 : decode cX9_init 5 = .ok (.bipush 61, 2) := by decide +kernel
theorem dX9_init_7 : decode cX9_init 7 = .ok (.newarray .int, 2) := by decide +kernel
theorem dX9_init_9 : decode cX9_init 9 = .ok (.putfield 9, 3) := by decide +kernel
theorem dX9_init_12 : decode cX9_init 12 = .ok (.aload_n 0, 1) := by decide +kernel
theorem dX9_init_13 : decode cX9_init 13 = .ok (.bipush 10, 2) := by decide +kernel
theorem dX9_init_15 : decode cX9_init 15 = .ok (.bipush 61, 2) := by decide +kernel
theorem dX9_init_17 : decode cX9_init 17 = .ok (.multianewarray 13 2, 4) := by decide +kernel
theorem dX9_init_21 : decode cX9_init 21 = .ok (.putfield 15, 3) := by decide +kernel
theorem dX9_init_24 : decode cX9_init 24 = .ok (.aload_n 0, 1) := by decide +kernel
theorem dX9_init_25 : decode cX9_init 25 = .ok (.bipush 61, 2) := by decide +kernel
theorem dX9_init_27 : decode cX9_init 27 = .ok (.newarray .int, 2) := by decide +kernel
theorem dX9_init_29 : decode cX9_init 29 = .ok (.putfield 18, 3) := by decide +kernel
theorem dX9_init_32 : decode cX9_init 32 = .ok (.aload_n 0, 1) := by decide +kernel
theorem dX9_init_33 : decode cX9_init 33 = .ok (.bipush 61, 2) := by decide +kernel
theorem dX9_init_35 : decode cX9_init 35 = .ok (.newarray .int, 2) := by decide +kernel
theorem dX9_init_37 : decode cX9_init 37 = .ok (.putfield 21, 3) := by decide +kernel
theorem dX9_init_40 : decode cX9_init 40 = .ok (.aload_n 0, 1) := by decide +kernel
theorem dX9_init_41 : decode cX9_init 41 = .ok (.bipush 61, 2) := by decide +kernel
theorem dX9_init_43 : decode cX9_init 43 = .ok (.newarray .int, 2) := by decide +kernel
theorem dX9_init_45 : decode cX9_init 45 = .ok (.putfield 24, 3) := by decide +kernel
theorem dX9_init_48 : decode cX9_init 48 = .ok (.aload_n 0, 1) := by decide +kernel
theorem dX9_init_49 : decode cX9_init 49 = .ok (.sipush 500, 3) := by decide +kernel
theorem dX9_init_52 : decode cX9_init 52 = .ok (.newarray .int, 2) := by decide +kernel
theorem dX9_init_54 : decode cX9_init 54 = .ok (.putfield 27, 3) := by decide +kernel
theorem dX9_init_57 : decode cX9_init 57 = .ok (.aload_n 0, 1) := by decide +kernel
theorem dX9_init_58 : decode cX9_init 58 = .ok (.sipush 1300, 3) := by decide +kernel
theorem dX9_init_61 : decode cX9_init 61 = .ok (.newarray .byte, 2) := by decide +kernel
theorem dX9_init_63 : decode cX9_init 63 = .ok (.putfield 30, 3) := by decide +kernel
theorem dX9_init_66 : decode cX9_init 66 = .ok (.aload_n 0, 1) := by decide +kernel
theorem dX9_init_67 : decode cX9_init 67 = .ok (.bipush 101, 2) := by decide +kernel
theorem dX9_init_69 : decode cX9_init 69 = .ok (.newarray .int, 2) := by decide +kernel
theorem dX9_init_71 : decode cX9_init 71 = .ok (.putfield 34, 3) := by decide +kernel
theorem dX9_init_74 : decode cX9_init 74 = .ok (.aload_n 0, 1) := by decide +kernel
theorem dX9_init_75 : decode cX9_init 75 = .ok (.bipush 101, 2) := by decide +kernel
theorem dX9_init_77 : decode cX9_init 77 = .ok (.newarray .int, 2) := by decide +kernel
theorem dX9_init_79 : decode cX9_init 79 = .ok (.putfield 37, 3) := by decide +kernel
theorem dX9_init_82 : decode cX9_init 82 = .ok (.aload_n 0, 1) := by decide +kernel
theorem dX9_init_83 : decode cX9_init 83 = .ok (.bipush 101, 2) := by decide +kernel
theorem dX9_init_85 : decode cX9_init 85 = .ok (.newarray .int, 2) := by decide +kernel
theorem dX9_init_87 : decode cX9_init 87 = .ok (.putfield 40, 3) := by decide +kernel
theorem dX9_init_90 : decode cX9_init 90 = .ok (.aload_n 0, 1) := by decide +kernel
theorem dX9_init_91 : decode cX9_init 91 = .ok (.iconst (-1), 1) := by decide +kernel
theorem dX9_init_92 : decode cX9_init 92 = .ok (.putfield 43, 3) := by decide +kernel
theorem dX9_init_95 : decode cX9_init 95 = .ok (.aload_n 0, 1) := by decide +kernel
theorem dX9_init_96 : decode cX9_init 96 = .ok (.bipush 20, 2) := by decide +kernel
theorem dX9_init_98 : decode cX9_init 98 = .ok (.invokevirtual 47, 3) := by decide +kernel
theorem dX9_init_101 : decode cX9_init 101 = .ok (.aload_n 0, 1) := by decide +kernel
theorem dX9_init_102 : decode cX9_init 102 = .ok (.bipush 7, 2) := by decide +kernel
theorem dX9_init_104 : decode cX9_init 104 = .ok (.bipush 30, 2) := by decide +kernel
theorem dX9_init_106 : decode cX9_init 106 = .ok (.invokevirtual 51, 3) := by decide +kernel
theorem dX9_init_109 : decode cX9_init 109 = .ok (.istore_n 1, 1) := by decide +kernel
theorem dX9_init_110 : decode cX9_init 110 = .ok (.aload_n 0, 1) := by decide +kernel
theorem dX9_init_111 : decode cX9_init 111 = .ok (.bipush 9, 2) := by decide +kernel
theorem dX9_init_113 : decode cX9_init 113 = .ok (.bipush 42, 2) := by decide +kernel
theorem dX9_init_115 : decode cX9_init 115 = .ok (.invokevirtual 51, 3) := by decide +kernel
theorem dX9_init_118 : decode cX9_init 118 = .ok (.istore_n 1, 1) := by decide +kernel
theorem dX9_init_119 : decode cX9_init 119 = .ok (.aload_n 0, 1) := by decide +kernel
theorem dX9_init_120 : decode cX9_init 120 = .ok (.iconst 4, 1) := by decide +kernel
theorem dX9_init_121 : decode cX9_init 121 = .ok (.bipush 12, 2) := by decide +kernel
theorem dX9_init_123 : decode cX9_init 123 = .ok (.invokevirtual 51, 3) := by decide +kernel
theorem dX9_init_126 : decode cX9_init 126 = .ok (.istore_n 1, 1) := by decide +kernel
theorem dX9_init_127 : decode cX9_init 127 = .ok (.aload_n 0, 1) := by decide +kernel
theorem dX9_init_128 : decode cX9_init 128 = .ok (.bipush 12, 2) := by decide +kernel
theorem dX9_init_130 : decode cX9_init 130 = .ok (.bipush 50, 2) := by decide +kernel
theorem dX9_init_132 : decode cX9_init 132 = .ok (.invokevirtual 51, 3) := by decide +kernel
theorem dX9_init_135 : decode cX9_init 135 = .ok (.istore_n 1, 1) := by decide +kernel
theorem dX9_init_136 : decode cX9_init 136 = .ok (.aload_n 0, 1) := by decide +kernel
theorem dX9_init_137 : decode cX9_init 137 = .ok (.iconst 5, 1) := by decide +kernel
theorem dX9_init_138 : decode cX9_init 138 = .ok (.bipush 12, 2) := by decide +kernel
theorem dX9_init_140 : decode cX9_init 140 = .ok (.invokevirtual 51, 3) := by decide +kernel
theorem dX9_init_143 : decode cX9_init 143 = .ok (.istore_n 1, 1) := by decide +kernel
theorem dX9_init_144 : decode cX9_init 144 = .ok (.aload_n 0, 1) := by decide +kernel
theorem dX9_init_145 : decode cX9_init 145 = .ok (.iconst 3, 1) := by decide +kernel
theorem dX9_init_146 : decode cX9_init 146 = .ok (.iconst 2, 1) := by decide +kernel
theorem dX9_init_147 : decode cX9_init 147 = .ok (.invokevirtual 51, 3) := by decide +kernel
theorem dX9_init_150 : decode cX9_init 150 = .ok (.istore_n 1, 1) := by decide +kernel
theorem dX9_init_151 : decode cX9_init 151 = .ok (.aload_n 0, 1) := by decide +kernel
theorem dX9_init_152 : decode cX9_init 152 = .ok (.iconst 5, 1) := by decide +kernel
theorem dX9_init_153 : decode cX9_init 153 = .ok (.iconst 3, 1) := by decide +kernel
theorem dX9_init_154 : decode cX9_init 154 = .ok (.iconst 1, 1) := by decide +kernel
theorem dX9_init_155 : decode cX9_init 155 = .ok (.invokevirtual 55, 3) := by decide +kernel
theorem dX9_init_158 : decode cX9_init 158 = .ok (.aload_n 0, 1) := by decide +kernel
theorem dX9_init_159 : decode cX9_init 159 = .ok (.iconst 4, 1) := by decide +kernel
theorem dX9_init_160 : decode cX9_init 160 = .ok (.iconst 3, 1) := by decide +kernel
theorem dX9_init_161 : decode cX9_init 161 = .ok (.iconst 2, 1) := by decide +kernel
theorem dX9_init_162 : decode cX9_init 162 = .ok (.invokevirtual 55, 3) := by decide +kernel
theorem dX9_init_165 : decode cX9_init 165 = .ok (.return_, 1) := by decide +kernel
theorem dX9_thrown_0 : decode cX9_thrown 0 = .ok (.aload_n 0, 1) := by decide +kernel
theorem dX9_thrown_1 : decode cX9_thrown 1 = .ok (.getfield 59, 3) := by decide +kernel
theorem dX9_thrown_4 : decode cX9_thrown 4 = .ok (.ireturn, 1) := by decide +kernel
theorem dX9_copy_0 : decode cX9_copy 0 = .ok (.iconst 0, 1) := by decide +kernel
theorem dX9_copy_1 : decode cX9_copy 1 = .ok (.istore_n 2, 1) := by decide +kernel
theorem dX9_copy_2 : decode cX9_copy 2 = .ok (.iload_n 2, 1) := by decide +kernel
theorem dX9_copy_3 : decode cX9_copy 3 = .ok (.bipush 61, 2) := by decide +kernel
theorem dX9_copy_5 : decode cX9_copy 5 = .ok (.if_icmp .ge 15, 3) := by decide +kernel
theorem dX9_copy_8 : decode cX9_copy 8 = .ok (.aload_n 1, 1) := by decide +kernel
theorem dX9_copy_9 : decode cX9_copy 9 = .ok (.iload_n 2, 1) := by decide +kernel
theorem dX9_copy_10 : decode cX9_copy 10 = .ok (.aload_n 0, 1) := by decide +kernel
theorem dX9_copy_11 : decode cX9_copy 11 = .ok (.iload_n 2, 1) := by decide +kernel
theorem dX9_copy_12 : decode cX9_copy 12 = .ok (.iaload, 1) := by decide +kernel
theorem dX9_copy_13 : decode cX9_copy 13 = .ok (.iastore, 1) := by decide +kernel
theorem dX9_copy_14 : decode cX9_copy 14 = .ok (.iinc 2 1, 3) := by decide +kernel
theorem dX9_copy_17 : decode cX9_copy 17 = .ok (.goto (-15), 3) := by decide +kernel
theorem dX9_copy_20 : decode cX9_copy 20 = .ok (.return_, 1) := by decide +kernel
theorem dX9_start_0 : decode cX9_start 0 = .ok (.iconst 0, 1) := by decide +kernel
theorem dX9_start_1 : decode cX9_start 1 = .ok (.istore_n 2, 1) := by decide +kernel
theorem dX9_start_2 : decode cX9_start 2 = .ok (.iload_n 2, 1) := by decide +kernel
theorem dX9_start_3 : decode cX9_start 3 = .ok (.bipush 61, 2) := by decide +kernel
theorem dX9_start_5 : decode cX9_start 5 = .ok (.if_icmp .ge 16, 3) := by decide +kernel
theorem dX9_start_8 : decode cX9_start 8 = .ok (.aload_n 0, 1) := by decide +kernel
theorem dX9_start_9 : decode cX9_start 9 = .ok (.getfield 9, 3) := by decide +kernel
theorem dX9_start_12 : decode cX9_start 12 = .ok (.iload_n 2, 1) := by decide +kernel
theorem dX9_start_13 : decode cX9_start 13 = .ok (.iconst 0, 1) := by decide +kernel
theorem dX9_start_14 : decode cX9_start 14 = .ok (.iastore, 1) := by decide +kernel
theorem dX9_start_15 : decode cX9_start 15 = .ok (.iinc 2 1, 3) := by decide +kernel
theorem dX9_start_18 : decode cX9_start 18 = .ok (.goto (-16), 3) := by decide +kernel
theorem dX9_start_21 : decode cX9_start 21 = .ok (.aload_n 0, 1) := by decide +kernel
theorem dX9_start_22 : decode cX9_start 22 = .ok (.getfield 9, 3) := by decide +kernel
theorem dX9_start_25 : decode cX9_start 25 = .ok (.iconst 0, 1) := by decide +kernel
theorem dX9_start_26 : decode cX9_start 26 = .ok (.iload_n 1, 1) := by decide +kernel
theorem dX9_start_27 : decode cX9_start 27 = .ok (.iastore, 1) := by decide +kernel
theorem dX9_start_28 : decode cX9_start 28 = .ok (.return_, 1) := by decide +kernel
theorem dX9_remember_0 : decode cX9_remember 0 = .ok (.aload_n 0, 1) := by decide +kernel
theorem dX9_remember_1 : decode cX9_remember 1 = .ok (.getfield 62, 3) := by decide +kernel
theorem dX9_remember_4 : decode cX9_remember 4 = .ok (.bipush 10, 2) := by decide +kernel
theorem dX9_remember_6 : decode cX9_remember 6 = .ok (.if_icmp .ne 56, 3) := by decide +kernel
theorem dX9_remember_9 : decode cX9_remember 9 = .ok (.aload_n 0, 1) := by decide +kernel
theorem dX9_remember_10 : decode cX9_remember 10 = .ok (.getfield 15, 3) := by decide +kernel
theorem dX9_remember_13 : decode cX9_remember 13 = .ok (.iconst 0, 1) := by decide +kernel
theorem dX9_remember_14 : decode cX9_remember 14 = .ok (.aaload, 1) := by decide +kernel
theorem dX9_remember_15 : decode cX9_remember 15 = .ok (.astore_n 2, 1) := by decide +kernel
theorem dX9_remember_16 : decode cX9_remember 16 = .ok (.iconst 1, 1) := by decide +kernel
theorem dX9_remember_17 : decode cX9_remember 17 = .ok (.istore_n 3, 1) := by decide +kernel
theorem dX9_remember_18 : decode cX9_remember 18 = .ok (.iload_n 3, 1) := by decide +kernel
theorem dX9_remember_19 : decode cX9_remember 19 = .ok (.bipush 10, 2) := by decide +kernel
theorem dX9_remember_21 : decode cX9_remember 21 = .ok (.if_icmp .ge 23, 3) := by decide +kernel
theorem dX9_remember_24 : decode cX9_remember 24 = .ok (.aload_n 0, 1) := by decide +kernel
theorem dX9_remember_25 : decode cX9_remember 25 = .ok (.getfield 15, 3) := by decide +kernel
theorem dX9_remember_28 : decode cX9_remember 28 = .ok (.iload_n 3, 1) := by decide +kernel
theorem dX9_remember_29 : decode cX9_remember 29 = .ok (.iconst 1, 1) := by decide +kernel
theorem dX9_remember_30 : decode cX9_remember 30 = .ok (.isub, 1) := by decide +kernel
theorem dX9_remember_31 : decode cX9_remember 31 = .ok (.aload_n 0, 1) := by decide +kernel
theorem dX9_remember_32 : decode cX9_remember 32 = .ok (.getfield 15, 3) := by decide +kernel
theorem dX9_remember_35 : decode cX9_remember 35 = .ok (.iload_n 3, 1) := by decide +kernel
theorem dX9_remember_36 : decode cX9_remember 36 = .ok (.aaload, 1) := by decide +kernel
theorem dX9_remember_37 : decode cX9_remember 37 = .ok (.aastore, 1) := by decide +kernel
theorem dX9_remember_38 : decode cX9_remember 38 = .ok (.iinc 3 1, 3) := by decide +kernel
theorem dX9_remember_41 : decode cX9_remember 41 = .ok (.goto (-23), 3) := by decide +kernel
theorem dX9_remember_44 : decode cX9_remember 44 = .ok (.aload_n 0, 1) := by decide +kernel
theorem dX9_remember_45 : decode cX9_remember 45 = .ok (.getfield 15, 3) := by decide +kernel
theorem dX9_remember_48 : decode cX9_remember 48 = .ok (.bipush 9, 2) := by decide +kernel
theorem dX9_remember_50 : decode cX9_remember 50 = .ok (.aload_n 2, 1) := by decide +kernel
theorem dX9_remember_51 : decode cX9_remember 51 = .ok (.aastore, 1) := by decide +kernel
theorem dX9_remember_52 : decode cX9_remember 52 = .ok (.aload_n 0, 1) := by decide +kernel
theorem dX9_remember_53 : decode cX9_remember 53 = .ok (.dup, 1) := by decide +kernel
theorem dX9_remember_54 : decode cX9_remember 54 = .ok (.getfield 62, 3) := by decide +kernel
theorem dX9_remember_57 : decode cX9_remember 57 = .ok (.iconst 1, 1) := by decide +kernel
theorem dX9_remember_58 : decode cX9_remember 58 = .ok (.isub, 1) := by decide +kernel
theorem dX9_remember_59 : decode cX9_remember 59 = .ok (.putfield 62, 3) := by decide +kernel
theorem dX9_remember_62 : decode cX9_remember 62 = .ok (.aload_n 1, 1) := by decide +kernel
theorem dX9_remember_63 : decode cX9_remember 63 = .ok (.aload_n 0, 1) := by decide +kernel
theorem dX9_remember_64 : decode cX9_remember 64 = .ok (.getfield 15, 3) := by decide +kernel
theorem dX9_remember_67 : decode cX9_remember 67 = .ok (.aload_n 0, 1) := by decide +kernel
theorem dX9_remember_68 : decode cX9_remember 68 = .ok (.getfield 62, 3) := by decide +kernel
theorem dX9_remember_71 : decode cX9_remember 71 = .ok (.aaload, 1) := by decide +kernel
theorem dX9_remember_72 : decode cX9_remember 72 = .ok (.invokestatic 65, 3) := by decide +kernel
theorem dX9_remember_75 : decode cX9_remember 75 = .ok (.aload_n 0, 1) := by decide +kernel
theorem dX9_remember_76 : decode cX9_remember 76 = .ok (.dup, 1) := by decide +kernel
theorem dX9_remember_77 : decode cX9_remember 77 = .ok (.getfield 62, 3) := by decide +kernel
theorem dX9_remember_80 : decode cX9_remember 80 = .ok (.iconst 1, 1) := by decide +kernel
theorem dX9_remember_81 : decode cX9_remember 81 = .ok (.iadd, 1) := by decide +kernel
theorem dX9_remember_82 : decode cX9_remember 82 = .ok (.putfield 62, 3) := by decide +kernel
theorem dX9_remember_85 : decode cX9_remember 85 = .ok (.return_, 1) := by decide +kernel
theorem dX9_outside_0 : decode cX9_outside 0 = .ok (.iload_n 1, 1) := by decide +kernel
theorem dX9_outside_1 : decode cX9_outside 1 = .ok (.iload_n 2, 1) := by decide +kernel
theorem dX9_outside_2 : decode cX9_outside 2 = .ok (.if_icmp .lt 8, 3) := by decide +kernel
theorem dX9_outside_5 : decode cX9_outside 5 = .ok (.iload_n 1, 1) := by decide +kernel
theorem dX9_outside_6 : decode cX9_outside 6 = .ok (.iload_n 3, 1) := by decide +kernel
theorem dX9_outside_7 : decode cX9_outside 7 = .ok (.if_icmp .le 11, 3) := by decide +kernel
theorem dX9_outside_10 : decode cX9_outside 10 = .ok (.aload_n 0, 1) := by decide +kernel
theorem dX9_outside_11 : decode cX9_outside 11 = .ok (.iload 4, 2) := by decide +kernel
theorem dX9_outside_13 : decode cX9_outside 13 = .ok (.putfield 59, 3) := by decide +kernel
theorem dX9_outside_16 : decode cX9_outside 16 = .ok (.iconst 1, 1) := by decide +kernel
theorem dX9_outside_17 : decode cX9_outside 17 = .ok (.ireturn, 1) := by decide +kernel
theorem dX9_outside_18 : decode cX9_outside 18 = .ok (.iconst 0, 1) := by decide +kernel
theorem dX9_outside_19 : decode cX9_outside 19 = .ok (.ireturn, 1) := by decide +kernel
theorem dX9_raise_0 : decode cX9_raise 0 = .ok (.iload_n 1, 1) := by decide +kernel
theorem dX9_raise_1 : decode cX9_raise 1 = .ok (.ifCond .eq 8, 3) := by decide +kernel
theorem dX9_raise_4 : decode cX9_raise 4 = .ok (.aload_n 0, 1) := by decide +kernel
theorem dX9_raise_5 : decode cX9_raise 5 = .ok (.iload_n 2, 1) := by decide +kernel
theorem dX9_raise_6 : decode cX9_raise 6 = .ok (.putfield 59, 3) := by decide +kernel
theorem dX9_raise_9 : decode cX9_raise 9 = .ok (.iload_n 1, 1) := by decide +kernel
theorem dX9_raise_10 : decode cX9_raise 10 = .ok (.ireturn, 1) := by decide +kernel
theorem dX9_noItem_0 : decode cX9_noItem 0 = .ok (.aload_n 0, 1) := by decide +kernel
theorem dX9_noItem_1 : decode cX9_noItem 1 = .ok (.iload_n 1, 1) := by decide +kernel
theorem dX9_noItem_2 : decode cX9_noItem 2 = .ok (.iconst 0, 1) := by decide +kernel
theorem dX9_noItem_3 : decode cX9_noItem 3 = .ok (.aload_n 0, 1) := by decide +kernel
theorem dX9_noItem_4 : decode cX9_noItem 4 = .ok (.getfield 9, 3) := by decide +kernel
theorem dX9_noItem_7 : decode cX9_noItem 7 = .ok (.iconst 1, 1) := by decide +kernel
theorem dX9_noItem_8 : decode cX9_noItem 8 = .ok (.iaload, 1) := by decide +kernel
theorem dX9_noItem_9 : decode cX9_noItem 9 = .ok (.iconst 1, 1) := by decide +kernel
theorem dX9_noItem_10 : decode cX9_noItem 10 = .ok (.isub, 1) := by decide +kernel
theorem dX9_noItem_11 : decode cX9_noItem 11 = .ok (.iconst 1, 1) := by decide +kernel
theorem dX9_noItem_12 : decode cX9_noItem 12 = .ok (.invokevirtual 69, 3) := by decide +kernel
theorem dX9_noItem_15 : decode cX9_noItem 15 = .ok (.ireturn, 1) := by decide +kernel
theorem dX9_ones_0 : decode cX9_ones 0 = .ok (.iconst 0, 1) := by decide +kernel
theorem dX9_ones_1 : decode cX9_ones 1 = .ok (.istore_n 1, 1) := by decide +kernel
theorem dX9_ones_2 : decode cX9_ones 2 = .ok (.iload_n 0, 1) := by decide +kernel
theorem dX9_ones_3 : decode cX9_ones 3 = .ok (.istore_n 2, 1) := by decide +kernel
theorem dX9_ones_4 : decode cX9_ones 4 = .ok (.iload_n 2, 1) := by decide +kernel
theorem dX9_ones_5 : decode cX9_ones 5 = .ok (.ifCond .eq 15, 3) := by decide +kernel
theorem dX9_ones_8 : decode cX9_ones 8 = .ok (.iinc 1 1, 3) := by decide +kernel
theorem dX9_ones_11 : decode cX9_ones 11 = .ok (.iload_n 2, 1) := by decide +kernel
theorem dX9_ones_12 : decode cX9_ones 12 = .ok (.iload_n 2, 1) := by decide +kernel
theorem dX9_ones_13 : decode cX9_ones 13 = .ok (.iconst 1, 1) := by decide +kernel
theorem dX9_ones_14 : decode cX9_ones 14 = .ok (.isub, 1) := by decide +kernel
theorem dX9_ones_15 : decode cX9_ones 15 = .ok (.iand, 1) := by decide +kernel
theorem dX9_ones_16 : decode cX9_ones 16 = .ok (.istore_n 2, 1) := by decide +kernel
theorem dX9_ones_17 : decode cX9_ones 17 = .ok (.goto (-13), 3) := by decide +kernel
theorem dX9_ones_20 : decode cX9_ones 20 = .ok (.iload_n 1, 1) := by decide +kernel
theorem dX9_ones_21 : decode cX9_ones 21 = .ok (.ireturn, 1) := by decide +kernel
theorem dX9_has_0 : decode cX9_has 0 = .ok (.iload_n 0, 1) := by decide +kernel
theorem dX9_has_1 : decode cX9_has 1 = .ok (.iload_n 1, 1) := by decide +kernel
theorem dX9_has_2 : decode cX9_has 2 = .ok (.ishr, 1) := by decide +kernel
theorem dX9_has_3 : decode cX9_has 3 = .ok (.iconst 1, 1) := by decide +kernel
theorem dX9_has_4 : decode cX9_has 4 = .ok (.iand, 1) := by decide +kernel
theorem dX9_has_5 : decode cX9_has 5 = .ok (.iconst 1, 1) := by decide +kernel
theorem dX9_has_6 : decode cX9_has 6 = .ok (.if_icmp .ne 7, 3) := by decide +kernel
theorem dX9_has_9 : decode cX9_has 9 = .ok (.iconst 1, 1) := by decide +kernel
theorem dX9_has_10 : decode cX9_has 10 = .ok (.goto 4, 3) := by decide +kernel
theorem dX9_has_13 : decode cX9_has 13 = .ok (.iconst 0, 1) := by decide +kernel
theorem dX9_has_14 : decode cX9_has 14 = .ok (.ireturn, 1) := by decide +kernel
theorem dX9_of_0 : decode cX9_of 0 = .ok (.aload_n 0, 1) := by decide +kernel
theorem dX9_of_1 : decode cX9_of 1 = .ok (.getfield 9, 3) := by decide +kernel
theorem dX9_of_4 : decode cX9_of 4 = .ok (.iconst 5, 1) := by decide +kernel
theorem dX9_of_5 : decode cX9_of 5 = .ok (.iload_n 1, 1) := by decide +kernel
theorem dX9_of_6 : decode cX9_of 6 = .ok (.iconst 4, 1) := by decide +kernel
theorem dX9_of_7 : decode cX9_of 7 = .ok (.imul, 1) := by decide +kernel
theorem dX9_of_8 : decode cX9_of 8 = .ok (.iadd, 1) := by decide +kernel
theorem dX9_of_9 : decode cX9_of 9 = .ok (.iload_n 2, 1) := by decide +kernel
theorem dX9_of_10 : decode cX9_of 10 = .ok (.iadd, 1) := by decide +kernel
theorem dX9_of_11 : decode cX9_of 11 = .ok (.iaload, 1) := by decide +kernel
theorem dX9_of_12 : decode cX9_of 12 = .ok (.ireturn, 1) := by decide +kernel
theorem dX9_put_0 : decode cX9_put 0 = .ok (.aload_n 0, 1) := by decide +kernel
theorem dX9_put_1 : decode cX9_put 1 = .ok (.getfield 9, 3) := by decide +kernel
theorem dX9_put_4 : decode cX9_put 4 = .ok (.iconst 5, 1) := by decide +kernel
theorem dX9_put_5 : decode cX9_put 5 = .ok (.iload_n 1, 1) := by decide +kernel
theorem dX9_put_6 : decode cX9_put 6 = .ok (.iconst 4, 1) := by decide +kernel
theorem dX9_put_7 : decode cX9_put 7 = .ok (.imul, 1) := by decide +kernel
theorem dX9_put_8 : decode cX9_put 8 = .ok (.iadd, 1) := by decide +kernel
theorem dX9_put_9 : decode cX9_put 9 = .ok (.iload_n 2, 1) := by decide +kernel
theorem dX9_put_10 : decode cX9_put 10 = .ok (.iadd, 1) := by decide +kernel
theorem dX9_put_11 : decode cX9_put 11 = .ok (.iload_n 3, 1) := by decide +kernel
theorem dX9_put_12 : decode cX9_put 12 = .ok (.iastore, 1) := by decide +kernel
theorem dX9_put_13 : decode cX9_put 13 = .ok (.return_, 1) := by decide +kernel
theorem dX9_is_0 : decode cX9_is 0 = .ok (.aload_n 0, 1) := by decide +kernel
theorem dX9_is_1 : decode cX9_is 1 = .ok (.iload_n 1, 1) := by decide +kernel
theorem dX9_is_2 : decode cX9_is 2 = .ok (.iconst 3, 1) := by decide +kernel
theorem dX9_is_3 : decode cX9_is 3 = .ok (.invokevirtual 73, 3) := by decide +kernel
theorem dX9_is_6 : decode cX9_is 6 = .ok (.iload_n 2, 1) := by decide +kernel
theorem dX9_is_7 : decode cX9_is 7 = .ok (.if_icmp .ne 7, 3) := by decide +kernel
theorem dX9_is_10 : decode cX9_is 10 = .ok (.iconst 1, 1) := by decide +kernel
theorem dX9_is_11 : decode cX9_is 11 = .ok (.goto 4, 3) := by decide +kernel
theorem dX9_is_14 : decode cX9_is 14 = .ok (.iconst 0, 1) := by decide +kernel
theorem dX9_is_15 : decode cX9_is 15 = .ok (.ireturn, 1) := by decide +kernel
theorem dX9_weightOf_0 : decode cX9_weightOf 0 = .ok (.aload_n 0, 1) := by decide +kernel
theorem dX9_weightOf_1 : decode cX9_weightOf 1 = .ok (.iload_n 1, 1) := by decide +kernel
theorem dX9_weightOf_2 : decode cX9_weightOf 2 = .ok (.iconst 1, 1) := by decide +kernel
theorem dX9_weightOf_3 : decode cX9_weightOf 3 = .ok (.invokevirtual 73, 3) := by decide +kernel
theorem dX9_weightOf_6 : decode cX9_weightOf 6 = .ok (.iconst 1, 1) := by decide +kernel
theorem dX9_weightOf_7 : decode cX9_weightOf 7 = .ok (.aload_n 0, 1) := by decide +kernel
theorem dX9_weightOf_8 : decode cX9_weightOf 8 = .ok (.iload_n 1, 1) := by decide +kernel
theorem dX9_weightOf_9 : decode cX9_weightOf 9 = .ok (.iconst 2, 1) := by decide +kernel
theorem dX9_weightOf_10 : decode cX9_weightOf 10 = .ok (.invokevirtual 73, 3) := by decide +kernel
theorem dX9_weightOf_13 : decode cX9_weightOf 13 = .ok (.iadd, 1) := by decide +kernel
theorem dX9_weightOf_14 : decode cX9_weightOf 14 = .ok (.imul, 1) := by decide +kernel
theorem dX9_weightOf_15 : decode cX9_weightOf 15 = .ok (.ireturn, 1) := by decide +kernel
theorem dX9_add_0 : decode cX9_add 0 = .ok (.aload_n 0, 1) := by decide +kernel
theorem dX9_add_1 : decode cX9_add 1 = .ok (.getfield 9, 3) := by decide +kernel
theorem dX9_add_4 : decode cX9_add 4 = .ok (.iconst 1, 1) := by decide +kernel
theorem dX9_add_5 : decode cX9_add 5 = .ok (.iaload, 1) := by decide +kernel
theorem dX9_add_6 : decode cX9_add 6 = .ok (.istore_n 3, 1) := by decide +kernel
theorem dX9_add_7 : decode cX9_add 7 = .ok (.aload_n 0, 1) := by decide +kernel
theorem dX9_add_8 : decode cX9_add 8 = .ok (.getfield 9, 3) := by decide +kernel
theorem dX9_add_11 : decode cX9_add 11 = .ok (.iconst 1, 1) := by decide +kernel
theorem dX9_add_12 : decode cX9_add 12 = .ok (.dup2, 1) := by decide +kernel
theorem dX9_add_13 : decode cX9_add 13 = .ok (.iaload, 1) := by decide +kernel
theorem dX9_add_14 : decode cX9_add 14 = .ok (.iconst 1, 1) := by decide +kernel
theorem dX9_add_15 : decode cX9_add 15 = .ok (.iadd, 1) := by decide +kernel
theorem dX9_add_16 : decode cX9_add 16 = .ok (.iastore, 1) := by decide +kernel
theorem dX9_add_17 : decode cX9_add 17 = .ok (.aload_n 0, 1) := by decide +kernel
theorem dX9_add_18 : decode cX9_add 18 = .ok (.iload_n 3, 1) := by decide +kernel
theorem dX9_add_19 : decode cX9_add 19 = .ok (.iconst 0, 1) := by decide +kernel
theorem dX9_add_20 : decode cX9_add 20 = .ok (.iload_n 1, 1) := by decide +kernel
theorem dX9_add_21 : decode cX9_add 21 = .ok (.invokevirtual 55, 3) := by decide +kernel
theorem dX9_add_24 : decode cX9_add 24 = .ok (.aload_n 0, 1) := by decide +kernel
theorem dX9_add_25 : decode cX9_add 25 = .ok (.iload_n 3, 1) := by decide +kernel
theorem dX9_add_26 : decode cX9_add 26 = .ok (.iconst 1, 1) := by decide +kernel
theorem dX9_add_27 : decode cX9_add 27 = .ok (.iload_n 2, 1) := by decide +kernel
theorem dX9_add_28 : decode cX9_add 28 = .ok (.invokevirtual 55, 3) := by decide +kernel
theorem dX9_add_31 : decode cX9_add 31 = .ok (.aload_n 0, 1) := by decide +kernel
theorem dX9_add_32 : decode cX9_add 32 = .ok (.iload_n 3, 1) := by decide +kernel
theorem dX9_add_33 : decode cX9_add 33 = .ok (.iconst 2, 1) := by decide +kernel
theorem dX9_add_34 : decode cX9_add 34 = .ok (.iconst 0, 1) := by decide +kernel
theorem dX9_add_35 : decode cX9_add 35 = .ok (.invokevirtual 55, 3) := by decide +kernel
theorem dX9_add_38 : decode cX9_add 38 = .ok (.aload_n 0, 1) := by decide +kernel
theorem dX9_add_39 : decode cX9_add 39 = .ok (.iload_n 3, 1) := by decide +kernel
theorem dX9_add_40 : decode cX9_add 40 = .ok (.iconst 3, 1) := by decide +kernel
theorem dX9_add_41 : decode cX9_add 41 = .ok (.iconst 0, 1) := by decide +kernel
theorem dX9_add_42 : decode cX9_add 42 = .ok (.invokevirtual 55, 3) := by decide +kernel
theorem dX9_add_45 : decode cX9_add 45 = .ok (.iload_n 3, 1) := by decide +kernel
theorem dX9_add_46 : decode cX9_add 46 = .ok (.ireturn, 1) := by decide +kernel
theorem dX9_remove_0 : decode cX9_remove 0 = .ok (.aload_n 0, 1) := by decide +kernel
theorem dX9_remove_1 : decode cX9_remove 1 = .ok (.getfield 9, 3) := by decide +kernel
theorem dX9_remove_4 : decode cX9_remove 4 = .ok (.iconst 1, 1) := by decide +kernel
theorem dX9_remove_5 : decode cX9_remove 5 = .ok (.dup2, 1) := by decide +kernel
theorem dX9_remove_6 : decode cX9_remove 6 = .ok (.iaload, 1) := by decide +kernel
theorem dX9_remove_7 : decode cX9_remove 7 = .ok (.iconst 1, 1) := by decide +kernel
theorem dX9_remove_8 : decode cX9_remove 8 = .ok (.isub, 1) := by decide +kernel
theorem dX9_remove_9 : decode cX9_remove 9 = .ok (.iastore, 1) := by decide +kernel
theorem dX9_remove_10 : decode cX9_remove 10 = .ok (.iconst 5, 1) := by decide +kernel
theorem dX9_remove_11 : decode cX9_remove 11 = .ok (.iload_n 1, 1) := by decide +kernel
theorem dX9_remove_12 : decode cX9_remove 12 = .ok (.iconst 4, 1) := by decide +kernel
theorem dX9_remove_13 : decode cX9_remove 13 = .ok (.imul, 1) := by decide +kernel
theorem dX9_remove_14 : decode cX9_remove 14 = .ok (.iadd, 1) := by decide +kernel
theorem dX9_remove_15 : decode cX9_remove 15 = .ok (.istore_n 2, 1) := by decide +kernel
theorem dX9_remove_16 : decode cX9_remove 16 = .ok (.iload_n 2, 1) := by decide +kernel
theorem dX9_remove_17 : decode cX9_remove 17 = .ok (.iconst 5, 1) := by decide +kernel
theorem dX9_remove_18 : decode cX9_remove 18 = .ok (.aload_n 0, 1) := by decide +kernel
theorem dX9_remove_19 : decode cX9_remove 19 = .ok (.getfield 9, 3) := by decide +kernel
theorem dX9_remove_22 : decode cX9_remove 22 = .ok (.iconst 1, 1) := by decide +kernel
theorem dX9_remove_23 : decode cX9_remove 23 = .ok (.iaload, 1) := by decide +kernel
theorem dX9_remove_24 : decode cX9_remove 24 = .ok (.iconst 4, 1) := by decide +kernel
theorem dX9_remove_25 : decode cX9_remove 25 = .ok (.imul, 1) := by decide +kernel
theorem dX9_remove_26 : decode cX9_remove 26 = .ok (.iadd, 1) := by decide +kernel
theorem dX9_remove_27 : decode cX9_remove 27 = .ok (.if_icmp .ge 23, 3) := by decide +kernel
theorem dX9_remove_30 : decode cX9_remove 30 = .ok (.aload_n 0, 1) := by decide +kernel
theorem dX9_remove_31 : decode cX9_remove 31 = .ok (.getfield 9, 3) := by decide +kernel
theorem dX9_remove_34 : decode cX9_remove 34 = .ok (.iload_n 2, 1) := by decide +kernel
theorem dX9_remove_35 : decode cX9_remove 35 = .ok (.aload_n 0, 1) := by decide +kernel
theorem dX9_remove_36 : decode cX9_remove 36 = .ok (.getfield 9, 3) := by decide +kernel
theorem dX9_remove_39 : decode cX9_remove 39 = .ok (.iload_n 2, 1) := by decide +kernel
theorem dX9_remove_40 : decode cX9_remove 40 = .ok (.iconst 4, 1) := by decide +kernel
theorem dX9_remove_41 : decode cX9_remove 41 = .ok (.iadd, 1) := by decide +kernel
theorem dX9_remove_42 : decode cX9_remove 42 = .ok (.iaload, 1) := by decide +kernel
theorem dX9_remove_43 : decode cX9_remove 43 = .ok (.iastore, 1) := by decide +kernel
theorem dX9_remove_44 : decode cX9_remove 44 = .ok (.iinc 2 1, 3) := by decide +kernel
theorem dX9_remove_47 : decode cX9_remove 47 = .ok (.goto (-31), 3) := by decide +kernel
theorem dX9_remove_50 : decode cX9_remove 50 = .ok (.iconst 0, 1) := by decide +kernel
theorem dX9_remove_51 : decode cX9_remove 51 = .ok (.istore_n 2, 1) := by decide +kernel
theorem dX9_remove_52 : decode cX9_remove 52 = .ok (.iload_n 2, 1) := by decide +kernel
theorem dX9_remove_53 : decode cX9_remove 53 = .ok (.iconst 4, 1) := by decide +kernel
theorem dX9_remove_54 : decode cX9_remove 54 = .ok (.if_icmp .ge 21, 3) := by decide +kernel
theorem dX9_remove_57 : decode cX9_remove 57 = .ok (.aload_n 0, 1) := by decide +kernel
theorem dX9_remove_58 : decode cX9_remove 58 = .ok (.aload_n 0, 1) := by decide +kernel
theorem dX9_remove_59 : decode cX9_remove 59 = .ok (.getfield 9, 3) := by decide +kernel
theorem dX9_remove_62 : decode cX9_remove 62 = .ok (.iconst 1, 1) := by decide +kernel
theorem dX9_remove_63 : decode cX9_remove 63 = .ok (.iaload, 1) := by decide +kernel
theorem dX9_remove_64 : decode cX9_remove 64 = .ok (.iload_n 2, 1) := by decide +kernel
theorem dX9_remove_65 : decode cX9_remove 65 = .ok (.iconst 0, 1) := by decide +kernel
theorem dX9_remove_66 : decode cX9_remove 66 = .ok (.invokevirtual 55, 3) := by decide +kernel
theorem dX9_remove_69 : decode cX9_remove 69 = .ok (.iinc 2 1, 3) := by decide +kernel
theorem dX9_remove_72 : decode cX9_remove 72 = .ok (.goto (-20), 3) := by decide +kernel
theorem dX9_remove_75 : decode cX9_remove 75 = .ok (.return_, 1) := by decide +kernel
theorem dX9_inState_0 : decode cX9_inState 0 = .ok (.iconst 0, 1) := by decide +kernel
theorem dX9_inState_1 : decode cX9_inState 1 = .ok (.istore_n 2, 1) := by decide +kernel
theorem dX9_inState_2 : decode cX9_inState 2 = .ok (.iconst 0, 1) := by decide +kernel
theorem dX9_inState_3 : decode cX9_inState 3 = .ok (.istore_n 3, 1) := by decide +kernel
theorem dX9_inState_4 : decode cX9_inState 4 = .ok (.iload_n 3, 1) := by decide +kernel
theorem dX9_inState_5 : decode cX9_inState 5 = .ok (.aload_n 0, 1) := by decide +kernel
theorem dX9_inState_6 : decode cX9_inState 6 = .ok (.getfield 9, 3) := by decide +kernel
theorem dX9_inState_9 : decode cX9_inState 9 = .ok (.iconst 1, 1) := by decide +kernel
theorem dX9_inState_10 : decode cX9_inState 10 = .ok (.iaload, 1) := by decide +kernel
theorem dX9_inState_11 : decode cX9_inState 11 = .ok (.if_icmp .ge 28, 3) := by decide +kernel
theorem dX9_inState_14 : decode cX9_inState 14 = .ok (.iload_n 2, 1) := by decide +kernel
theorem dX9_inState_15 : decode cX9_inState 15 = .ok (.aload_n 0, 1) := by decide +kernel
theorem dX9_inState_16 : decode cX9_inState 16 = .ok (.iload_n 3, 1) := by decide +kernel
theorem dX9_inState_17 : decode cX9_inState 17 = .ok (.iload_n 1, 1) := by decide +kernel
theorem dX9_inState_18 : decode cX9_inState 18 = .ok (.invokevirtual 76, 3) := by decide +kernel
theorem dX9_inState_21 : decode cX9_inState 21 = .ok (.ifCond .eq 9, 3) := by decide +kernel
theorem dX9_inState_24 : decode cX9_inState 24 = .ok (.iconst 1, 1) := by decide +kernel
theorem dX9_inState_25 : decode cX9_inState 25 = .ok (.iload_n 3, 1) := by decide +kernel
theorem dX9_inState_26 : decode cX9_inState 26 = .ok (.ishl, 1) := by decide +kernel
theorem dX9_inState_27 : decode cX9_inState 27 = .ok (.goto 4, 3) := by decide +kernel
theorem dX9_inState_30 : decode cX9_inState 30 = .ok (.iconst 0, 1) := by decide +kernel
theorem dX9_inState_31 : decode cX9_inState 31 = .ok (.ior, 1) := by decide +kernel
theorem dX9_inState_32 : decode cX9_inState 32 = .ok (.istore_n 2, 1) := by decide +kernel
theorem dX9_inState_33 : decode cX9_inState 33 = .ok (.iinc 3 1, 3) := by decide +kernel
theorem dX9_inState_36 : decode cX9_inState 36 = .ok (.goto (-32), 3) := by decide +kernel
theorem dX9_inState_39 : decode cX9_inState 39 = .ok (.iload_n 2, 1) := by decide +kernel
theorem dX9_inState_40 : decode cX9_inState 40 = .ok (.ireturn, 1) := by decide +kernel
theorem dX9_sizeOfSet_0 : decode cX9_sizeOfSet 0 = .ok (.iconst 0, 1) := by decide +kernel
theorem dX9_sizeOfSet_1 : decode cX9_sizeOfSet 1 = .ok (.istore_n 2, 1) := by decide +kernel
theorem dX9_sizeOfSet_2 : decode cX9_sizeOfSet 2 = .ok (.iconst 0, 1) := by decide +kernel
theorem dX9_sizeOfSet_3 : decode cX9_sizeOfSet 3 = .ok (.istore_n 3, 1) := by decide +kernel
theorem dX9_sizeOfSet_4 : decode cX9_sizeOfSet 4 = .ok (.iload_n 3, 1) := by decide +kernel
theorem dX9_sizeOfSet_5 : decode cX9_sizeOfSet 5 = .ok (.aload_n 0, 1) := by decide +kernel
theorem dX9_sizeOfSet_6 : decode cX9_sizeOfSet 6 = .ok (.getfield 9, 3) := by decide +kernel
theorem dX9_sizeOfSet_9 : decode cX9_sizeOfSet 9 = .ok (.iconst 1, 1) := by decide +kernel
theorem dX9_sizeOfSet_10 : decode cX9_sizeOfSet 10 = .ok (.iaload, 1) := by decide +kernel
theorem dX9_sizeOfSet_11 : decode cX9_sizeOfSet 11 = .ok (.if_icmp .ge 30, 3) := by decide +kernel
theorem dX9_sizeOfSet_14 : decode cX9_sizeOfSet 14 = .ok (.iload_n 2, 1) := by decide +kernel
theorem dX9_sizeOfSet_15 : decode cX9_sizeOfSet 15 = .ok (.iload_n 1, 1) := by decide +kernel
theorem dX9_sizeOfSet_16 : decode cX9_sizeOfSet 16 = .ok (.iload_n 3, 1) := by decide +kernel
theorem dX9_sizeOfSet_17 : decode cX9_sizeOfSet 17 = .ok (.invokestatic 80, 3) := by decide +kernel
theorem dX9_sizeOfSet_20 : decode cX9_sizeOfSet 20 = .ok (.ifCond .eq 12, 3) := by decide +kernel
theorem dX9_sizeOfSet_23 : decode cX9_sizeOfSet 23 = .ok (.aload_n 0, 1) := by decide +kernel
theorem dX9_sizeOfSet_24 : decode cX9_sizeOfSet 24 = .ok (.iload_n 3, 1) := by decide +kernel
theorem dX9_sizeOfSet_25 : decode cX9_sizeOfSet 25 = .ok (.iconst 0, 1) := by decide +kernel
theorem dX9_sizeOfSet_26 : decode cX9_sizeOfSet 26 = .ok (.invokevirtual 73, 3) := by decide +kernel
theorem dX9_sizeOfSet_29 : decode cX9_sizeOfSet 29 = .ok (.goto 4, 3) := by decide +kernel
theorem dX9_sizeOfSet_32 : decode cX9_sizeOfSet 32 = .ok (.iconst 0, 1) := by decide +kernel
theorem dX9_sizeOfSet_33 : decode cX9_sizeOfSet 33 = .ok (.iadd, 1) := by decide +kernel
theorem dX9_sizeOfSet_34 : decode cX9_sizeOfSet 34 = .ok (.istore_n 2, 1) := by decide +kernel
theorem dX9_sizeOfSet_35 : decode cX9_sizeOfSet 35 = .ok (.iinc 3 1, 3) := by decide +kernel
theorem dX9_sizeOfSet_38 : decode cX9_sizeOfSet 38 = .ok (.goto (-34), 3) := by decide +kernel
theorem dX9_sizeOfSet_41 : decode cX9_sizeOfSet 41 = .ok (.iload_n 2, 1) := by decide +kernel
theorem dX9_sizeOfSet_42 : decode cX9_sizeOfSet 42 = .ok (.ireturn, 1) := by decide +kernel
theorem dX9_weightOfSet_0 : decode cX9_weightOfSet 0 = .ok (.iconst 0, 1) := by decide +kernel
theorem dX9_weightOfSet_1 : decode cX9_weightOfSet 1 = .ok (.istore_n 2, 1) := by decide +kernel
theorem dX9_weightOfSet_2 : decode cX9_weightOfSet 2 = .ok (.iconst 0, 1) := by decide +kernel
theorem dX9_weightOfSet_3 : decode cX9_weightOfSet 3 = .ok (.istore_n 3, 1) := by decide +kernel
theorem dX9_weightOfSet_4 : decode cX9_weightOfSet 4 = .ok (.iload_n 3, 1) := by decide +kernel
theorem dX9_weightOfSet_5 : decode cX9_weightOfSet 5 = .ok (.aload_n 0, 1) := by decide +kernel
theorem dX9_weightOfSet_6 : decode cX9_weightOfSet 6 = .ok (.getfield 9, 3) := by decide +kernel
theorem dX9_weightOfSet_9 : decode cX9_weightOfSet 9 = .ok (.iconst 1, 1) := by decide +kernel
theorem dX9_weightOfSet_10 : decode cX9_weightOfSet 10 = .ok (.iaload, 1) := by decide +kernel
theorem dX9_weightOfSet_11 : decode cX9_weightOfSet 11 = .ok (.if_icmp .ge 29, 3) := by decide +kernel
theorem dX9_weightOfSet_14 : decode cX9_weightOfSet 14 = .ok (.iload_n 2, 1) := by decide +kernel
theorem dX9_weightOfSet_15 : decode cX9_weightOfSet 15 = .ok (.iload_n 1, 1) := by decide +kernel
theorem dX9_weightOfSet_16 : decode cX9_weightOfSet 16 = .ok (.iload_n 3, 1) := by decide +kernel
theorem dX9_weightOfSet_17 : decode cX9_weightOfSet 17 = .ok (.invokestatic 80, 3) := by decide +kernel
theorem dX9_weightOfSet_20 : decode cX9_weightOfSet 20 = .ok (.ifCond .eq 11, 3) := by decide +kernel
theorem dX9_weightOfSet_23 : decode cX9_weightOfSet 23 = .ok (.aload_n 0, 1) := by decide +kernel
theorem dX9_weightOfSet_24 : decode cX9_weightOfSet 24 = .ok (.iload_n 3, 1) := by decide +kernel
theorem dX9_weightOfSet_25 : decode cX9_weightOfSet 25 = .ok (.invokevirtual 83, 3) := by decide +kernel
theorem dX9_weightOfSet_28 : decode cX9_weightOfSet 28 = .ok (.goto 4, 3) := by decide +kernel
theorem dX9_weightOfSet_31 : decode cX9_weightOfSet 31 = .ok (.iconst 0, 1) := by decide +kernel
theorem dX9_weightOfSet_32 : decode cX9_weightOfSet 32 = .ok (.iadd, 1) := by decide +kernel
theorem dX9_weightOfSet_33 : decode cX9_weightOfSet 33 = .ok (.istore_n 2, 1) := by decide +kernel
theorem dX9_weightOfSet_34 : decode cX9_weightOfSet 34 = .ok (.iinc 3 1, 3) := by decide +kernel
theorem dX9_weightOfSet_37 : decode cX9_weightOfSet 37 = .ok (.goto (-33), 3) := by decide +kernel
theorem dX9_weightOfSet_40 : decode cX9_weightOfSet 40 = .ok (.iload_n 2, 1) := by decide +kernel
theorem dX9_weightOfSet_41 : decode cX9_weightOfSet 41 = .ok (.ireturn, 1) := by decide +kernel
theorem dX9_clearTable_0 : decode cX9_clearTable 0 = .ok (.iconst 0, 1) := by decide +kernel
theorem dX9_clearTable_1 : decode cX9_clearTable 1 = .ok (.istore_n 1, 1) := by decide +kernel
theorem dX9_clearTable_2 : decode cX9_clearTable 2 = .ok (.iload_n 1, 1) := by decide +kernel
theorem dX9_clearTable_3 : decode cX9_clearTable 3 = .ok (.bipush 100, 2) := by decide +kernel
theorem dX9_clearTable_5 : decode cX9_clearTable 5 = .ok (.if_icmp .gt 30, 3) := by decide +kernel
theorem dX9_clearTable_8 : decode cX9_clearTable 8 = .ok (.aload_n 0, 1) := by decide +kernel
theorem dX9_clearTable_9 : decode cX9_clearTable 9 = .ok (.getfield 34, 3) := by decide +kernel
theorem dX9_clearTable_12 : decode cX9_clearTable 12 = .ok (.iload_n 1, 1) := by decide +kernel
theorem dX9_clearTable_13 : decode cX9_clearTable 13 = .ok (.iconst (-1), 1) := by decide +kernel
theorem dX9_clearTable_14 : decode cX9_clearTable 14 = .ok (.iastore, 1) := by decide +kernel
theorem dX9_clearTable_15 : decode cX9_clearTable 15 = .ok (.aload_n 0, 1) := by decide +kernel
theorem dX9_clearTable_16 : decode cX9_clearTable 16 = .ok (.getfield 37, 3) := by decide +kernel
theorem dX9_clearTable_19 : decode cX9_clearTable 19 = .ok (.iload_n 1, 1) := by decide +kernel
theorem dX9_clearTable_20 : decode cX9_clearTable 20 = .ok (.iconst 0, 1) := by decide +kernel
theorem dX9_clearTable_21 : decode cX9_clearTable 21 = .ok (.iastore, 1) := by decide +kernel
theorem dX9_clearTable_22 : decode cX9_clearTable 22 = .ok (.aload_n 0, 1) := by decide +kernel
theorem dX9_clearTable_23 : decode cX9_clearTable 23 = .ok (.getfield 40, 3) := by decide +kernel
theorem dX9_clearTable_26 : decode cX9_clearTable 26 = .ok (.iload_n 1, 1) := by decide +kernel
theorem dX9_clearTable_27 : decode cX9_clearTable 27 = .ok (.iconst 0, 1) := by decide +kernel
theorem dX9_clearTable_28 : decode cX9_clearTable 28 = .ok (.iastore, 1) := by decide +kernel
theorem dX9_clearTable_29 : decode cX9_clearTable 29 = .ok (.iinc 1 1, 3) := by decide +kernel
theorem dX9_clearTable_32 : decode cX9_clearTable 32 = .ok (.goto (-30), 3) := by decide +kernel
theorem dX9_clearTable_35 : decode cX9_clearTable 35 = .ok (.aload_n 0, 1) := by decide +kernel
theorem dX9_clearTable_36 : decode cX9_clearTable 36 = .ok (.getfield 34, 3) := by decide +kernel
theorem dX9_clearTable_39 : decode cX9_clearTable 39 = .ok (.iconst 0, 1) := by decide +kernel
theorem dX9_clearTable_40 : decode cX9_clearTable 40 = .ok (.iconst 0, 1) := by decide +kernel
theorem dX9_clearTable_41 : decode cX9_clearTable 41 = .ok (.iastore, 1) := by decide +kernel
theorem dX9_clearTable_42 : decode cX9_clearTable 42 = .ok (.aload_n 0, 1) := by decide +kernel
theorem dX9_clearTable_43 : decode cX9_clearTable 43 = .ok (.getfield 40, 3) := by decide +kernel
theorem dX9_clearTable_46 : decode cX9_clearTable 46 = .ok (.iconst 0, 1) := by decide +kernel
theorem dX9_clearTable_47 : decode cX9_clearTable 47 = .ok (.iconst 1, 1) := by decide +kernel
theorem dX9_clearTable_48 : decode cX9_clearTable 48 = .ok (.iastore, 1) := by decide +kernel
theorem dX9_clearTable_49 : decode cX9_clearTable 49 = .ok (.return_, 1) := by decide +kernel
theorem dX9_take_0 : decode cX9_take 0 = .ok (.aload_n 0, 1) := by decide +kernel
theorem dX9_take_1 : decode cX9_take 1 = .ok (.iload_n 1, 1) := by decide +kernel
theorem dX9_take_2 : decode cX9_take 2 = .ok (.iconst 0, 1) := by decide +kernel
theorem dX9_take_3 : decode cX9_take 3 = .ok (.invokevirtual 73, 3) := by decide +kernel
theorem dX9_take_6 : decode cX9_take 6 = .ok (.istore_n 2, 1) := by decide +kernel
theorem dX9_take_7 : decode cX9_take 7 = .ok (.bipush 100, 2) := by decide +kernel
theorem dX9_take_9 : decode cX9_take 9 = .ok (.istore_n 3, 1) := by decide +kernel
theorem dX9_take_10 : decode cX9_take 10 = .ok (.iload_n 3, 1) := by decide +kernel
theorem dX9_take_11 : decode cX9_take 11 = .ok (.iload_n 2, 1) := by decide +kernel
theorem dX9_take_12 : decode cX9_take 12 = .ok (.if_icmp .lt 154, 3) := by decide +kernel
theorem dX9_take_15 : decode cX9_take 15 = .ok (.aload_n 0, 1) := by decide +kernel
theorem dX9_take_16 : decode cX9_take 16 = .ok (.getfield 34, 3) := by decide +kernel
theorem dX9_take_19 : decode cX9_take 19 = .ok (.iload_n 3, 1) := by decide +kernel
theorem dX9_take_20 : decode cX9_take 20 = .ok (.iload_n 2, 1) := by decide +kernel
theorem dX9_take_21 : decode cX9_take 21 = .ok (.isub, 1) := by decide +kernel
theorem dX9_take_22 : decode cX9_take 22 = .ok (.iaload, 1) := by decide +kernel
theorem dX9_take_23 : decode cX9_take 23 = .ok (.iconst (-1), 1) := by decide +kernel
theorem dX9_take_24 : decode cX9_take 24 = .ok (.if_icmp .ne 6, 3) := by decide +kernel
theorem dX9_take_27 : decode cX9_take 27 = .ok (.goto 133, 3) := by decide +kernel
theorem dX9_take_30 : decode cX9_take 30 = .ok (.aload_n 0, 1) := by decide +kernel
theorem dX9_take_31 : decode cX9_take 31 = .ok (.getfield 34, 3) := by decide +kernel
theorem dX9_take_34 : decode cX9_take 34 = .ok (.iload_n 3, 1) := by decide +kernel
theorem dX9_take_35 : decode cX9_take 35 = .ok (.iload_n 2, 1) := by decide +kernel
theorem dX9_take_36 : decode cX9_take 36 = .ok (.isub, 1) := by decide +kernel
theorem dX9_take_37 : decode cX9_take 37 = .ok (.iaload, 1) := by decide +kernel
theorem dX9_take_38 : decode cX9_take 38 = .ok (.aload_n 0, 1) := by decide +kernel
theorem dX9_take_39 : decode cX9_take 39 = .ok (.iload_n 1, 1) := by decide +kernel
theorem dX9_take_40 : decode cX9_take 40 = .ok (.invokevirtual 83, 3) := by decide +kernel
theorem dX9_take_43 : decode cX9_take 43 = .ok (.iadd, 1) := by decide +kernel
theorem dX9_take_44 : decode cX9_take 44 = .ok (.istore 4, 2) := by decide +kernel
theorem dX9_take_46 : decode cX9_take 46 = .ok (.aload_n 0, 1) := by decide +kernel
theorem dX9_take_47 : decode cX9_take 47 = .ok (.getfield 37, 3) := by decide +kernel
theorem dX9_take_50 : decode cX9_take 50 = .ok (.iload_n 3, 1) := by decide +kernel
theorem dX9_take_51 : decode cX9_take 51 = .ok (.iload_n 2, 1) := by decide +kernel
theorem dX9_take_52 : decode cX9_take 52 = .ok (.isub, 1) := by decide +kernel
theorem dX9_take_53 : decode cX9_take 53 = .ok (.iaload, 1) := by decide +kernel
theorem dX9_take_54 : decode cX9_take 54 = .ok (.iconst 1, 1) := by decide +kernel
theorem dX9_take_55 : decode cX9_take 55 = .ok (.iload_n 1, 1) := by decide +kernel
theorem dX9_take_56 : decode cX9_take 56 = .ok (.ishl, 1) := by decide +kernel
theorem dX9_take_57 : decode cX9_take 57 = .ok (.ior, 1) := by decide +kernel
theorem dX9_take_58 : decode cX9_take 58 = .ok (.istore 5, 2) := by decide +kernel
theorem dX9_take_60 : decode cX9_take 60 = .ok (.iload 4, 2) := by decide +kernel
theorem dX9_take_62 : decode cX9_take 62 = .ok (.aload_n 0, 1) := by decide +kernel
theorem dX9_take_63 : decode cX9_take 63 = .ok (.getfield 34, 3) := by decide +kernel
theorem dX9_take_66 : decode cX9_take 66 = .ok (.iload_n 3, 1) := by decide +kernel
theorem dX9_take_67 : decode cX9_take 67 = .ok (.iaload, 1) := by decide +kernel
theorem dX9_take_68 : decode cX9_take 68 = .ok (.if_icmp .le 36, 3) := by decide +kernel
theorem dX9_take_71 : decode cX9_take 71 = .ok (.aload_n 0, 1) := by decide +kernel
theorem dX9_take_72 : decode cX9_take 72 = .ok (.getfield 34, 3) := by decide +kernel
theorem dX9_take_75 : decode cX9_take 75 = .ok (.iload_n 3, 1) := by decide +kernel
theorem dX9_take_76 : decode cX9_take 76 = .ok (.iload 4, 2) := by decide +kernel
theorem dX9_take_78 : decode cX9_take 78 = .ok (.iastore, 1) := by decide +kernel
theorem dX9_take_79 : decode cX9_take 79 = .ok (.aload_n 0, 1) := by decide +kernel
theorem dX9_take_80 : decode cX9_take 80 = .ok (.getfield 37, 3) := by decide +kernel
theorem dX9_take_83 : decode cX9_take 83 = .ok (.iload_n 3, 1) := by decide +kernel
theorem dX9_take_84 : decode cX9_take 84 = .ok (.iload 5, 2) := by decide +kernel
theorem dX9_take_86 : decode cX9_take 86 = .ok (.iastore, 1) := by decide +kernel
theorem dX9_take_87 : decode cX9_take 87 = .ok (.aload_n 0, 1) := by decide +kernel
theorem dX9_take_88 : decode cX9_take 88 = .ok (.getfield 40, 3) := by decide +kernel
theorem dX9_take_91 : decode cX9_take 91 = .ok (.iload_n 3, 1) := by decide +kernel
theorem dX9_take_92 : decode cX9_take 92 = .ok (.aload_n 0, 1) := by decide +kernel
theorem dX9_take_93 : decode cX9_take 93 = .ok (.getfield 40, 3) := by decide +kernel
theorem dX9_take_96 : decode cX9_take 96 = .ok (.iload_n 3, 1) := by decide +kernel
theorem dX9_take_97 : decode cX9_take 97 = .ok (.iload_n 2, 1) := by decide +kernel
theorem dX9_take_98 : decode cX9_take 98 = .ok (.isub, 1) := by decide +kernel
theorem dX9_take_99 : decode cX9_take 99 = .ok (.iaload, 1) := by decide +kernel
theorem dX9_take_100 : decode cX9_take 100 = .ok (.iastore, 1) := by decide +kernel
theorem dX9_take_101 : decode cX9_take 101 = .ok (.goto 59, 3) := by decide +kernel
theorem dX9_take_104 : decode cX9_take 104 = .ok (.iload 4, 2) := by decide +kernel
theorem dX9_take_106 : decode cX9_take 106 = .ok (.aload_n 0, 1) := by decide +kernel
theorem dX9_take_107 : decode cX9_take 107 = .ok (.getfield 34, 3) := by decide +kernel
theorem dX9_take_110 : decode cX9_take 110 = .ok (.iload_n 3, 1) := by decide +kernel
theorem dX9_take_111 : decode cX9_take 111 = .ok (.iaload, 1) := by decide +kernel
theorem dX9_take_112 : decode cX9_take 112 = .ok (.if_icmp .ne 48, 3) := by decide +kernel
theorem dX9_take_115 : decode cX9_take 115 = .ok (.aload_n 0, 1) := by decide +kernel
theorem dX9_take_116 : decode cX9_take 116 = .ok (.getfield 37, 3) := by decide +kernel
theorem dX9_take_119 : decode cX9_take 119 = .ok (.iload_n 3, 1) := by decide +kernel
theorem dX9_take_120 : decode cX9_take 120 = .ok (.iload 5, 2) := by decide +kernel
theorem dX9_take_122 : decode cX9_take 122 = .ok (.aload_n 0, 1) := by decide +kernel
theorem dX9_take_123 : decode cX9_take 123 = .ok (.getfield 37, 3) := by decide +kernel
theorem dX9_take_126 : decode cX9_take 126 = .ok (.iload_n 3, 1) := by decide +kernel
theorem dX9_take_127 : decode cX9_take 127 = .ok (.iaload, 1) := by decide +kernel
theorem dX9_take_128 : decode cX9_take 128 = .ok (.if_icmp .ge 8, 3) := by decide +kernel
theorem dX9_take_131 : decode cX9_take 131 = .ok (.iload 5, 2) := by decide +kernel
theorem dX9_take_133 : decode cX9_take 133 = .ok (.goto 9, 3) := by decide +kernel
theorem dX9_take_136 : decode cX9_take 136 = .ok (.aload_n 0, 1) := by decide +kernel
theorem dX9_take_137 : decode cX9_take 137 = .ok (.getfield 37, 3) := by decide +kernel
theorem dX9_take_140 : decode cX9_take 140 = .ok (.iload_n 3, 1) := by decide +kernel
theorem dX9_take_141 : decode cX9_take 141 = .ok (.iaload, 1) := by decide +kernel
theorem dX9_take_142 : decode cX9_take 142 = .ok (.iastore, 1) := by decide +kernel
theorem dX9_take_143 : decode cX9_take 143 = .ok (.aload_n 0, 1) := by decide +kernel
theorem dX9_take_144 : decode cX9_take 144 = .ok (.getfield 40, 3) := by decide +kernel
theorem dX9_take_147 : decode cX9_take 147 = .ok (.iload_n 3, 1) := by decide +kernel
theorem dX9_take_148 : decode cX9_take 148 = .ok (.dup2, 1) := by decide +kernel
theorem dX9_take_149 : decode cX9_take 149 = .ok (.iaload, 1) := by decide +kernel
theorem dX9_take_150 : decode cX9_take 150 = .ok (.aload_n 0, 1) := by decide +kernel
theorem dX9_take_151 : decode cX9_take 151 = .ok (.getfield 40, 3) := by decide +kernel
theorem dX9_take_154 : decode cX9_take 154 = .ok (.iload_n 3, 1) := by decide +kernel
theorem dX9_take_155 : decode cX9_take 155 = .ok (.iload_n 2, 1) := by decide +kernel
theorem dX9_take_156 : decode cX9_take 156 = .ok (.isub, 1) := by decide +kernel
theorem dX9_take_157 : decode cX9_take 157 = .ok (.iaload, 1) := by decide +kernel
theorem dX9_take_158 : decode cX9_take 158 = .ok (.iadd, 1) := by decide +kernel
theorem dX9_take_159 : decode cX9_take 159 = .ok (.iastore, 1) := by decide +kernel
theorem dX9_take_160 : decode cX9_take 160 = .ok (.iinc 3 (-1), 3) := by decide +kernel
theorem dX9_take_163 : decode cX9_take 163 = .ok (.goto (-153), 3) := by decide +kernel
theorem dX9_take_166 : decode cX9_take 166 = .ok (.return_, 1) := by decide +kernel
theorem dX9_fillTable_0 : decode cX9_fillTable 0 = .ok (.aload_n 0, 1) := by decide +kernel
theorem dX9_fillTable_1 : decode cX9_fillTable 1 = .ok (.invokevirtual 87, 3) := by decide +kernel
theorem dX9_fillTable_4 : decode cX9_fillTable 4 = .ok (.iconst 0, 1) := by decide +kernel
theorem dX9_fillTable_5 : decode cX9_fillTable 5 = .ok (.istore_n 2, 1) := by decide +kernel
theorem dX9_fillTable_6 : decode cX9_fillTable 6 = .ok (.iconst 0, 1) := by decide +kernel
theorem dX9_fillTable_7 : decode cX9_fillTable 7 = .ok (.istore_n 3, 1) := by decide +kernel
theorem dX9_fillTable_8 : decode cX9_fillTable 8 = .ok (.iload_n 3, 1) := by decide +kernel
theorem dX9_fillTable_9 : decode cX9_fillTable 9 = .ok (.aload_n 0, 1) := by decide +kernel
theorem dX9_fillTable_10 : decode cX9_fillTable 10 = .ok (.getfield 9, 3) := by decide +kernel
theorem dX9_fillTable_13 : decode cX9_fillTable 13 = .ok (.iconst 1, 1) := by decide +kernel
theorem dX9_fillTable_14 : decode cX9_fillTable 14 = .ok (.iaload, 1) := by decide +kernel
theorem dX9_fillTable_15 : decode cX9_fillTable 15 = .ok (.if_icmp .ge 31, 3) := by decide +kernel
theorem dX9_fillTable_18 : decode cX9_fillTable 18 = .ok (.iload_n 2, 1) := by decide +kernel
theorem dX9_fillTable_19 : decode cX9_fillTable 19 = .ok (.iload_n 1, 1) := by decide +kernel
theorem dX9_fillTable_20 : decode cX9_fillTable 20 = .ok (.if_icmp .ge 26, 3) := by decide +kernel
theorem dX9_fillTable_23 : decode cX9_fillTable 23 = .ok (.aload_n 0, 1) := by decide +kernel
theorem dX9_fillTable_24 : decode cX9_fillTable 24 = .ok (.iload_n 3, 1) := by decide +kernel
theorem dX9_fillTable_25 : decode cX9_fillTable 25 = .ok (.iconst 0, 1) := by decide +kernel
theorem dX9_fillTable_26 : decode cX9_fillTable 26 = .ok (.invokevirtual 76, 3) := by decide +kernel
theorem dX9_fillTable_29 : decode cX9_fillTable 29 = .ok (.ifCond .eq 11, 3) := by decide +kernel
theorem dX9_fillTable_32 : decode cX9_fillTable 32 = .ok (.aload_n 0, 1) := by decide +kernel
theorem dX9_fillTable_33 : decode cX9_fillTable 33 = .ok (.iload_n 3, 1) := by decide +kernel
theorem dX9_fillTable_34 : decode cX9_fillTable 34 = .ok (.invokevirtual 90, 3) := by decide +kernel
theorem dX9_fillTable_37 : decode cX9_fillTable 37 = .ok (.iinc 2 1, 3) := by decide +kernel
theorem dX9_fillTable_40 : decode cX9_fillTable 40 = .ok (.iinc 3 1, 3) := by decide +kernel
theorem dX9_fillTable_43 : decode cX9_fillTable 43 = .ok (.goto (-35), 3) := by decide +kernel
theorem dX9_fillTable_46 : decode cX9_fillTable 46 = .ok (.return_, 1) := by decide +kernel
theorem dX9_bestExact_0 : decode cX9_bestExact 0 = .ok (.iconst 0, 1) := by decide +kernel
theorem dX9_bestExact_1 : decode cX9_bestExact 1 = .ok (.istore_n 2, 1) := by decide +kernel
theorem dX9_bestExact_2 : decode cX9_bestExact 2 = .ok (.iconst 1, 1) := by decide +kernel
theorem dX9_bestExact_3 : decode cX9_bestExact 3 = .ok (.istore_n 3, 1) := by decide +kernel
theorem dX9_bestExact_4 : decode cX9_bestExact 4 = .ok (.iload_n 3, 1) := by decide +kernel
theorem dX9_bestExact_5 : decode cX9_bestExact 5 = .ok (.iload_n 1, 1) := by decide +kernel
theorem dX9_bestExact_6 : decode cX9_bestExact 6 = .ok (.if_icmp .gt 30, 3) := by decide +kernel
theorem dX9_bestExact_9 : decode cX9_bestExact 9 = .ok (.aload_n 0, 1) := by decide +kernel
theorem dX9_bestExact_10 : decode cX9_bestExact 10 = .ok (.getfield 34, 3) := by decide +kernel
theorem dX9_bestExact_13 : decode cX9_bestExact 13 = .ok (.iload_n 3, 1) := by decide +kernel
theorem dX9_bestExact_14 : decode cX9_bestExact 14 = .ok (.iaload, 1) := by decide +kernel
theorem dX9_bestExact_15 : decode cX9_bestExact 15 = .ok (.aload_n 0, 1) := by decide +kernel
theorem dX9_bestExact_16 : decode cX9_bestExact 16 = .ok (.getfield 34, 3) := by decide +kernel
theorem dX9_bestExact_19 : decode cX9_bestExact 19 = .ok (.iload_n 2, 1) := by decide +kernel
theorem dX9_bestExact_20 : decode cX9_bestExact 20 = .ok (.iaload, 1) := by decide +kernel
theorem dX9_bestExact_21 : decode cX9_bestExact 21 = .ok (.if_icmp .le 7, 3) := by decide +kernel
theorem dX9_bestExact_24 : decode cX9_bestExact 24 = .ok (.iload_n 3, 1) := by decide +kernel
theorem dX9_bestExact_25 : decode cX9_bestExact 25 = .ok (.goto 4, 3) := by decide +kernel
theorem dX9_bestExact_28 : decode cX9_bestExact 28 = .ok (.iload_n 2, 1) := by decide +kernel
theorem dX9_bestExact_29 : decode cX9_bestExact 29 = .ok (.istore_n 2, 1) := by decide +kernel
theorem dX9_bestExact_30 : decode cX9_bestExact 30 = .ok (.iinc 3 1, 3) := by decide +kernel
theorem dX9_bestExact_33 : decode cX9_bestExact 33 = .ok (.goto (-29), 3) := by decide +kernel
theorem dX9_bestExact_36 : decode cX9_bestExact 36 = .ok (.iload_n 2, 1) := by decide +kernel
theorem dX9_bestExact_37 : decode cX9_bestExact 37 = .ok (.ireturn, 1) := by decide +kernel
theorem dX9_roomFor_0 : decode cX9_roomFor 0 = .ok (.iload_n 1, 1) := by decide +kernel
theorem dX9_roomFor_1 : decode cX9_roomFor 1 = .ok (.aload_n 0, 1) := by decide +kernel
theorem dX9_roomFor_2 : decode cX9_roomFor 2 = .ok (.aload_n 0, 1) := by decide +kernel
theorem dX9_roomFor_3 : decode cX9_roomFor 3 = .ok (.iconst 1, 1) := by decide +kernel
theorem dX9_roomFor_4 : decode cX9_roomFor 4 = .ok (.invokevirtual 93, 3) := by decide +kernel
theorem dX9_roomFor_7 : decode cX9_roomFor 7 = .ok (.invokevirtual 96, 3) := by decide +kernel
theorem dX9_roomFor_10 : decode cX9_roomFor 10 = .ok (.isub, 1) := by decide +kernel
theorem dX9_roomFor_11 : decode cX9_roomFor 11 = .ok (.ireturn, 1) := by decide +kernel
theorem dX9_planFor_0 : decode cX9_planFor 0 = .ok (.aload_n 0, 1) := by decide +kernel
theorem dX9_planFor_1 : decode cX9_planFor 1 = .ok (.iload_n 1, 1) := by decide +kernel
theorem dX9_planFor_2 : decode cX9_planFor 2 = .ok (.invokevirtual 99, 3) := by decide +kernel
theorem dX9_planFor_5 : decode cX9_planFor 5 = .ok (.istore_n 2, 1) := by decide +kernel
theorem dX9_planFor_6 : decode cX9_planFor 6 = .ok (.iload_n 2, 1) := by decide +kernel
theorem dX9_planFor_7 : decode cX9_planFor 7 = .ok (.ifCond .ge 5, 3) := by decide +kernel
theorem dX9_planFor_10 : decode cX9_planFor 10 = .ok (.iconst (-1), 1) := by decide +kernel
theorem dX9_planFor_11 : decode cX9_planFor 11 = .ok (.ireturn, 1) := by decide +kernel
theorem dX9_planFor_12 : decode cX9_planFor 12 = .ok (.aload_n 0, 1) := by decide +kernel
theorem dX9_planFor_13 : decode cX9_planFor 13 = .ok (.bipush 14, 2) := by decide +kernel
theorem dX9_planFor_15 : decode cX9_planFor 15 = .ok (.invokevirtual 102, 3) := by decide +kernel
theorem dX9_planFor_18 : decode cX9_planFor 18 = .ok (.aload_n 0, 1) := by decide +kernel
theorem dX9_planFor_19 : decode cX9_planFor 19 = .ok (.getfield 37, 3) := by decide +kernel
theorem dX9_planFor_22 : decode cX9_planFor 22 = .ok (.aload_n 0, 1) := by decide +kernel
theorem dX9_planFor_23 : decode cX9_planFor 23 = .ok (.iload_n 2, 1) := by decide +kernel
theorem dX9_planFor_24 : decode cX9_planFor 24 = .ok (.invokevirtual 105, 3) := by decide +kernel
theorem dX9_planFor_27 : decode cX9_planFor 27 = .ok (.iaload, 1) := by decide +kernel
theorem dX9_planFor_28 : decode cX9_planFor 28 = .ok (.aload_n 0, 1) := by decide +kernel
theorem dX9_planFor_29 : decode cX9_planFor 29 = .ok (.iconst 1, 1) := by decide +kernel
theorem dX9_planFor_30 : decode cX9_planFor 30 = .ok (.invokevirtual 93, 3) := by decide +kernel
theorem dX9_planFor_33 : decode cX9_planFor 33 = .ok (.ior, 1) := by decide +kernel
theorem dX9_planFor_34 : decode cX9_planFor 34 = .ok (.ireturn, 1) := by decide +kernel
theorem dX9_weightFor_0 : decode cX9_weightFor 0 = .ok (.aload_n 0, 1) := by decide +kernel
theorem dX9_weightFor_1 : decode cX9_weightFor 1 = .ok (.iload_n 1, 1) := by decide +kernel
theorem dX9_weightFor_2 : decode cX9_weightFor 2 = .ok (.invokevirtual 108, 3) := by decide +kernel
theorem dX9_weightFor_5 : decode cX9_weightFor 5 = .ok (.istore_n 2, 1) := by decide +kernel
theorem dX9_weightFor_6 : decode cX9_weightFor 6 = .ok (.iload_n 2, 1) := by decide +kernel
theorem dX9_weightFor_7 : decode cX9_weightFor 7 = .ok (.iconst (-1), 1) := by decide +kernel
theorem dX9_weightFor_8 : decode cX9_weightFor 8 = .ok (.if_icmp .ne 7, 3) := by decide +kernel
theorem dX9_weightFor_11 : decode cX9_weightFor 11 = .ok (.iconst (-1), 1) := by decide +kernel
theorem dX9_weightFor_12 : decode cX9_weightFor 12 = .ok (.goto 8, 3) := by decide +kernel
theorem dX9_weightFor_15 : decode cX9_weightFor 15 = .ok (.aload_n 0, 1) := by decide +kernel
theorem dX9_weightFor_16 : decode cX9_weightFor 16 = .ok (.iload_n 2, 1) := by decide +kernel
theorem dX9_weightFor_17 : decode cX9_weightFor 17 = .ok (.invokevirtual 111, 3) := by decide +kernel
theorem dX9_weightFor_20 : decode cX9_weightFor 20 = .ok (.ireturn, 1) := by decide +kernel
theorem dX9_best_0 : decode cX9_best 0 = .ok (.aload_n 0, 1) := by decide +kernel
theorem dX9_best_1 : decode cX9_best 1 = .ok (.aload_n 0, 1) := by decide +kernel
theorem dX9_best_2 : decode cX9_best 2 = .ok (.getfield 9, 3) := by decide +kernel
theorem dX9_best_5 : decode cX9_best 5 = .ok (.iconst 0, 1) := by decide +kernel
theorem dX9_best_6 : decode cX9_best 6 = .ok (.iaload, 1) := by decide +kernel
theorem dX9_best_7 : decode cX9_best 7 = .ok (.invokevirtual 108, 3) := by decide +kernel
theorem dX9_best_10 : decode cX9_best 10 = .ok (.ireturn, 1) := by decide +kernel
theorem dX9_bestWeightNow_0 : decode cX9_bestWeightNow 0 = .ok (.aload_n 0, 1) := by decide +kernel
theorem dX9_bestWeightNow_1 : decode cX9_bestWeightNow 1 = .ok (.aload_n 0, 1) := by decide +kernel
theorem dX9_bestWeightNow_2 : decode cX9_bestWeightNow 2 = .ok (.getfield 9, 3) := by decide +kernel
theorem dX9_bestWeightNow_5 : decode cX9_bestWeightNow 5 = .ok (.iconst 0, 1) := by decide +kernel
theorem dX9_bestWeightNow_6 : decode cX9_bestWeightNow 6 = .ok (.iaload, 1) := by decide +kernel
theorem dX9_bestWeightNow_7 : decode cX9_bestWeightNow 7 = .ok (.invokevirtual 114, 3) := by decide +kernel
theorem dX9_bestWeightNow_10 : decode cX9_bestWeightNow 10 = .ok (.ireturn, 1) := by decide +kernel
theorem dX9_isDenser_0 : decode cX9_isDenser 0 = .ok (.aload_n 0, 1) := by decide +kernel
theorem dX9_isDenser_1 : decode cX9_isDenser 1 = .ok (.iload_n 1, 1) := by decide +kernel
theorem dX9_isDenser_2 : decode cX9_isDenser 2 = .ok (.invokevirtual 83, 3) := by decide +kernel
theorem dX9_isDenser_5 : decode cX9_isDenser 5 = .ok (.aload_n 0, 1) := by decide +kernel
theorem dX9_isDenser_6 : decode cX9_isDenser 6 = .ok (.iload_n 2, 1) := by decide +kernel
theorem dX9_isDenser_7 : decode cX9_isDenser 7 = .ok (.iconst 0, 1) := by decide +kernel
theorem dX9_isDenser_8 : decode cX9_isDenser 8 = .ok (.invokevirtual 73, 3) := by decide +kernel
theorem dX9_isDenser_11 : decode cX9_isDenser 11 = .ok (.imul, 1) := by decide +kernel
theorem dX9_isDenser_12 : decode cX9_isDenser 12 = .ok (.aload_n 0, 1) := by decide +kernel
theorem dX9_isDenser_13 : decode cX9_isDenser 13 = .ok (.iload_n 2, 1) := by decide +kernel
theorem dX9_isDenser_14 : decode cX9_isDenser 14 = .ok (.invokevirtual 83, 3) := by decide +kernel
theorem dX9_isDenser_17 : decode cX9_isDenser 17 = .ok (.aload_n 0, 1) := by decide +kernel
theorem dX9_isDenser_18 : decode cX9_isDenser 18 = .ok (.iload_n 1, 1) := by decide +kernel
theorem dX9_isDenser_19 : decode cX9_isDenser 19 = .ok (.iconst 0, 1) := by decide +kernel
theorem dX9_isDenser_20 : decode cX9_isDenser 20 = .ok (.invokevirtual 73, 3) := by decide +kernel
theorem dX9_isDenser_23 : decode cX9_isDenser 23 = .ok (.imul, 1) := by decide +kernel
theorem dX9_isDenser_24 : decode cX9_isDenser 24 = .ok (.isub, 1) := by decide +kernel
theorem dX9_isDenser_25 : decode cX9_isDenser 25 = .ok (.istore_n 3, 1) := by decide +kernel
theorem dX9_isDenser_26 : decode cX9_isDenser 26 = .ok (.iload_n 3, 1) := by decide +kernel
theorem dX9_isDenser_27 : decode cX9_isDenser 27 = .ok (.ifCond .eq 13, 3) := by decide +kernel
theorem dX9_isDenser_30 : decode cX9_isDenser 30 = .ok (.iload_n 3, 1) := by decide +kernel
theorem dX9_isDenser_31 : decode cX9_isDenser 31 = .ok (.ifCond .le 7, 3) := by decide +kernel
theorem dX9_isDenser_34 : decode cX9_isDenser 34 = .ok (.iconst 1, 1) := by decide +kernel
theorem dX9_isDenser_35 : decode cX9_isDenser 35 = .ok (.goto 4, 3) := by decide +kernel
theorem dX9_isDenser_38 : decode cX9_isDenser 38 = .ok (.iconst 0, 1) := by decide +kernel
theorem dX9_isDenser_39 : decode cX9_isDenser 39 = .ok (.ireturn, 1) := by decide +kernel
theorem dX9_isDenser_40 : decode cX9_isDenser 40 = .ok (.aload_n 0, 1) := by decide +kernel
theorem dX9_isDenser_41 : decode cX9_isDenser 41 = .ok (.iload_n 1, 1) := by decide +kernel
theorem dX9_isDenser_42 : decode cX9_isDenser 42 = .ok (.iconst 0, 1) := by decide +kernel
theorem dX9_isDenser_43 : decode cX9_isDenser 43 = .ok (.invokevirtual 73, 3) := by decide +kernel
theorem dX9_isDenser_46 : decode cX9_isDenser 46 = .ok (.aload_n 0, 1) := by decide +kernel
theorem dX9_isDenser_47 : decode cX9_isDenser 47 = .ok (.iload_n 2, 1) := by decide +kernel
theorem dX9_isDenser_48 : decode cX9_isDenser 48 = .ok (.iconst 0, 1) := by decide +kernel
theorem dX9_isDenser_49 : decode cX9_isDenser 49 = .ok (.invokevirtual 73, 3) := by decide +kernel
theorem dX9_isDenser_52 : decode cX9_isDenser 52 = .ok (.if_icmp .eq 24, 3) := by decide +kernel
theorem dX9_isDenser_55 : decode cX9_isDenser 55 = .ok (.aload_n 0, 1) := by decide +kernel
theorem dX9_isDenser_56 : decode cX9_isDenser 56 = .ok (.iload_n 1, 1) := by decide +kernel
theorem dX9_isDenser_57 : decode cX9_isDenser 57 = .ok (.iconst 0, 1) := by decide +kernel
theorem dX9_isDenser_58 : decode cX9_isDenser 58 = .ok (.invokevirtual 73, 3) := by decide +kernel
theorem dX9_isDenser_61 : decode cX9_isDenser 61 = .ok (.aload_n 0, 1) := by decide +kernel
theorem dX9_isDenser_62 : decode cX9_isDenser 62 = .ok (.iload_n 2, 1) := by decide +kernel
theorem dX9_isDenser_63 : decode cX9_isDenser 63 = .ok (.iconst 0, 1) := by decide +kernel
theorem dX9_isDenser_64 : decode cX9_isDenser 64 = .ok (.invokevirtual 73, 3) := by decide +kernel
theorem dX9_isDenser_67 : decode cX9_isDenser 67 = .ok (.if_icmp .ge 7, 3) := by decide +kernel
theorem dX9_isDenser_70 : decode cX9_isDenser 70 = .ok (.iconst 1, 1) := by decide +kernel
theorem dX9_isDenser_71 : decode cX9_isDenser 71 = .ok (.goto 4, 3) := by decide +kernel
theorem dX9_isDenser_74 : decode cX9_isDenser 74 = .ok (.iconst 0, 1) := by decide +kernel
theorem dX9_isDenser_75 : decode cX9_isDenser 75 = .ok (.ireturn, 1) := by decide +kernel
theorem dX9_isDenser_76 : decode cX9_isDenser 76 = .ok (.iload_n 1, 1) := by decide +kernel
theorem dX9_isDenser_77 : decode cX9_isDenser 77 = .ok (.iload_n 2, 1) := by decide +kernel
theorem dX9_isDenser_78 : decode cX9_isDenser 78 = .ok (.if_icmp .ge 7, 3) := by decide +kernel
theorem dX9_isDenser_81 : decode cX9_isDenser 81 = .ok (.iconst 1, 1) := by decide +kernel
theorem dX9_isDenser_82 : decode cX9_isDenser 82 = .ok (.goto 4, 3) := by decide +kernel
theorem dX9_isDenser_85 : decode cX9_isDenser 85 = .ok (.iconst 0, 1) := by decide +kernel
theorem dX9_isDenser_86 : decode cX9_isDenser 86 = .ok (.ireturn, 1) := by decide +kernel
theorem dX9_densestWithout_0 : decode cX9_densestWithout 0 = .ok (.iconst (-1), 1) := by decide +kernel
theorem dX9_densestWithout_1 : decode cX9_densestWithout 1 = .ok (.istore_n 2, 1) := by decide +kernel
theorem dX9_densestWithout_2 : decode cX9_densestWithout 2 = .ok (.iconst 0, 1) := by decide +kernel
theorem dX9_densestWithout_3 : decode cX9_densestWithout 3 = .ok (.istore_n 3, 1) := by decide +kernel
theorem dX9_densestWithout_4 : decode cX9_densestWithout 4 = .ok (.iload_n 3, 1) := by decide +kernel
theorem dX9_densestWithout_5 : decode cX9_densestWithout 5 = .ok (.aload_n 0, 1) := by decide +kernel
theorem dX9_densestWithout_6 : decode cX9_densestWithout 6 = .ok (.getfield 9, 3) := by decide +kernel
theorem dX9_densestWithout_9 : decode cX9_densestWithout 9 = .ok (.iconst 1, 1) := by decide +kernel
theorem dX9_densestWithout_10 : decode cX9_densestWithout 10 = .ok (.iaload, 1) := by decide +kernel
theorem dX9_densestWithout_11 : decode cX9_densestWithout 11 = .ok (.if_icmp .ge 58, 3) := by decide +kernel
theorem dX9_densestWithout_14 : decode cX9_densestWithout 14 = .ok (.aload_n 0, 1) := by decide +kernel
theorem dX9_densestWithout_15 : decode cX9_densestWithout 15 = .ok (.iload_n 3, 1) := by decide +kernel
theorem dX9_densestWithout_16 : decode cX9_densestWithout 16 = .ok (.iconst 0, 1) := by decide +kernel
theorem dX9_densestWithout_17 : decode cX9_densestWithout 17 = .ok (.invokevirtual 76, 3) := by decide +kernel
theorem dX9_densestWithout_20 : decode cX9_densestWithout 20 = .ok (.ifCond .eq 15, 3) := by decide +kernel
theorem dX9_densestWithout_23 : decode cX9_densestWithout 23 = .ok (.iload_n 1, 1) := by decide +kernel
theorem dX9_densestWithout_24 : decode cX9_densestWithout 24 = .ok (.iload_n 3, 1) := by decide +kernel
theorem dX9_densestWithout_25 : decode cX9_densestWithout 25 = .ok (.invokestatic 80, 3) := by decide +kernel
theorem dX9_densestWithout_28 : decode cX9_densestWithout 28 = .ok (.ifCond .ne 7, 3) := by decide +kernel
theorem dX9_densestWithout_31 : decode cX9_densestWithout 31 = .ok (.iconst 1, 1) := by decide +kernel
theorem dX9_densestWithout_32 : decode cX9_densestWithout 32 = .ok (.goto 4, 3) := by decide +kernel
theorem dX9_densestWithout_35 : decode cX9_densestWithout 35 = .ok (.iconst 0, 1) := by decide +kernel
theorem dX9_densestWithout_36 : decode cX9_densestWithout 36 = .ok (.istore 4, 2) := by decide +kernel
theorem dX9_densestWithout_38 : decode cX9_densestWithout 38 = .ok (.iload 4, 2) := by decide +kernel
theorem dX9_densestWithout_40 : decode cX9_densestWithout 40 = .ok (.ifCond .eq 21, 3) := by decide +kernel
theorem dX9_densestWithout_43 : decode cX9_densestWithout 43 = .ok (.iload_n 2, 1) := by decide +kernel
theorem dX9_densestWithout_44 : decode cX9_densestWithout 44 = .ok (.iconst (-1), 1) := by decide +kernel
theorem dX9_densestWithout_45 : decode cX9_densestWithout 45 = .ok (.if_icmp .eq 12, 3) := by decide +kernel
theorem dX9_densestWithout_48 : decode cX9_densestWithout 48 = .ok (.aload_n 0, 1) := by decide +kernel
theorem dX9_densestWithout_49 : decode cX9_densestWithout 49 = .ok (.iload_n 3, 1) := by decide +kernel
theorem dX9_densestWithout_50 : decode cX9_densestWithout 50 = .ok (.iload_n 2, 1) := by decide +kernel
theorem dX9_densestWithout_51 : decode cX9_densestWithout 51 = .ok (.invokevirtual 117, 3) := by decide +kernel
theorem dX9_densestWithout_54 : decode cX9_densestWithout 54 = .ok (.ifCond .eq 7, 3) := by decide +kernel
theorem dX9_densestWithout_57 : decode cX9_densestWithout 57 = .ok (.iload_n 3, 1) := by decide +kernel
theorem dX9_densestWithout_58 : decode cX9_densestWithout 58 = .ok (.goto 4, 3) := by decide +kernel
theorem dX9_densestWithout_61 : decode cX9_densestWithout 61 = .ok (.iload_n 2, 1) := by decide +kernel
theorem dX9_densestWithout_62 : decode cX9_densestWithout 62 = .ok (.istore_n 2, 1) := by decide +kernel
theorem dX9_densestWithout_63 : decode cX9_densestWithout 63 = .ok (.iinc 3 1, 3) := by decide +kernel
theorem dX9_densestWithout_66 : decode cX9_densestWithout 66 = .ok (.goto (-62), 3) := by decide +kernel
theorem dX9_densestWithout_69 : decode cX9_densestWithout 69 = .ok (.iload_n 2, 1) := by decide +kernel
theorem dX9_densestWithout_70 : decode cX9_densestWithout 70 = .ok (.ireturn, 1) := by decide +kernel
theorem dX9_greedy_0 : decode cX9_greedy 0 = .ok (.aload_n 0, 1) := by decide +kernel
theorem dX9_greedy_1 : decode cX9_greedy 1 = .ok (.aload_n 0, 1) := by decide +kernel
theorem dX9_greedy_2 : decode cX9_greedy 2 = .ok (.getfield 9, 3) := by decide +kernel
theorem dX9_greedy_5 : decode cX9_greedy 5 = .ok (.iconst 0, 1) := by decide +kernel
theorem dX9_greedy_6 : decode cX9_greedy 6 = .ok (.iaload, 1) := by decide +kernel
theorem dX9_greedy_7 : decode cX9_greedy 7 = .ok (.invokevirtual 99, 3) := by decide +kernel
theorem dX9_greedy_10 : decode cX9_greedy 10 = .ok (.istore_n 1, 1) := by decide +kernel
theorem dX9_greedy_11 : decode cX9_greedy 11 = .ok (.iload_n 1, 1) := by decide +kernel
theorem dX9_greedy_12 : decode cX9_greedy 12 = .ok (.ifCond .ge 5, 3) := by decide +kernel
theorem dX9_greedy_15 : decode cX9_greedy 15 = .ok (.iconst (-1), 1) := by decide +kernel
theorem dX9_greedy_16 : decode cX9_greedy 16 = .ok (.ireturn, 1) := by decide +kernel
theorem dX9_greedy_17 : decode cX9_greedy 17 = .ok (.aload_n 0, 1) := by decide +kernel
theorem dX9_greedy_18 : decode cX9_greedy 18 = .ok (.iconst 1, 1) := by decide +kernel
theorem dX9_greedy_19 : decode cX9_greedy 19 = .ok (.invokevirtual 93, 3) := by decide +kernel
theorem dX9_greedy_22 : decode cX9_greedy 22 = .ok (.istore_n 2, 1) := by decide +kernel
theorem dX9_greedy_23 : decode cX9_greedy 23 = .ok (.iconst 0, 1) := by decide +kernel
theorem dX9_greedy_24 : decode cX9_greedy 24 = .ok (.istore_n 3, 1) := by decide +kernel
theorem dX9_greedy_25 : decode cX9_greedy 25 = .ok (.aload_n 0, 1) := by decide +kernel
theorem dX9_greedy_26 : decode cX9_greedy 26 = .ok (.iload_n 3, 1) := by decide +kernel
theorem dX9_greedy_27 : decode cX9_greedy 27 = .ok (.invokevirtual 120, 3) := by decide +kernel
theorem dX9_greedy_30 : decode cX9_greedy 30 = .ok (.istore 4, 2) := by decide +kernel
theorem dX9_greedy_32 : decode cX9_greedy 32 = .ok (.iload 4, 2) := by decide +kernel
theorem dX9_greedy_34 : decode cX9_greedy 34 = .ok (.iconst (-1), 1) := by decide +kernel
theorem dX9_greedy_35 : decode cX9_greedy 35 = .ok (.if_icmp .eq 48, 3) := by decide +kernel
theorem dX9_greedy_38 : decode cX9_greedy 38 = .ok (.iload_n 3, 1) := by decide +kernel
theorem dX9_greedy_39 : decode cX9_greedy 39 = .ok (.iconst 1, 1) := by decide +kernel
theorem dX9_greedy_40 : decode cX9_greedy 40 = .ok (.iload 4, 2) := by decide +kernel
theorem dX9_greedy_42 : decode cX9_greedy 42 = .ok (.ishl, 1) := by decide +kernel
theorem dX9_greedy_43 : decode cX9_greedy 43 = .ok (.ior, 1) := by decide +kernel
theorem dX9_greedy_44 : decode cX9_greedy 44 = .ok (.istore_n 3, 1) := by decide +kernel
theorem dX9_greedy_45 : decode cX9_greedy 45 = .ok (.aload_n 0, 1) := by decide +kernel
theorem dX9_greedy_46 : decode cX9_greedy 46 = .ok (.iload 4, 2) := by decide +kernel
theorem dX9_greedy_48 : decode cX9_greedy 48 = .ok (.iconst 0, 1) := by decide +kernel
theorem dX9_greedy_49 : decode cX9_greedy 49 = .ok (.invokevirtual 73, 3) := by decide +kernel
theorem dX9_greedy_52 : decode cX9_greedy 52 = .ok (.iload_n 1, 1) := by decide +kernel
theorem dX9_greedy_53 : decode cX9_greedy 53 = .ok (.if_icmp .gt 20, 3) := by decide +kernel
theorem dX9_greedy_56 : decode cX9_greedy 56 = .ok (.iload_n 2, 1) := by decide +kernel
theorem dX9_greedy_57 : decode cX9_greedy 57 = .ok (.iconst 1, 1) := by decide +kernel
theorem dX9_greedy_58 : decode cX9_greedy 58 = .ok (.iload 4, 2) := by decide +kernel
theorem dX9_greedy_60 : decode cX9_greedy 60 = .ok (.ishl, 1) := by decide +kernel
theorem dX9_greedy_61 : decode cX9_greedy 61 = .ok (.ior, 1) := by decide +kernel
theorem dX9_greedy_62 : decode cX9_greedy 62 = .ok (.istore_n 2, 1) := by decide +kernel
theorem dX9_greedy_63 : decode cX9_greedy 63 = .ok (.iload_n 1, 1) := by decide +kernel
theorem dX9_greedy_64 : decode cX9_greedy 64 = .ok (.aload_n 0, 1) := by decide +kernel
theorem dX9_greedy_65 : decode cX9_greedy 65 = .ok (.iload 4, 2) := by decide +kernel
theorem dX9_greedy_67 : decode cX9_greedy 67 = .ok (.iconst 0, 1) := by decide +kernel
theorem dX9_greedy_68 : decode cX9_greedy 68 = .ok (.invokevirtual 73, 3) := by decide +kernel
theorem dX9_greedy_71 : decode cX9_greedy 71 = .ok (.isub, 1) := by decide +kernel
theorem dX9_greedy_72 : decode cX9_greedy 72 = .ok (.istore_n 1, 1) := by decide +kernel
theorem dX9_greedy_73 : decode cX9_greedy 73 = .ok (.aload_n 0, 1) := by decide +kernel
theorem dX9_greedy_74 : decode cX9_greedy 74 = .ok (.iload_n 3, 1) := by decide +kernel
theorem dX9_greedy_75 : decode cX9_greedy 75 = .ok (.invokevirtual 120, 3) := by decide +kernel
theorem dX9_greedy_78 : decode cX9_greedy 78 = .ok (.istore 4, 2) := by decide +kernel
theorem dX9_greedy_80 : decode cX9_greedy 80 = .ok (.goto (-48), 3) := by decide +kernel
theorem dX9_greedy_83 : decode cX9_greedy 83 = .ok (.iload_n 2, 1) := by decide +kernel
theorem dX9_greedy_84 : decode cX9_greedy 84 = .ok (.ireturn, 1) := by decide +kernel
theorem dX9_bound_0 : decode cX9_bound 0 = .ok (.aload_n 0, 1) := by decide +kernel
theorem dX9_bound_1 : decode cX9_bound 1 = .ok (.aload_n 0, 1) := by decide +kernel
theorem dX9_bound_2 : decode cX9_bound 2 = .ok (.getfield 9, 3) := by decide +kernel
theorem dX9_bound_5 : decode cX9_bound 5 = .ok (.iconst 0, 1) := by decide +kernel
theorem dX9_bound_6 : decode cX9_bound 6 = .ok (.iaload, 1) := by decide +kernel
theorem dX9_bound_7 : decode cX9_bound 7 = .ok (.invokevirtual 99, 3) := by decide +kernel
theorem dX9_bound_10 : decode cX9_bound 10 = .ok (.istore_n 1, 1) := by decide +kernel
theorem dX9_bound_11 : decode cX9_bound 11 = .ok (.iload_n 1, 1) := by decide +kernel
theorem dX9_bound_12 : decode cX9_bound 12 = .ok (.ifCond .ge 5, 3) := by decide +kernel
theorem dX9_bound_15 : decode cX9_bound 15 = .ok (.iconst (-1), 1) := by decide +kernel
theorem dX9_bound_16 : decode cX9_bound 16 = .ok (.ireturn, 1) := by decide +kernel
theorem dX9_bound_17 : decode cX9_bound 17 = .ok (.aload_n 0, 1) := by decide +kernel
theorem dX9_bound_18 : decode cX9_bound 18 = .ok (.aload_n 0, 1) := by decide +kernel
theorem dX9_bound_19 : decode cX9_bound 19 = .ok (.iconst 1, 1) := by decide +kernel
theorem dX9_bound_20 : decode cX9_bound 20 = .ok (.invokevirtual 93, 3) := by decide +kernel
theorem dX9_bound_23 : decode cX9_bound 23 = .ok (.invokevirtual 111, 3) := by decide +kernel
theorem dX9_bound_26 : decode cX9_bound 26 = .ok (.istore_n 2, 1) := by decide +kernel
theorem dX9_bound_27 : decode cX9_bound 27 = .ok (.iconst 0, 1) := by decide +kernel
theorem dX9_bound_28 : decode cX9_bound 28 = .ok (.istore_n 3, 1) := by decide +kernel
theorem dX9_bound_29 : decode cX9_bound 29 = .ok (.aload_n 0, 1) := by decide +kernel
theorem dX9_bound_30 : decode cX9_bound 30 = .ok (.iload_n 3, 1) := by decide +kernel
theorem dX9_bound_31 : decode cX9_bound 31 = .ok (.invokevirtual 120, 3) := by decide +kernel
theorem dX9_bound_34 : decode cX9_bound 34 = .ok (.istore 4, 2) := by decide +kernel
theorem dX9_bound_36 : decode cX9_bound 36 = .ok (.iload 4, 2) := by decide +kernel
theorem dX9_bound_38 : decode cX9_bound 38 = .ok (.iconst (-1), 1) := by decide +kernel
theorem dX9_bound_39 : decode cX9_bound 39 = .ok (.if_icmp .eq 50, 3) := by decide +kernel
theorem dX9_bound_42 : decode cX9_bound 42 = .ok (.aload_n 0, 1) := by decide +kernel
theorem dX9_bound_43 : decode cX9_bound 43 = .ok (.iload 4, 2) := by decide +kernel
theorem dX9_bound_45 : decode cX9_bound 45 = .ok (.iconst 0, 1) := by decide +kernel
theorem dX9_bound_46 : decode cX9_bound 46 = .ok (.invokevirtual 73, 3) := by decide +kernel
theorem dX9_bound_49 : decode cX9_bound 49 = .ok (.iload_n 1, 1) := by decide +kernel
theorem dX9_bound_50 : decode cX9_bound 50 = .ok (.if_icmp .gt 39, 3) := by decide +kernel
theorem dX9_bound_53 : decode cX9_bound 53 = .ok (.iload_n 2, 1) := by decide +kernel
theorem dX9_bound_54 : decode cX9_bound 54 = .ok (.aload_n 0, 1) := by decide +kernel
theorem dX9_bound_55 : decode cX9_bound 55 = .ok (.iload 4, 2) := by decide +kernel
theorem dX9_bound_57 : decode cX9_bound 57 = .ok (.invokevirtual 83, 3) := by decide +kernel
theorem dX9_bound_60 : decode cX9_bound 60 = .ok (.iadd, 1) := by decide +kernel
theorem dX9_bound_61 : decode cX9_bound 61 = .ok (.istore_n 2, 1) := by decide +kernel
theorem dX9_bound_62 : decode cX9_bound 62 = .ok (.iload_n 1, 1) := by decide +kernel
theorem dX9_bound_63 : decode cX9_bound 63 = .ok (.aload_n 0, 1) := by decide +kernel
theorem dX9_bound_64 : decode cX9_bound 64 = .ok (.iload 4, 2) := by decide +kernel
theorem dX9_bound_66 : decode cX9_bound 66 = .ok (.iconst 0, 1) := by decide +kernel
theorem dX9_bound_67 : decode cX9_bound 67 = .ok (.invokevirtual 73, 3) := by decide +kernel
theorem dX9_bound_70 : decode cX9_bound 70 = .ok (.isub, 1) := by decide +kernel
theorem dX9_bound_71 : decode cX9_bound 71 = .ok (.istore_n 1, 1) := by decide +kernel
theorem dX9_bound_72 : decode cX9_bound 72 = .ok (.iload_n 3, 1) := by decide +kernel
theorem dX9_bound_73 : decode cX9_bound 73 = .ok (.iconst 1, 1) := by decide +kernel
theorem dX9_bound_74 : decode cX9_bound 74 = .ok (.iload 4, 2) := by decide +kernel
theorem dX9_bound_76 : decode cX9_bound 76 = .ok (.ishl, 1) := by decide +kernel
theorem dX9_bound_77 : decode cX9_bound 77 = .ok (.ior, 1) := by decide +kernel
theorem dX9_bound_78 : decode cX9_bound 78 = .ok (.istore_n 3, 1) := by decide +kernel
theorem dX9_bound_79 : decode cX9_bound 79 = .ok (.aload_n 0, 1) := by decide +kernel
theorem dX9_bound_80 : decode cX9_bound 80 = .ok (.iload_n 3, 1) := by decide +kernel
theorem dX9_bound_81 : decode cX9_bound 81 = .ok (.invokevirtual 120, 3) := by decide +kernel
theorem dX9_bound_84 : decode cX9_bound 84 = .ok (.istore 4, 2) := by decide +kernel
theorem dX9_bound_86 : decode cX9_bound 86 = .ok (.goto (-50), 3) := by decide +kernel
theorem dX9_bound_89 : decode cX9_bound 89 = .ok (.iload 4, 2) := by decide +kernel
theorem dX9_bound_91 : decode cX9_bound 91 = .ok (.iconst (-1), 1) := by decide +kernel
theorem dX9_bound_92 : decode cX9_bound 92 = .ok (.if_icmp .ne 7, 3) := by decide +kernel
theorem dX9_bound_95 : decode cX9_bound 95 = .ok (.iload_n 2, 1) := by decide +kernel
theorem dX9_bound_96 : decode cX9_bound 96 = .ok (.goto 21, 3) := by decide +kernel
theorem dX9_bound_99 : decode cX9_bound 99 = .ok (.iload_n 2, 1) := by decide +kernel
theorem dX9_bound_100 : decode cX9_bound 100 = .ok (.aload_n 0, 1) := by decide +kernel
theorem dX9_bound_101 : decode cX9_bound 101 = .ok (.iload 4, 2) := by decide +kernel
theorem dX9_bound_103 : decode cX9_bound 103 = .ok (.invokevirtual 83, 3) := by decide +kernel
theorem dX9_bound_106 : decode cX9_bound 106 = .ok (.iload_n 1, 1) := by decide +kernel
theorem dX9_bound_107 : decode cX9_bound 107 = .ok (.imul, 1) := by decide +kernel
theorem dX9_bound_108 : decode cX9_bound 108 = .ok (.aload_n 0, 1) := by decide +kernel
theorem dX9_bound_109 : decode cX9_bound 109 = .ok (.iload 4, 2) := by decide +kernel
theorem dX9_bound_111 : decode cX9_bound 111 = .ok (.iconst 0, 1) := by decide +kernel
theorem dX9_bound_112 : decode cX9_bound 112 = .ok (.invokevirtual 73, 3) := by decide +kernel
theorem dX9_bound_115 : decode cX9_bound 115 = .ok (.idiv, 1) := by decide +kernel
theorem dX9_bound_116 : decode cX9_bound 116 = .ok (.iadd, 1) := by decide +kernel
theorem dX9_bound_117 : decode cX9_bound 117 = .ok (.ireturn, 1) := by decide +kernel
theorem dX9_backup_0 : decode cX9_backup 0 = .ok (.aload_n 0, 1) := by decide +kernel
theorem dX9_backup_1 : decode cX9_backup 1 = .ok (.invokevirtual 123, 3) := by decide +kernel
theorem dX9_backup_4 : decode cX9_backup 4 = .ok (.istore_n 1, 1) := by decide +kernel
theorem dX9_backup_5 : decode cX9_backup 5 = .ok (.iload_n 1, 1) := by decide +kernel
theorem dX9_backup_6 : decode cX9_backup 6 = .ok (.iconst (-1), 1) := by decide +kernel
theorem dX9_backup_7 : decode cX9_backup 7 = .ok (.if_icmp .ne 7, 3) := by decide +kernel
theorem dX9_backup_10 : decode cX9_backup 10 = .ok (.iconst 0, 1) := by decide +kernel
theorem dX9_backup_11 : decode cX9_backup 11 = .ok (.goto 4, 3) := by decide +kernel
theorem dX9_backup_14 : decode cX9_backup 14 = .ok (.iload_n 1, 1) := by decide +kernel
theorem dX9_backup_15 : decode cX9_backup 15 = .ok (.istore_n 2, 1) := by decide +kernel
theorem dX9_backup_16 : decode cX9_backup 16 = .ok (.aload_n 0, 1) := by decide +kernel
theorem dX9_backup_17 : decode cX9_backup 17 = .ok (.getfield 9, 3) := by decide +kernel
theorem dX9_backup_20 : decode cX9_backup 20 = .ok (.iconst 2, 1) := by decide +kernel
theorem dX9_backup_21 : decode cX9_backup 21 = .ok (.dup2, 1) := by decide +kernel
theorem dX9_backup_22 : decode cX9_backup 22 = .ok (.iaload, 1) := by decide +kernel
theorem dX9_backup_23 : decode cX9_backup 23 = .ok (.iconst 1, 1) := by decide +kernel
theorem dX9_backup_24 : decode cX9_backup 24 = .ok (.iadd, 1) := by decide +kernel
theorem dX9_backup_25 : decode cX9_backup 25 = .ok (.iastore, 1) := by decide +kernel
theorem dX9_backup_26 : decode cX9_backup 26 = .ok (.aload_n 0, 1) := by decide +kernel
theorem dX9_backup_27 : decode cX9_backup 27 = .ok (.getfield 9, 3) := by decide +kernel
theorem dX9_backup_30 : decode cX9_backup 30 = .ok (.iconst 3, 1) := by decide +kernel
theorem dX9_backup_31 : decode cX9_backup 31 = .ok (.dup2, 1) := by decide +kernel
theorem dX9_backup_32 : decode cX9_backup 32 = .ok (.iaload, 1) := by decide +kernel
theorem dX9_backup_33 : decode cX9_backup 33 = .ok (.aload_n 0, 1) := by decide +kernel
theorem dX9_backup_34 : decode cX9_backup 34 = .ok (.iload_n 2, 1) := by decide +kernel
theorem dX9_backup_35 : decode cX9_backup 35 = .ok (.invokevirtual 96, 3) := by decide +kernel
theorem dX9_backup_38 : decode cX9_backup 38 = .ok (.iadd, 1) := by decide +kernel
theorem dX9_backup_39 : decode cX9_backup 39 = .ok (.iastore, 1) := by decide +kernel
theorem dX9_backup_40 : decode cX9_backup 40 = .ok (.aload_n 0, 1) := by decide +kernel
theorem dX9_backup_41 : decode cX9_backup 41 = .ok (.getfield 9, 3) := by decide +kernel
theorem dX9_backup_44 : decode cX9_backup 44 = .ok (.iconst 4, 1) := by decide +kernel
theorem dX9_backup_45 : decode cX9_backup 45 = .ok (.dup2, 1) := by decide +kernel
theorem dX9_backup_46 : decode cX9_backup 46 = .ok (.iaload, 1) := by decide +kernel
theorem dX9_backup_47 : decode cX9_backup 47 = .ok (.aload_n 0, 1) := by decide +kernel
theorem dX9_backup_48 : decode cX9_backup 48 = .ok (.iload_n 2, 1) := by decide +kernel
theorem dX9_backup_49 : decode cX9_backup 49 = .ok (.invokevirtual 111, 3) := by decide +kernel
theorem dX9_backup_52 : decode cX9_backup 52 = .ok (.iadd, 1) := by decide +kernel
theorem dX9_backup_53 : decode cX9_backup 53 = .ok (.iastore, 1) := by decide +kernel
theorem dX9_backup_54 : decode cX9_backup 54 = .ok (.iconst 0, 1) := by decide +kernel
theorem dX9_backup_55 : decode cX9_backup 55 = .ok (.istore_n 3, 1) := by decide +kernel
theorem dX9_backup_56 : decode cX9_backup 56 = .ok (.iload_n 3, 1) := by decide +kernel
theorem dX9_backup_57 : decode cX9_backup 57 = .ok (.aload_n 0, 1) := by decide +kernel
theorem dX9_backup_58 : decode cX9_backup 58 = .ok (.getfield 9, 3) := by decide +kernel
theorem dX9_backup_61 : decode cX9_backup 61 = .ok (.iconst 1, 1) := by decide +kernel
theorem dX9_backup_62 : decode cX9_backup 62 = .ok (.iaload, 1) := by decide +kernel
theorem dX9_backup_63 : decode cX9_backup 63 = .ok (.if_icmp .ge 55, 3) := by decide +kernel
theorem dX9_backup_66 : decode cX9_backup 66 = .ok (.aload_n 0, 1) := by decide +kernel
theorem dX9_backup_67 : decode cX9_backup 67 = .ok (.iload_n 3, 1) := by decide +kernel
theorem dX9_backup_68 : decode cX9_backup 68 = .ok (.iconst 2, 1) := by decide +kernel
theorem dX9_backup_69 : decode cX9_backup 69 = .ok (.invokevirtual 73, 3) := by decide +kernel
theorem dX9_backup_72 : decode cX9_backup 72 = .ok (.bipush 9, 2) := by decide +kernel
theorem dX9_backup_74 : decode cX9_backup 74 = .ok (.if_icmp .ge 14, 3) := by decide +kernel
theorem dX9_backup_77 : decode cX9_backup 77 = .ok (.aload_n 0, 1) := by decide +kernel
theorem dX9_backup_78 : decode cX9_backup 78 = .ok (.iload_n 3, 1) := by decide +kernel
theorem dX9_backup_79 : decode cX9_backup 79 = .ok (.iconst 2, 1) := by decide +kernel
theorem dX9_backup_80 : decode cX9_backup 80 = .ok (.invokevirtual 73, 3) := by decide +kernel
theorem dX9_backup_83 : decode cX9_backup 83 = .ok (.iconst 1, 1) := by decide +kernel
theorem dX9_backup_84 : decode cX9_backup 84 = .ok (.iadd, 1) := by decide +kernel
theorem dX9_backup_85 : decode cX9_backup 85 = .ok (.goto 5, 3) := by decide +kernel
theorem dX9_backup_88 : decode cX9_backup 88 = .ok (.bipush 9, 2) := by decide +kernel
theorem dX9_backup_90 : decode cX9_backup 90 = .ok (.istore 4, 2) := by decide +kernel
theorem dX9_backup_92 : decode cX9_backup 92 = .ok (.aload_n 0, 1) := by decide +kernel
theorem dX9_backup_93 : decode cX9_backup 93 = .ok (.iload_n 3, 1) := by decide +kernel
theorem dX9_backup_94 : decode cX9_backup 94 = .ok (.iconst 2, 1) := by decide +kernel
theorem dX9_backup_95 : decode cX9_backup 95 = .ok (.iload_n 2, 1) := by decide +kernel
theorem dX9_backup_96 : decode cX9_backup 96 = .ok (.iload_n 3, 1) := by decide +kernel
theorem dX9_backup_97 : decode cX9_backup 97 = .ok (.invokestatic 80, 3) := by decide +kernel
theorem dX9_backup_100 : decode cX9_backup 100 = .ok (.ifCond .eq 7, 3) := by decide +kernel
theorem dX9_backup_103 : decode cX9_backup 103 = .ok (.iconst 0, 1) := by decide +kernel
theorem dX9_backup_104 : decode cX9_backup 104 = .ok (.goto 5, 3) := by decide +kernel
theorem dX9_backup_107 : decode cX9_backup 107 = .ok (.iload 4, 2) := by decide +kernel
theorem dX9_backup_109 : decode cX9_backup 109 = .ok (.invokevirtual 55, 3) := by decide +kernel
theorem dX9_backup_112 : decode cX9_backup 112 = .ok (.iinc 3 1, 3) := by decide +kernel
theorem dX9_backup_115 : decode cX9_backup 115 = .ok (.goto (-59), 3) := by decide +kernel
theorem dX9_backup_118 : decode cX9_backup 118 = .ok (.iload_n 2, 1) := by decide +kernel
theorem dX9_backup_119 : decode cX9_backup 119 = .ok (.ireturn, 1) := by decide +kernel
theorem dX9_backupAll_0 : decode cX9_backupAll 0 = .ok (.iconst 0, 1) := by decide +kernel
theorem dX9_backupAll_1 : decode cX9_backupAll 1 = .ok (.istore_n 2, 1) := by decide +kernel
theorem dX9_backupAll_2 : decode cX9_backupAll 2 = .ok (.iconst 0, 1) := by decide +kernel
theorem dX9_backupAll_3 : decode cX9_backupAll 3 = .ok (.istore_n 3, 1) := by decide +kernel
theorem dX9_backupAll_4 : decode cX9_backupAll 4 = .ok (.iload_n 3, 1) := by decide +kernel
theorem dX9_backupAll_5 : decode cX9_backupAll 5 = .ok (.iload_n 1, 1) := by decide +kernel
theorem dX9_backupAll_6 : decode cX9_backupAll 6 = .ok (.if_icmp .ge 16, 3) := by decide +kernel
theorem dX9_backupAll_9 : decode cX9_backupAll 9 = .ok (.iload_n 2, 1) := by decide +kernel
theorem dX9_backupAll_10 : decode cX9_backupAll 10 = .ok (.aload_n 0, 1) := by decide +kernel
theorem dX9_backupAll_11 : decode cX9_backupAll 11 = .ok (.invokevirtual 127, 3) := by decide +kernel
theorem dX9_backupAll_14 : decode cX9_backupAll 14 = .ok (.ior, 1) := by decide +kernel
theorem dX9_backupAll_15 : decode cX9_backupAll 15 = .ok (.istore_n 2, 1) := by decide +kernel
theorem dX9_backupAll_16 : decode cX9_backupAll 16 = .ok (.iinc 3 1, 3) := by decide +kernel
theorem dX9_backupAll_19 : decode cX9_backupAll 19 = .ok (.goto (-15), 3) := by decide +kernel
theorem dX9_backupAll_22 : decode cX9_backupAll 22 = .ok (.iload_n 2, 1) := by decide +kernel
theorem dX9_backupAll_23 : decode cX9_backupAll 23 = .ok (.ireturn, 1) := by decide +kernel
theorem dX9_addItem_0 : decode cX9_addItem 0 = .ok (.aload_n 0, 1) := by decide +kernel
theorem dX9_addItem_1 : decode cX9_addItem 1 = .ok (.iconst 0, 1) := by decide +kernel
theorem dX9_addItem_2 : decode cX9_addItem 2 = .ok (.putfield 59, 3) := by decide +kernel
theorem dX9_addItem_5 : decode cX9_addItem 5 = .ok (.aload_n 0, 1) := by decide +kernel
theorem dX9_addItem_6 : decode cX9_addItem 6 = .ok (.iload_n 1, 1) := by decide +kernel
theorem dX9_addItem_7 : decode cX9_addItem 7 = .ok (.iconst 1, 1) := by decide +kernel
theorem dX9_addItem_8 : decode cX9_addItem 8 = .ok (.bipush 60, 2) := by decide +kernel
theorem dX9_addItem_10 : decode cX9_addItem 10 = .ok (.iconst 1, 1) := by decide +kernel
theorem dX9_addItem_11 : decode cX9_addItem 11 = .ok (.invokevirtual 69, 3) := by decide +kernel
theorem dX9_addItem_14 : decode cX9_addItem 14 = .ok (.ifCond .ne 16, 3) := by decide +kernel
theorem dX9_addItem_17 : decode cX9_addItem 17 = .ok (.aload_n 0, 1) := by decide +kernel
theorem dX9_addItem_18 : decode cX9_addItem 18 = .ok (.iload_n 2, 1) := by decide +kernel
theorem dX9_addItem_19 : decode cX9_addItem 19 = .ok (.iconst 0, 1) := by decide +kernel
theorem dX9_addItem_20 : decode cX9_addItem 20 = .ok (.sipush 999, 3) := by decide +kernel
theorem dX9_addItem_23 : decode cX9_addItem 23 = .ok (.iconst 1, 1) := by decide +kernel
theorem dX9_addItem_24 : decode cX9_addItem 24 = .ok (.invokevirtual 69, 3) := by decide +kernel
theorem dX9_addItem_27 : decode cX9_addItem 27 = .ok (.ifCond .eq 5, 3) := by decide +kernel
theorem dX9_addItem_30 : decode cX9_addItem 30 = .ok (.iconst 0, 1) := by decide +kernel
theorem dX9_addItem_31 : decode cX9_addItem 31 = .ok (.ireturn, 1) := by decide +kernel
theorem dX9_addItem_32 : decode cX9_addItem 32 = .ok (.aload_n 0, 1) := by decide +kernel
theorem dX9_addItem_33 : decode cX9_addItem 33 = .ok (.getfield 9, 3) := by decide +kernel
theorem dX9_addItem_36 : decode cX9_addItem 36 = .ok (.iconst 1, 1) := by decide +kernel
theorem dX9_addItem_37 : decode cX9_addItem 37 = .ok (.iaload, 1) := by decide +kernel
theorem dX9_addItem_38 : decode cX9_addItem 38 = .ok (.bipush 14, 2) := by decide +kernel
theorem dX9_addItem_40 : decode cX9_addItem 40 = .ok (.if_icmp .ne 6, 3) := by decide +kernel
theorem dX9_addItem_43 : decode cX9_addItem 43 = .ok (.bipush (-2), 2) := by decide +kernel
theorem dX9_addItem_45 : decode cX9_addItem 45 = .ok (.ireturn, 1) := by decide +kernel
theorem dX9_addItem_46 : decode cX9_addItem 46 = .ok (.aload_n 0, 1) := by decide +kernel
theorem dX9_addItem_47 : decode cX9_addItem 47 = .ok (.aload_n 0, 1) := by decide +kernel
theorem dX9_addItem_48 : decode cX9_addItem 48 = .ok (.getfield 9, 3) := by decide +kernel
theorem dX9_addItem_51 : decode cX9_addItem 51 = .ok (.invokevirtual 130, 3) := by decide +kernel
theorem dX9_addItem_54 : decode cX9_addItem 54 = .ok (.aload_n 0, 1) := by decide +kernel
theorem dX9_addItem_55 : decode cX9_addItem 55 = .ok (.iload_n 1, 1) := by decide +kernel
theorem dX9_addItem_56 : decode cX9_addItem 56 = .ok (.iload_n 2, 1) := by decide +kernel
theorem dX9_addItem_57 : decode cX9_addItem 57 = .ok (.invokevirtual 51, 3) := by decide +kernel
theorem dX9_addItem_60 : decode cX9_addItem 60 = .ok (.ireturn, 1) := by decide +kernel
theorem dX9_removeItem_0 : decode cX9_removeItem 0 = .ok (.aload_n 0, 1) := by decide +kernel
theorem dX9_removeItem_1 : decode cX9_removeItem 1 = .ok (.iconst 0, 1) := by decide +kernel
theorem dX9_removeItem_2 : decode cX9_removeItem 2 = .ok (.putfield 59, 3) := by decide +kernel
theorem dX9_removeItem_5 : decode cX9_removeItem 5 = .ok (.aload_n 0, 1) := by decide +kernel
theorem dX9_removeItem_6 : decode cX9_removeItem 6 = .ok (.iload_n 1, 1) := by decide +kernel
theorem dX9_removeItem_7 : decode cX9_removeItem 7 = .ok (.invokevirtual 134, 3) := by decide +kernel
theorem dX9_removeItem_10 : decode cX9_removeItem 10 = .ok (.ifCond .eq 5, 3) := by decide +kernel
theorem dX9_removeItem_13 : decode cX9_removeItem 13 = .ok (.iconst 0, 1) := by decide +kernel
theorem dX9_removeItem_14 : decode cX9_removeItem 14 = .ok (.ireturn, 1) := by decide +kernel
theorem dX9_removeItem_15 : decode cX9_removeItem 15 = .ok (.aload_n 0, 1) := by decide +kernel
theorem dX9_removeItem_16 : decode cX9_removeItem 16 = .ok (.aload_n 0, 1) := by decide +kernel
theorem dX9_removeItem_17 : decode cX9_removeItem 17 = .ok (.getfield 9, 3) := by decide +kernel
theorem dX9_removeItem_20 : decode cX9_removeItem 20 = .ok (.invokevirtual 130, 3) := by decide +kernel
theorem dX9_removeItem_23 : decode cX9_removeItem 23 = .ok (.aload_n 0, 1) := by decide +kernel
theorem dX9_removeItem_24 : decode cX9_removeItem 24 = .ok (.iload_n 1, 1) := by decide +kernel
theorem dX9_removeItem_25 : decode cX9_removeItem 25 = .ok (.invokevirtual 138, 3) := by decide +kernel
theorem dX9_removeItem_28 : decode cX9_removeItem 28 = .ok (.aload_n 0, 1) := by decide +kernel
theorem dX9_removeItem_29 : decode cX9_removeItem 29 = .ok (.getfield 9, 3) := by decide +kernel
theorem dX9_removeItem_32 : decode cX9_removeItem 32 = .ok (.iconst 1, 1) := by decide +kernel
theorem dX9_removeItem_33 : decode cX9_removeItem 33 = .ok (.iaload, 1) := by decide +kernel
theorem dX9_removeItem_34 : decode cX9_removeItem 34 = .ok (.ireturn, 1) := by decide +kernel
theorem dX9_change_0 : decode cX9_change 0 = .ok (.aload_n 0, 1) := by decide +kernel
theorem dX9_change_1 : decode cX9_change 1 = .ok (.aload_n 0, 1) := by decide +kernel
theorem dX9_change_2 : decode cX9_change 2 = .ok (.getfield 9, 3) := by decide +kernel
theorem dX9_change_5 : decode cX9_change 5 = .ok (.invokevirtual 130, 3) := by decide +kernel
theorem dX9_change_8 : decode cX9_change 8 = .ok (.aload_n 0, 1) := by decide +kernel
theorem dX9_change_9 : decode cX9_change 9 = .ok (.iload_n 1, 1) := by decide +kernel
theorem dX9_change_10 : decode cX9_change 10 = .ok (.iload_n 2, 1) := by decide +kernel
theorem dX9_change_11 : decode cX9_change 11 = .ok (.invokevirtual 73, 3) := by decide +kernel
theorem dX9_change_14 : decode cX9_change 14 = .ok (.istore 4, 2) := by decide +kernel
theorem dX9_change_16 : decode cX9_change 16 = .ok (.aload_n 0, 1) := by decide +kernel
theorem dX9_change_17 : decode cX9_change 17 = .ok (.iload_n 1, 1) := by decide +kernel
theorem dX9_change_18 : decode cX9_change 18 = .ok (.iload_n 2, 1) := by decide +kernel
theorem dX9_change_19 : decode cX9_change 19 = .ok (.iload_n 3, 1) := by decide +kernel
theorem dX9_change_20 : decode cX9_change 20 = .ok (.invokevirtual 55, 3) := by decide +kernel
theorem dX9_change_23 : decode cX9_change 23 = .ok (.iload 4, 2) := by decide +kernel
theorem dX9_change_25 : decode cX9_change 25 = .ok (.ireturn, 1) := by decide +kernel
theorem dX9_setSize_0 : decode cX9_setSize 0 = .ok (.aload_n 0, 1) := by decide +kernel
theorem dX9_setSize_1 : decode cX9_setSize 1 = .ok (.iconst 0, 1) := by decide +kernel
theorem dX9_setSize_2 : decode cX9_setSize 2 = .ok (.putfield 59, 3) := by decide +kernel
theorem dX9_setSize_5 : decode cX9_setSize 5 = .ok (.aload_n 0, 1) := by decide +kernel
theorem dX9_setSize_6 : decode cX9_setSize 6 = .ok (.iload_n 1, 1) := by decide +kernel
theorem dX9_setSize_7 : decode cX9_setSize 7 = .ok (.invokevirtual 134, 3) := by decide +kernel
theorem dX9_setSize_10 : decode cX9_setSize 10 = .ok (.ifCond .ne 15, 3) := by decide +kernel
theorem dX9_setSize_13 : decode cX9_setSize 13 = .ok (.aload_n 0, 1) := by decide +kernel
theorem dX9_setSize_14 : decode cX9_setSize 14 = .ok (.iload_n 2, 1) := by decide +kernel
theorem dX9_setSize_15 : decode cX9_setSize 15 = .ok (.iconst 1, 1) := by decide +kernel
theorem dX9_setSize_16 : decode cX9_setSize 16 = .ok (.bipush 60, 2) := by decide +kernel
theorem dX9_setSize_18 : decode cX9_setSize 18 = .ok (.iconst 2, 1) := by decide +kernel
theorem dX9_setSize_19 : decode cX9_setSize 19 = .ok (.invokevirtual 69, 3) := by decide +kernel
theorem dX9_setSize_22 : decode cX9_setSize 22 = .ok (.ifCond .eq 7, 3) := by decide +kernel
theorem dX9_setSize_25 : decode cX9_setSize 25 = .ok (.iconst 0, 1) := by decide +kernel
theorem dX9_setSize_26 : decode cX9_setSize 26 = .ok (.goto 10, 3) := by decide +kernel
theorem dX9_setSize_29 : decode cX9_setSize 29 = .ok (.aload_n 0, 1) := by decide +kernel
theorem dX9_setSize_30 : decode cX9_setSize 30 = .ok (.iload_n 1, 1) := by decide +kernel
theorem dX9_setSize_31 : decode cX9_setSize 31 = .ok (.iconst 0, 1) := by decide +kernel
theorem dX9_setSize_32 : decode cX9_setSize 32 = .ok (.iload_n 2, 1) := by decide +kernel
theorem dX9_setSize_33 : decode cX9_setSize 33 = .ok (.invokevirtual 141, 3) := by decide +kernel
theorem dX9_setSize_36 : decode cX9_setSize 36 = .ok (.ireturn, 1) := by decide +kernel
theorem dX9_setValue_0 : decode cX9_setValue 0 = .ok (.aload_n 0, 1) := by decide +kernel
theorem dX9_setValue_1 : decode cX9_setValue 1 = .ok (.iconst 0, 1) := by decide +kernel
theorem dX9_setValue_2 : decode cX9_setValue 2 = .ok (.putfield 59, 3) := by decide +kernel
theorem dX9_setValue_5 : decode cX9_setValue 5 = .ok (.aload_n 0, 1) := by decide +kernel
theorem dX9_setValue_6 : decode cX9_setValue 6 = .ok (.iload_n 1, 1) := by decide +kernel
theorem dX9_setValue_7 : decode cX9_setValue 7 = .ok (.invokevirtual 134, 3) := by decide +kernel
theorem dX9_setValue_10 : decode cX9_setValue 10 = .ok (.ifCond .ne 16, 3) := by decide +kernel
theorem dX9_setValue_13 : decode cX9_setValue 13 = .ok (.aload_n 0, 1) := by decide +kernel
theorem dX9_setValue_14 : decode cX9_setValue 14 = .ok (.iload_n 2, 1) := by decide +kernel
theorem dX9_setValue_15 : decode cX9_setValue 15 = .ok (.iconst 0, 1) := by decide +kernel
theorem dX9_setValue_16 : decode cX9_setValue 16 = .ok (.sipush 999, 3) := by decide +kernel
theorem dX9_setValue_19 : decode cX9_setValue 19 = .ok (.iconst 2, 1) := by decide +kernel
theorem dX9_setValue_20 : decode cX9_setValue 20 = .ok (.invokevirtual 69, 3) := by decide +kernel
theorem dX9_setValue_23 : decode cX9_setValue 23 = .ok (.ifCond .eq 7, 3) := by decide +kernel
theorem dX9_setValue_26 : decode cX9_setValue 26 = .ok (.iconst 0, 1) := by decide +kernel
theorem dX9_setValue_27 : decode cX9_setValue 27 = .ok (.goto 10, 3) := by decide +kernel
theorem dX9_setValue_30 : decode cX9_setValue 30 = .ok (.aload_n 0, 1) := by decide +kernel
theorem dX9_setValue_31 : decode cX9_setValue 31 = .ok (.iload_n 1, 1) := by decide +kernel
theorem dX9_setValue_32 : decode cX9_setValue 32 = .ok (.iconst 1, 1) := by decide +kernel
theorem dX9_setValue_33 : decode cX9_setValue 33 = .ok (.iload_n 2, 1) := by decide +kernel
theorem dX9_setValue_34 : decode cX9_setValue 34 = .ok (.invokevirtual 141, 3) := by decide +kernel
theorem dX9_setValue_37 : decode cX9_setValue 37 = .ok (.ireturn, 1) := by decide +kernel
theorem dX9_pin_0 : decode cX9_pin 0 = .ok (.aload_n 0, 1) := by decide +kernel
theorem dX9_pin_1 : decode cX9_pin 1 = .ok (.iconst 0, 1) := by decide +kernel
theorem dX9_pin_2 : decode cX9_pin 2 = .ok (.putfield 59, 3) := by decide +kernel
theorem dX9_pin_5 : decode cX9_pin 5 = .ok (.aload_n 0, 1) := by decide +kernel
theorem dX9_pin_6 : decode cX9_pin 6 = .ok (.iload_n 1, 1) := by decide +kernel
theorem dX9_pin_7 : decode cX9_pin 7 = .ok (.invokevirtual 134, 3) := by decide +kernel
theorem dX9_pin_10 : decode cX9_pin 10 = .ok (.ifCond .eq 7, 3) := by decide +kernel
theorem dX9_pin_13 : decode cX9_pin 13 = .ok (.iconst 0, 1) := by decide +kernel
theorem dX9_pin_14 : decode cX9_pin 14 = .ok (.goto 10, 3) := by decide +kernel
theorem dX9_pin_17 : decode cX9_pin 17 = .ok (.aload_n 0, 1) := by decide +kernel
theorem dX9_pin_18 : decode cX9_pin 18 = .ok (.iload_n 1, 1) := by decide +kernel
theorem dX9_pin_19 : decode cX9_pin 19 = .ok (.iconst 3, 1) := by decide +kernel
theorem dX9_pin_20 : decode cX9_pin 20 = .ok (.iconst 1, 1) := by decide +kernel
theorem dX9_pin_21 : decode cX9_pin 21 = .ok (.invokevirtual 141, 3) := by decide +kernel
theorem dX9_pin_24 : decode cX9_pin 24 = .ok (.ireturn, 1) := by decide +kernel
theorem dX9_exclude_0 : decode cX9_exclude 0 = .ok (.aload_n 0, 1) := by decide +kernel
theorem dX9_exclude_1 : decode cX9_exclude 1 = .ok (.iconst 0, 1) := by decide +kernel
theorem dX9_exclude_2 : decode cX9_exclude 2 = .ok (.putfield 59, 3) := by decide +kernel
theorem dX9_exclude_5 : decode cX9_exclude 5 = .ok (.aload_n 0, 1) := by decide +kernel
theorem dX9_exclude_6 : decode cX9_exclude 6 = .ok (.iload_n 1, 1) := by decide +kernel
theorem dX9_exclude_7 : decode cX9_exclude 7 = .ok (.invokevirtual 134, 3) := by decide +kernel
theorem dX9_exclude_10 : decode cX9_exclude 10 = .ok (.ifCond .eq 7, 3) := by decide +kernel
theorem dX9_exclude_13 : decode cX9_exclude 13 = .ok (.iconst 0, 1) := by decide +kernel
theorem dX9_exclude_14 : decode cX9_exclude 14 = .ok (.goto 10, 3) := by decide +kernel
theorem dX9_exclude_17 : decode cX9_exclude 17 = .ok (.aload_n 0, 1) := by decide +kernel
theorem dX9_exclude_18 : decode cX9_exclude 18 = .ok (.iload_n 1, 1) := by decide +kernel
theorem dX9_exclude_19 : decode cX9_exclude 19 = .ok (.iconst 3, 1) := by decide +kernel
theorem dX9_exclude_20 : decode cX9_exclude 20 = .ok (.iconst 2, 1) := by decide +kernel
theorem dX9_exclude_21 : decode cX9_exclude 21 = .ok (.invokevirtual 141, 3) := by decide +kernel
theorem dX9_exclude_24 : decode cX9_exclude 24 = .ok (.ireturn, 1) := by decide +kernel
theorem dX9_release_0 : decode cX9_release 0 = .ok (.aload_n 0, 1) := by decide +kernel
theorem dX9_release_1 : decode cX9_release 1 = .ok (.iconst 0, 1) := by decide +kernel
theorem dX9_release_2 : decode cX9_release 2 = .ok (.putfield 59, 3) := by decide +kernel
theorem dX9_release_5 : decode cX9_release 5 = .ok (.aload_n 0, 1) := by decide +kernel
theorem dX9_release_6 : decode cX9_release 6 = .ok (.iload_n 1, 1) := by decide +kernel
theorem dX9_release_7 : decode cX9_release 7 = .ok (.invokevirtual 134, 3) := by decide +kernel
theorem dX9_release_10 : decode cX9_release 10 = .ok (.ifCond .eq 7, 3) := by decide +kernel
theorem dX9_release_13 : decode cX9_release 13 = .ok (.iconst 0, 1) := by decide +kernel
theorem dX9_release_14 : decode cX9_release 14 = .ok (.goto 10, 3) := by decide +kernel
theorem dX9_release_17 : decode cX9_release 17 = .ok (.aload_n 0, 1) := by decide +kernel
theorem dX9_release_18 : decode cX9_release 18 = .ok (.iload_n 1, 1) := by decide +kernel
theorem dX9_release_19 : decode cX9_release 19 = .ok (.iconst 3, 1) := by decide +kernel
theorem dX9_release_20 : decode cX9_release 20 = .ok (.iconst 0, 1) := by decide +kernel
theorem dX9_release_21 : decode cX9_release 21 = .ok (.invokevirtual 141, 3) := by decide +kernel
theorem dX9_release_24 : decode cX9_release 24 = .ok (.ireturn, 1) := by decide +kernel
theorem dX9_setCapacity_0 : decode cX9_setCapacity 0 = .ok (.aload_n 0, 1) := by decide +kernel
theorem dX9_setCapacity_1 : decode cX9_setCapacity 1 = .ok (.iconst 0, 1) := by decide +kernel
theorem dX9_setCapacity_2 : decode cX9_setCapacity 2 = .ok (.putfield 59, 3) := by decide +kernel
theorem dX9_setCapacity_5 : decode cX9_setCapacity 5 = .ok (.aload_n 0, 1) := by decide +kernel
theorem dX9_setCapacity_6 : decode cX9_setCapacity 6 = .ok (.iload_n 1, 1) := by decide +kernel
theorem dX9_setCapacity_7 : decode cX9_setCapacity 7 = .ok (.iconst 0, 1) := by decide +kernel
theorem dX9_setCapacity_8 : decode cX9_setCapacity 8 = .ok (.bipush 100, 2) := by decide +kernel
theorem dX9_setCapacity_10 : decode cX9_setCapacity 10 = .ok (.iconst 1, 1) := by decide +kernel
theorem dX9_setCapacity_11 : decode cX9_setCapacity 11 = .ok (.invokevirtual 69, 3) := by decide +kernel
theorem dX9_setCapacity_14 : decode cX9_setCapacity 14 = .ok (.ifCond .eq 5, 3) := by decide +kernel
theorem dX9_setCapacity_17 : decode cX9_setCapacity 17 = .ok (.iconst 0, 1) := by decide +kernel
theorem dX9_setCapacity_18 : decode cX9_setCapacity 18 = .ok (.ireturn, 1) := by decide +kernel
theorem dX9_setCapacity_19 : decode cX9_setCapacity 19 = .ok (.aload_n 0, 1) := by decide +kernel
theorem dX9_setCapacity_20 : decode cX9_setCapacity 20 = .ok (.aload_n 0, 1) := by decide +kernel
theorem dX9_setCapacity_21 : decode cX9_setCapacity 21 = .ok (.getfield 9, 3) := by decide +kernel
theorem dX9_setCapacity_24 : decode cX9_setCapacity 24 = .ok (.invokevirtual 130, 3) := by decide +kernel
theorem dX9_setCapacity_27 : decode cX9_setCapacity 27 = .ok (.aload_n 0, 1) := by decide +kernel
theorem dX9_setCapacity_28 : decode cX9_setCapacity 28 = .ok (.getfield 9, 3) := by decide +kernel
theorem dX9_setCapacity_31 : decode cX9_setCapacity 31 = .ok (.iconst 0, 1) := by decide +kernel
theorem dX9_setCapacity_32 : decode cX9_setCapacity 32 = .ok (.iaload, 1) := by decide +kernel
theorem dX9_setCapacity_33 : decode cX9_setCapacity 33 = .ok (.istore_n 2, 1) := by decide +kernel
theorem dX9_setCapacity_34 : decode cX9_setCapacity 34 = .ok (.aload_n 0, 1) := by decide +kernel
theorem dX9_setCapacity_35 : decode cX9_setCapacity 35 = .ok (.getfield 9, 3) := by decide +kernel
theorem dX9_setCapacity_38 : decode cX9_setCapacity 38 = .ok (.iconst 0, 1) := by decide +kernel
theorem dX9_setCapacity_39 : decode cX9_setCapacity 39 = .ok (.iload_n 1, 1) := by decide +kernel
theorem dX9_setCapacity_40 : decode cX9_setCapacity 40 = .ok (.iastore, 1) := by decide +kernel
theorem dX9_setCapacity_41 : decode cX9_setCapacity 41 = .ok (.iload_n 2, 1) := by decide +kernel
theorem dX9_setCapacity_42 : decode cX9_setCapacity 42 = .ok (.ireturn, 1) := by decide +kernel
theorem dX9_pinAll_0 : decode cX9_pinAll 0 = .ok (.iconst 0, 1) := by decide +kernel
theorem dX9_pinAll_1 : decode cX9_pinAll 1 = .ok (.istore_n 2, 1) := by decide +kernel
theorem dX9_pinAll_2 : decode cX9_pinAll 2 = .ok (.iconst 0, 1) := by decide +kernel
theorem dX9_pinAll_3 : decode cX9_pinAll 3 = .ok (.istore_n 3, 1) := by decide +kernel
theorem dX9_pinAll_4 : decode cX9_pinAll 4 = .ok (.iload_n 3, 1) := by decide +kernel
theorem dX9_pinAll_5 : decode cX9_pinAll 5 = .ok (.aload_n 0, 1) := by decide +kernel
theorem dX9_pinAll_6 : decode cX9_pinAll 6 = .ok (.getfield 9, 3) := by decide +kernel
theorem dX9_pinAll_9 : decode cX9_pinAll 9 = .ok (.iconst 1, 1) := by decide +kernel
theorem dX9_pinAll_10 : decode cX9_pinAll 10 = .ok (.iaload, 1) := by decide +kernel
theorem dX9_pinAll_11 : decode cX9_pinAll 11 = .ok (.if_icmp .ge 36, 3) := by decide +kernel
theorem dX9_pinAll_14 : decode cX9_pinAll 14 = .ok (.iload_n 1, 1) := by decide +kernel
theorem dX9_pinAll_15 : decode cX9_pinAll 15 = .ok (.iload_n 3, 1) := by decide +kernel
theorem dX9_pinAll_16 : decode cX9_pinAll 16 = .ok (.invokestatic 80, 3) := by decide +kernel
theorem dX9_pinAll_19 : decode cX9_pinAll 19 = .ok (.ifCond .eq 22, 3) := by decide +kernel
theorem dX9_pinAll_22 : decode cX9_pinAll 22 = .ok (.aload_n 0, 1) := by decide +kernel
theorem dX9_pinAll_23 : decode cX9_pinAll 23 = .ok (.iload_n 3, 1) := by decide +kernel
theorem dX9_pinAll_24 : decode cX9_pinAll 24 = .ok (.iconst 1, 1) := by decide +kernel
theorem dX9_pinAll_25 : decode cX9_pinAll 25 = .ok (.invokevirtual 76, 3) := by decide +kernel
theorem dX9_pinAll_28 : decode cX9_pinAll 28 = .ok (.ifCond .ne 13, 3) := by decide +kernel
theorem dX9_pinAll_31 : decode cX9_pinAll 31 = .ok (.aload_n 0, 1) := by decide +kernel
theorem dX9_pinAll_32 : decode cX9_pinAll 32 = .ok (.iload_n 3, 1) := by decide +kernel
theorem dX9_pinAll_33 : decode cX9_pinAll 33 = .ok (.iconst 3, 1) := by decide +kernel
theorem dX9_pinAll_34 : decode cX9_pinAll 34 = .ok (.iconst 1, 1) := by decide +kernel
theorem dX9_pinAll_35 : decode cX9_pinAll 35 = .ok (.invokevirtual 55, 3) := by decide +kernel
theorem dX9_pinAll_38 : decode cX9_pinAll 38 = .ok (.iinc 2 1, 3) := by decide +kernel
theorem dX9_pinAll_41 : decode cX9_pinAll 41 = .ok (.iinc 3 1, 3) := by decide +kernel
theorem dX9_pinAll_44 : decode cX9_pinAll 44 = .ok (.goto (-40), 3) := by decide +kernel
theorem dX9_pinAll_47 : decode cX9_pinAll 47 = .ok (.iload_n 2, 1) := by decide +kernel
theorem dX9_pinAll_48 : decode cX9_pinAll 48 = .ok (.ireturn, 1) := by decide +kernel
theorem dX9_pinBest_0 : decode cX9_pinBest 0 = .ok (.aload_n 0, 1) := by decide +kernel
theorem dX9_pinBest_1 : decode cX9_pinBest 1 = .ok (.iconst 0, 1) := by decide +kernel
theorem dX9_pinBest_2 : decode cX9_pinBest 2 = .ok (.putfield 59, 3) := by decide +kernel
theorem dX9_pinBest_5 : decode cX9_pinBest 5 = .ok (.aload_n 0, 1) := by decide +kernel
theorem dX9_pinBest_6 : decode cX9_pinBest 6 = .ok (.invokevirtual 123, 3) := by decide +kernel
theorem dX9_pinBest_9 : decode cX9_pinBest 9 = .ok (.istore_n 1, 1) := by decide +kernel
theorem dX9_pinBest_10 : decode cX9_pinBest 10 = .ok (.aload_n 0, 1) := by decide +kernel
