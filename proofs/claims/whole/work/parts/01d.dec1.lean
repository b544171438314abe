theorem dX0_init_0 : decode cX0_init 0 = .ok (.aload_n 0, 1) := by decide +kernel
theorem dX0_init_1 : decode cX0_init 1 = .ok (.invokespecial 1, 3) := by decide +kernel
theorem dX0_init_4 : decode cX0_init 4 = .ok (.aload_n 0, 1) := by decide +kernel
theorem dX0_init_5 : decode cX0_init 5 = .ok (.bipush 100, 2) := by decide +kernel
theorem dX0_init_7 : decode cX0_init 7 = .ok (.putfield 7, 3) := by decide +kernel
theorem dX0_init_10 : decode cX0_init 10 = .ok (.aload_n 0, 1) := by decide +kernel
theorem dX0_init_11 : decode cX0_init 11 = .ok (.iload_n 1, 1) := by decide +kernel
theorem dX0_init_12 : decode cX0_init 12 = .ok (.putfield 13, 3) := by decide +kernel
theorem dX0_init_15 : decode cX0_init 15 = .ok (.return_, 1) := by decide +kernel
theorem dX0_claimFor_0 : decode cX0_claimFor 0 = .ok (.aload_n 0, 1) := by decide +kernel
theorem dX0_claimFor_1 : decode cX0_claimFor 1 = .ok (.getfield 16, 3) := by decide +kernel
theorem dX0_claimFor_4 : decode cX0_claimFor 4 = .ok (.ifCond .ne 5, 3) := by decide +kernel
theorem dX0_claimFor_7 : decode cX0_claimFor 7 = .ok (.iconst 0, 1) := by decide +kernel
theorem dX0_claimFor_8 : decode cX0_claimFor 8 = .ok (.ireturn, 1) := by decide +kernel
theorem dX0_claimFor_9 : decode cX0_claimFor 9 = .ok (.iconst 0, 1) := by decide +kernel
theorem dX0_claimFor_10 : decode cX0_claimFor 10 = .ok (.iload_n 1, 1) := by decide +kernel
theorem dX0_claimFor_11 : decode cX0_claimFor 11 = .ok (.aload_n 0, 1) := by decide +kernel
theorem dX0_claimFor_12 : decode cX0_claimFor 12 = .ok (.getfield 20, 3) := by decide +kernel
theorem dX0_claimFor_15 : decode cX0_claimFor 15 = .ok (.isub, 1) := by decide +kernel
theorem dX0_claimFor_16 : decode cX0_claimFor 16 = .ok (.aload_n 0, 1) := by decide +kernel
theorem dX0_claimFor_17 : decode cX0_claimFor 17 = .ok (.getfield 23, 3) := by decide +kernel
theorem dX0_claimFor_20 : decode cX0_claimFor 20 = .ok (.aload_n 0, 1) := by decide +kernel
theorem dX0_claimFor_21 : decode cX0_claimFor 21 = .ok (.getfield 26, 3) := by decide +kernel
theorem dX0_claimFor_24 : decode cX0_claimFor 24 = .ok (.isub, 1) := by decide +kernel
theorem dX0_claimFor_25 : decode cX0_claimFor 25 = .ok (.invokestatic 29, 3) := by decide +kernel
theorem dX0_claimFor_28 : decode cX0_claimFor 28 = .ok (.invokestatic 35, 3) := by decide +kernel
theorem dX0_claimFor_31 : decode cX0_claimFor 31 = .ok (.ireturn, 1) := by decide +kernel
theorem dX0_premiumFor_0 : decode cX0_premiumFor 0 = .ok (.aload_n 0, 1) := by decide +kernel
theorem dX0_premiumFor_1 : decode cX0_premiumFor 1 = .ok (.getfield 16, 3) := by decide +kernel
theorem dX0_premiumFor_4 : decode cX0_premiumFor 4 = .ok (.ifCond .ne 5, 3) := by decide +kernel
theorem dX0_premiumFor_7 : decode cX0_premiumFor 7 = .ok (.iconst 0, 1) := by decide +kernel
theorem dX0_premiumFor_8 : decode cX0_premiumFor 8 = .ok (.ireturn, 1) := by decide +kernel
theorem dX0_premiumFor_9 : decode cX0_premiumFor 9 = .ok (.iload_n 1, 1) := by decide +kernel
theorem dX0_premiumFor_10 : decode cX0_premiumFor 10 = .ok (.aload_n 0, 1) := by decide +kernel
theorem dX0_premiumFor_11 : decode cX0_premiumFor 11 = .ok (.getfield 38, 3) := by decide +kernel
theorem dX0_premiumFor_14 : decode cX0_premiumFor 14 = .ok (.imul, 1) := by decide +kernel
theorem dX0_premiumFor_15 : decode cX0_premiumFor 15 = .ok (.sipush 1000, 3) := by decide +kernel
theorem dX0_premiumFor_18 : decode cX0_premiumFor 18 = .ok (.idiv, 1) := by decide +kernel
theorem dX0_premiumFor_19 : decode cX0_premiumFor 19 = .ok (.aload_n 0, 1) := by decide +kernel
theorem dX0_premiumFor_20 : decode cX0_premiumFor 20 = .ok (.getfield 7, 3) := by decide +kernel
theorem dX0_premiumFor_23 : decode cX0_premiumFor 23 = .ok (.imul, 1) := by decide +kernel
theorem dX0_premiumFor_24 : decode cX0_premiumFor 24 = .ok (.bipush 100, 2) := by decide +kernel
theorem dX0_premiumFor_26 : decode cX0_premiumFor 26 = .ok (.idiv, 1) := by decide +kernel
theorem dX0_premiumFor_27 : decode cX0_premiumFor 27 = .ok (.aload_n 0, 1) := by decide +kernel
theorem dX0_premiumFor_28 : decode cX0_premiumFor 28 = .ok (.getfield 13, 3) := by decide +kernel
theorem dX0_premiumFor_31 : decode cX0_premiumFor 31 = .ok (.invokestatic 29, 3) := by decide +kernel
theorem dX0_premiumFor_34 : decode cX0_premiumFor 34 = .ok (.ireturn, 1) := by decide +kernel
theorem dX0_changeFactor_0 : decode cX0_changeFactor 0 = .ok (.aload_n 0, 1) := by decide +kernel
theorem dX0_changeFactor_1 : decode cX0_changeFactor 1 = .ok (.getfield 16, 3) := by decide +kernel
theorem dX0_changeFactor_4 : decode cX0_changeFactor 4 = .ok (.ifCond .ne 4, 3) := by decide +kernel
theorem dX0_changeFactor_7 : decode cX0_changeFactor 7 = .ok (.return_, 1) := by decide +kernel
theorem dX0_changeFactor_8 : decode cX0_changeFactor 8 = .ok (.aload_n 0, 1) := by decide +kernel
theorem dX0_changeFactor_9 : decode cX0_changeFactor 9 = .ok (.aload_n 0, 1) := by decide +kernel
theorem dX0_changeFactor_10 : decode cX0_changeFactor 10 = .ok (.getfield 26, 3) := by decide +kernel
theorem dX0_changeFactor_13 : decode cX0_changeFactor 13 = .ok (.ifCond .le 19, 3) := by decide +kernel
theorem dX0_changeFactor_16 : decode cX0_changeFactor 16 = .ok (.sipush 200, 3) := by decide +kernel
theorem dX0_changeFactor_19 : decode cX0_changeFactor 19 = .ok (.aload_n 0, 1) := by decide +kernel
theorem dX0_changeFactor_20 : decode cX0_changeFactor 20 = .ok (.getfield 7, 3) := by decide +kernel
theorem dX0_changeFactor_23 : decode cX0_changeFactor 23 = .ok (.bipush 20, 2) := by decide +kernel
theorem dX0_changeFactor_25 : decode cX0_changeFactor 25 = .ok (.iadd, 1) := by decide +kernel
theorem dX0_changeFactor_26 : decode cX0_changeFactor 26 = .ok (.invokestatic 29, 3) := by decide +kernel
theorem dX0_changeFactor_29 : decode cX0_changeFactor 29 = .ok (.goto 15, 3) := by decide +kernel
theorem dX0_changeFactor_32 : decode cX0_changeFactor 32 = .ok (.bipush 50, 2) := by decide +kernel
theorem dX0_changeFactor_34 : decode cX0_changeFactor 34 = .ok (.aload_n 0, 1) := by decide +kernel
theorem dX0_changeFactor_35 : decode cX0_changeFactor 35 = .ok (.getfield 7, 3) := by decide +kernel
theorem dX0_changeFactor_38 : decode cX0_changeFactor 38 = .ok (.bipush 10, 2) := by decide +kernel
theorem dX0_changeFactor_40 : decode cX0_changeFactor 40 = .ok (.isub, 1) := by decide +kernel
theorem dX0_changeFactor_41 : decode cX0_changeFactor 41 = .ok (.invokestatic 35, 3) := by decide +kernel
theorem dX0_changeFactor_44 : decode cX0_changeFactor 44 = .ok (.putfield 7, 3) := by decide +kernel
theorem dX0_changeFactor_47 : decode cX0_changeFactor 47 = .ok (.return_, 1) := by decide +kernel
theorem dX1_init_0 : decode cX1_init 0 = .ok (.aload_n 0, 1) := by decide +kernel
theorem dX1_init_1 : decode cX1_init 1 = .ok (.invokespecial 1, 3) := by decide +kernel
theorem dX1_init_4 : decode cX1_init 4 = .ok (.aload_n 0, 1) := by decide +kernel
theorem dX1_init_5 : decode cX1_init 5 = .ok (.iload_n 1, 1) := by decide +kernel
theorem dX1_init_6 : decode cX1_init 6 = .ok (.putfield 7, 3) := by decide +kernel
theorem dX1_init_9 : decode cX1_init 9 = .ok (.aload_n 0, 1) := by decide +kernel
theorem dX1_init_10 : decode cX1_init 10 = .ok (.iload_n 2, 1) := by decide +kernel
theorem dX1_init_11 : decode cX1_init 11 = .ok (.putfield 13, 3) := by decide +kernel
theorem dX1_init_14 : decode cX1_init 14 = .ok (.aload_n 0, 1) := by decide +kernel
theorem dX1_init_15 : decode cX1_init 15 = .ok (.iload_n 3, 1) := by decide +kernel
theorem dX1_init_16 : decode cX1_init 16 = .ok (.putfield 16, 3) := by decide +kernel
theorem dX1_init_19 : decode cX1_init 19 = .ok (.aload_n 0, 1) := by decide +kernel
theorem dX1_init_20 : decode cX1_init 20 = .ok (.iload 4, 2) := by decide +kernel
theorem dX1_init_22 : decode cX1_init 22 = .ok (.putfield 19, 3) := by decide +kernel
theorem dX1_init_25 : decode cX1_init 25 = .ok (.aload_n 0, 1) := by decide +kernel
theorem dX1_init_26 : decode cX1_init 26 = .ok (.iload 5, 2) := by decide +kernel
theorem dX1_init_28 : decode cX1_init 28 = .ok (.putfield 22, 3) := by decide +kernel
theorem dX1_init_31 : decode cX1_init 31 = .ok (.aload_n 0, 1) := by decide +kernel
theorem dX1_init_32 : decode cX1_init 32 = .ok (.iload 6, 2) := by decide +kernel
theorem dX1_init_34 : decode cX1_init 34 = .ok (.putfield 25, 3) := by decide +kernel
theorem dX1_init_37 : decode cX1_init 37 = .ok (.aload_n 0, 1) := by decide +kernel
theorem dX1_init_38 : decode cX1_init 38 = .ok (.iload 7, 2) := by decide +kernel
theorem dX1_init_40 : decode cX1_init 40 = .ok (.putfield 28, 3) := by decide +kernel
theorem dX1_init_43 : decode cX1_init 43 = .ok (.return_, 1) := by decide +kernel
theorem dX1_paneCount_0 : decode cX1_paneCount 0 = .ok (.aload_n 0, 1) := by decide +kernel
theorem dX1_paneCount_1 : decode cX1_paneCount 1 = .ok (.getfield 19, 3) := by decide +kernel
theorem dX1_paneCount_4 : decode cX1_paneCount 4 = .ok (.aload_n 0, 1) := by decide +kernel
theorem dX1_paneCount_5 : decode cX1_paneCount 5 = .ok (.getfield 22, 3) := by decide +kernel
theorem dX1_paneCount_8 : decode cX1_paneCount 8 = .ok (.imul, 1) := by decide +kernel
theorem dX1_paneCount_9 : decode cX1_paneCount 9 = .ok (.ireturn, 1) := by decide +kernel
theorem dX1_values_0 : decode cX1_values 0 = .ok (.aload_n 0, 1) := by decide +kernel
theorem dX1_values_1 : decode cX1_values 1 = .ok (.getfield 19, 3) := by decide +kernel
theorem dX1_values_4 : decode cX1_values 4 = .ok (.aload_n 0, 1) := by decide +kernel
theorem dX1_values_5 : decode cX1_values 5 = .ok (.getfield 22, 3) := by decide +kernel
theorem dX1_values_8 : decode cX1_values 8 = .ok (.imul, 1) := by decide +kernel
theorem dX1_values_9 : decode cX1_values 9 = .ok (.aload_n 0, 1) := by decide +kernel
theorem dX1_values_10 : decode cX1_values 10 = .ok (.getfield 28, 3) := by decide +kernel
theorem dX1_values_13 : decode cX1_values 13 = .ok (.imul, 1) := by decide +kernel
theorem dX1_values_14 : decode cX1_values 14 = .ok (.ireturn, 1) := by decide +kernel
theorem dX1_lostByCrack_0 : decode cX1_lostByCrack 0 = .ok (.aload_n 0, 1) := by decide +kernel
theorem dX1_lostByCrack_1 : decode cX1_lostByCrack 1 = .ok (.getfield 28, 3) := by decide +kernel
theorem dX1_lostByCrack_4 : decode cX1_lostByCrack 4 = .ok (.iconst 2, 1) := by decide +kernel
theorem dX1_lostByCrack_5 : decode cX1_lostByCrack 5 = .ok (.idiv, 1) := by decide +kernel
theorem dX1_lostByCrack_6 : decode cX1_lostByCrack 6 = .ok (.ireturn, 1) := by decide +kernel
theorem dX1_overlaps_0 : decode cX1_overlaps 0 = .ok (.aload_n 0, 1) := by decide +kernel
theorem dX1_overlaps_1 : decode cX1_overlaps 1 = .ok (.getfield 13, 3) := by decide +kernel
theorem dX1_overlaps_4 : decode cX1_overlaps 4 = .ok (.iload_n 1, 1) := by decide +kernel
theorem dX1_overlaps_5 : decode cX1_overlaps 5 = .ok (.iload_n 3, 1) := by decide +kernel
theorem dX1_overlaps_6 : decode cX1_overlaps 6 = .ok (.iadd, 1) := by decide +kernel
theorem dX1_overlaps_7 : decode cX1_overlaps 7 = .ok (.if_icmp .ge 44, 3) := by decide +kernel
theorem dX1_overlaps_10 : decode cX1_overlaps 10 = .ok (.iload_n 1, 1) := by decide +kernel
theorem dX1_overlaps_11 : decode cX1_overlaps 11 = .ok (.aload_n 0, 1) := by decide +kernel
theorem dX1_overlaps_12 : decode cX1_overlaps 12 = .ok (.getfield 13, 3) := by decide +kernel
theorem dX1_overlaps_15 : decode cX1_overlaps 15 = .ok (.aload_n 0, 1) := by decide +kernel
theorem dX1_overlaps_16 : decode cX1_overlaps 16 = .ok (.getfield 19, 3) := by decide +kernel
theorem dX1_overlaps_19 : decode cX1_overlaps 19 = .ok (.iadd, 1) := by decide +kernel
theorem dX1_overlaps_20 : decode cX1_overlaps 20 = .ok (.if_icmp .ge 31, 3) := by decide +kernel
theorem dX1_overlaps_23 : decode cX1_overlaps 23 = .ok (.aload_n 0, 1) := by decide +kernel
theorem dX1_overlaps_24 : decode cX1_overlaps 24 = .ok (.getfield 16, 3) := by decide +kernel
theorem dX1_overlaps_27 : decode cX1_overlaps 27 = .ok (.iload_n 2, 1) := by decide +kernel
theorem dX1_overlaps_28 : decode cX1_overlaps 28 = .ok (.iload 4, 2) := by decide +kernel
theorem dX1_overlaps_30 : decode cX1_overlaps 30 = .ok (.iadd, 1) := by decide +kernel
theorem dX1_overlaps_31 : decode cX1_overlaps 31 = .ok (.if_icmp .ge 20, 3) := by decide +kernel
theorem dX1_overlaps_34 : decode cX1_overlaps 34 = .ok (.iload_n 2, 1) := by decide +kernel
theorem dX1_overlaps_35 : decode cX1_overlaps 35 = .ok (.aload_n 0, 1) := by decide +kernel
theorem dX1_overlaps_36 : decode cX1_overlaps 36 = .ok (.getfield 16, 3) := by decide +kernel
theorem dX1_overlaps_39 : decode cX1_overlaps 39 = .ok (.aload_n 0, 1) := by decide +kernel
theorem dX1_overlaps_40 : decode cX1_overlaps 40 = .ok (.getfield 22, 3) := by decide +kernel
theorem dX1_overlaps_43 : decode cX1_overlaps 43 = .ok (.iadd, 1) := by decide +kernel
theorem dX1_overlaps_44 : decode cX1_overlaps 44 = .ok (.if_icmp .ge 7, 3) := by decide +kernel
theorem dX1_overlaps_47 : decode cX1_overlaps 47 = .ok (.iconst 1, 1) := by decide +kernel
theorem dX1_overlaps_48 : decode cX1_overlaps 48 = .ok (.goto 4, 3) := by decide +kernel
theorem dX1_overlaps_51 : decode cX1_overlaps 51 = .ok (.iconst 0, 1) := by decide +kernel
theorem dX1_overlaps_52 : decode cX1_overlaps 52 = .ok (.ireturn, 1) := by decide +kernel
theorem dX2_init_0 : decode cX2_init 0 = .ok (.aload_n 0, 1) := by decide +kernel
theorem dX2_init_1 : decode cX2_init 1 = .ok (.invokespecial 1, 3) := by decide +kernel
theorem dX2_init_4 : decode cX2_init 4 = .ok (.aload_n 0, 1) := by decide +kernel
theorem dX2_init_5 : decode cX2_init 5 = .ok (.iload_n 1, 1) := by decide +kernel
theorem dX2_init_6 : decode cX2_init 6 = .ok (.putfield 7, 3) := by decide +kernel
theorem dX2_init_9 : decode cX2_init 9 = .ok (.aload_n 0, 1) := by decide +kernel
theorem dX2_init_10 : decode cX2_init 10 = .ok (.iload_n 2, 1) := by decide +kernel
theorem dX2_init_11 : decode cX2_init 11 = .ok (.putfield 13, 3) := by decide +kernel
theorem dX2_init_14 : decode cX2_init 14 = .ok (.aload_n 0, 1) := by decide +kernel
theorem dX2_init_15 : decode cX2_init 15 = .ok (.iload_n 3, 1) := by decide +kernel
theorem dX2_init_16 : decode cX2_init 16 = .ok (.putfield 16, 3) := by decide +kernel
theorem dX2_init_19 : decode cX2_init 19 = .ok (.aload_n 0, 1) := by decide +kernel
theorem dX2_init_20 : decode cX2_init 20 = .ok (.iconst 2, 1) := by decide +kernel
theorem dX2_init_21 : decode cX2_init 21 = .ok (.iload_n 2, 1) := by decide +kernel
theorem dX2_init_22 : decode cX2_init 22 = .ok (.imul, 1) := by decide +kernel
theorem dX2_init_23 : decode cX2_init 23 = .ok (.putfield 19, 3) := by decide +kernel
theorem dX2_init_26 : decode cX2_init 26 = .ok (.return_, 1) := by decide +kernel
theorem dX2_payFor_0 : decode cX2_payFor 0 = .ok (.iconst 0, 1) := by decide +kernel
theorem dX2_payFor_1 : decode cX2_payFor 1 = .ok (.iload_n 1, 1) := by decide +kernel
theorem dX2_payFor_2 : decode cX2_payFor 2 = .ok (.aload_n 0, 1) := by decide +kernel
theorem dX2_payFor_3 : decode cX2_payFor 3 = .ok (.getfield 7, 3) := by decide +kernel
theorem dX2_payFor_6 : decode cX2_payFor 6 = .ok (.isub, 1) := by decide +kernel
theorem dX2_payFor_7 : decode cX2_payFor 7 = .ok (.invokestatic 22, 3) := by decide +kernel
theorem dX2_payFor_10 : decode cX2_payFor 10 = .ok (.istore_n 2, 1) := by decide +kernel
theorem dX2_payFor_11 : decode cX2_payFor 11 = .ok (.iload_n 2, 1) := by decide +kernel
theorem dX2_payFor_12 : decode cX2_payFor 12 = .ok (.aload_n 0, 1) := by decide +kernel
theorem dX2_payFor_13 : decode cX2_payFor 13 = .ok (.getfield 13, 3) := by decide +kernel
theorem dX2_payFor_16 : decode cX2_payFor 16 = .ok (.invokestatic 28, 3) := by decide +kernel
theorem dX2_payFor_19 : decode cX2_payFor 19 = .ok (.aload_n 0, 1) := by decide +kernel
theorem dX2_payFor_20 : decode cX2_payFor 20 = .ok (.getfield 16, 3) := by decide +kernel
theorem dX2_payFor_23 : decode cX2_payFor 23 = .ok (.imul, 1) := by decide +kernel
theorem dX2_payFor_24 : decode cX2_payFor 24 = .ok (.bipush 100, 2) := by decide +kernel
theorem dX2_payFor_26 : decode cX2_payFor 26 = .ok (.idiv, 1) := by decide +kernel
theorem dX2_payFor_27 : decode cX2_payFor 27 = .ok (.aload_n 0, 1) := by decide +kernel
theorem dX2_payFor_28 : decode cX2_payFor 28 = .ok (.getfield 19, 3) := by decide +kernel
theorem dX2_payFor_31 : decode cX2_payFor 31 = .ok (.invokestatic 28, 3) := by decide +kernel
theorem dX2_payFor_34 : decode cX2_payFor 34 = .ok (.ireturn, 1) := by decide +kernel
theorem dX3_init_0 : decode cX3_init 0 = .ok (.aload_n 0, 1) := by decide +kernel
theorem dX3_init_1 : decode cX3_init 1 = .ok (.invokespecial 1, 3) := by decide +kernel
theorem dX3_init_4 : decode cX3_init 4 = .ok (.aload_n 0, 1) := by decide +kernel
theorem dX3_init_5 : decode cX3_init 5 = .ok (.iload_n 1, 1) := by decide +kernel
theorem dX3_init_6 : decode cX3_init 6 = .ok (.putfield 7, 3) := by decide +kernel
theorem dX3_init_9 : decode cX3_init 9 = .ok (.aload_n 0, 1) := by decide +kernel
theorem dX3_init_10 : decode cX3_init 10 = .ok (.iload_n 2, 1) := by decide +kernel
theorem dX3_init_11 : decode cX3_init 11 = .ok (.putfield 13, 3) := by decide +kernel
theorem dX3_init_14 : decode cX3_init 14 = .ok (.aload_n 0, 1) := by decide +kernel
theorem dX3_init_15 : decode cX3_init 15 = .ok (.iload_n 3, 1) := by decide +kernel
theorem dX3_init_16 : decode cX3_init 16 = .ok (.putfield 16, 3) := by decide +kernel
theorem dX3_init_19 : decode cX3_init 19 = .ok (.aload_n 0, 1) := by decide +kernel
theorem dX3_init_20 : decode cX3_init 20 = .ok (.iload 4, 2) := by decide +kernel
theorem dX3_init_22 : decode cX3_init 22 = .ok (.putfield 19, 3) := by decide +kernel
theorem dX3_init_25 : decode cX3_init 25 = .ok (.aload_n 0, 1) := by decide +kernel
theorem dX3_init_26 : decode cX3_init 26 = .ok (.iload 5, 2) := by decide +kernel
theorem dX3_init_28 : decode cX3_init 28 = .ok (.putfield 22, 3) := by decide +kernel
theorem dX3_init_31 : decode cX3_init 31 = .ok (.aload_n 0, 1) := by decide +kernel
theorem dX3_init_32 : decode cX3_init 32 = .ok (.iload 6, 2) := by decide +kernel
theorem dX3_init_34 : decode cX3_init 34 = .ok (.putfield 25, 3) := by decide +kernel
theorem dX3_init_37 : decode cX3_init 37 = .ok (.aload_n 0, 1) := by decide +kernel
theorem dX3_init_38 : decode cX3_init 38 = .ok (.iload 7, 2) := by decide +kernel
theorem dX3_init_40 : decode cX3_init 40 = .ok (.putfield 28, 3) := by decide +kernel
theorem dX3_init_43 : decode cX3_init 43 = .ok (.return_, 1) := by decide +kernel
theorem dX3_isAllowed_0 : decode cX3_isAllowed 0 = .ok (.aload_n 0, 1) := by decide +kernel
theorem dX3_isAllowed_1 : decode cX3_isAllowed 1 = .ok (.getfield 7, 3) := by decide +kernel
theorem dX3_isAllowed_4 : decode cX3_isAllowed 4 = .ok (.bipush (-20), 2) := by decide +kernel
theorem dX3_isAllowed_6 : decode cX3_isAllowed 6 = .ok (.bipush 39, 2) := by decide +kernel
theorem dX3_isAllowed_8 : decode cX3_isAllowed 8 = .ok (.invokestatic 31, 3) := by decide +kernel
theorem dX3_isAllowed_11 : decode cX3_isAllowed 11 = .ok (.ifCond .eq 85, 3) := by decide +kernel
theorem dX3_isAllowed_14 : decode cX3_isAllowed 14 = .ok (.aload_n 0, 1) := by decide +kernel
theorem dX3_isAllowed_15 : decode cX3_isAllowed 15 = .ok (.getfield 13, 3) := by decide +kernel
theorem dX3_isAllowed_18 : decode cX3_isAllowed 18 = .ok (.bipush (-20), 2) := by decide +kernel
theorem dX3_isAllowed_20 : decode cX3_isAllowed 20 = .ok (.bipush 39, 2) := by decide +kernel
theorem dX3_isAllowed_22 : decode cX3_isAllowed 22 = .ok (.invokestatic 31, 3) := by decide +kernel
theorem dX3_isAllowed_25 : decode cX3_isAllowed 25 = .ok (.ifCond .eq 71, 3) := by decide +kernel
theorem dX3_isAllowed_28 : decode cX3_isAllowed 28 = .ok (.aload_n 0, 1) := by decide +kernel
theorem dX3_isAllowed_29 : decode cX3_isAllowed 29 = .ok (.getfield 16, 3) := by decide +kernel
theorem dX3_isAllowed_32 : decode cX3_isAllowed 32 = .ok (.bipush (-3), 2) := by decide +kernel
theorem dX3_isAllowed_34 : decode cX3_isAllowed 34 = .ok (.iconst 3, 1) := by decide +kernel
theorem dX3_isAllowed_35 : decode cX3_isAllowed 35 = .ok (.invokestatic 31, 3) := by decide +kernel
theorem dX3_isAllowed_38 : decode cX3_isAllowed 38 = .ok (.ifCond .eq 58, 3) := by decide +kernel
theorem dX3_isAllowed_41 : decode cX3_isAllowed 41 = .ok (.aload_n 0, 1) := by decide +kernel
theorem dX3_isAllowed_42 : decode cX3_isAllowed 42 = .ok (.getfield 19, 3) := by decide +kernel
theorem dX3_isAllowed_45 : decode cX3_isAllowed 45 = .ok (.bipush (-3), 2) := by decide +kernel
theorem dX3_isAllowed_47 : decode cX3_isAllowed 47 = .ok (.iconst 3, 1) := by decide +kernel
theorem dX3_isAllowed_48 : decode cX3_isAllowed 48 = .ok (.invokestatic 31, 3) := by decide +kernel
theorem dX3_isAllowed_51 : decode cX3_isAllowed 51 = .ok (.ifCond .eq 45, 3) := by decide +kernel
theorem dX3_isAllowed_54 : decode cX3_isAllowed 54 = .ok (.aload_n 0, 1) := by decide +kernel
theorem dX3_isAllowed_55 : decode cX3_isAllowed 55 = .ok (.getfield 22, 3) := by decide +kernel
theorem dX3_isAllowed_58 : decode cX3_isAllowed 58 = .ok (.iconst 0, 1) := by decide +kernel
theorem dX3_isAllowed_59 : decode cX3_isAllowed 59 = .ok (.iconst 5, 1) := by decide +kernel
theorem dX3_isAllowed_60 : decode cX3_isAllowed 60 = .ok (.invokestatic 31, 3) := by decide +kernel
theorem dX3_isAllowed_63 : decode cX3_isAllowed 63 = .ok (.ifCond .eq 33, 3) := by decide +kernel
theorem dX3_isAllowed_66 : decode cX3_isAllowed 66 = .ok (.aload_n 0, 1) := by decide +kernel
theorem dX3_isAllowed_67 : decode cX3_isAllowed 67 = .ok (.getfield 25, 3) := by decide +kernel
theorem dX3_isAllowed_70 : decode cX3_isAllowed 70 = .ok (.iconst 1, 1) := by decide +kernel
theorem dX3_isAllowed_71 : decode cX3_isAllowed 71 = .ok (.bipush 20, 2) := by decide +kernel
theorem dX3_isAllowed_73 : decode cX3_isAllowed 73 = .ok (.invokestatic 31, 3) := by decide +kernel
theorem dX3_isAllowed_76 : decode cX3_isAllowed 76 = .ok (.ifCond .eq 20, 3) := by decide +kernel
theorem dX3_isAllowed_79 : decode cX3_isAllowed 79 = .ok (.aload_n 0, 1) := by decide +kernel
theorem dX3_isAllowed_80 : decode cX3_isAllowed 80 = .ok (.getfield 28, 3) := by decide +kernel
theorem dX3_isAllowed_83 : decode cX3_isAllowed 83 = .ok (.iconst 1, 1) := by decide +kernel
theorem dX3_isAllowed_84 : decode cX3_isAllowed 84 = .ok (.bipush 30, 2) := by decide +kernel
theorem dX3_isAllowed_86 : decode cX3_isAllowed 86 = .ok (.invokestatic 31, 3) := by decide +kernel
theorem dX3_isAllowed_89 : decode cX3_isAllowed 89 = .ok (.ifCond .eq 7, 3) := by decide +kernel
theorem dX3_isAllowed_92 : decode cX3_isAllowed 92 = .ok (.iconst 1, 1) := by decide +kernel
theorem dX3_isAllowed_93 : decode cX3_isAllowed 93 = .ok (.goto 4, 3) := by decide +kernel
theorem dX3_isAllowed_96 : decode cX3_isAllowed 96 = .ok (.iconst 0, 1) := by decide +kernel
theorem dX3_isAllowed_97 : decode cX3_isAllowed 97 = .ok (.ireturn, 1) := by decide +kernel
theorem dX4_init_0 : decode cX4_init 0 = .ok (.aload_n 0, 1) := by decide +kernel
theorem dX4_init_1 : decode cX4_init 1 = .ok (.invokespecial 3, 3) := by decide +kernel
theorem dX4_init_4 : decode cX4_init 4 = .ok (.aload_n 0, 1) := by decide +kernel
theorem dX4_init_5 : decode cX4_init 5 = .ok (.sipush 400, 3) := by decide +kernel
theorem dX4_init_8 : decode cX4_init 8 = .ok (.newarray .int, 2) := by decide +kernel
theorem dX4_init_10 : decode cX4_init 10 = .ok (.putfield 9, 3) := by decide +kernel
theorem dX4_init_13 : decode cX4_init 13 = .ok (.aload_n 0, 1) := by decide +kernel
theorem dX4_init_14 : decode cX4_init 14 = .ok (.bipush 6, 2) := by decide +kernel
theorem dX4_init_16 : decode cX4_init 16 = .ok (.newarray .int, 2) := by decide +kernel
theorem dX4_init_18 : decode cX4_init 18 = .ok (.putfield 15, 3) := by decide +kernel
theorem dX4_init_21 : decode cX4_init 21 = .ok (.aload_n 0, 1) := by decide +kernel
theorem dX4_init_22 : decode cX4_init 22 = .ok (.bipush 6, 2) := by decide +kernel
theorem dX4_init_24 : decode cX4_init 24 = .ok (.newarray .int, 2) := by decide +kernel
theorem dX4_init_26 : decode cX4_init 26 = .ok (.putfield 18, 3) := by decide +kernel
theorem dX4_init_29 : decode cX4_init 29 = .ok (.aload_n 0, 1) := by decide +kernel
theorem dX4_init_30 : decode cX4_init 30 = .ok (.bipush 6, 2) := by decide +kernel
theorem dX4_init_32 : decode cX4_init 32 = .ok (.newarray .int, 2) := by decide +kernel
theorem dX4_init_34 : decode cX4_init 34 = .ok (.putfield 21, 3) := by decide +kernel
theorem dX4_init_37 : decode cX4_init 37 = .ok (.aload_n 0, 1) := by decide +kernel
theorem dX4_init_38 : decode cX4_init 38 = .ok (.bipush 6, 2) := by decide +kernel
theorem dX4_init_40 : decode cX4_init 40 = .ok (.newarray .int, 2) := by decide +kernel
theorem dX4_init_42 : decode cX4_init 42 = .ok (.putfield 24, 3) := by decide +kernel
theorem dX4_init_45 : decode cX4_init 45 = .ok (.aload_n 0, 1) := by decide +kernel
theorem dX4_init_46 : decode cX4_init 46 = .ok (.bipush 6, 2) := by decide +kernel
theorem dX4_init_48 : decode cX4_init 48 = .ok (.newarray .int, 2) := by decide +kernel
theorem dX4_init_50 : decode cX4_init 50 = .ok (.putfield 27, 3) := by decide +kernel
theorem dX4_init_53 : decode cX4_init 53 = .ok (.return_, 1) := by decide +kernel
theorem dX4_begin_0 : decode cX4_begin 0 = .ok (.aload_n 1, 1) := by decide +kernel
theorem dX4_begin_1 : decode cX4_begin 1 = .ok (.iconst 0, 1) := by decide +kernel
theorem dX4_begin_2 : decode cX4_begin 2 = .ok (.aload_n 0, 1) := by decide +kernel
theorem dX4_begin_3 : decode cX4_begin 3 = .ok (.getfield 9, 3) := by decide +kernel
theorem dX4_begin_6 : decode cX4_begin 6 = .ok (.iconst 0, 1) := by decide +kernel
theorem dX4_begin_7 : decode cX4_begin 7 = .ok (.sipush 400, 3) := by decide +kernel
theorem dX4_begin_10 : decode cX4_begin 10 = .ok (.invokestatic 30, 3) := by decide +kernel
theorem dX4_begin_13 : decode cX4_begin 13 = .ok (.iconst 0, 1) := by decide +kernel
theorem dX4_begin_14 : decode cX4_begin 14 = .ok (.istore_n 2, 1) := by decide +kernel
theorem dX4_begin_15 : decode cX4_begin 15 = .ok (.iload_n 2, 1) := by decide +kernel
theorem dX4_begin_16 : decode cX4_begin 16 = .ok (.bipush 6, 2) := by decide +kernel
theorem dX4_begin_18 : decode cX4_begin 18 = .ok (.if_icmp .ge 16, 3) := by decide +kernel
theorem dX4_begin_21 : decode cX4_begin 21 = .ok (.aload_n 0, 1) := by decide +kernel
theorem dX4_begin_22 : decode cX4_begin 22 = .ok (.getfield 15, 3) := by decide +kernel
theorem dX4_begin_25 : decode cX4_begin 25 = .ok (.iload_n 2, 1) := by decide +kernel
theorem dX4_begin_26 : decode cX4_begin 26 = .ok (.iconst 0, 1) := by decide +kernel
theorem dX4_begin_27 : decode cX4_begin 27 = .ok (.iastore, 1) := by decide +kernel
theorem dX4_begin_28 : decode cX4_begin 28 = .ok (.iinc 2 1, 3) := by decide +kernel
theorem dX4_begin_31 : decode cX4_begin 31 = .ok (.goto (-16), 3) := by decide +kernel
theorem dX4_begin_34 : decode cX4_begin 34 = .ok (.iconst 0, 1) := by decide +kernel
theorem dX4_begin_35 : decode cX4_begin 35 = .ok (.istore_n 2, 1) := by decide +kernel
theorem dX4_begin_36 : decode cX4_begin 36 = .ok (.iload_n 2, 1) := by decide +kernel
theorem dX4_begin_37 : decode cX4_begin 37 = .ok (.bipush 6, 2) := by decide +kernel
theorem dX4_begin_39 : decode cX4_begin 39 = .ok (.if_icmp .ge 16, 3) := by decide +kernel
theorem dX4_begin_42 : decode cX4_begin 42 = .ok (.aload_n 0, 1) := by decide +kernel
theorem dX4_begin_43 : decode cX4_begin 43 = .ok (.getfield 27, 3) := by decide +kernel
theorem dX4_begin_46 : decode cX4_begin 46 = .ok (.iload_n 2, 1) := by decide +kernel
theorem dX4_begin_47 : decode cX4_begin 47 = .ok (.iconst 0, 1) := by decide +kernel
theorem dX4_begin_48 : decode cX4_begin 48 = .ok (.iastore, 1) := by decide +kernel
theorem dX4_begin_49 : decode cX4_begin 49 = .ok (.iinc 2 1, 3) := by decide +kernel
theorem dX4_begin_52 : decode cX4_begin 52 = .ok (.goto (-16), 3) := by decide +kernel
theorem dX4_begin_55 : decode cX4_begin 55 = .ok (.return_, 1) := by decide +kernel
theorem dX4_hitPane_0 : decode cX4_hitPane 0 = .ok (.aload_n 0, 1) := by decide +kernel
theorem dX4_hitPane_1 : decode cX4_hitPane 1 = .ok (.getfield 9, 3) := by decide +kernel
theorem dX4_hitPane_4 : decode cX4_hitPane 4 = .ok (.iload_n 2, 1) := by decide +kernel
theorem dX4_hitPane_5 : decode cX4_hitPane 5 = .ok (.iaload, 1) := by decide +kernel
theorem dX4_hitPane_6 : decode cX4_hitPane 6 = .ok (.ifCond .ne 43, 3) := by decide +kernel
theorem dX4_hitPane_9 : decode cX4_hitPane 9 = .ok (.iload_n 3, 1) := by decide +kernel
theorem dX4_hitPane_10 : decode cX4_hitPane 10 = .ok (.aload_n 1, 1) := by decide +kernel
theorem dX4_hitPane_11 : decode cX4_hitPane 11 = .ok (.getfield 36, 3) := by decide +kernel
theorem dX4_hitPane_14 : decode cX4_hitPane 14 = .ok (.if_icmp .le 35, 3) := by decide +kernel
theorem dX4_hitPane_17 : decode cX4_hitPane 17 = .ok (.aload_n 0, 1) := by decide +kernel
theorem dX4_hitPane_18 : decode cX4_hitPane 18 = .ok (.getfield 9, 3) := by decide +kernel
theorem dX4_hitPane_21 : decode cX4_hitPane 21 = .ok (.iload_n 2, 1) := by decide +kernel
theorem dX4_hitPane_22 : decode cX4_hitPane 22 = .ok (.iconst 1, 1) := by decide +kernel
theorem dX4_hitPane_23 : decode cX4_hitPane 23 = .ok (.iastore, 1) := by decide +kernel
theorem dX4_hitPane_24 : decode cX4_hitPane 24 = .ok (.aload_n 0, 1) := by decide +kernel
theorem dX4_hitPane_25 : decode cX4_hitPane 25 = .ok (.getfield 27, 3) := by decide +kernel
theorem dX4_hitPane_28 : decode cX4_hitPane 28 = .ok (.iconst 0, 1) := by decide +kernel
theorem dX4_hitPane_29 : decode cX4_hitPane 29 = .ok (.dup2, 1) := by decide +kernel
theorem dX4_hitPane_30 : decode cX4_hitPane 30 = .ok (.iaload, 1) := by decide +kernel
theorem dX4_hitPane_31 : decode cX4_hitPane 31 = .ok (.iconst 1, 1) := by decide +kernel
theorem dX4_hitPane_32 : decode cX4_hitPane 32 = .ok (.iadd, 1) := by decide +kernel
theorem dX4_hitPane_33 : decode cX4_hitPane 33 = .ok (.iastore, 1) := by decide +kernel
theorem dX4_hitPane_34 : decode cX4_hitPane 34 = .ok (.aload_n 0, 1) := by decide +kernel
theorem dX4_hitPane_35 : decode cX4_hitPane 35 = .ok (.aload_n 1, 1) := by decide +kernel
theorem dX4_hitPane_36 : decode cX4_hitPane 36 = .ok (.getfield 42, 3) := by decide +kernel
theorem dX4_hitPane_39 : decode cX4_hitPane 39 = .ok (.aload_n 1, 1) := by decide +kernel
theorem dX4_hitPane_40 : decode cX4_hitPane 40 = .ok (.invokevirtual 45, 3) := by decide +kernel
theorem dX4_hitPane_43 : decode cX4_hitPane 43 = .ok (.invokevirtual 49, 3) := by decide +kernel
theorem dX4_hitPane_46 : decode cX4_hitPane 46 = .ok (.goto 57, 3) := by decide +kernel
theorem dX4_hitPane_49 : decode cX4_hitPane 49 = .ok (.aload_n 0, 1) := by decide +kernel
theorem dX4_hitPane_50 : decode cX4_hitPane 50 = .ok (.getfield 9, 3) := by decide +kernel
theorem dX4_hitPane_53 : decode cX4_hitPane 53 = .ok (.iload_n 2, 1) := by decide +kernel
theorem dX4_hitPane_54 : decode cX4_hitPane 54 = .ok (.iaload, 1) := by decide +kernel
theorem dX4_hitPane_55 : decode cX4_hitPane 55 = .ok (.iconst 1, 1) := by decide +kernel
theorem dX4_hitPane_56 : decode cX4_hitPane 56 = .ok (.if_icmp .ne 47, 3) := by decide +kernel
theorem dX4_hitPane_59 : decode cX4_hitPane 59 = .ok (.iconst 2, 1) := by decide +kernel
theorem dX4_hitPane_60 : decode cX4_hitPane 60 = .ok (.iload_n 3, 1) := by decide +kernel
theorem dX4_hitPane_61 : decode cX4_hitPane 61 = .ok (.imul, 1) := by decide +kernel
theorem dX4_hitPane_62 : decode cX4_hitPane 62 = .ok (.aload_n 1, 1) := by decide +kernel
theorem dX4_hitPane_63 : decode cX4_hitPane 63 = .ok (.getfield 36, 3) := by decide +kernel
theorem dX4_hitPane_66 : decode cX4_hitPane 66 = .ok (.if_icmp .le 37, 3) := by decide +kernel
theorem dX4_hitPane_69 : decode cX4_hitPane 69 = .ok (.aload_n 0, 1) := by decide +kernel
theorem dX4_hitPane_70 : decode cX4_hitPane 70 = .ok (.getfield 9, 3) := by decide +kernel
theorem dX4_hitPane_73 : decode cX4_hitPane 73 = .ok (.iload_n 2, 1) := by decide +kernel
theorem dX4_hitPane_74 : decode cX4_hitPane 74 = .ok (.iconst 2, 1) := by decide +kernel
theorem dX4_hitPane_75 : decode cX4_hitPane 75 = .ok (.iastore, 1) := by decide +kernel
theorem dX4_hitPane_76 : decode cX4_hitPane 76 = .ok (.aload_n 0, 1) := by decide +kernel
theorem dX4_hitPane_77 : decode cX4_hitPane 77 = .ok (.getfield 27, 3) := by decide +kernel
theorem dX4_hitPane_80 : decode cX4_hitPane 80 = .ok (.iconst 1, 1) := by decide +kernel
theorem dX4_hitPane_81 : decode cX4_hitPane 81 = .ok (.dup2, 1) := by decide +kernel
theorem dX4_hitPane_82 : decode cX4_hitPane 82 = .ok (.iaload, 1) := by decide +kernel
theorem dX4_hitPane_83 : decode cX4_hitPane 83 = .ok (.iconst 1, 1) := by decide +kernel
theorem dX4_hitPane_84 : decode cX4_hitPane 84 = .ok (.iadd, 1) := by decide +kernel
theorem dX4_hitPane_85 : decode cX4_hitPane 85 = .ok (.iastore, 1) := by decide +kernel
theorem dX4_hitPane_86 : decode cX4_hitPane 86 = .ok (.aload_n 0, 1) := by decide +kernel
theorem dX4_hitPane_87 : decode cX4_hitPane 87 = .ok (.aload_n 1, 1) := by decide +kernel
theorem dX4_hitPane_88 : decode cX4_hitPane 88 = .ok (.getfield 42, 3) := by decide +kernel
theorem dX4_hitPane_91 : decode cX4_hitPane 91 = .ok (.aload_n 1, 1) := by decide +kernel
theorem dX4_hitPane_92 : decode cX4_hitPane 92 = .ok (.getfield 53, 3) := by decide +kernel
theorem dX4_hitPane_95 : decode cX4_hitPane 95 = .ok (.aload_n 1, 1) := by decide +kernel
theorem dX4_hitPane_96 : decode cX4_hitPane 96 = .ok (.invokevirtual 45, 3) := by decide +kernel
theorem dX4_hitPane_99 : decode cX4_hitPane 99 = .ok (.isub, 1) := by decide +kernel
theorem dX4_hitPane_100 : decode cX4_hitPane 100 = .ok (.invokevirtual 49, 3) := by decide +kernel
theorem dX4_hitPane_103 : decode cX4_hitPane 103 = .ok (.return_, 1) := by decide +kernel
theorem dX4_addDamage_0 : decode cX4_addDamage 0 = .ok (.aload_n 0, 1) := by decide +kernel
theorem dX4_addDamage_1 : decode cX4_addDamage 1 = .ok (.getfield 15, 3) := by decide +kernel
theorem dX4_addDamage_4 : decode cX4_addDamage 4 = .ok (.iload_n 1, 1) := by decide +kernel
theorem dX4_addDamage_5 : decode cX4_addDamage 5 = .ok (.dup2, 1) := by decide +kernel
theorem dX4_addDamage_6 : decode cX4_addDamage 6 = .ok (.iaload, 1) := by decide +kernel
theorem dX4_addDamage_7 : decode cX4_addDamage 7 = .ok (.iload_n 2, 1) := by decide +kernel
theorem dX4_addDamage_8 : decode cX4_addDamage 8 = .ok (.iadd, 1) := by decide +kernel
theorem dX4_addDamage_9 : decode cX4_addDamage 9 = .ok (.iastore, 1) := by decide +kernel
theorem dX4_addDamage_10 : decode cX4_addDamage 10 = .ok (.aload_n 0, 1) := by decide +kernel
theorem dX4_addDamage_11 : decode cX4_addDamage 11 = .ok (.getfield 27, 3) := by decide +kernel
theorem dX4_addDamage_14 : decode cX4_addDamage 14 = .ok (.iconst 2, 1) := by decide +kernel
theorem dX4_addDamage_15 : decode cX4_addDamage 15 = .ok (.dup2, 1) := by decide +kernel
theorem dX4_addDamage_16 : decode cX4_addDamage 16 = .ok (.iaload, 1) := by decide +kernel
theorem dX4_addDamage_17 : decode cX4_addDamage 17 = .ok (.iload_n 2, 1) := by decide +kernel
theorem dX4_addDamage_18 : decode cX4_addDamage 18 = .ok (.iadd, 1) := by decide +kernel
theorem dX4_addDamage_19 : decode cX4_addDamage 19 = .ok (.iastore, 1) := by decide +kernel
theorem dX4_addDamage_20 : decode cX4_addDamage 20 = .ok (.return_, 1) := by decide +kernel
theorem dX5_init_0 : decode cX5_init 0 = .ok (.aload_n 0, 1) := by decide +kernel
theorem dX5_init_1 : decode cX5_init 1 = .ok (.invokespecial 1, 3) := by decide +kernel
theorem dX5_init_4 : decode cX5_init 4 = .ok (.aload_n 0, 1) := by decide +kernel
theorem dX5_init_5 : decode cX5_init 5 = .ok (.new 7, 3) := by decide +kernel
theorem dX5_init_8 : decode cX5_init 8 = .ok (.dup, 1) := by decide +kernel
theorem dX5_init_9 : decode cX5_init 9 = .ok (.invokespecial 9, 3) := by decide +kernel
theorem dX5_init_12 : decode cX5_init 12 = .ok (.putfield 10, 3) := by decide +kernel
theorem dX5_init_15 : decode cX5_init 15 = .ok (.aload_n 0, 1) := by decide +kernel
theorem dX5_init_16 : decode cX5_init 16 = .ok (.new 7, 3) := by decide +kernel
theorem dX5_init_19 : decode cX5_init 19 = .ok (.dup, 1) := by decide +kernel
theorem dX5_init_20 : decode cX5_init 20 = .ok (.invokespecial 9, 3) := by decide +kernel
theorem dX5_init_23 : decode cX5_init 23 = .ok (.putfield 16, 3) := by decide +kernel
theorem dX5_init_26 : decode cX5_init 26 = .ok (.aload_n 0, 1) := by decide +kernel
theorem dX5_init_27 : decode cX5_init 27 = .ok (.new 7, 3) := by decide +kernel
theorem dX5_init_30 : decode cX5_init 30 = .ok (.dup, 1) := by decide +kernel
theorem dX5_init_31 : decode cX5_init 31 = .ok (.invokespecial 9, 3) := by decide +kernel
theorem dX5_init_34 : decode cX5_init 34 = .ok (.putfield 19, 3) := by decide +kernel
theorem dX5_init_37 : decode cX5_init 37 = .ok (.aload_n 0, 1) := by decide +kernel
theorem dX5_init_38 : decode cX5_init 38 = .ok (.sipush 400, 3) := by decide +kernel
theorem dX5_init_41 : decode cX5_init 41 = .ok (.newarray .int, 2) := by decide +kernel
theorem dX5_init_43 : decode cX5_init 43 = .ok (.putfield 22, 3) := by decide +kernel
theorem dX5_init_46 : decode cX5_init 46 = .ok (.aload_n 0, 1) := by decide +kernel
theorem dX5_init_47 : decode cX5_init 47 = .ok (.bipush 30, 2) := by decide +kernel
theorem dX5_init_49 : decode cX5_init 49 = .ok (.bipush 6, 2) := by decide +kernel
theorem dX5_init_51 : decode cX5_init 51 = .ok (.multianewarray 26 2, 4) := by decide +kernel
theorem dX5_init_55 : decode cX5_init 55 = .ok (.putfield 28, 3) := by decide +kernel
theorem dX5_init_58 : decode cX5_init 58 = .ok (.aload_n 0, 1) := by decide +kernel
theorem dX5_init_59 : decode cX5_init 59 = .ok (.new 31, 3) := by decide +kernel
theorem dX5_init_62 : decode cX5_init 62 = .ok (.dup, 1) := by decide +kernel
theorem dX5_init_63 : decode cX5_init 63 = .ok (.invokespecial 33, 3) := by decide +kernel
theorem dX5_init_66 : decode cX5_init 66 = .ok (.putfield 34, 3) := by decide +kernel
theorem dX5_init_69 : decode cX5_init 69 = .ok (.iconst 0, 1) := by decide +kernel
theorem dX5_init_70 : decode cX5_init 70 = .ok (.istore_n 1, 1) := by decide +kernel
theorem dX5_init_71 : decode cX5_init 71 = .ok (.iload_n 1, 1) := by decide +kernel
theorem dX5_init_72 : decode cX5_init 72 = .ok (.sipush 400, 3) := by decide +kernel
theorem dX5_init_75 : decode cX5_init 75 = .ok (.if_icmp .ge 16, 3) := by decide +kernel
theorem dX5_init_78 : decode cX5_init 78 = .ok (.aload_n 0, 1) := by decide +kernel
theorem dX5_init_79 : decode cX5_init 79 = .ok (.getfield 22, 3) := by decide +kernel
theorem dX5_init_82 : decode cX5_init 82 = .ok (.iload_n 1, 1) := by decide +kernel
theorem dX5_init_83 : decode cX5_init 83 = .ok (.iconst (-1), 1) := by decide +kernel
theorem dX5_init_84 : decode cX5_init 84 = .ok (.iastore, 1) := by decide +kernel
theorem dX5_init_85 : decode cX5_init 85 = .ok (.iinc 1 1, 3) := by decide +kernel
theorem dX5_init_88 : decode cX5_init 88 = .ok (.goto (-17), 3) := by decide +kernel
theorem dX5_init_91 : decode cX5_init 91 = .ok (.return_, 1) := by decide +kernel
theorem dX5_addGrower_0 : decode cX5_addGrower 0 = .ok (.iload_n 1, 1) := by decide +kernel
theorem dX5_addGrower_1 : decode cX5_addGrower 1 = .ok (.iconst 0, 1) := by decide +kernel
theorem dX5_addGrower_2 : decode cX5_addGrower 2 = .ok (.ldc 38, 2) := by decide +kernel
theorem dX5_addGrower_4 : decode cX5_addGrower 4 = .ok (.invokestatic 39, 3) := by decide +kernel
theorem dX5_addGrower_7 : decode cX5_addGrower 7 = .ok (.ifCond .ne 13, 3) := by decide +kernel
theorem dX5_addGrower_10 : decode cX5_addGrower 10 = .ok (.new 43, 3) := by decide +kernel
theorem dX5_addGrower_13 : decode cX5_addGrower 13 = .ok (.dup, 1) := by decide +kernel
theorem dX5_addGrower_14 : decode cX5_addGrower 14 = .ok (.ldc 45, 2) := by decide +kernel
theorem dX5_addGrower_16 : decode cX5_addGrower 16 = .ok (.invokespecial 47, 3) := by decide +kernel
theorem dX5_addGrower_19 : decode cX5_addGrower 19 = .ok (.athrow, 1) := by decide +kernel
theorem dX5_addGrower_20 : decode cX5_addGrower 20 = .ok (.aload_n 0, 1) := by decide +kernel
theorem dX5_addGrower_21 : decode cX5_addGrower 21 = .ok (.getfield 10, 3) := by decide +kernel
theorem dX5_addGrower_24 : decode cX5_addGrower 24 = .ok (.invokeinterface 50 1, 5) := by decide +kernel
theorem dX5_addGrower_29 : decode cX5_addGrower 29 = .ok (.bipush 6, 2) := by decide +kernel
theorem dX5_addGrower_31 : decode cX5_addGrower 31 = .ok (.if_icmp .lt 13, 3) := by decide +kernel
theorem dX5_addGrower_34 : decode cX5_addGrower 34 = .ok (.new 56, 3) := by decide +kernel
theorem dX5_addGrower_37 : decode cX5_addGrower 37 = .ok (.dup, 1) := by decide +kernel
theorem dX5_addGrower_38 : decode cX5_addGrower 38 = .ok (.ldc 58, 2) := by decide +kernel
theorem dX5_addGrower_40 : decode cX5_addGrower 40 = .ok (.invokespecial 60, 3) := by decide +kernel
theorem dX5_addGrower_43 : decode cX5_addGrower 43 = .ok (.athrow, 1) := by decide +kernel
theorem dX5_addGrower_44 : decode cX5_addGrower 44 = .ok (.aload_n 0, 1) := by decide +kernel
theorem dX5_addGrower_45 : decode cX5_addGrower 45 = .ok (.getfield 10, 3) := by decide +kernel
theorem dX5_addGrower_48 : decode cX5_addGrower 48 = .ok (.new 61, 3) := by decide +kernel
theorem dX5_addGrower_51 : decode cX5_addGrower 51 = .ok (.dup, 1) := by decide +kernel
theorem dX5_addGrower_52 : decode cX5_addGrower 52 = .ok (.iload_n 1, 1) := by decide +kernel
theorem dX5_addGrower_53 : decode cX5_addGrower 53 = .ok (.invokespecial 63, 3) := by decide +kernel
theorem dX5_addGrower_56 : decode cX5_addGrower 56 = .ok (.invokeinterface 66 2, 5) := by decide +kernel
theorem dX5_addGrower_61 : decode cX5_addGrower 61 = .ok (.pop, 1) := by decide +kernel
theorem dX5_addGrower_62 : decode cX5_addGrower 62 = .ok (.aload_n 0, 1) := by decide +kernel
theorem dX5_addGrower_63 : decode cX5_addGrower 63 = .ok (.getfield 10, 3) := by decide +kernel
theorem dX5_addGrower_66 : decode cX5_addGrower 66 = .ok (.invokeinterface 50 1, 5) := by decide +kernel
theorem dX5_addGrower_71 : decode cX5_addGrower 71 = .ok (.iconst 1, 1) := by decide +kernel
theorem dX5_addGrower_72 : decode cX5_addGrower 72 = .ok (.isub, 1) := by decide +kernel
theorem dX5_addGrower_73 : decode cX5_addGrower 73 = .ok (.ireturn, 1) := by decide +kernel
theorem dX5_build_0 : decode cX5_build 0 = .ok (.aload_n 0, 1) := by decide +kernel
theorem dX5_build_1 : decode cX5_build 1 = .ok (.iload_n 1, 1) := by decide +kernel
theorem dX5_build_2 : decode cX5_build 2 = .ok (.invokevirtual 70, 3) := by decide +kernel
theorem dX5_build_5 : decode cX5_build 5 = .ok (.iload 4, 2) := by decide +kernel
theorem dX5_build_7 : decode cX5_build 7 = .ok (.iconst 1, 1) := by decide +kernel
theorem dX5_build_8 : decode cX5_build 8 = .ok (.bipush 6, 2) := by decide +kernel
theorem dX5_build_10 : decode cX5_build 10 = .ok (.invokestatic 39, 3) := by decide +kernel
theorem dX5_build_13 : decode cX5_build 13 = .ok (.ifCond .eq 14, 3) := by decide +kernel
theorem dX5_build_16 : decode cX5_build 16 = .ok (.iload 5, 2) := by decide +kernel
theorem dX5_build_18 : decode cX5_build 18 = .ok (.iconst 1, 1) := by decide +kernel
theorem dX5_build_19 : decode cX5_build 19 = .ok (.bipush 6, 2) := by decide +kernel
theorem dX5_build_21 : decode cX5_build 21 = .ok (.invokestatic 39, 3) := by decide +kernel
theorem dX5_build_24 : decode cX5_build 24 = .ok (.ifCond .ne 13, 3) := by decide +kernel
theorem dX5_build_27 : decode cX5_build 27 = .ok (.new 43, 3) := by decide +kernel
theorem dX5_build_30 : decode cX5_build 30 = .ok (.dup, 1) := by decide +kernel
theorem dX5_build_31 : decode cX5_build 31 = .ok (.ldc 73, 2) := by decide +kernel
theorem dX5_build_33 : decode cX5_build 33 = .ok (.invokespecial 47, 3) := by decide +kernel
theorem dX5_build_36 : decode cX5_build 36 = .ok (.athrow, 1) := by decide +kernel
theorem dX5_build_37 : decode cX5_build 37 = .ok (.iload_n 2, 1) := by decide +kernel
theorem dX5_build_38 : decode cX5_build 38 = .ok (.iconst 0, 1) := by decide +kernel
theorem dX5_build_39 : decode cX5_build 39 = .ok (.bipush 20, 2) := by decide +kernel
theorem dX5_build_41 : decode cX5_build 41 = .ok (.iload 4, 2) := by decide +kernel
theorem dX5_build_43 : decode cX5_build 43 = .ok (.isub, 1) := by decide +kernel
theorem dX5_build_44 : decode cX5_build 44 = .ok (.invokestatic 39, 3) := by decide +kernel
theorem dX5_build_47 : decode cX5_build 47 = .ok (.ifCond .eq 16, 3) := by decide +kernel
theorem dX5_build_50 : decode cX5_build 50 = .ok (.iload_n 3, 1) := by decide +kernel
theorem dX5_build_51 : decode cX5_build 51 = .ok (.iconst 0, 1) := by decide +kernel
theorem dX5_build_52 : decode cX5_build 52 = .ok (.bipush 20, 2) := by decide +kernel
theorem dX5_build_54 : decode cX5_build 54 = .ok (.iload 5, 2) := by decide +kernel
theorem dX5_build_56 : decode cX5_build 56 = .ok (.isub, 1) := by decide +kernel
theorem dX5_build_57 : decode cX5_build 57 = .ok (.invokestatic 39, 3) := by decide +kernel
theorem dX5_build_60 : decode cX5_build 60 = .ok (.ifCond .ne 13, 3) := by decide +kernel
theorem dX5_build_63 : decode cX5_build 63 = .ok (.new 43, 3) := by decide +kernel
theorem dX5_build_66 : decode cX5_build 66 = .ok (.dup, 1) := by decide +kernel
theorem dX5_build_67 : decode cX5_build 67 = .ok (.ldc 75, 2) := by decide +kernel
theorem dX5_build_69 : decode cX5_build 69 = .ok (.invokespecial 47, 3) := by decide +kernel
theorem dX5_build_72 : decode cX5_build 72 = .ok (.athrow, 1) := by decide +kernel
theorem dX5_build_73 : decode cX5_build 73 = .ok (.iload 6, 2) := by decide +kernel
theorem dX5_build_75 : decode cX5_build 75 = .ok (.iconst 1, 1) := by decide +kernel
theorem dX5_build_76 : decode cX5_build 76 = .ok (.bipush 9, 2) := by decide +kernel
theorem dX5_build_78 : decode cX5_build 78 = .ok (.invokestatic 39, 3) := by decide +kernel
theorem dX5_build_81 : decode cX5_build 81 = .ok (.ifCond .ne 13, 3) := by decide +kernel
theorem dX5_build_84 : decode cX5_build 84 = .ok (.new 43, 3) := by decide +kernel
theorem dX5_build_87 : decode cX5_build 87 = .ok (.dup, 1) := by decide +kernel
theorem dX5_build_88 : decode cX5_build 88 = .ok (.ldc 77, 2) := by decide +kernel
theorem dX5_build_90 : decode cX5_build 90 = .ok (.invokespecial 47, 3) := by decide +kernel
theorem dX5_build_93 : decode cX5_build 93 = .ok (.athrow, 1) := by decide +kernel
theorem dX5_build_94 : decode cX5_build 94 = .ok (.iload 7, 2) := by decide +kernel
theorem dX5_build_96 : decode cX5_build 96 = .ok (.iconst 1, 1) := by decide +kernel
theorem dX5_build_97 : decode cX5_build 97 = .ok (.sipush 1000, 3) := by decide +kernel
theorem dX5_build_100 : decode cX5_build 100 = .ok (.invokestatic 39, 3) := by decide +kernel
theorem dX5_build_103 : decode cX5_build 103 = .ok (.ifCond .ne 13, 3) := by decide +kernel
theorem dX5_build_106 : decode cX5_build 106 = .ok (.new 43, 3) := by decide +kernel
theorem dX5_build_109 : decode cX5_build 109 = .ok (.dup, 1) := by decide +kernel
theorem dX5_build_110 : decode cX5_build 110 = .ok (.ldc 79, 2) := by decide +kernel
theorem dX5_build_112 : decode cX5_build 112 = .ok (.invokespecial 47, 3) := by decide +kernel
theorem dX5_build_115 : decode cX5_build 115 = .ok (.athrow, 1) := by decide +kernel
theorem dX5_build_116 : decode cX5_build 116 = .ok (.aload_n 0, 1) := by decide +kernel
theorem dX5_build_117 : decode cX5_build 117 = .ok (.iload_n 2, 1) := by decide +kernel
theorem dX5_build_118 : decode cX5_build 118 = .ok (.iload_n 3, 1) := by decide +kernel
theorem dX5_build_119 : decode cX5_build 119 = .ok (.iload 4, 2) := by decide +kernel
theorem dX5_build_121 : decode cX5_build 121 = .ok (.iload 5, 2) := by decide +kernel
theorem dX5_build_123 : decode cX5_build 123 = .ok (.invokevirtual 81, 3) := by decide +kernel
theorem dX5_build_126 : decode cX5_build 126 = .ok (.ifCond .eq 13, 3) := by decide +kernel
theorem dX5_build_129 : decode cX5_build 129 = .ok (.new 56, 3) := by decide +kernel
theorem dX5_build_132 : decode cX5_build 132 = .ok (.dup, 1) := by decide +kernel
theorem dX5_build_133 : decode cX5_build 133 = .ok (.ldc 85, 2) := by decide +kernel
theorem dX5_build_135 : decode cX5_build 135 = .ok (.invokespecial 60, 3) := by decide +kernel
theorem dX5_build_138 : decode cX5_build 138 = .ok (.athrow, 1) := by decide +kernel
theorem dX5_build_139 : decode cX5_build 139 = .ok (.aload_n 0, 1) := by decide +kernel
theorem dX5_build_140 : decode cX5_build 140 = .ok (.getfield 16, 3) := by decide +kernel
theorem dX5_build_143 : decode cX5_build 143 = .ok (.invokeinterface 50 1, 5) := by decide +kernel
theorem dX5_build_148 : decode cX5_build 148 = .ok (.bipush 12, 2) := by decide +kernel
theorem dX5_build_150 : decode cX5_build 150 = .ok (.if_icmp .lt 13, 3) := by decide +kernel
theorem dX5_build_153 : decode cX5_build 153 = .ok (.new 56, 3) := by decide +kernel
theorem dX5_build_156 : decode cX5_build 156 = .ok (.dup, 1) := by decide +kernel
theorem dX5_build_157 : decode cX5_build 157 = .ok (.ldc 87, 2) := by decide +kernel
theorem dX5_build_159 : decode cX5_build 159 = .ok (.invokespecial 60, 3) := by decide +kernel
theorem dX5_build_162 : decode cX5_build 162 = .ok (.athrow, 1) := by decide +kernel
theorem dX5_build_163 : decode cX5_build 163 = .ok (.new 89, 3) := by decide +kernel
theorem dX5_build_166 : decode cX5_build 166 = .ok (.dup, 1) := by decide +kernel
theorem dX5_build_167 : decode cX5_build 167 = .ok (.iload_n 1, 1) := by decide +kernel
theorem dX5_build_168 : decode cX5_build 168 = .ok (.iload_n 2, 1) := by decide +kernel
theorem dX5_build_169 : decode cX5_build 169 = .ok (.iload_n 3, 1) := by decide +kernel
theorem dX5_build_170 : decode cX5_build 170 = .ok (.iload 4, 2) := by decide +kernel
theorem dX5_build_172 : decode cX5_build 172 = .ok (.iload 5, 2) := by decide +kernel
theorem dX5_build_174 : decode cX5_build 174 = .ok (.iload 6, 2) := by decide +kernel
theorem dX5_build_176 : decode cX5_build 176 = .ok (.iload 7, 2) := by decide +kernel
theorem dX5_build_178 : decode cX5_build 178 = .ok (.invokespecial 91, 3) := by decide +kernel
theorem dX5_build_181 : decode cX5_build 181 = .ok (.astore 8, 2) := by decide +kernel
theorem dX5_build_183 : decode cX5_build 183 = .ok (.aload_n 0, 1) := by decide +kernel
theorem dX5_build_184 : decode cX5_build 184 = .ok (.getfield 16, 3) := by decide +kernel
theorem dX5_build_187 : decode cX5_build 187 = .ok (.aload 8, 2) := by decide +kernel
theorem dX5_build_189 : decode cX5_build 189 = .ok (.invokeinterface 66 2, 5) := by decide +kernel
theorem dX5_build_194 : decode cX5_build 194 = .ok (.pop, 1) := by decide +kernel
theorem dX5_build_195 : decode cX5_build 195 = .ok (.aload_n 0, 1) := by decide +kernel
theorem dX5_build_196 : decode cX5_build 196 = .ok (.aload 8, 2) := by decide +kernel
theorem dX5_build_198 : decode cX5_build 198 = .ok (.invokevirtual 94, 3) := by decide +kernel
theorem dX5_build_201 : decode cX5_build 201 = .ok (.aload_n 0, 1) := by decide +kernel
theorem dX5_build_202 : decode cX5_build 202 = .ok (.getfield 16, 3) := by decide +kernel
theorem dX5_build_205 : decode cX5_build 205 = .ok (.invokeinterface 50 1, 5) := by decide +kernel
theorem dX5_build_210 : decode cX5_build 210 = .ok (.iconst 1, 1) := by decide +kernel
theorem dX5_build_211 : decode cX5_build 211 = .ok (.isub, 1) := by decide +kernel
theorem dX5_build_212 : decode cX5_build 212 = .ok (.ireturn, 1) := by decide +kernel
theorem dX5_setNet_0 : decode cX5_setNet 0 = .ok (.aload_n 0, 1) := by decide +kernel
theorem dX5_setNet_1 : decode cX5_setNet 1 = .ok (.iload_n 1, 1) := by decide +kernel
theorem dX5_setNet_2 : decode cX5_setNet 2 = .ok (.invokevirtual 98, 3) := by decide +kernel
theorem dX5_setNet_5 : decode cX5_setNet 5 = .ok (.aload_n 0, 1) := by decide +kernel
theorem dX5_setNet_6 : decode cX5_setNet 6 = .ok (.getfield 16, 3) := by decide +kernel
theorem dX5_setNet_9 : decode cX5_setNet 9 = .ok (.iload_n 1, 1) := by decide +kernel
theorem dX5_setNet_10 : decode cX5_setNet 10 = .ok (.invokeinterface 101 2, 5) := by decide +kernel
theorem dX5_setNet_15 : decode cX5_setNet 15 = .ok (.checkcast 89, 3) := by decide +kernel
theorem dX5_setNet_18 : decode cX5_setNet 18 = .ok (.astore_n 3, 1) := by decide +kernel
theorem dX5_setNet_19 : decode cX5_setNet 19 = .ok (.aload_n 3, 1) := by decide +kernel
theorem dX5_setNet_20 : decode cX5_setNet 20 = .ok (.getfield 105, 3) := by decide +kernel
theorem dX5_setNet_23 : decode cX5_setNet 23 = .ok (.istore 4, 2) := by decide +kernel
theorem dX5_setNet_25 : decode cX5_setNet 25 = .ok (.aload_n 3, 1) := by decide +kernel
theorem dX5_setNet_26 : decode cX5_setNet 26 = .ok (.iload_n 2, 1) := by decide +kernel
theorem dX5_setNet_27 : decode cX5_setNet 27 = .ok (.putfield 105, 3) := by decide +kernel
theorem dX5_setNet_30 : decode cX5_setNet 30 = .ok (.iload 4, 2) := by decide +kernel
theorem dX5_setNet_32 : decode cX5_setNet 32 = .ok (.ireturn, 1) := by decide +kernel
theorem dX5_insure_0 : decode cX5_insure 0 = .ok (.aload_n 0, 1) := by decide +kernel
theorem dX5_insure_1 : decode cX5_insure 1 = .ok (.iload_n 1, 1) := by decide +kernel
theorem dX5_insure_2 : decode cX5_insure 2 = .ok (.invokevirtual 70, 3) := by decide +kernel
theorem dX5_insure_5 : decode cX5_insure 5 = .ok (.iload_n 2, 1) := by decide +kernel
theorem dX5_insure_6 : decode cX5_insure 6 = .ok (.iconst 0, 1) := by decide +kernel
theorem dX5_insure_7 : decode cX5_insure 7 = .ok (.sipush 10000, 3) := by decide +kernel
theorem dX5_insure_10 : decode cX5_insure 10 = .ok (.invokestatic 39, 3) := by decide +kernel
theorem dX5_insure_13 : decode cX5_insure 13 = .ok (.ifCond .ne 13, 3) := by decide +kernel
theorem dX5_insure_16 : decode cX5_insure 16 = .ok (.new 43, 3) := by decide +kernel
theorem dX5_insure_19 : decode cX5_insure 19 = .ok (.dup, 1) := by decide +kernel
theorem dX5_insure_20 : decode cX5_insure 20 = .ok (.ldc 109, 2) := by decide +kernel
theorem dX5_insure_22 : decode cX5_insure 22 = .ok (.invokespecial 47, 3) := by decide +kernel
theorem dX5_insure_25 : decode cX5_insure 25 = .ok (.athrow, 1) := by decide +kernel
theorem dX5_insure_26 : decode cX5_insure 26 = .ok (.iload_n 3, 1) := by decide +kernel
theorem dX5_insure_27 : decode cX5_insure 27 = .ok (.iconst 1, 1) := by decide +kernel
theorem dX5_insure_28 : decode cX5_insure 28 = .ok (.ldc 111, 2) := by decide +kernel
theorem dX5_insure_30 : decode cX5_insure 30 = .ok (.invokestatic 39, 3) := by decide +kernel
theorem dX5_insure_33 : decode cX5_insure 33 = .ok (.ifCond .ne 13, 3) := by decide +kernel
theorem dX5_insure_36 : decode cX5_insure 36 = .ok (.new 43, 3) := by decide +kernel
theorem dX5_insure_39 : decode cX5_insure 39 = .ok (.dup, 1) := by decide +kernel
theorem dX5_insure_40 : decode cX5_insure 40 = .ok (.ldc 112, 2) := by decide +kernel
theorem dX5_insure_42 : decode cX5_insure 42 = .ok (.invokespecial 47, 3) := by decide +kernel
theorem dX5_insure_45 : decode cX5_insure 45 = .ok (.athrow, 1) := by decide +kernel
theorem dX5_insure_46 : decode cX5_insure 46 = .ok (.iload 4, 2) := by decide +kernel
theorem dX5_insure_48 : decode cX5_insure 48 = .ok (.iconst 1, 1) := by decide +kernel
theorem dX5_insure_49 : decode cX5_insure 49 = .ok (.bipush 100, 2) := by decide +kernel
theorem dX5_insure_51 : decode cX5_insure 51 = .ok (.invokestatic 39, 3) := by decide +kernel
theorem dX5_insure_54 : decode cX5_insure 54 = .ok (.ifCond .ne 13, 3) := by decide +kernel
theorem dX5_insure_57 : decode cX5_insure 57 = .ok (.new 43, 3) := by decide +kernel
theorem dX5_insure_60 : decode cX5_insure 60 = .ok (.dup, 1) := by decide +kernel
theorem dX5_insure_61 : decode cX5_insure 61 = .ok (.ldc 114, 2) := by decide +kernel
theorem dX5_insure_63 : decode cX5_insure 63 = .ok (.invokespecial 47, 3) := by decide +kernel
theorem dX5_insure_66 : decode cX5_insure 66 = .ok (.athrow, 1) := by decide +kernel
theorem dX5_insure_67 : decode cX5_insure 67 = .ok (.aload_n 0, 1) := by decide +kernel
theorem dX5_insure_68 : decode cX5_insure 68 = .ok (.getfield 10, 3) := by decide +kernel
theorem dX5_insure_71 : decode cX5_insure 71 = .ok (.iload_n 1, 1) := by decide +kernel
theorem dX5_insure_72 : decode cX5_insure 72 = .ok (.invokeinterface 101 2, 5) := by decide +kernel
theorem dX5_insure_77 : decode cX5_insure 77 = .ok (.checkcast 61, 3) := by decide +kernel
theorem dX5_insure_80 : decode cX5_insure 80 = .ok (.astore 5, 2) := by decide +kernel
theorem dX5_insure_82 : decode cX5_insure 82 = .ok (.aload 5, 2) := by decide +kernel
theorem dX5_insure_84 : decode cX5_insure 84 = .ok (.getfield 116, 3) := by decide +kernel
theorem dX5_insure_87 : decode cX5_insure 87 = .ok (.istore 6, 2) := by decide +kernel
theorem dX5_insure_89 : decode cX5_insure 89 = .ok (.aload 5, 2) := by decide +kernel
theorem dX5_insure_91 : decode cX5_insure 91 = .ok (.iconst 1, 1) := by decide +kernel
theorem dX5_insure_92 : decode cX5_insure 92 = .ok (.putfield 120, 3) := by decide +kernel
theorem dX5_insure_95 : decode cX5_insure 95 = .ok (.aload 5, 2) := by decide +kernel
theorem dX5_insure_97 : decode cX5_insure 97 = .ok (.iload_n 2, 1) := by decide +kernel
theorem dX5_insure_98 : decode cX5_insure 98 = .ok (.putfield 123, 3) := by decide +kernel
theorem dX5_insure_101 : decode cX5_insure 101 = .ok (.aload 5, 2) := by decide +kernel
theorem dX5_insure_103 : decode cX5_insure 103 = .ok (.iload_n 3, 1) := by decide +kernel
theorem dX5_insure_104 : decode cX5_insure 104 = .ok (.putfield 116, 3) := by decide +kernel
theorem dX5_insure_107 : decode cX5_insure 107 = .ok (.aload 5, 2) := by decide +kernel
theorem dX5_insure_109 : decode cX5_insure 109 = .ok (.iload 4, 2) := by decide +kernel
theorem dX5_insure_111 : decode cX5_insure 111 = .ok (.putfield 126, 3) := by decide +kernel
theorem dX5_insure_114 : decode cX5_insure 114 = .ok (.iload 6, 2) := by decide +kernel
theorem dX5_insure_116 : decode cX5_insure 116 = .ok (.ireturn, 1) := by decide +kernel
theorem dX5_mend_0 : decode cX5_mend 0 = .ok (.aload_n 0, 1) := by decide +kernel
theorem dX5_mend_1 : decode cX5_mend 1 = .ok (.iload_n 1, 1) := by decide +kernel
theorem dX5_mend_2 : decode cX5_mend 2 = .ok (.invokevirtual 98, 3) := by decide +kernel
theorem dX5_mend_5 : decode cX5_mend 5 = .ok (.aload_n 0, 1) := by decide +kernel
theorem dX5_mend_6 : decode cX5_mend 6 = .ok (.getfield 16, 3) := by decide +kernel
theorem dX5_mend_9 : decode cX5_mend 9 = .ok (.iload_n 1, 1) := by decide +kernel
theorem dX5_mend_10 : decode cX5_mend 10 = .ok (.invokeinterface 101 2, 5) := by decide +kernel
theorem dX5_mend_15 : decode cX5_mend 15 = .ok (.checkcast 89, 3) := by decide +kernel
theorem dX5_mend_18 : decode cX5_mend 18 = .ok (.astore_n 2, 1) := by decide +kernel
theorem dX5_mend_19 : decode cX5_mend 19 = .ok (.aload_n 0, 1) := by decide +kernel
theorem dX5_mend_20 : decode cX5_mend 20 = .ok (.getfield 10, 3) := by decide +kernel
theorem dX5_mend_23 : decode cX5_mend 23 = .ok (.aload_n 2, 1) := by decide +kernel
theorem dX5_mend_24 : decode cX5_mend 24 = .ok (.getfield 129, 3) := by decide +kernel
theorem dX5_mend_27 : decode cX5_mend 27 = .ok (.invokeinterface 101 2, 5) := by decide +kernel
theorem dX5_mend_32 : decode cX5_mend 32 = .ok (.checkcast 61, 3) := by decide +kernel
theorem dX5_mend_35 : decode cX5_mend 35 = .ok (.astore_n 3, 1) := by decide +kernel
theorem dX5_mend_36 : decode cX5_mend 36 = .ok (.aload_n 0, 1) := by decide +kernel
theorem dX5_mend_37 : decode cX5_mend 37 = .ok (.aload_n 2, 1) := by decide +kernel
theorem dX5_mend_38 : decode cX5_mend 38 = .ok (.invokevirtual 132, 3) := by decide +kernel
theorem dX5_mend_41 : decode cX5_mend 41 = .ok (.istore 4, 2) := by decide +kernel
theorem dX5_mend_43 : decode cX5_mend 43 = .ok (.aload_n 3, 1) := by decide +kernel
theorem dX5_mend_44 : decode cX5_mend 44 = .ok (.getfield 136, 3) := by decide +kernel
theorem dX5_mend_47 : decode cX5_mend 47 = .ok (.iload 4, 2) := by decide +kernel
theorem dX5_mend_49 : decode cX5_mend 49 = .ok (.if_icmp .ge 13, 3) := by decide +kernel
theorem dX5_mend_52 : decode cX5_mend 52 = .ok (.new 56, 3) := by decide +kernel
theorem dX5_mend_55 : decode cX5_mend 55 = .ok (.dup, 1) := by decide +kernel
theorem dX5_mend_56 : decode cX5_mend 56 = .ok (.ldc 139, 2) := by decide +kernel
theorem dX5_mend_58 : decode cX5_mend 58 = .ok (.invokespecial 60, 3) := by decide +kernel
theorem dX5_mend_61 : decode cX5_mend 61 = .ok (.athrow, 1) := by decide +kernel
theorem dX5_mend_62 : decode cX5_mend 62 = .ok (.aload_n 3, 1) := by decide +kernel
theorem dX5_mend_63 : decode cX5_mend 63 = .ok (.dup, 1) := by decide +kernel
theorem dX5_mend_64 : decode cX5_mend 64 = .ok (.getfield 136, 3) := by decide +kernel
theorem dX5_mend_67 : decode cX5_mend 67 = .ok (.iload 4, 2) := by decide +kernel
theorem dX5_mend_69 : decode cX5_mend 69 = .ok (.isub, 1) := by decide +kernel
theorem dX5_mend_70 : decode cX5_mend 70 = .ok (.putfield 136, 3) := by decide +kernel
theorem dX5_mend_73 : decode cX5_mend 73 = .ok (.aload_n 0, 1) := by decide +kernel
theorem dX5_mend_74 : decode cX5_mend 74 = .ok (.aload_n 2, 1) := by decide +kernel
theorem dX5_mend_75 : decode cX5_mend 75 = .ok (.invokevirtual 94, 3) := by decide +kernel
theorem dX5_mend_78 : decode cX5_mend 78 = .ok (.iload 4, 2) := by decide +kernel
theorem dX5_mend_80 : decode cX5_mend 80 = .ok (.ireturn, 1) := by decide +kernel
theorem dX5_grower_0 : decode cX5_grower 0 = .ok (.aload_n 0, 1) := by decide +kernel
theorem dX5_grower_1 : decode cX5_grower 1 = .ok (.iload_n 1, 1) := by decide +kernel
theorem dX5_grower_2 : decode cX5_grower 2 = .ok (.invokevirtual 70, 3) := by decide +kernel
theorem dX5_grower_5 : decode cX5_grower 5 = .ok (.iload_n 2, 1) := by decide +kernel
theorem dX5_grower_6 : decode cX5_grower 6 = .ok (.bipush 10, 2) := by decide +kernel
theorem dX5_grower_8 : decode cX5_grower 8 = .ok (.invokestatic 141, 3) := by decide +kernel
theorem dX5_grower_11 : decode cX5_grower 11 = .ok (.aload_n 0, 1) := by decide +kernel
theorem dX5_grower_12 : decode cX5_grower 12 = .ok (.iload_n 1, 1) := by decide +kernel
theorem dX5_grower_13 : decode cX5_grower 13 = .ok (.iload_n 2, 1) := by decide +kernel
theorem dX5_grower_14 : decode cX5_grower 14 = .ok (.invokevirtual 145, 3) := by decide +kernel
theorem dX5_grower_17 : decode cX5_grower 17 = .ok (.ireturn, 1) := by decide +kernel
theorem dX5_house_0 : decode cX5_house 0 = .ok (.aload_n 0, 1) := by decide +kernel
theorem dX5_house_1 : decode cX5_house 1 = .ok (.iload_n 1, 1) := by decide +kernel
theorem dX5_house_2 : decode cX5_house 2 = .ok (.invokevirtual 98, 3) := by decide +kernel
theorem dX5_house_5 : decode cX5_house 5 = .ok (.iload_n 2, 1) := by decide +kernel
theorem dX5_house_6 : decode cX5_house 6 = .ok (.bipush 11, 2) := by decide +kernel
theorem dX5_house_8 : decode cX5_house 8 = .ok (.invokestatic 141, 3) := by decide +kernel
theorem dX5_house_11 : decode cX5_house 11 = .ok (.aload_n 0, 1) := by decide +kernel
theorem dX5_house_12 : decode cX5_house 12 = .ok (.aload_n 0, 1) := by decide +kernel
theorem dX5_house_13 : decode cX5_house 13 = .ok (.getfield 16, 3) := by decide +kernel
theorem dX5_house_16 : decode cX5_house 16 = .ok (.iload_n 1, 1) := by decide +kernel
theorem dX5_house_17 : decode cX5_house 17 = .ok (.invokeinterface 101 2, 5) := by decide +kernel
theorem dX5_house_22 : decode cX5_house 22 = .ok (.checkcast 89, 3) := by decide +kernel
theorem dX5_house_25 : decode cX5_house 25 = .ok (.iload_n 2, 1) := by decide +kernel
theorem dX5_house_26 : decode cX5_house 26 = .ok (.invokevirtual 149, 3) := by decide +kernel
theorem dX5_house_29 : decode cX5_house 29 = .ok (.ireturn, 1) := by decide +kernel
theorem dX5_pane_0 : decode cX5_pane 0 = .ok (.iload_n 1, 1) := by decide +kernel
theorem dX5_pane_1 : decode cX5_pane 1 = .ok (.iconst 0, 1) := by decide +kernel
theorem dX5_pane_2 : decode cX5_pane 2 = .ok (.bipush 19, 2) := by decide +kernel
theorem dX5_pane_4 : decode cX5_pane 4 = .ok (.invokestatic 39, 3) := by decide +kernel
theorem dX5_pane_7 : decode cX5_pane 7 = .ok (.ifCond .eq 13, 3) := by decide +kernel
theorem dX5_pane_10 : decode cX5_pane 10 = .ok (.iload_n 2, 1) := by decide +kernel
theorem dX5_pane_11 : decode cX5_pane 11 = .ok (.iconst 0, 1) := by decide +kernel
theorem dX5_pane_12 : decode cX5_pane 12 = .ok (.bipush 19, 2) := by decide +kernel
theorem dX5_pane_14 : decode cX5_pane 14 = .ok (.invokestatic 39, 3) := by decide +kernel
theorem dX5_pane_17 : decode cX5_pane 17 = .ok (.ifCond .ne 13, 3) := by decide +kernel
theorem dX5_pane_20 : decode cX5_pane 20 = .ok (.new 153, 3) := by decide +kernel
theorem dX5_pane_23 : decode cX5_pane 23 = .ok (.dup, 1) := by decide +kernel
theorem dX5_pane_24 : decode cX5_pane 24 = .ok (.ldc 155, 2) := by decide +kernel
theorem dX5_pane_26 : decode cX5_pane 26 = .ok (.invokespecial 157, 3) := by decide +kernel
theorem dX5_pane_29 : decode cX5_pane 29 = .ok (.athrow, 1) := by decide +kernel
theorem dX5_pane_30 : decode cX5_pane 30 = .ok (.aload_n 0, 1) := by decide +kernel
theorem dX5_pane_31 : decode cX5_pane 31 = .ok (.getfield 22, 3) := by decide +kernel
theorem dX5_pane_34 : decode cX5_pane 34 = .ok (.iload_n 1, 1) := by decide +kernel
theorem dX5_pane_35 : decode cX5_pane 35 = .ok (.iload_n 2, 1) := by decide +kernel
theorem dX5_pane_36 : decode cX5_pane 36 = .ok (.invokestatic 158, 3) := by decide +kernel
theorem dX5_pane_39 : decode cX5_pane 39 = .ok (.iaload, 1) := by decide +kernel
theorem dX5_pane_40 : decode cX5_pane 40 = .ok (.ireturn, 1) := by decide +kernel
theorem dX5_fund_0 : decode cX5_fund 0 = .ok (.iload_n 1, 1) := by decide +kernel
theorem dX5_fund_1 : decode cX5_fund 1 = .ok (.iconst 1, 1) := by decide +kernel
theorem dX5_fund_2 : decode cX5_fund 2 = .ok (.ldc 38, 2) := by decide +kernel
theorem dX5_fund_4 : decode cX5_fund 4 = .ok (.invokestatic 39, 3) := by decide +kernel
theorem dX5_fund_7 : decode cX5_fund 7 = .ok (.ifCond .ne 13, 3) := by decide +kernel
theorem dX5_fund_10 : decode cX5_fund 10 = .ok (.new 43, 3) := by decide +kernel
theorem dX5_fund_13 : decode cX5_fund 13 = .ok (.dup, 1) := by decide +kernel
theorem dX5_fund_14 : decode cX5_fund 14 = .ok (.ldc 161, 2) := by decide +kernel
theorem dX5_fund_16 : decode cX5_fund 16 = .ok (.invokespecial 47, 3) := by decide +kernel
theorem dX5_fund_19 : decode cX5_fund 19 = .ok (.athrow, 1) := by decide +kernel
theorem dX5_fund_20 : decode cX5_fund 20 = .ok (.aload_n 0, 1) := by decide +kernel
theorem dX5_fund_21 : decode cX5_fund 21 = .ok (.getfield 163, 3) := by decide +kernel
theorem dX5_fund_24 : decode cX5_fund 24 = .ok (.ldc 166, 2) := by decide +kernel
theorem dX5_fund_26 : decode cX5_fund 26 = .ok (.iload_n 1, 1) := by decide +kernel
theorem dX5_fund_27 : decode cX5_fund 27 = .ok (.isub, 1) := by decide +kernel
theorem dX5_fund_28 : decode cX5_fund 28 = .ok (.if_icmp .le 13, 3) := by decide +kernel
theorem dX5_fund_31 : decode cX5_fund 31 = .ok (.new 56, 3) := by decide +kernel
theorem dX5_fund_34 : decode cX5_fund 34 = .ok (.dup, 1) := by decide +kernel
theorem dX5_fund_35 : decode cX5_fund 35 = .ok (.ldc 167, 2) := by decide +kernel
theorem dX5_fund_37 : decode cX5_fund 37 = .ok (.invokespecial 60, 3) := by decide +kernel
theorem dX5_fund_40 : decode cX5_fund 40 = .ok (.athrow, 1) := by decide +kernel
theorem dX5_fund_41 : decode cX5_fund 41 = .ok (.aload_n 0, 1) := by decide +kernel
theorem dX5_fund_42 : decode cX5_fund 42 = .ok (.dup, 1) := by decide +kernel
theorem dX5_fund_43 : decode cX5_fund 43 = .ok (.getfield 163, 3) := by decide +kernel
theorem dX5_fund_46 : decode cX5_fund 46 = .ok (.iload_n 1, 1) := by decide +kernel
theorem dX5_fund_47 : decode cX5_fund 47 = .ok (.iadd, 1) := by decide +kernel
theorem dX5_fund_48 : decode cX5_fund 48 = .ok (.putfield 163, 3) := by decide +kernel
theorem dX5_fund_51 : decode cX5_fund 51 = .ok (.aload_n 0, 1) := by decide +kernel
theorem dX5_fund_52 : decode cX5_fund 52 = .ok (.getfield 163, 3) := by decide +kernel
theorem dX5_fund_55 : decode cX5_fund 55 = .ok (.ireturn, 1) := by decide +kernel
theorem dX5_addLayer_0 : decode cX5_addLayer 0 = .ok (.iload_n 1, 1) := by decide +kernel
theorem dX5_addLayer_1 : decode cX5_addLayer 1 = .ok (.iconst 0, 1) := by decide +kernel
theorem dX5_addLayer_2 : decode cX5_addLayer 2 = .ok (.ldc 111, 2) := by decide +kernel
theorem dX5_addLayer_4 : decode cX5_addLayer 4 = .ok (.invokestatic 39, 3) := by decide +kernel
theorem dX5_addLayer_7 : decode cX5_addLayer 7 = .ok (.ifCond .ne 13, 3) := by decide +kernel
theorem dX5_addLayer_10 : decode cX5_addLayer 10 = .ok (.new 43, 3) := by decide +kernel
theorem dX5_addLayer_13 : decode cX5_addLayer 13 = .ok (.dup, 1) := by decide +kernel
theorem dX5_addLayer_14 : decode cX5_addLayer 14 = .ok (.ldc 169, 2) := by decide +kernel
theorem dX5_addLayer_16 : decode cX5_addLayer 16 = .ok (.invokespecial 47, 3) := by decide +kernel
theorem dX5_addLayer_19 : decode cX5_addLayer 19 = .ok (.athrow, 1) := by decide +kernel
theorem dX5_addLayer_20 : decode cX5_addLayer 20 = .ok (.iload_n 2, 1) := by decide +kernel
theorem dX5_addLayer_21 : decode cX5_addLayer 21 = .ok (.iconst 1, 1) := by decide +kernel
theorem dX5_addLayer_22 : decode cX5_addLayer 22 = .ok (.ldc 111, 2) := by decide +kernel
theorem dX5_addLayer_24 : decode cX5_addLayer 24 = .ok (.invokestatic 39, 3) := by decide +kernel
theorem dX5_addLayer_27 : decode cX5_addLayer 27 = .ok (.ifCond .ne 13, 3) := by decide +kernel
theorem dX5_addLayer_30 : decode cX5_addLayer 30 = .ok (.new 43, 3) := by decide +kernel
theorem dX5_addLayer_33 : decode cX5_addLayer 33 = .ok (.dup, 1) := by decide +kernel
theorem dX5_addLayer_34 : decode cX5_addLayer 34 = .ok (.ldc 112, 2) := by decide +kernel
theorem dX5_addLayer_36 : decode cX5_addLayer 36 = .ok (.invokespecial 47, 3) := by decide +kernel
theorem dX5_addLayer_39 : decode cX5_addLayer 39 = .ok (.athrow, 1) := by decide +kernel
theorem dX5_addLayer_40 : decode cX5_addLayer 40 = .ok (.iload_n 3, 1) := by decide +kernel
theorem dX5_addLayer_41 : decode cX5_addLayer 41 = .ok (.iconst 1, 1) := by decide +kernel
theorem dX5_addLayer_42 : decode cX5_addLayer 42 = .ok (.bipush 100, 2) := by decide +kernel
theorem dX5_addLayer_44 : decode cX5_addLayer 44 = .ok (.invokestatic 39, 3) := by decide +kernel
theorem dX5_addLayer_47 : decode cX5_addLayer 47 = .ok (.ifCond .ne 13, 3) := by decide +kernel
theorem dX5_addLayer_50 : decode cX5_addLayer 50 = .ok (.new 43, 3) := by decide +kernel
theorem dX5_addLayer_53 : decode cX5_addLayer 53 = .ok (.dup, 1) := by decide +kernel
theorem dX5_addLayer_54 : decode cX5_addLayer 54 = .ok (.ldc 171, 2) := by decide +kernel
theorem dX5_addLayer_56 : decode cX5_addLayer 56 = .ok (.invokespecial 47, 3) := by decide +kernel
theorem dX5_addLayer_59 : decode cX5_addLayer 59 = .ok (.athrow, 1) := by decide +kernel
theorem dX5_addLayer_60 : decode cX5_addLayer 60 = .ok (.aload_n 0, 1) := by decide +kernel
theorem dX5_addLayer_61 : decode cX5_addLayer 61 = .ok (.getfield 19, 3) := by decide +kernel
theorem dX5_addLayer_64 : decode cX5_addLayer 64 = .ok (.invokeinterface 50 1, 5) := by decide +kernel
theorem dX5_addLayer_69 : decode cX5_addLayer 69 = .ok (.bipush 6, 2) := by decide +kernel
theorem dX5_addLayer_71 : decode cX5_addLayer 71 = .ok (.if_icmp .lt 13, 3) := by decide +kernel
theorem dX5_addLayer_74 : decode cX5_addLayer 74 = .ok (.new 56, 3) := by decide +kernel
theorem dX5_addLayer_77 : decode cX5_addLayer 77 = .ok (.dup, 1) := by decide +kernel
theorem dX5_addLayer_78 : decode cX5_addLayer 78 = .ok (.ldc 173, 2) := by decide +kernel
theorem dX5_addLayer_80 : decode cX5_addLayer 80 = .ok (.invokespecial 60, 3) := by decide +kernel
theorem dX5_addLayer_83 : decode cX5_addLayer 83 = .ok (.athrow, 1) := by decide +kernel
theorem dX5_addLayer_84 : decode cX5_addLayer 84 = .ok (.aload_n 0, 1) := by decide +kernel
theorem dX5_addLayer_85 : decode cX5_addLayer 85 = .ok (.getfield 19, 3) := by decide +kernel
theorem dX5_addLayer_88 : decode cX5_addLayer 88 = .ok (.new 175, 3) := by decide +kernel
theorem dX5_addLayer_91 : decode cX5_addLayer 91 = .ok (.dup, 1) := by decide +kernel
theorem dX5_addLayer_92 : decode cX5_addLayer 92 = .ok (.iload_n 1, 1) := by decide +kernel
theorem dX5_addLayer_93 : decode cX5_addLayer 93 = .ok (.iload_n 2, 1) := by decide +kernel
theorem dX5_addLayer_94 : decode cX5_addLayer 94 = .ok (.iload_n 3, 1) := by decide +kernel
theorem dX5_addLayer_95 : decode cX5_addLayer 95 = .ok (.invokespecial 177, 3) := by decide +kernel
theorem dX5_addLayer_98 : decode cX5_addLayer 98 = .ok (.invokeinterface 66 2, 5) := by decide +kernel
theorem dX5_addLayer_103 : decode cX5_addLayer 103 = .ok (.pop, 1) := by decide +kernel
theorem dX5_addLayer_104 : decode cX5_addLayer 104 = .ok (.aload_n 0, 1) := by decide +kernel
theorem dX5_addLayer_105 : decode cX5_addLayer 105 = .ok (.getfield 19, 3) := by decide +kernel
theorem dX5_addLayer_108 : decode cX5_addLayer 108 = .ok (.invokeinterface 50 1, 5) := by decide +kernel
theorem dX5_addLayer_113 : decode cX5_addLayer 113 = .ok (.iconst 1, 1) := by decide +kernel
theorem dX5_addLayer_114 : decode cX5_addLayer 114 = .ok (.isub, 1) := by decide +kernel
theorem dX5_addLayer_115 : decode cX5_addLayer 115 = .ok (.ireturn, 1) := by decide +kernel
theorem dX5_layer_0 : decode cX5_layer 0 = .ok (.iload_n 1, 1) := by decide +kernel
theorem dX5_layer_1 : decode cX5_layer 1 = .ok (.iconst 0, 1) := by decide +kernel
theorem dX5_layer_2 : decode cX5_layer 2 = .ok (.aload_n 0, 1) := by decide +kernel
theorem dX5_layer_3 : decode cX5_layer 3 = .ok (.getfield 19, 3) := by decide +kernel
theorem dX5_layer_6 : decode cX5_layer 6 = .ok (.invokeinterface 50 1, 5) := by decide +kernel
theorem dX5_layer_11 : decode cX5_layer 11 = .ok (.iconst 1, 1) := by decide +kernel
theorem dX5_layer_12 : decode cX5_layer 12 = .ok (.isub, 1) := by decide +kernel
theorem dX5_layer_13 : decode cX5_layer 13 = .ok (.invokestatic 39, 3) := by decide +kernel
theorem dX5_layer_16 : decode cX5_layer 16 = .ok (.ifCond .ne 13, 3) := by decide +kernel
theorem dX5_layer_19 : decode cX5_layer 19 = .ok (.new 153, 3) := by decide +kernel
theorem dX5_layer_22 : decode cX5_layer 22 = .ok (.dup, 1) := by decide +kernel
theorem dX5_layer_23 : decode cX5_layer 23 = .ok (.ldc 180, 2) := by decide +kernel
theorem dX5_layer_25 : decode cX5_layer 25 = .ok (.invokespecial 157, 3) := by decide +kernel
theorem dX5_layer_28 : decode cX5_layer 28 = .ok (.athrow, 1) := by decide +kernel
theorem dX5_layer_29 : decode cX5_layer 29 = .ok (.iload_n 2, 1) := by decide +kernel
theorem dX5_layer_30 : decode cX5_layer 30 = .ok (.iconst 5, 1) := by decide +kernel
theorem dX5_layer_31 : decode cX5_layer 31 = .ok (.invokestatic 141, 3) := by decide +kernel
theorem dX5_layer_34 : decode cX5_layer 34 = .ok (.aload_n 0, 1) := by decide +kernel
theorem dX5_layer_35 : decode cX5_layer 35 = .ok (.getfield 19, 3) := by decide +kernel
theorem dX5_layer_38 : decode cX5_layer 38 = .ok (.iload_n 1, 1) := by decide +kernel
theorem dX5_layer_39 : decode cX5_layer 39 = .ok (.invokeinterface 101 2, 5) := by decide +kernel
theorem dX5_layer_44 : decode cX5_layer 44 = .ok (.checkcast 175, 3) := by decide +kernel
theorem dX5_layer_47 : decode cX5_layer 47 = .ok (.iload_n 2, 1) := by decide +kernel
theorem dX5_layer_48 : decode cX5_layer 48 = .ok (.invokestatic 182, 3) := by decide +kernel
theorem dX5_layer_51 : decode cX5_layer 51 = .ok (.ireturn, 1) := by decide +kernel
theorem dX5_count_0 : decode cX5_count 0 = .ok (.iload_n 1, 1) := by decide +kernel
theorem dX5_count_1 : decode cX5_count 1 = .ok (.bipush 11, 2) := by decide +kernel
theorem dX5_count_3 : decode cX5_count 3 = .ok (.invokestatic 141, 3) := by decide +kernel
theorem dX5_count_6 : decode cX5_count 6 = .ok (.aload_n 0, 1) := by decide +kernel
theorem dX5_count_7 : decode cX5_count 7 = .ok (.iload_n 1, 1) := by decide +kernel
theorem dX5_count_8 : decode cX5_count 8 = .ok (.invokevirtual 186, 3) := by decide +kernel
theorem dX5_count_11 : decode cX5_count 11 = .ok (.ireturn, 1) := by decide +kernel
theorem dX5_endYear_0 : decode cX5_endYear 0 = .ok (.iconst 0, 1) := by decide +kernel
theorem dX5_endYear_1 : decode cX5_endYear 1 = .ok (.istore_n 1, 1) := by decide +kernel
theorem dX5_endYear_2 : decode cX5_endYear 2 = .ok (.iconst 0, 1) := by decide +kernel
theorem dX5_endYear_3 : decode cX5_endYear 3 = .ok (.istore_n 2, 1) := by decide +kernel
theorem dX5_endYear_4 : decode cX5_endYear 4 = .ok (.iload_n 2, 1) := by decide +kernel
theorem dX5_endYear_5 : decode cX5_endYear 5 = .ok (.aload_n 0, 1) := by decide +kernel
theorem dX5_endYear_6 : decode cX5_endYear 6 = .ok (.getfield 10, 3) := by decide +kernel
theorem dX5_endYear_9 : decode cX5_endYear 9 = .ok (.invokeinterface 50 1, 5) := by decide +kernel
theorem dX5_endYear_14 : decode cX5_endYear 14 = .ok (.if_icmp .ge 17, 3) := by decide +kernel
theorem dX5_endYear_17 : decode cX5_endYear 17 = .ok (.iload_n 1, 1) := by decide +kernel
theorem dX5_endYear_18 : decode cX5_endYear 18 = .ok (.aload_n 0, 1) := by decide +kernel
theorem dX5_endYear_19 : decode cX5_endYear 19 = .ok (.iload_n 2, 1) := by decide +kernel
theorem dX5_endYear_20 : decode cX5_endYear 20 = .ok (.invokevirtual 190, 3) := by decide +kernel
theorem dX5_endYear_23 : decode cX5_endYear 23 = .ok (.iadd, 1) := by decide +kernel
theorem dX5_endYear_24 : decode cX5_endYear 24 = .ok (.istore_n 1, 1) := by decide +kernel
theorem dX5_endYear_25 : decode cX5_endYear 25 = .ok (.iinc 2 1, 3) := by decide +kernel
theorem dX5_endYear_28 : decode cX5_endYear 28 = .ok (.goto (-24), 3) := by decide +kernel
theorem dX5_endYear_31 : decode cX5_endYear 31 = .ok (.aload_n 0, 1) := by decide +kernel
theorem dX5_endYear_32 : decode cX5_endYear 32 = .ok (.invokevirtual 193, 3) := by decide +kernel
theorem dX5_endYear_35 : decode cX5_endYear 35 = .ok (.aload_n 0, 1) := by decide +kernel
theorem dX5_endYear_36 : decode cX5_endYear 36 = .ok (.invokevirtual 196, 3) := by decide +kernel
theorem dX5_endYear_39 : decode cX5_endYear 39 = .ok (.aload_n 0, 1) := by decide +kernel
theorem dX5_endYear_40 : decode cX5_endYear 40 = .ok (.dup, 1) := by decide +kernel
theorem dX5_endYear_41 : decode cX5_endYear 41 = .ok (.getfield 199, 3) := by decide +kernel
theorem dX5_endYear_44 : decode cX5_endYear 44 = .ok (.iconst 1, 1) := by decide +kernel
theorem dX5_endYear_45 : decode cX5_endYear 45 = .ok (.iadd, 1) := by decide +kernel
theorem dX5_endYear_46 : decode cX5_endYear 46 = .ok (.putfield 199, 3) := by decide +kernel
theorem dX5_endYear_49 : decode cX5_endYear 49 = .ok (.iload_n 1, 1) := by decide +kernel
theorem dX5_endYear_50 : decode cX5_endYear 50 = .ok (.ireturn, 1) := by decide +kernel
theorem dX5_storm_0 : decode cX5_storm 0 = .ok (.new 202, 3) := by decide +kernel
theorem dX5_storm_3 : decode cX5_storm 3 = .ok (.dup, 1) := by decide +kernel
theorem dX5_storm_4 : decode cX5_storm 4 = .ok (.iload_n 1, 1) := by decide +kernel
theorem dX5_storm_5 : decode cX5_storm 5 = .ok (.iload_n 2, 1) := by decide +kernel
theorem dX5_storm_6 : decode cX5_storm 6 = .ok (.iload_n 3, 1) := by decide +kernel
theorem dX5_storm_7 : decode cX5_storm 7 = .ok (.iload 4, 2) := by decide +kernel
theorem dX5_storm_9 : decode cX5_storm 9 = .ok (.iload 5, 2) := by decide +kernel
theorem dX5_storm_11 : decode cX5_storm 11 = .ok (.iload 6, 2) := by decide +kernel
theorem dX5_storm_13 : decode cX5_storm 13 = .ok (.iload 7, 2) := by decide +kernel
theorem dX5_storm_15 : decode cX5_storm 15 = .ok (.invokespecial 204, 3) := by decide +kernel
theorem dX5_storm_18 : decode cX5_storm 18 = .ok (.astore 8, 2) := by decide +kernel
theorem dX5_storm_20 : decode cX5_storm 20 = .ok (.aload 8, 2) := by decide +kernel
theorem dX5_storm_22 : decode cX5_storm 22 = .ok (.invokestatic 205, 3) := by decide +kernel
theorem dX5_storm_25 : decode cX5_storm 25 = .ok (.aload_n 0, 1) := by decide +kernel
theorem dX5_storm_26 : decode cX5_storm 26 = .ok (.getfield 209, 3) := by decide +kernel
theorem dX5_storm_29 : decode cX5_storm 29 = .ok (.bipush 30, 2) := by decide +kernel
theorem dX5_storm_31 : decode cX5_storm 31 = .ok (.if_icmp .lt 13, 3) := by decide +kernel
theorem dX5_storm_34 : decode cX5_storm 34 = .ok (.new 56, 3) := by decide +kernel
theorem dX5_storm_37 : decode cX5_storm 37 = .ok (.dup, 1) := by decide +kernel
theorem dX5_storm_38 : decode cX5_storm 38 = .ok (.ldc 212, 2) := by decide +kernel
theorem dX5_storm_40 : decode cX5_storm 40 = .ok (.invokespecial 60, 3) := by decide +kernel
theorem dX5_storm_43 : decode cX5_storm 43 = .ok (.athrow, 1) := by decide +kernel
theorem dX5_storm_44 : decode cX5_storm 44 = .ok (.aload_n 0, 1) := by decide +kernel
theorem dX5_storm_45 : decode cX5_storm 45 = .ok (.aload 8, 2) := by decide +kernel
theorem dX5_storm_47 : decode cX5_storm 47 = .ok (.invokevirtual 214, 3) := by decide +kernel
theorem dX5_storm_50 : decode cX5_storm 50 = .ok (.aload_n 0, 1) := by decide +kernel
theorem dX5_storm_51 : decode cX5_storm 51 = .ok (.invokevirtual 217, 3) := by decide +kernel
theorem dX5_storm_54 : decode cX5_storm 54 = .ok (.aload_n 0, 1) := by decide +kernel
theorem dX5_storm_55 : decode cX5_storm 55 = .ok (.getfield 34, 3) := by decide +kernel
theorem dX5_storm_58 : decode cX5_storm 58 = .ok (.getfield 220, 3) := by decide +kernel
theorem dX5_storm_61 : decode cX5_storm 61 = .ok (.iconst 3, 1) := by decide +kernel
theorem dX5_storm_62 : decode cX5_storm 62 = .ok (.iaload, 1) := by decide +kernel
theorem dX5_storm_63 : decode cX5_storm 63 = .ok (.ireturn, 1) := by decide +kernel
theorem dX5_told_0 : decode cX5_told 0 = .ok (.iload_n 1, 1) := by decide +kernel
theorem dX5_told_1 : decode cX5_told 1 = .ok (.iconst 0, 1) := by decide +kernel
theorem dX5_told_2 : decode cX5_told 2 = .ok (.aload_n 0, 1) := by decide +kernel
theorem dX5_told_3 : decode cX5_told 3 = .ok (.getfield 209, 3) := by decide +kernel
theorem dX5_told_6 : decode cX5_told 6 = .ok (.iconst 1, 1) := by decide +kernel
theorem dX5_told_7 : decode cX5_told 7 = .ok (.isub, 1) := by decide +kernel
theorem dX5_told_8 : decode cX5_told 8 = .ok (.invokestatic 39, 3) := by decide +kernel
theorem dX5_told_11 : decode cX5_told 11 = .ok (.ifCond .ne 13, 3) := by decide +kernel
theorem dX5_told_14 : decode cX5_told 14 = .ok (.new 153, 3) := by decide +kernel
theorem dX5_told_17 : decode cX5_told 17 = .ok (.dup, 1) := by decide +kernel
theorem dX5_told_18 : decode cX5_told 18 = .ok (.ldc 223, 2) := by decide +kernel
theorem dX5_told_20 : decode cX5_told 20 = .ok (.invokespecial 157, 3) := by decide +kernel
theorem dX5_told_23 : decode cX5_told 23 = .ok (.athrow, 1) := by decide +kernel
theorem dX5_told_24 : decode cX5_told 24 = .ok (.iload_n 2, 1) := by decide +kernel
theorem dX5_told_25 : decode cX5_told 25 = .ok (.bipush 6, 2) := by decide +kernel
theorem dX5_told_27 : decode cX5_told 27 = .ok (.invokestatic 141, 3) := by decide +kernel
theorem dX5_told_30 : decode cX5_told 30 = .ok (.aload_n 0, 1) := by decide +kernel
theorem dX5_told_31 : decode cX5_told 31 = .ok (.getfield 28, 3) := by decide +kernel
theorem dX5_told_34 : decode cX5_told 34 = .ok (.iload_n 1, 1) := by decide +kernel
theorem dX5_told_35 : decode cX5_told 35 = .ok (.aaload, 1) := by decide +kernel
theorem dX5_told_36 : decode cX5_told 36 = .ok (.iload_n 2, 1) := by decide +kernel
theorem dX5_told_37 : decode cX5_told 37 = .ok (.iaload, 1) := by decide +kernel
theorem dX5_told_38 : decode cX5_told 38 = .ok (.ireturn, 1) := by decide +kernel
theorem dX5_wouldBe_0 : decode cX5_wouldBe 0 = .ok (.new 202, 3) := by decide +kernel
theorem dX5_wouldBe_3 : decode cX5_wouldBe 3 = .ok (.dup, 1) := by decide +kernel
theorem dX5_wouldBe_4 : decode cX5_wouldBe 4 = .ok (.iload_n 1, 1) := by decide +kernel
theorem dX5_wouldBe_5 : decode cX5_wouldBe 5 = .ok (.iload_n 2, 1) := by decide +kernel
theorem dX5_wouldBe_6 : decode cX5_wouldBe 6 = .ok (.iload_n 3, 1) := by decide +kernel
theorem dX5_wouldBe_7 : decode cX5_wouldBe 7 = .ok (.iload 4, 2) := by decide +kernel
theorem dX5_wouldBe_9 : decode cX5_wouldBe 9 = .ok (.iload 5, 2) := by decide +kernel
theorem dX5_wouldBe_11 : decode cX5_wouldBe 11 = .ok (.iload 6, 2) := by decide +kernel
theorem dX5_wouldBe_13 : decode cX5_wouldBe 13 = .ok (.iload 7, 2) := by decide +kernel
theorem dX5_wouldBe_15 : decode cX5_wouldBe 15 = .ok (.invokespecial 204, 3) := by decide +kernel
theorem dX5_wouldBe_18 : decode cX5_wouldBe 18 = .ok (.astore 9, 2) := by decide +kernel
theorem dX5_wouldBe_20 : decode cX5_wouldBe 20 = .ok (.aload 9, 2) := by decide +kernel
theorem dX5_wouldBe_22 : decode cX5_wouldBe 22 = .ok (.invokestatic 205, 3) := by decide +kernel
theorem dX5_wouldBe_25 : decode cX5_wouldBe 25 = .ok (.iload 8, 2) := by decide +kernel
theorem dX5_wouldBe_27 : decode cX5_wouldBe 27 = .ok (.bipush 6, 2) := by decide +kernel
theorem dX5_wouldBe_29 : decode cX5_wouldBe 29 = .ok (.invokestatic 141, 3) := by decide +kernel
theorem dX5_wouldBe_32 : decode cX5_wouldBe 32 = .ok (.aload_n 0, 1) := by decide +kernel
theorem dX5_wouldBe_33 : decode cX5_wouldBe 33 = .ok (.aload 9, 2) := by decide +kernel
theorem dX5_wouldBe_35 : decode cX5_wouldBe 35 = .ok (.invokevirtual 214, 3) := by decide +kernel
theorem dX5_wouldBe_38 : decode cX5_wouldBe 38 = .ok (.aload_n 0, 1) := by decide +kernel
theorem dX5_wouldBe_39 : decode cX5_wouldBe 39 = .ok (.getfield 34, 3) := by decide +kernel
theorem dX5_wouldBe_42 : decode cX5_wouldBe 42 = .ok (.getfield 220, 3) := by decide +kernel
theorem dX5_wouldBe_45 : decode cX5_wouldBe 45 = .ok (.iload 8, 2) := by decide +kernel
theorem dX5_wouldBe_47 : decode cX5_wouldBe 47 = .ok (.iaload, 1) := by decide +kernel
theorem dX5_wouldBe_48 : decode cX5_wouldBe 48 = .ok (.ireturn, 1) := by decide +kernel
theorem dX5_worst_0 : decode cX5_worst 0 = .ok (.iconst 0, 1) := by decide +kernel
theorem dX5_worst_1 : decode cX5_worst 1 = .ok (.iload_n 1, 1) := by decide +kernel
theorem dX5_worst_2 : decode cX5_worst 2 = .ok (.iload_n 2, 1) := by decide +kernel
theorem dX5_worst_3 : decode cX5_worst 3 = .ok (.invokestatic 225, 3) := by decide +kernel
theorem dX5_worst_6 : decode cX5_worst 6 = .ok (.astore_n 3, 1) := by decide +kernel
theorem dX5_worst_7 : decode cX5_worst 7 = .ok (.aload_n 3, 1) := by decide +kernel
theorem dX5_worst_8 : decode cX5_worst 8 = .ok (.invokestatic 205, 3) := by decide +kernel
theorem dX5_worst_11 : decode cX5_worst 11 = .ok (.iconst (-1), 1) := by decide +kernel
theorem dX5_worst_12 : decode cX5_worst 12 = .ok (.istore 4, 2) := by decide +kernel
theorem dX5_worst_14 : decode cX5_worst 14 = .ok (.iconst 0, 1) := by decide +kernel
theorem dX5_worst_15 : decode cX5_worst 15 = .ok (.istore 5, 2) := by decide +kernel
theorem dX5_worst_17 : decode cX5_worst 17 = .ok (.iconst 0, 1) := by decide +kernel
theorem dX5_worst_18 : decode cX5_worst 18 = .ok (.istore 6, 2) := by decide +kernel
theorem dX5_worst_20 : decode cX5_worst 20 = .ok (.iload 6, 2) := by decide +kernel
theorem dX5_worst_22 : decode cX5_worst 22 = .ok (.bipush 20, 2) := by decide +kernel
theorem dX5_worst_24 : decode cX5_worst 24 = .ok (.if_icmp .ge 49, 3) := by decide +kernel
theorem dX5_worst_27 : decode cX5_worst 27 = .ok (.aload_n 3, 1) := by decide +kernel
theorem dX5_worst_28 : decode cX5_worst 28 = .ok (.iload 6, 2) := by decide +kernel
theorem dX5_worst_30 : decode cX5_worst 30 = .ok (.putfield 229, 3) := by decide +kernel
theorem dX5_worst_33 : decode cX5_worst 33 = .ok (.aload_n 0, 1) := by decide +kernel
theorem dX5_worst_34 : decode cX5_worst 34 = .ok (.aload_n 3, 1) := by decide +kernel
theorem dX5_worst_35 : decode cX5_worst 35 = .ok (.invokevirtual 214, 3) := by decide +kernel
theorem dX5_worst_38 : decode cX5_worst 38 = .ok (.aload_n 0, 1) := by decide +kernel
theorem dX5_worst_39 : decode cX5_worst 39 = .ok (.getfield 34, 3) := by decide +kernel
theorem dX5_worst_42 : decode cX5_worst 42 = .ok (.getfield 220, 3) := by decide +kernel
theorem dX5_worst_45 : decode cX5_worst 45 = .ok (.iconst 3, 1) := by decide +kernel
theorem dX5_worst_46 : decode cX5_worst 46 = .ok (.iaload, 1) := by decide +kernel
theorem dX5_worst_47 : decode cX5_worst 47 = .ok (.iload 5, 2) := by decide +kernel
theorem dX5_worst_49 : decode cX5_worst 49 = .ok (.if_icmp .le 18, 3) := by decide +kernel
theorem dX5_worst_52 : decode cX5_worst 52 = .ok (.aload_n 0, 1) := by decide +kernel
theorem dX5_worst_53 : decode cX5_worst 53 = .ok (.getfield 34, 3) := by decide +kernel
theorem dX5_worst_56 : decode cX5_worst 56 = .ok (.getfield 220, 3) := by decide +kernel
theorem dX5_worst_59 : decode cX5_worst 59 = .ok (.iconst 3, 1) := by decide +kernel
theorem dX5_worst_60 : decode cX5_worst 60 = .ok (.iaload, 1) := by decide +kernel
theorem dX5_worst_61 : decode cX5_worst 61 = .ok (.istore 5, 2) := by decide +kernel
theorem dX5_worst_63 : decode cX5_worst 63 = .ok (.iload 6, 2) := by decide +kernel
theorem dX5_worst_65 : decode cX5_worst 65 = .ok (.istore 4, 2) := by decide +kernel
theorem dX5_worst_67 : decode cX5_worst 67 = .ok (.iinc 6 1, 3) := by decide +kernel
theorem dX5_worst_70 : decode cX5_worst 70 = .ok (.goto (-50), 3) := by decide +kernel
theorem dX5_worst_73 : decode cX5_worst 73 = .ok (.iload 4, 2) := by decide +kernel
theorem dX5_worst_75 : decode cX5_worst 75 = .ok (.ireturn, 1) := by decide +kernel
theorem dX5_advise_0 : decode cX5_advise 0 = .ok (.iload_n 1, 1) := by decide +kernel
theorem dX5_advise_1 : decode cX5_advise 1 = .ok (.iconst 0, 1) := by decide +kernel
theorem dX5_advise_2 : decode cX5_advise 2 = .ok (.bipush 19, 2) := by decide +kernel
theorem dX5_advise_4 : decode cX5_advise 4 = .ok (.invokestatic 39, 3) := by decide +kernel
theorem dX5_advise_7 : decode cX5_advise 7 = .ok (.ifCond .ne 13, 3) := by decide +kernel
theorem dX5_advise_10 : decode cX5_advise 10 = .ok (.new 43, 3) := by decide +kernel
theorem dX5_advise_13 : decode cX5_advise 13 = .ok (.dup, 1) := by decide +kernel
theorem dX5_advise_14 : decode cX5_advise 14 = .ok (.ldc 232, 2) := by decide +kernel
theorem dX5_advise_16 : decode cX5_advise 16 = .ok (.invokespecial 47, 3) := by decide +kernel
theorem dX5_advise_19 : decode cX5_advise 19 = .ok (.athrow, 1) := by decide +kernel
theorem dX5_advise_20 : decode cX5_advise 20 = .ok (.iload_n 1, 1) := by decide +kernel
theorem dX5_advise_21 : decode cX5_advise 21 = .ok (.iload_n 2, 1) := by decide +kernel
theorem dX5_advise_22 : decode cX5_advise 22 = .ok (.iload_n 3, 1) := by decide +kernel
theorem dX5_advise_23 : decode cX5_advise 23 = .ok (.invokestatic 225, 3) := by decide +kernel
theorem dX5_advise_26 : decode cX5_advise 26 = .ok (.astore 4, 2) := by decide +kernel
theorem dX5_advise_28 : decode cX5_advise 28 = .ok (.aload 4, 2) := by decide +kernel
theorem dX5_advise_30 : decode cX5_advise 30 = .ok (.invokestatic 205, 3) := by decide +kernel
theorem dX5_advise_33 : decode cX5_advise 33 = .ok (.iconst (-1), 1) := by decide +kernel
theorem dX5_advise_34 : decode cX5_advise 34 = .ok (.istore 5, 2) := by decide +kernel
theorem dX5_advise_36 : decode cX5_advise 36 = .ok (.aload_n 0, 1) := by decide +kernel
theorem dX5_advise_37 : decode cX5_advise 37 = .ok (.aload 4, 2) := by decide +kernel
theorem dX5_advise_39 : decode cX5_advise 39 = .ok (.invokevirtual 234, 3) := by decide +kernel
theorem dX5_advise_42 : decode cX5_advise 42 = .ok (.istore 6, 2) := by decide +kernel
theorem dX5_advise_44 : decode cX5_advise 44 = .ok (.iconst 0, 1) := by decide +kernel
theorem dX5_advise_45 : decode cX5_advise 45 = .ok (.istore 7, 2) := by decide +kernel
theorem dX5_advise_47 : decode cX5_advise 47 = .ok (.iload 7, 2) := by decide +kernel
theorem dX5_advise_49 : decode cX5_advise 49 = .ok (.aload_n 0, 1) := by decide +kernel
theorem dX5_advise_50 : decode cX5_advise 50 = .ok (.getfield 16, 3) := by decide +kernel
theorem dX5_advise_53 : decode cX5_advise 53 = .ok (.invokeinterface 50 1, 5) := by decide +kernel
theorem dX5_advise_58 : decode cX5_advise 58 = .ok (.if_icmp .ge 61, 3) := by decide +kernel
theorem dX5_advise_61 : decode cX5_advise 61 = .ok (.aload_n 0, 1) := by decide +kernel
theorem dX5_advise_62 : decode cX5_advise 62 = .ok (.getfield 16, 3) := by decide +kernel
theorem dX5_advise_65 : decode cX5_advise 65 = .ok (.iload 7, 2) := by decide +kernel
theorem dX5_advise_67 : decode cX5_advise 67 = .ok (.invokeinterface 101 2, 5) := by decide +kernel
theorem dX5_advise_72 : decode cX5_advise 72 = .ok (.checkcast 89, 3) := by decide +kernel
theorem dX5_advise_75 : decode cX5_advise 75 = .ok (.astore 8, 2) := by decide +kernel
theorem dX5_advise_77 : decode cX5_advise 77 = .ok (.aload 8, 2) := by decide +kernel
theorem dX5_advise_79 : decode cX5_advise 79 = .ok (.getfield 105, 3) := by decide +kernel
theorem dX5_advise_82 : decode cX5_advise 82 = .ok (.ifCond .eq 6, 3) := by decide +kernel
theorem dX5_advise_85 : decode cX5_advise 85 = .ok (.goto 28, 3) := by decide +kernel
theorem dX5_advise_88 : decode cX5_advise 88 = .ok (.aload_n 0, 1) := by decide +kernel
theorem dX5_advise_89 : decode cX5_advise 89 = .ok (.aload 8, 2) := by decide +kernel
theorem dX5_advise_91 : decode cX5_advise 91 = .ok (.aload 4, 2) := by decide +kernel
theorem dX5_advise_93 : decode cX5_advise 93 = .ok (.invokevirtual 238, 3) := by decide +kernel
theorem dX5_advise_96 : decode cX5_advise 96 = .ok (.istore 9, 2) := by decide +kernel
theorem dX5_advise_98 : decode cX5_advise 98 = .ok (.iload 9, 2) := by decide +kernel
theorem dX5_advise_100 : decode cX5_advise 100 = .ok (.iload 6, 2) := by decide +kernel
theorem dX5_advise_102 : decode cX5_advise 102 = .ok (.if_icmp .ge 11, 3) := by decide +kernel
theorem dX5_advise_105 : decode cX5_advise 105 = .ok (.iload 9, 2) := by decide +kernel
theorem dX5_advise_107 : decode cX5_advise 107 = .ok (.istore 6, 2) := by decide +kernel
theorem dX5_advise_109 : decode cX5_advise 109 = .ok (.iload 7, 2) := by decide +kernel
theorem dX5_advise_111 : decode cX5_advise 111 = .ok (.istore 5, 2) := by decide +kernel
theorem dX5_advise_113 : decode cX5_advise 113 = .ok (.iinc 7 1, 3) := by decide +kernel
theorem dX5_advise_116 : decode cX5_advise 116 = .ok (.goto (-69), 3) := by decide +kernel
theorem dX5_advise_119 : decode cX5_advise 119 = .ok (.iload 5, 2) := by decide +kernel
theorem dX5_advise_121 : decode cX5_advise 121 = .ok (.ireturn, 1) := by decide +kernel
theorem dX5_loss_0 : decode cX5_loss 0 = .ok (.iconst 0, 1) := by decide +kernel
theorem dX5_loss_1 : decode cX5_loss 1 = .ok (.istore_n 1, 1) := by decide +kernel
theorem dX5_loss_2 : decode cX5_loss 2 = .ok (.iconst 0, 1) := by decide +kernel
theorem dX5_loss_3 : decode cX5_loss 3 = .ok (.istore_n 2, 1) := by decide +kernel
theorem dX5_loss_4 : decode cX5_loss 4 = .ok (.iload_n 2, 1) := by decide +kernel
theorem dX5_loss_5 : decode cX5_loss 5 = .ok (.aload_n 0, 1) := by decide +kernel
theorem dX5_loss_6 : decode cX5_loss 6 = .ok (.getfield 16, 3) := by decide +kernel
theorem dX5_loss_9 : decode cX5_loss 9 = .ok (.invokeinterface 50 1, 5) := by decide +kernel
theorem dX5_loss_14 : decode cX5_loss 14 = .ok (.if_icmp .ge 28, 3) := by decide +kernel
theorem dX5_loss_17 : decode cX5_loss 17 = .ok (.iload_n 1, 1) := by decide +kernel
theorem dX5_loss_18 : decode cX5_loss 18 = .ok (.aload_n 0, 1) := by decide +kernel
theorem dX5_loss_19 : decode cX5_loss 19 = .ok (.getfield 16, 3) := by decide +kernel
theorem dX5_loss_22 : decode cX5_loss 22 = .ok (.iload_n 2, 1) := by decide +kernel
theorem dX5_loss_23 : decode cX5_loss 23 = .ok (.invokeinterface 101 2, 5) := by decide +kernel
theorem dX5_loss_28 : decode cX5_loss 28 = .ok (.checkcast 89, 3) := by decide +kernel
theorem dX5_loss_31 : decode cX5_loss 31 = .ok (.invokevirtual 242, 3) := by decide +kernel
theorem dX5_loss_34 : decode cX5_loss 34 = .ok (.iadd, 1) := by decide +kernel
theorem dX5_loss_35 : decode cX5_loss 35 = .ok (.istore_n 1, 1) := by decide +kernel
theorem dX5_loss_36 : decode cX5_loss 36 = .ok (.iinc 2 1, 3) := by decide +kernel
theorem dX5_loss_39 : decode cX5_loss 39 = .ok (.goto (-35), 3) := by decide +kernel
theorem dX5_loss_42 : decode cX5_loss 42 = .ok (.iload_n 1, 1) := by decide +kernel
theorem dX5_loss_43 : decode cX5_loss 43 = .ok (.ifCond .ne 5, 3) := by decide +kernel
theorem dX5_loss_46 : decode cX5_loss 46 = .ok (.dconst 0, 1) := by decide +kernel
theorem dX5_loss_47 : decode cX5_loss 47 = .ok (.dreturn, 1) := by decide +kernel
theorem dX5_loss_48 : decode cX5_loss 48 = .ok (.aload_n 0, 1) := by decide +kernel
theorem dX5_loss_49 : decode cX5_loss 49 = .ok (.invokevirtual 245, 3) := by decide +kernel
theorem dX5_loss_52 : decode cX5_loss 52 = .ok (.i2d, 1) := by decide +kernel
theorem dX5_loss_53 : decode cX5_loss 53 = .ok (.iload_n 1, 1) := by decide +kernel
theorem dX5_loss_54 : decode cX5_loss 54 = .ok (.i2d, 1) := by decide +kernel
theorem dX5_loss_55 : decode cX5_loss 55 = .ok (.ddiv, 1) := by decide +kernel
theorem dX5_loss_56 : decode cX5_loss 56 = .ok (.dreturn, 1) := by decide +kernel
theorem dX5_digest_0 : decode cX5_digest 0 = .ok (.ldc2_w 248, 3) := by decide +kernel
theorem dX5_digest_3 : decode cX5_digest 3 = .ok (.lstore_n 1, 1) := by decide +kernel
theorem dX5_digest_4 : decode cX5_digest 4 = .ok (.iconst 0, 1) := by decide +kernel
theorem dX5_digest_5 : decode cX5_digest 5 = .ok (.istore_n 3, 1) := by decide +kernel
theorem dX5_digest_6 : decode cX5_digest 6 = .ok (.iload_n 3, 1) := by decide +kernel
theorem dX5_digest_7 : decode cX5_digest 7 = .ok (.bipush 11, 2) := by decide +kernel
theorem dX5_digest_9 : decode cX5_digest 9 = .ok (.if_icmp .ge 22, 3) := by decide +kernel
theorem dX5_digest_12 : decode cX5_digest 12 = .ok (.lload_n 1, 1) := by decide +kernel
theorem dX5_digest_13 : decode cX5_digest 13 = .ok (.ldc2_w 250, 3) := by decide +kernel
theorem dX5_digest_16 : decode cX5_digest 16 = .ok (.lmul, 1) := by decide +kernel
theorem dX5_digest_17 : decode cX5_digest 17 = .ok (.aload_n 0, 1) := by decide +kernel
theorem dX5_digest_18 : decode cX5_digest 18 = .ok (.iload_n 3, 1) := by decide +kernel
theorem dX5_digest_19 : decode cX5_digest 19 = .ok (.invokevirtual 186, 3) := by decide +kernel
theorem dX5_digest_22 : decode cX5_digest 22 = .ok (.i2l, 1) := by decide +kernel
theorem dX5_digest_23 : decode cX5_digest 23 = .ok (.ladd, 1) := by decide +kernel
theorem dX5_digest_24 : decode cX5_digest 24 = .ok (.lstore_n 1, 1) := by decide +kernel
theorem dX5_digest_25 : decode cX5_digest 25 = .ok (.iinc 3 1, 3) := by decide +kernel
theorem dX5_digest_28 : decode cX5_digest 28 = .ok (.goto (-22), 3) := by decide +kernel
theorem dX5_digest_31 : decode cX5_digest 31 = .ok (.iconst 0, 1) := by decide +kernel
theorem dX5_digest_32 : decode cX5_digest 32 = .ok (.istore_n 3, 1) := by decide +kernel
theorem dX5_digest_33 : decode cX5_digest 33 = .ok (.iload_n 3, 1) := by decide +kernel
theorem dX5_digest_34 : decode cX5_digest 34 = .ok (.aload_n 0, 1) := by decide +kernel
theorem dX5_digest_35 : decode cX5_digest 35 = .ok (.getfield 10, 3) := by decide +kernel
theorem dX5_digest_38 : decode cX5_digest 38 = .ok (.invokeinterface 50 1, 5) := by decide +kernel
theorem dX5_digest_43 : decode cX5_digest 43 = .ok (.if_icmp .ge 40, 3) := by decide +kernel
theorem dX5_digest_46 : decode cX5_digest 46 = .ok (.iconst 0, 1) := by decide +kernel
theorem dX5_digest_47 : decode cX5_digest 47 = .ok (.istore 4, 2) := by decide +kernel
theorem dX5_digest_49 : decode cX5_digest 49 = .ok (.iload 4, 2) := by decide +kernel
theorem dX5_digest_51 : decode cX5_digest 51 = .ok (.bipush 10, 2) := by decide +kernel
theorem dX5_digest_53 : decode cX5_digest 53 = .ok (.if_icmp .ge 24, 3) := by decide +kernel
theorem dX5_digest_56 : decode cX5_digest 56 = .ok (.lload_n 1, 1) := by decide +kernel
theorem dX5_digest_57 : decode cX5_digest 57 = .ok (.ldc2_w 250, 3) := by decide +kernel
theorem dX5_digest_60 : decode cX5_digest 60 = .ok (.lmul, 1) := by decide +kernel
theorem dX5_digest_61 : decode cX5_digest 61 = .ok (.aload_n 0, 1) := by decide +kernel
theorem dX5_digest_62 : decode cX5_digest 62 = .ok (.iload_n 3, 1) := by decide +kernel
theorem dX5_digest_63 : decode cX5_digest 63 = .ok (.iload 4, 2) := by decide +kernel
theorem dX5_digest_65 : decode cX5_digest 65 = .ok (.invokevirtual 145, 3) := by decide +kernel
theorem dX5_digest_68 : decode cX5_digest 68 = .ok (.i2l, 1) := by decide +kernel
theorem dX5_digest_69 : decode cX5_digest 69 = .ok (.ladd, 1) := by decide +kernel
theorem dX5_digest_70 : decode cX5_digest 70 = .ok (.lstore_n 1, 1) := by decide +kernel
theorem dX5_digest_71 : decode cX5_digest 71 = .ok (.iinc 4 1, 3) := by decide +kernel
theorem dX5_digest_74 : decode cX5_digest 74 = .ok (.goto (-25), 3) := by decide +kernel
theorem dX5_digest_77 : decode cX5_digest 77 = .ok (.iinc 3 1, 3) := by decide +kernel
theorem dX5_digest_80 : decode cX5_digest 80 = .ok (.goto (-47), 3) := by decide +kernel
theorem dX5_digest_83 : decode cX5_digest 83 = .ok (.iconst 0, 1) := by decide +kernel
theorem dX5_digest_84 : decode cX5_digest 84 = .ok (.istore_n 3, 1) := by decide +kernel
theorem dX5_digest_85 : decode cX5_digest 85 = .ok (.iload_n 3, 1) := by decide +kernel
theorem dX5_digest_86 : decode cX5_digest 86 = .ok (.aload_n 0, 1) := by decide +kernel
theorem dX5_digest_87 : decode cX5_digest 87 = .ok (.getfield 16, 3) := by decide +kernel
theorem dX5_digest_90 : decode cX5_digest 90 = .ok (.invokeinterface 50 1, 5) := by decide +kernel
theorem dX5_digest_95 : decode cX5_digest 95 = .ok (.if_icmp .ge 28, 3) := by decide +kernel
theorem dX5_digest_98 : decode cX5_digest 98 = .ok (.aload_n 0, 1) := by decide +kernel
theorem dX5_digest_99 : decode cX5_digest 99 = .ok (.lload_n 1, 1) := by decide +kernel
theorem dX5_digest_100 : decode cX5_digest 100 = .ok (.aload_n 0, 1) := by decide +kernel
theorem dX5_digest_101 : decode cX5_digest 101 = .ok (.getfield 16, 3) := by decide +kernel
theorem dX5_digest_104 : decode cX5_digest 104 = .ok (.iload_n 3, 1) := by decide +kernel
theorem dX5_digest_105 : decode cX5_digest 105 = .ok (.invokeinterface 101 2, 5) := by decide +kernel
theorem dX5_digest_110 : decode cX5_digest 110 = .ok (.checkcast 89, 3) := by decide +kernel
theorem dX5_digest_113 : decode cX5_digest 113 = .ok (.invokevirtual 252, 3) := by decide +kernel
theorem dX5_digest_116 : decode cX5_digest 116 = .ok (.lstore_n 1, 1) := by decide +kernel
theorem dX5_digest_117 : decode cX5_digest 117 = .ok (.iinc 3 1, 3) := by decide +kernel
theorem dX5_digest_120 : decode cX5_digest 120 = .ok (.goto (-35), 3) := by decide +kernel
theorem dX5_digest_123 : decode cX5_digest 123 = .ok (.iconst 0, 1) := by decide +kernel
theorem dX5_digest_124 : decode cX5_digest 124 = .ok (.istore_n 3, 1) := by decide +kernel
theorem dX5_digest_125 : decode cX5_digest 125 = .ok (.iload_n 3, 1) := by decide +kernel
theorem dX5_digest_126 : decode cX5_digest 126 = .ok (.aload_n 0, 1) := by decide +kernel
theorem dX5_digest_127 : decode cX5_digest 127 = .ok (.getfield 19, 3) := by decide +kernel
theorem dX5_digest_130 : decode cX5_digest 130 = .ok (.invokeinterface 50 1, 5) := by decide +kernel
theorem dX5_digest_135 : decode cX5_digest 135 = .ok (.if_icmp .ge 50, 3) := by decide +kernel
theorem dX5_digest_138 : decode cX5_digest 138 = .ok (.iconst 0, 1) := by decide +kernel
theorem dX5_digest_139 : decode cX5_digest 139 = .ok (.istore 4, 2) := by decide +kernel
theorem dX5_digest_141 : decode cX5_digest 141 = .ok (.iload 4, 2) := by decide +kernel
theorem dX5_digest_143 : decode cX5_digest 143 = .ok (.iconst 5, 1) := by decide +kernel
theorem dX5_digest_144 : decode cX5_digest 144 = .ok (.if_icmp .ge 35, 3) := by decide +kernel
theorem dX5_digest_147 : decode cX5_digest 147 = .ok (.lload_n 1, 1) := by decide +kernel
theorem dX5_digest_148 : decode cX5_digest 148 = .ok (.ldc2_w 250, 3) := by decide +kernel
theorem dX5_digest_151 : decode cX5_digest 151 = .ok (.lmul, 1) := by decide +kernel
theorem dX5_digest_152 : decode cX5_digest 152 = .ok (.aload_n 0, 1) := by decide +kernel
theorem dX5_digest_153 : decode cX5_digest 153 = .ok (.getfield 19, 3) := by decide +kernel
theorem dX5_digest_156 : decode cX5_digest 156 = .ok (.iload_n 3, 1) := by decide +kernel
theorem dX5_digest_157 : decode cX5_digest 157 = .ok (.invokeinterface 101 2, 5) := by decide +kernel
theorem dX5_digest_162 : decode cX5_digest 162 = .ok (.checkcast 175, 3) := by decide +kernel
theorem dX5_digest_165 : decode cX5_digest 165 = .ok (.iload 4, 2) := by decide +kernel
theorem dX5_digest_167 : decode cX5_digest 167 = .ok (.invokestatic 182, 3) := by decide +kernel
theorem dX5_digest_170 : decode cX5_digest 170 = .ok (.i2l, 1) := by decide +kernel
theorem dX5_digest_171 : decode cX5_digest 171 = .ok (.ladd, 1) := by decide +kernel
theorem dX5_digest_172 : decode cX5_digest 172 = .ok (.lstore_n 1, 1) := by decide +kernel
theorem dX5_digest_173 : decode cX5_digest 173 = .ok (.iinc 4 1, 3) := by decide +kernel
theorem dX5_digest_176 : decode cX5_digest 176 = .ok (.goto (-35), 3) := by decide +kernel
theorem dX5_digest_179 : decode cX5_digest 179 = .ok (.iinc 3 1, 3) := by decide +kernel
theorem dX5_digest_182 : decode cX5_digest 182 = .ok (.goto (-57), 3) := by decide +kernel
theorem dX5_digest_185 : decode cX5_digest 185 = .ok (.iconst 0, 1) := by decide +kernel
theorem dX5_digest_186 : decode cX5_digest 186 = .ok (.istore_n 3, 1) := by decide +kernel
theorem dX5_digest_187 : decode cX5_digest 187 = .ok (.iload_n 3, 1) := by decide +kernel
theorem dX5_digest_188 : decode cX5_digest 188 = .ok (.aload_n 0, 1) := by decide +kernel
theorem dX5_digest_189 : decode cX5_digest 189 = .ok (.getfield 209, 3) := by decide +kernel
theorem dX5_digest_192 : decode cX5_digest 192 = .ok (.if_icmp .ge 42, 3) := by decide +kernel
theorem dX5_digest_195 : decode cX5_digest 195 = .ok (.iconst 0, 1) := by decide +kernel
theorem dX5_digest_196 : decode cX5_digest 196 = .ok (.istore 4, 2) := by decide +kernel
theorem dX5_digest_198 : decode cX5_digest 198 = .ok (.iload 4, 2) := by decide +kernel
theorem dX5_digest_200 : decode cX5_digest 200 = .ok (.bipush 6, 2) := by decide +kernel
theorem dX5_digest_202 : decode cX5_digest 202 = .ok (.if_icmp .ge 26, 3) := by decide +kernel
theorem dX5_digest_205 : decode cX5_digest 205 = .ok (.lload_n 1, 1) := by decide +kernel
theorem dX5_digest_206 : decode cX5_digest 206 = .ok (.ldc2_w 250, 3) := by decide +kernel
theorem dX5_digest_209 : decode cX5_digest 209 = .ok (.lmul, 1) := by decide +kernel
theorem dX5_digest_210 : decode cX5_digest 210 = .ok (.aload_n 0, 1) := by decide +kernel
theorem dX5_digest_211 : decode cX5_digest 211 = .ok (.getfield 28, 3) := by decide +kernel
theorem dX5_digest_214 : decode cX5_digest 214 = .ok (.iload_n 3, 1) := by decide +kernel
theorem dX5_digest_215 : decode cX5_digest 215 = .ok (.aaload, 1) := by decide +kernel
theorem dX5_digest_216 : decode cX5_digest 216 = .ok (.iload 4, 2) := by decide +kernel
theorem dX5_digest_218 : decode cX5_digest 218 = .ok (.iaload, 1) := by decide +kernel
theorem dX5_digest_219 : decode cX5_digest 219 = .ok (.i2l, 1) := by decide +kernel
theorem dX5_digest_220 : decode cX5_digest 220 = .ok (.ladd, 1) := by decide +kernel
theorem dX5_digest_221 : decode cX5_digest 221 = .ok (.lstore_n 1, 1) := by decide +kernel
theorem dX5_digest_222 : decode cX5_digest 222 = .ok (.iinc 4 1, 3) := by decide +kernel
theorem dX5_digest_225 : decode cX5_digest 225 = .ok (.goto (-27), 3) := by decide +kernel
theorem dX5_digest_228 : decode cX5_digest 228 = .ok (.iinc 3 1, 3) := by decide +kernel
theorem dX5_digest_231 : decode cX5_digest 231 = .ok (.goto (-44), 3) := by decide +kernel
theorem dX5_digest_234 : decode cX5_digest 234 = .ok (.lload_n 1, 1) := by decide +kernel
theorem dX5_digest_235 : decode cX5_digest 235 = .ok (.lreturn, 1) := by decide +kernel
theorem dX5_isIn_0 : decode cX5_isIn 0 = .ok (.iload_n 0, 1) := by decide +kernel
theorem dX5_isIn_1 : decode cX5_isIn 1 = .ok (.iload_n 1, 1) := by decide +kernel
theorem dX5_isIn_2 : decode cX5_isIn 2 = .ok (.if_icmp .lt 12, 3) := by decide +kernel
theorem dX5_isIn_5 : decode cX5_isIn 5 = .ok (.iload_n 0, 1) := by decide +kernel
theorem dX5_isIn_6 : decode cX5_isIn 6 = .ok (.iload_n 2, 1) := by decide +kernel
theorem dX5_isIn_7 : decode cX5_isIn 7 = .ok (.if_icmp .gt 7, 3) := by decide +kernel
theorem dX5_isIn_10 : decode cX5_isIn 10 = .ok (.iconst 1, 1) := by decide +kernel
theorem dX5_isIn_11 : decode cX5_isIn 11 = .ok (.goto 4, 3) := by decide +kernel
theorem dX5_isIn_14 : decode cX5_isIn 14 = .ok (.iconst 0, 1) := by decide +kernel
theorem dX5_isIn_15 : decode cX5_isIn 15 = .ok (.ireturn, 1) := by decide +kernel
theorem dX5_checkGrower_0 : decode cX5_checkGrower 0 = .ok (.iload_n 1, 1) := by decide +kernel
theorem dX5_checkGrower_1 : decode cX5_checkGrower 1 = .ok (.iconst 0, 1) := by decide +kernel
theorem dX5_checkGrower_2 : decode cX5_checkGrower 2 = .ok (.aload_n 0, 1) := by decide +kernel
theorem dX5_checkGrower_3 : decode cX5_checkGrower 3 = .ok (.getfield 10, 3) := by decide +kernel
theorem dX5_checkGrower_6 : decode cX5_checkGrower 6 = .ok (.invokeinterface 50 1, 5) := by decide +kernel
theorem dX5_checkGrower_11 : decode cX5_checkGrower 11 = .ok (.iconst 1, 1) := by decide +kernel
theorem dX5_checkGrower_12 : decode cX5_checkGrower 12 = .ok (.isub, 1) := by decide +kernel
theorem dX5_checkGrower_13 : decode cX5_checkGrower 13 = .ok (.invokestatic 39, 3) := by decide +kernel
theorem dX5_checkGrower_16 : decode cX5_checkGrower 16 = .ok (.ifCond .ne 14, 3) := by decide +kernel
theorem dX5_checkGrower_19 : decode cX5_checkGrower 19 = .ok (.new 153, 3) := by decide +kernel
theorem dX5_checkGrower_22 : decode cX5_checkGrower 22 = .ok (.dup, 1) := by decide +kernel
theorem dX5_checkGrower_23 : decode cX5_checkGrower 23 = .ok (.ldc_w 256, 3) := by decide +kernel
theorem dX5_checkGrower_26 : decode cX5_checkGrower 26 = .ok (.invokespecial 157, 3) := by decide +kernel
theorem dX5_checkGrower_29 : decode cX5_checkGrower 29 = .ok (.athrow, 1) := by decide +kernel
theorem dX5_checkGrower_30 : decode cX5_checkGrower 30 = .ok (.return_, 1) := by decide +kernel
theorem dX5_checkHouse_0 : decode cX5_checkHouse 0 = .ok (.iload_n 1, 1) := by decide +kernel
theorem dX5_checkHouse_1 : decode cX5_checkHouse 1 = .ok (.iconst 0, 1) := by decide +kernel
theorem dX5_checkHouse_2 : decode cX5_checkHouse 2 = .ok (.aload_n 0, 1) := by decide +kernel
theorem dX5_checkHouse_3 : decode cX5_checkHouse 3 = .ok (.getfield 16, 3) := by decide +kernel
theorem dX5_checkHouse_6 : decode cX5_checkHouse 6 = .ok (.invokeinterface 50 1, 5) := by decide +kernel
theorem dX5_checkHouse_11 : decode cX5_checkHouse 11 = .ok (.iconst 1, 1) := by decide +kernel
theorem dX5_checkHouse_12 : decode cX5_checkHouse 12 = .ok (.isub, 1) := by decide +kernel
theorem dX5_checkHouse_13 : decode cX5_checkHouse 13 = .ok (.invokestatic 39, 3) := by decide +kernel
theorem dX5_checkHouse_16 : decode cX5_checkHouse 16 = .ok (.ifCond .ne 14, 3) := by decide +kernel
theorem dX5_checkHouse_19 : decode cX5_checkHouse 19 = .ok (.new 153, 3) := by decide +kernel
theorem dX5_checkHouse_22 : decode cX5_checkHouse 22 = .ok (.dup, 1) := by decide +kernel
theorem dX5_checkHouse_23 : decode cX5_checkHouse 23 = .ok (.ldc_w 258, 3) := by decide +kernel
theorem dX5_checkHouse_26 : decode cX5_checkHouse 26 = .ok (.invokespecial 157, 3) := by decide +kernel
theorem dX5_checkHouse_29 : decode cX5_checkHouse 29 = .ok (.athrow, 1) := by decide +kernel
theorem dX5_checkHouse_30 : decode cX5_checkHouse 30 = .ok (.return_, 1) := by decide +kernel
theorem dX5_checkWhat_0 : decode cX5_checkWhat 0 = .ok (.iload_n 0, 1) := by decide +kernel
theorem dX5_checkWhat_1 : decode cX5_checkWhat 1 = .ok (.iconst 0, 1) := by decide +kernel
theorem dX5_checkWhat_2 : decode cX5_checkWhat 2 = .ok (.iload_n 1, 1) := by decide +kernel
theorem dX5_checkWhat_3 : decode cX5_checkWhat 3 = .ok (.iconst 1, 1) := by decide +kernel
theorem dX5_checkWhat_4 : decode cX5_checkWhat 4 = .ok (.isub, 1) := by decide +kernel
theorem dX5_checkWhat_5 : decode cX5_checkWhat 5 = .ok (.invokestatic 39, 3) := by decide +kernel
theorem dX5_checkWhat_8 : decode cX5_checkWhat 8 = .ok (.ifCond .ne 14, 3) := by decide +kernel
theorem dX5_checkWhat_11 : decode cX5_checkWhat 11 = .ok (.new 153, 3) := by decide +kernel
theorem dX5_checkWhat_14 : decode cX5_checkWhat 14 = .ok (.dup, 1) := by decide +kernel
theorem dX5_checkWhat_15 : decode cX5_checkWhat 15 = .ok (.ldc_w 260, 3) := by decide +kernel
theorem dX5_checkWhat_18 : decode cX5_checkWhat 18 = .ok (.invokespecial 157, 3) := by decide +kernel
theorem dX5_checkWhat_21 : decode cX5_checkWhat 21 = .ok (.athrow, 1) := by decide +kernel
theorem dX5_checkWhat_22 : decode cX5_checkWhat 22 = .ok (.return_, 1) := by decide +kernel
theorem dX5_checkStorm_0 : decode cX5_checkStorm 0 = .ok (.aload_n 0, 1) := by decide +kernel
theorem dX5_checkStorm_1 : decode cX5_checkStorm 1 = .ok (.invokevirtual 262, 3) := by decide +kernel
theorem dX5_checkStorm_4 : decode cX5_checkStorm 4 = .ok (.ifCond .ne 14, 3) := by decide +kernel
theorem dX5_checkStorm_7 : decode cX5_checkStorm 7 = .ok (.new 43, 3) := by decide +kernel
theorem dX5_checkStorm_10 : decode cX5_checkStorm 10 = .ok (.dup, 1) := by decide +kernel
theorem dX5_checkStorm_11 : decode cX5_checkStorm 11 = .ok (.ldc_w 266, 3) := by decide +kernel
theorem dX5_checkStorm_14 : decode cX5_checkStorm 14 = .ok (.invokespecial 47, 3) := by decide +kernel
theorem dX5_checkStorm_17 : decode cX5_checkStorm 17 = .ok (.athrow, 1) := by decide +kernel
theorem dX5_checkStorm_18 : decode cX5_checkStorm 18 = .ok (.return_, 1) := by decide +kernel
theorem dX5_cellAt_0 : decode cX5_cellAt 0 = .ok (.iload_n 1, 1) := by decide +kernel
theorem dX5_cellAt_1 : decode cX5_cellAt 1 = .ok (.bipush 20, 2) := by decide +kernel
theorem dX5_cellAt_3 : decode cX5_cellAt 3 = .ok (.imul, 1) := by decide +kernel
theorem dX5_cellAt_4 : decode cX5_cellAt 4 = .ok (.iload_n 0, 1) := by decide +kernel
theorem dX5_cellAt_5 : decode cX5_cellAt 5 = .ok (.iadd, 1) := by decide +kernel
theorem dX5_cellAt_6 : decode cX5_cellAt 6 = .ok (.ireturn, 1) := by decide +kernel
theorem dX5_isBuiltOn_0 : decode cX5_isBuiltOn 0 = .ok (.iconst 0, 1) := by decide +kernel
theorem dX5_isBuiltOn_1 : decode cX5_isBuiltOn 1 = .ok (.istore 5, 2) := by decide +kernel
theorem dX5_isBuiltOn_3 : decode cX5_isBuiltOn 3 = .ok (.iload 5, 2) := by decide +kernel
theorem dX5_isBuiltOn_5 : decode cX5_isBuiltOn 5 = .ok (.aload_n 0, 1) := by decide +kernel
theorem dX5_isBuiltOn_6 : decode cX5_isBuiltOn 6 = .ok (.getfield 16, 3) := by decide +kernel
theorem dX5_isBuiltOn_9 : decode cX5_isBuiltOn 9 = .ok (.invokeinterface 50 1, 5) := by decide +kernel
theorem dX5_isBuiltOn_14 : decode cX5_isBuiltOn 14 = .ok (.if_icmp .ge 36, 3) := by decide +kernel
theorem dX5_isBuiltOn_17 : decode cX5_isBuiltOn 17 = .ok (.aload_n 0, 1) := by decide +kernel
theorem dX5_isBuiltOn_18 : decode cX5_isBuiltOn 18 = .ok (.getfield 16, 3) := by decide +kernel
theorem dX5_isBuiltOn_21 : decode cX5_isBuiltOn 21 = .ok (.iload 5, 2) := by decide +kernel
theorem dX5_isBuiltOn_23 : decode cX5_isBuiltOn 23 = .ok (.invokeinterface 101 2, 5) := by decide +kernel
theorem dX5_isBuiltOn_28 : decode cX5_isBuiltOn 28 = .ok (.checkcast 89, 3) := by decide +kernel
theorem dX5_isBuiltOn_31 : decode cX5_isBuiltOn 31 = .ok (.iload_n 1, 1) := by decide +kernel
theorem dX5_isBuiltOn_32 : decode cX5_isBuiltOn 32 = .ok (.iload_n 2, 1) := by decide +kernel
theorem dX5_isBuiltOn_33 : decode cX5_isBuiltOn 33 = .ok (.iload_n 3, 1) := by decide +kernel
theorem dX5_isBuiltOn_34 : decode cX5_isBuiltOn 34 = .ok (.iload 4, 2) := by decide +kernel
theorem dX5_isBuiltOn_36 : decode cX5_isBuiltOn 36 = .ok (.invokevirtual 268, 3) := by decide +kernel
theorem dX5_isBuiltOn_39 : decode cX5_isBuiltOn 39 = .ok (.ifCond .eq 5, 3) := by decide +kernel
theorem dX5_isBuiltOn_42 : decode cX5_isBuiltOn 42 = .ok (.iconst 1, 1) := by decide +kernel
theorem dX5_isBuiltOn_43 : decode cX5_isBuiltOn 43 = .ok (.ireturn, 1) := by decide +kernel
theorem dX5_isBuiltOn_44 : decode cX5_isBuiltOn 44 = .ok (.iinc 5 1, 3) := by decide +kernel
theorem dX5_isBuiltOn_47 : decode cX5_isBuiltOn 47 = .ok (.goto (-44), 3) := by decide +kernel
theorem dX5_isBuiltOn_50 : decode cX5_isBuiltOn 50 = .ok (.iconst 0, 1) := by decide +kernel
theorem dX5_isBuiltOn_51 : decode cX5_isBuiltOn 51 = .ok (.ireturn, 1) := by decide +kernel
theorem dX5_makeWhole_0 : decode cX5_makeWhole 0 = .ok (.aload_n 1, 1) := by decide +kernel
theorem dX5_makeWhole_1 : decode cX5_makeWhole 1 = .ok (.getfield 271, 3) := by decide +kernel
theorem dX5_makeWhole_4 : decode cX5_makeWhole 4 = .ok (.istore_n 2, 1) := by decide +kernel
theorem dX5_makeWhole_5 : decode cX5_makeWhole 5 = .ok (.iload_n 2, 1) := by decide +kernel
theorem dX5_makeWhole_6 : decode cX5_makeWhole 6 = .ok (.aload_n 1, 1) := by decide +kernel
theorem dX5_makeWhole_7 : decode cX5_makeWhole 7 = .ok (.getfield 271, 3) := by decide +kernel
theorem dX5_makeWhole_10 : decode cX5_makeWhole 10 = .ok (.aload_n 1, 1) := by decide +kernel
theorem dX5_makeWhole_11 : decode cX5_makeWhole 11 = .ok (.getfield 272, 3) := by decide +kernel
theorem dX5_makeWhole_14 : decode cX5_makeWhole 14 = .ok (.iadd, 1) := by decide +kernel
theorem dX5_makeWhole_15 : decode cX5_makeWhole 15 = .ok (.if_icmp .ge 44, 3) := by decide +kernel
theorem dX5_makeWhole_18 : decode cX5_makeWhole 18 = .ok (.aload_n 1, 1) := by decide +kernel
theorem dX5_makeWhole_19 : decode cX5_makeWhole 19 = .ok (.getfield 275, 3) := by decide +kernel
theorem dX5_makeWhole_22 : decode cX5_makeWhole 22 = .ok (.istore_n 3, 1) := by decide +kernel
theorem dX5_makeWhole_23 : decode cX5_makeWhole 23 = .ok (.iload_n 3, 1) := by decide +kernel
theorem dX5_makeWhole_24 : decode cX5_makeWhole 24 = .ok (.aload_n 1, 1) := by decide +kernel
theorem dX5_makeWhole_25 : decode cX5_makeWhole 25 = .ok (.getfield 275, 3) := by decide +kernel
theorem dX5_makeWhole_28 : decode cX5_makeWhole 28 = .ok (.aload_n 1, 1) := by decide +kernel
theorem dX5_makeWhole_29 : decode cX5_makeWhole 29 = .ok (.getfield 278, 3) := by decide +kernel
theorem dX5_makeWhole_32 : decode cX5_makeWhole 32 = .ok (.iadd, 1) := by decide +kernel
theorem dX5_makeWhole_33 : decode cX5_makeWhole 33 = .ok (.if_icmp .ge 20, 3) := by decide +kernel
theorem dX5_makeWhole_36 : decode cX5_makeWhole 36 = .ok (.aload_n 0, 1) := by decide +kernel
theorem dX5_makeWhole_37 : decode cX5_makeWhole 37 = .ok (.getfield 22, 3) := by decide +kernel
theorem dX5_makeWhole_40 : decode cX5_makeWhole 40 = .ok (.iload_n 3, 1) := by decide +kernel
theorem dX5_makeWhole_41 : decode cX5_makeWhole 41 = .ok (.iload_n 2, 1) := by decide +kernel
theorem dX5_makeWhole_42 : decode cX5_makeWhole 42 = .ok (.invokestatic 158, 3) := by decide +kernel
theorem dX5_makeWhole_45 : decode cX5_makeWhole 45 = .ok (.iconst 0, 1) := by decide +kernel
theorem dX5_makeWhole_46 : decode cX5_makeWhole 46 = .ok (.iastore, 1) := by decide +kernel
theorem dX5_makeWhole_47 : decode cX5_makeWhole 47 = .ok (.iinc 3 1, 3) := by decide +kernel
theorem dX5_makeWhole_50 : decode cX5_makeWhole 50 = .ok (.goto (-27), 3) := by decide +kernel
theorem dX5_makeWhole_53 : decode cX5_makeWhole 53 = .ok (.iinc 2 1, 3) := by decide +kernel
theorem dX5_makeWhole_56 : decode cX5_makeWhole 56 = .ok (.goto (-51), 3) := by decide +kernel
theorem dX5_makeWhole_59 : decode cX5_makeWhole 59 = .ok (.return_, 1) := by decide +kernel
theorem dX5_panesOfHouse_0 : decode cX5_panesOfHouse 0 = .ok (.iconst 0, 1) := by decide +kernel
theorem dX5_panesOfHouse_1 : decode cX5_panesOfHouse 1 = .ok (.istore_n 3, 1) := by decide +kernel
theorem dX5_panesOfHouse_2 : decode cX5_panesOfHouse 2 = .ok (.aload_n 1, 1) := by decide +kernel
theorem dX5_panesOfHouse_3 : decode cX5_panesOfHouse 3 = .ok (.getfield 271, 3) := by decide +kernel
theorem dX5_panesOfHouse_6 : decode cX5_panesOfHouse 6 = .ok (.istore 4, 2) := by decide +kernel
theorem dX5_panesOfHouse_8 : decode cX5_panesOfHouse 8 = .ok (.iload 4, 2) := by decide +kernel
theorem dX5_panesOfHouse_10 : decode cX5_panesOfHouse 10 = .ok (.aload_n 1, 1) := by decide +kernel
theorem dX5_panesOfHouse_11 : decode cX5_panesOfHouse 11 = .ok (.getfield 271, 3) := by decide +kernel
theorem dX5_panesOfHouse_14 : decode cX5_panesOfHouse 14 = .ok (.aload_n 1, 1) := by decide +kernel
theorem dX5_panesOfHouse_15 : decode cX5_panesOfHouse 15 = .ok (.getfield 272, 3) := by decide +kernel
theorem dX5_panesOfHouse_18 : decode cX5_panesOfHouse 18 = .ok (.iadd, 1) := by decide +kernel
theorem dX5_panesOfHouse_19 : decode cX5_panesOfHouse 19 = .ok (.if_icmp .ge 54, 3) := by decide +kernel
theorem dX5_panesOfHouse_22 : decode cX5_panesOfHouse 22 = .ok (.aload_n 1, 1) := by decide +kernel
theorem dX5_panesOfHouse_23 : decode cX5_panesOfHouse 23 = .ok (.getfield 275, 3) := by decide +kernel
theorem dX5_panesOfHouse_26 : decode cX5_panesOfHouse 26 = .ok (.istore 5, 2) := by decide +kernel
theorem dX5_panesOfHouse_28 : decode cX5_panesOfHouse 28 = .ok (.iload 5, 2) := by decide +kernel
theorem dX5_panesOfHouse_30 : decode cX5_panesOfHouse 30 = .ok (.aload_n 1, 1) := by decide +kernel
theorem dX5_panesOfHouse_31 : decode cX5_panesOfHouse 31 = .ok (.getfield 275, 3) := by decide +kernel
theorem dX5_panesOfHouse_34 : decode cX5_panesOfHouse 34 = .ok (.aload_n 1, 1) := by decide +kernel
theorem dX5_panesOfHouse_35 : decode cX5_panesOfHouse 35 = .ok (.getfield 278, 3) := by decide +kernel
theorem dX5_panesOfHouse_38 : decode cX5_panesOfHouse 38 = .ok (.iadd, 1) := by decide +kernel
theorem dX5_panesOfHouse_39 : decode cX5_panesOfHouse 39 = .ok (.if_icmp .ge 28, 3) := by decide +kernel
theorem dX5_panesOfHouse_42 : decode cX5_panesOfHouse 42 = .ok (.aload_n 0, 1) := by decide +kernel
theorem dX5_panesOfHouse_43 : decode cX5_panesOfHouse 43 = .ok (.getfield 22, 3) := by decide +kernel
theorem dX5_panesOfHouse_46 : decode cX5_panesOfHouse 46 = .ok (.iload 5, 2) := by decide +kernel
theorem dX5_panesOfHouse_48 : decode cX5_panesOfHouse 48 = .ok (.iload 4, 2) := by decide +kernel
theorem dX5_panesOfHouse_50 : decode cX5_panesOfHouse 50 = .ok (.invokestatic 158, 3) := by decide +kernel
theorem dX5_panesOfHouse_53 : decode cX5_panesOfHouse 53 = .ok (.iaload, 1) := by decide +kernel
theorem dX5_panesOfHouse_54 : decode cX5_panesOfHouse 54 = .ok (.iload_n 2, 1) := by decide +kernel
theorem dX5_panesOfHouse_55 : decode cX5_panesOfHouse 55 = .ok (.if_icmp .ne 6, 3) := by decide +kernel
theorem dX5_panesOfHouse_58 : decode cX5_panesOfHouse 58 = .ok (.iinc 3 1, 3) := by decide +kernel
theorem dX5_panesOfHouse_61 : decode cX5_panesOfHouse 61 = .ok (.iinc 5 1, 3) := by decide +kernel
theorem dX5_panesOfHouse_64 : decode cX5_panesOfHouse 64 = .ok (.goto (-36), 3) := by decide +kernel
theorem dX5_panesOfHouse_67 : decode cX5_panesOfHouse 67 = .ok (.iinc 4 1, 3) := by decide +kernel
theorem dX5_panesOfHouse_70 : decode cX5_panesOfHouse 70 = .ok (.goto (-62), 3) := by decide +kernel
theorem dX5_panesOfHouse_73 : decode cX5_panesOfHouse 73 = .ok (.iload_n 3, 1) := by decide +kernel
theorem dX5_panesOfHouse_74 : decode cX5_panesOfHouse 74 = .ok (.ireturn, 1) := by decide +kernel
theorem dX5_lostOfHouse_0 : decode cX5_lostOfHouse 0 = .ok (.aload_n 0, 1) := by decide +kernel
theorem dX5_lostOfHouse_1 : decode cX5_lostOfHouse 1 = .ok (.aload_n 1, 1) := by decide +kernel
theorem dX5_lostOfHouse_2 : decode cX5_lostOfHouse 2 = .ok (.iconst 1, 1) := by decide +kernel
theorem dX5_lostOfHouse_3 : decode cX5_lostOfHouse 3 = .ok (.invokevirtual 281, 3) := by decide +kernel
theorem dX5_lostOfHouse_6 : decode cX5_lostOfHouse 6 = .ok (.aload_n 1, 1) := by decide +kernel
theorem dX5_lostOfHouse_7 : decode cX5_lostOfHouse 7 = .ok (.invokevirtual 284, 3) := by decide +kernel
theorem dX5_lostOfHouse_10 : decode cX5_lostOfHouse 10 = .ok (.imul, 1) := by decide +kernel
theorem dX5_lostOfHouse_11 : decode cX5_lostOfHouse 11 = .ok (.aload_n 0, 1) := by decide +kernel
theorem dX5_lostOfHouse_12 : decode cX5_lostOfHouse 12 = .ok (.aload_n 1, 1) := by decide +kernel
theorem dX5_lostOfHouse_13 : decode cX5_lostOfHouse 13 = .ok (.iconst 2, 1) := by decide +kernel
theorem dX5_lostOfHouse_14 : decode cX5_lostOfHouse 14 = .ok (.invokevirtual 281, 3) := by decide +kernel
theorem dX5_lostOfHouse_17 : decode cX5_lostOfHouse 17 = .ok (.aload_n 1, 1) := by decide +kernel
theorem dX5_lostOfHouse_18 : decode cX5_lostOfHouse 18 = .ok (.getfield 287, 3) := by decide +kernel
theorem dX5_lostOfHouse_21 : decode cX5_lostOfHouse 21 = .ok (.imul, 1) := by decide +kernel
theorem dX5_lostOfHouse_22 : decode cX5_lostOfHouse 22 = .ok (.iadd, 1) := by decide +kernel
theorem dX5_lostOfHouse_23 : decode cX5_lostOfHouse 23 = .ok (.ireturn, 1) := by decide +kernel
theorem dX5_panesOfAll_0 : decode cX5_panesOfAll 0 = .ok (.iconst 0, 1) := by decide +kernel
theorem dX5_panesOfAll_1 : decode cX5_panesOfAll 1 = .ok (.istore_n 2, 1) := by decide +kernel
theorem dX5_panesOfAll_2 : decode cX5_panesOfAll 2 = .ok (.iconst 0, 1) := by decide +kernel
theorem dX5_panesOfAll_3 : decode cX5_panesOfAll 3 = .ok (.istore_n 3, 1) := by decide +kernel
theorem dX5_panesOfAll_4 : decode cX5_panesOfAll 4 = .ok (.iload_n 3, 1) := by decide +kernel
theorem dX5_panesOfAll_5 : decode cX5_panesOfAll 5 = .ok (.aload_n 0, 1) := by decide +kernel
theorem dX5_panesOfAll_6 : decode cX5_panesOfAll 6 = .ok (.getfield 16, 3) := by decide +kernel
theorem dX5_panesOfAll_9 : decode cX5_panesOfAll 9 = .ok (.invokeinterface 50 1, 5) := by decide +kernel
theorem dX5_panesOfAll_14 : decode cX5_panesOfAll 14 = .ok (.if_icmp .ge 30, 3) := by decide +kernel
theorem dX5_panesOfAll_17 : decode cX5_panesOfAll 17 = .ok (.iload_n 2, 1) := by decide +kernel
theorem dX5_panesOfAll_18 : decode cX5_panesOfAll 18 = .ok (.aload_n 0, 1) := by decide +kernel
theorem dX5_panesOfAll_19 : decode cX5_panesOfAll 19 = .ok (.aload_n 0, 1) := by decide +kernel
theorem dX5_panesOfAll_20 : decode cX5_panesOfAll 20 = .ok (.getfield 16, 3) := by decide +kernel
theorem dX5_panesOfAll_23 : decode cX5_panesOfAll 23 = .ok (.iload_n 3, 1) := by decide +kernel
theorem dX5_panesOfAll_24 : decode cX5_panesOfAll 24 = .ok (.invokeinterface 101 2, 5) := by decide +kernel
theorem dX5_panesOfAll_29 : decode cX5_panesOfAll 29 = .ok (.checkcast 89, 3) := by decide +kernel
theorem dX5_panesOfAll_32 : decode cX5_panesOfAll 32 = .ok (.iload_n 1, 1) := by decide +kernel
theorem dX5_panesOfAll_33 : decode cX5_panesOfAll 33 = .ok (.invokevirtual 281, 3) := by decide +kernel
theorem dX5_panesOfAll_36 : decode cX5_panesOfAll 36 = .ok (.iadd, 1) := by decide +kernel
theorem dX5_panesOfAll_37 : decode cX5_panesOfAll 37 = .ok (.istore_n 2, 1) := by decide +kernel
theorem dX5_panesOfAll_38 : decode cX5_panesOfAll 38 = .ok (.iinc 3 1, 3) := by decide +kernel
theorem dX5_panesOfAll_41 : decode cX5_panesOfAll 41 = .ok (.goto (-37), 3) := by decide +kernel
theorem dX5_panesOfAll_44 : decode cX5_panesOfAll 44 = .ok (.iload_n 2, 1) := by decide +kernel
theorem dX5_panesOfAll_45 : decode cX5_panesOfAll 45 = .ok (.ireturn, 1) := by decide +kernel
theorem dX5_lostOfAll_0 : decode cX5_lostOfAll 0 = .ok (.iconst 0, 1) := by decide +kernel
theorem dX5_lostOfAll_1 : decode cX5_lostOfAll 1 = .ok (.istore_n 1, 1) := by decide +kernel
theorem dX5_lostOfAll_2 : decode cX5_lostOfAll 2 = .ok (.iconst 0, 1) := by decide +kernel
theorem dX5_lostOfAll_3 : decode cX5_lostOfAll 3 = .ok (.istore_n 2, 1) := by decide +kernel
theorem dX5_lostOfAll_4 : decode cX5_lostOfAll 4 = .ok (.iload_n 2, 1) := by decide +kernel
theorem dX5_lostOfAll_5 : decode cX5_lostOfAll 5 = .ok (.aload_n 0, 1) := by decide +kernel
theorem dX5_lostOfAll_6 : decode cX5_lostOfAll 6 = .ok (.getfield 16, 3) := by decide +kernel
theorem dX5_lostOfAll_9 : decode cX5_lostOfAll 9 = .ok (.invokeinterface 50 1, 5) := by decide +kernel
theorem dX5_lostOfAll_14 : decode cX5_lostOfAll 14 = .ok (.if_icmp .ge 29, 3) := by decide +kernel
theorem dX5_lostOfAll_17 : decode cX5_lostOfAll 17 = .ok (.iload_n 1, 1) := by decide +kernel
theorem dX5_lostOfAll_18 : decode cX5_lostOfAll 18 = .ok (.aload_n 0, 1) := by decide +kernel
theorem dX5_lostOfAll_19 : decode cX5_lostOfAll 19 = .ok (.aload_n 0, 1) := by decide +kernel
theorem dX5_lostOfAll_20 : decode cX5_lostOfAll 20 = .ok (.getfield 16, 3) := by decide +kernel
theorem dX5_lostOfAll_23 : decode cX5_lostOfAll 23 = .ok (.iload_n 2, 1) := by decide +kernel
theorem dX5_lostOfAll_24 : decode cX5_lostOfAll 24 = .ok (.invokeinterface 101 2, 5) := by decide +kernel
theorem dX5_lostOfAll_29 : decode cX5_lostOfAll 29 = .ok (.checkcast 89, 3) := by decide +kernel
theorem dX5_lostOfAll_32 : decode cX5_lostOfAll 32 = .ok (.invokevirtual 132, 3) := by decide +kernel
theorem dX5_lostOfAll_35 : decode cX5_lostOfAll 35 = .ok (.iadd, 1) := by decide +kernel
theorem dX5_lostOfAll_36 : decode cX5_lostOfAll 36 = .ok (.istore_n 1, 1) := by decide +kernel
theorem dX5_lostOfAll_37 : decode cX5_lostOfAll 37 = .ok (.iinc 2 1, 3) := by decide +kernel
theorem dX5_lostOfAll_40 : decode cX5_lostOfAll 40 = .ok (.goto (-36), 3) := by decide +kernel
theorem dX5_lostOfAll_43 : decode cX5_lostOfAll 43 = .ok (.iload_n 1, 1) := by decide +kernel
theorem dX5_lostOfAll_44 : decode cX5_lostOfAll 44 = .ok (.ireturn, 1) := by decide +kernel
theorem dX5_tellGrower_0 : decode cX5_tellGrower 0 = .ok (.aload_n 0, 1) := by decide +kernel
theorem dX5_tellGrower_1 : decode cX5_tellGrower 1 = .ok (.getfield 10, 3) := by decide +kernel
theorem dX5_tellGrower_4 : decode cX5_tellGrower 4 = .ok (.iload_n 1, 1) := by decide +kernel
theorem dX5_tellGrower_5 : decode cX5_tellGrower 5 = .ok (.invokeinterface 101 2, 5) := by decide +kernel
theorem dX5_tellGrower_10 : decode cX5_tellGrower 10 = .ok (.checkcast 61, 3) := by decide +kernel
theorem dX5_tellGrower_13 : decode cX5_tellGrower 13 = .ok (.astore_n 3, 1) := by decide +kernel
theorem dX5_tellGrower_14 : decode cX5_tellGrower 14 = .ok (.iload_n 2, 1) := by decide +kernel
theorem dX5_tellGrower_15 : decode cX5_tellGrower 15 = .ok (.tableswitch 96 0 8 #[49, 54, 59, 64, 69, 74, 79, 84, 90], 49) := by decide +kernel
theorem dX5_tellGrower_64 : decode cX5_tellGrower 64 = .ok (.aload_n 3, 1) := by decide +kernel
theorem dX5_tellGrower_65 : decode cX5_tellGrower 65 = .ok (.getfield 136, 3) := by decide +kernel
theorem dX5_tellGrower_68 : decode cX5_tellGrower 68 = .ok (.ireturn, 1) := by decide +kernel
theorem dX5_tellGrower_69 : decode cX5_tellGrower 69 = .ok (.aload_n 3, 1) := by decide +kernel
theorem dX5_tellGrower_70 : decode cX5_tellGrower 70 = .ok (.getfield 123, 3) := by decide +kernel
theorem dX5_tellGrower_73 : decode cX5_tellGrower 73 = .ok (.ireturn, 1) := by decide +kernel
theorem dX5_tellGrower_74 : decode cX5_tellGrower 74 = .ok (.aload_n 3, 1) := by decide +kernel
theorem dX5_tellGrower_75 : decode cX5_tellGrower 75 = .ok (.getfield 116, 3) := by decide +kernel
theorem dX5_tellGrower_78 : decode cX5_tellGrower 78 = .ok (.ireturn, 1) := by decide +kernel
theorem dX5_tellGrower_79 : decode cX5_tellGrower 79 = .ok (.aload_n 3, 1) := by decide +kernel
theorem dX5_tellGrower_80 : decode cX5_tellGrower 80 = .ok (.getfield 126, 3) := by decide +kernel
theorem dX5_tellGrower_83 : decode cX5_tellGrower 83 = .ok (.ireturn, 1) := by decide +kernel
theorem dX5_tellGrower_84 : decode cX5_tellGrower 84 = .ok (.aload_n 3, 1) := by decide +kernel
theorem dX5_tellGrower_85 : decode cX5_tellGrower 85 = .ok (.getfield 290, 3) := by decide +kernel
theorem dX5_tellGrower_88 : decode cX5_tellGrower 88 = .ok (.ireturn, 1) := by decide +kernel
theorem dX5_tellGrower_89 : decode cX5_tellGrower 89 = .ok (.aload_n 3, 1) := by decide +kernel
theorem dX5_tellGrower_90 : decode cX5_tellGrower 90 = .ok (.getfield 293, 3) := by decide +kernel
theorem dX5_tellGrower_93 : decode cX5_tellGrower 93 = .ok (.ireturn, 1) := by decide +kernel
theorem dX5_tellGrower_94 : decode cX5_tellGrower 94 = .ok (.aload_n 3, 1) := by decide +kernel
theorem dX5_tellGrower_95 : decode cX5_tellGrower 95 = .ok (.getfield 296, 3) := by decide +kernel
theorem dX5_tellGrower_98 : decode cX5_tellGrower 98 = .ok (.ireturn, 1) := by decide +kernel
theorem dX5_tellGrower_99 : decode cX5_tellGrower 99 = .ok (.aload_n 0, 1) := by decide +kernel
theorem dX5_tellGrower_100 : decode cX5_tellGrower 100 = .ok (.iload_n 1, 1) := by decide +kernel
theorem dX5_tellGrower_101 : decode cX5_tellGrower 101 = .ok (.invokevirtual 299, 3) := by decide +kernel
theorem dX5_tellGrower_104 : decode cX5_tellGrower 104 = .ok (.ireturn, 1) := by decide +kernel
theorem dX5_tellGrower_105 : decode cX5_tellGrower 105 = .ok (.aload_n 0, 1) := by decide +kernel
theorem dX5_tellGrower_106 : decode cX5_tellGrower 106 = .ok (.iload_n 1, 1) := by decide +kernel
theorem dX5_tellGrower_107 : decode cX5_tellGrower 107 = .ok (.invokevirtual 302, 3) := by decide +kernel
theorem dX5_tellGrower_110 : decode cX5_tellGrower 110 = .ok (.ireturn, 1) := by decide +kernel
theorem dX5_tellGrower_111 : decode cX5_tellGrower 111 = .ok (.aload_n 0, 1) := by decide +kernel
theorem dX5_tellGrower_112 : decode cX5_tellGrower 112 = .ok (.iload_n 1, 1) := by decide +kernel
theorem dX5_tellGrower_113 : decode cX5_tellGrower 113 = .ok (.invokevirtual 305, 3) := by decide +kernel
theorem dX5_tellGrower_116 : decode cX5_tellGrower 116 = .ok (.ireturn, 1) := by decide +kernel
theorem dX5_housesOfGrower_0 : decode cX5_housesOfGrower 0 = .ok (.iconst 0, 1) := by decide +kernel
theorem dX5_housesOfGrower_1 : decode cX5_housesOfGrower 1 = .ok (.istore_n 2, 1) := by decide +kernel
theorem dX5_housesOfGrower_2 : decode cX5_housesOfGrower 2 = .ok (.iconst 0, 1) := by decide +kernel
theorem dX5_housesOfGrower_3 : decode cX5_housesOfGrower 3 = .ok (.istore_n 3, 1) := by decide +kernel
theorem dX5_housesOfGrower_4 : decode cX5_housesOfGrower 4 = .ok (.iload_n 3, 1) := by decide +kernel
theorem dX5_housesOfGrower_5 : decode cX5_housesOfGrower 5 = .ok (.aload_n 0, 1) := by decide +kernel
theorem dX5_housesOfGrower_6 : decode cX5_housesOfGrower 6 = .ok (.getfield 16, 3) := by decide +kernel
theorem dX5_housesOfGrower_9 : decode cX5_housesOfGrower 9 = .ok (.invokeinterface 50 1, 5) := by decide +kernel
theorem dX5_housesOfGrower_14 : decode cX5_housesOfGrower 14 = .ok (.if_icmp .ge 32, 3) := by decide +kernel
theorem dX5_housesOfGrower_17 : decode cX5_housesOfGrower 17 = .ok (.aload_n 0, 1) := by decide +kernel
theorem dX5_housesOfGrower_18 : decode cX5_housesOfGrower 18 = .ok (.getfield 16, 3) := by decide +kernel
theorem dX5_housesOfGrower_21 : decode cX5_housesOfGrower 21 = .ok (.iload_n 3, 1) := by decide +kernel
theorem dX5_housesOfGrower_22 : decode cX5_housesOfGrower 22 = .ok (.invokeinterface 101 2, 5) := by decide +kernel
theorem dX5_housesOfGrower_27 : decode cX5_housesOfGrower 27 = .ok (.checkcast 89, 3) := by decide +kernel
theorem dX5_housesOfGrower_30 : decode cX5_housesOfGrower 30 = .ok (.getfield 129, 3) := by decide +kernel
theorem dX5_housesOfGrower_33 : decode cX5_housesOfGrower 33 = .ok (.iload_n 1, 1) := by decide +kernel
theorem dX5_housesOfGrower_34 : decode cX5_housesOfGrower 34 = .ok (.if_icmp .ne 6, 3) := by decide +kernel
theorem dX5_housesOfGrower_37 : decode cX5_housesOfGrower 37 = .ok (.iinc 2 1, 3) := by decide +kernel
theorem dX5_housesOfGrower_40 : decode cX5_housesOfGrower 40 = .ok (.iinc 3 1, 3) := by decide +kernel
theorem dX5_housesOfGrower_43 : decode cX5_housesOfGrower 43 = .ok (.goto (-39), 3) := by decide +kernel
theorem dX5_housesOfGrower_46 : decode cX5_housesOfGrower 46 = .ok (.iload_n 2, 1) := by decide +kernel
theorem dX5_housesOfGrower_47 : decode cX5_housesOfGrower 47 = .ok (.ireturn, 1) := by decide +kernel
theorem dX5_valuesOfGrower_0 : decode cX5_valuesOfGrower 0 = .ok (.iconst 0, 1) := by decide +kernel
theorem dX5_valuesOfGrower_1 : decode cX5_valuesOfGrower 1 = .ok (.istore_n 2, 1) := by decide +kernel
theorem dX5_valuesOfGrower_2 : decode cX5_valuesOfGrower 2 = .ok (.iconst 0, 1) := by decide +kernel
theorem dX5_valuesOfGrower_3 : decode cX5_valuesOfGrower 3 = .ok (.istore_n 3, 1) := by decide +kernel
theorem dX5_valuesOfGrower_4 : decode cX5_valuesOfGrower 4 = .ok (.iload_n 3, 1) := by decide +kernel
theorem dX5_valuesOfGrower_5 : decode cX5_valuesOfGrower 5 = .ok (.aload_n 0, 1) := by decide +kernel
theorem dX5_valuesOfGrower_6 : decode cX5_valuesOfGrower 6 = .ok (.getfield 16, 3) := by decide +kernel
theorem dX5_valuesOfGrower_9 : decode cX5_valuesOfGrower 9 = .ok (.invokeinterface 50 1, 5) := by decide +kernel
theorem dX5_valuesOfGrower_14 : decode cX5_valuesOfGrower 14 = .ok (.if_icmp .ge 48, 3) := by decide +kernel
theorem dX5_valuesOfGrower_17 : decode cX5_valuesOfGrower 17 = .ok (.aload_n 0, 1) := by decide +kernel
theorem dX5_valuesOfGrower_18 : decode cX5_valuesOfGrower 18 = .ok (.getfield 16, 3) := by decide +kernel
theorem dX5_valuesOfGrower_21 : decode cX5_valuesOfGrower 21 = .ok (.iload_n 3, 1) := by decide +kernel
theorem dX5_valuesOfGrower_22 : decode cX5_valuesOfGrower 22 = .ok (.invokeinterface 101 2, 5) := by decide +kernel
theorem dX5_valuesOfGrower_27 : decode cX5_valuesOfGrower 27 = .ok (.checkcast 89, 3) := by decide +kernel
theorem dX5_valuesOfGrower_30 : decode cX5_valuesOfGrower 30 = .ok (.getfield 129, 3) := by decide +kernel
theorem dX5_valuesOfGrower_33 : decode cX5_valuesOfGrower 33 = .ok (.iload_n 1, 1) := by decide +kernel
theorem dX5_valuesOfGrower_34 : decode cX5_valuesOfGrower 34 = .ok (.if_icmp .ne 22, 3) := by decide +kernel
theorem dX5_valuesOfGrower_37 : decode cX5_valuesOfGrower 37 = .ok (.iload_n 2, 1) := by decide +kernel
theorem dX5_valuesOfGrower_38 : decode cX5_valuesOfGrower 38 = .ok (.aload_n 0, 1) := by decide +kernel
theorem dX5_valuesOfGrower_39 : decode cX5_valuesOfGrower 39 = .ok (.getfield 16, 3) := by decide +kernel
theorem dX5_valuesOfGrower_42 : decode cX5_valuesOfGrower 42 = .ok (.iload_n 3, 1) := by decide +kernel
theorem dX5_valuesOfGrower_43 : decode cX5_valuesOfGrower 43 = .ok (.invokeinterface 101 2, 5) := by decide +kernel
theorem dX5_valuesOfGrower_48 : decode cX5_valuesOfGrower 48 = .ok (.checkcast 89, 3) := by decide +kernel
theorem dX5_valuesOfGrower_51 : decode cX5_valuesOfGrower 51 = .ok (.invokevirtual 242, 3) := by decide +kernel
theorem dX5_valuesOfGrower_54 : decode cX5_valuesOfGrower 54 = .ok (.iadd, 1) := by decide +kernel
theorem dX5_valuesOfGrower_55 : decode cX5_valuesOfGrower 55 = .ok (.istore_n 2, 1) := by decide +kernel
theorem dX5_valuesOfGrower_56 : decode cX5_valuesOfGrower 56 = .ok (.iinc 3 1, 3) := by decide +kernel
theorem dX5_valuesOfGrower_59 : decode cX5_valuesOfGrower 59 = .ok (.goto (-55), 3) := by decide +kernel
theorem dX5_valuesOfGrower_62 : decode cX5_valuesOfGrower 62 = .ok (.iload_n 2, 1) := by decide +kernel
theorem dX5_valuesOfGrower_63 : decode cX5_valuesOfGrower 63 = .ok (.ireturn, 1) := by decide +kernel
theorem dX5_lostOfGrower_0 : decode cX5_lostOfGrower 0 = .ok (.iconst 0, 1) := by decide +kernel
theorem dX5_lostOfGrower_1 : decode cX5_lostOfGrower 1 = .ok (.istore_n 2, 1) := by decide +kernel
theorem dX5_lostOfGrower_2 : decode cX5_lostOfGrower 2 = .ok (.iconst 0, 1) := by decide +kernel
theorem dX5_lostOfGrower_3 : decode cX5_lostOfGrower 3 = .ok (.istore_n 3, 1) := by decide +kernel
theorem dX5_lostOfGrower_4 : decode cX5_lostOfGrower 4 = .ok (.iload_n 3, 1) := by decide +kernel
theorem dX5_lostOfGrower_5 : decode cX5_lostOfGrower 5 = .ok (.aload_n 0, 1) := by decide +kernel
theorem dX5_lostOfGrower_6 : decode cX5_lostOfGrower 6 = .ok (.getfield 16, 3) := by decide +kernel
theorem dX5_lostOfGrower_9 : decode cX5_lostOfGrower 9 = .ok (.invokeinterface 50 1, 5) := by decide +kernel
theorem dX5_lostOfGrower_14 : decode cX5_lostOfGrower 14 = .ok (.if_icmp .ge 49, 3) := by decide +kernel
theorem dX5_lostOfGrower_17 : decode cX5_lostOfGrower 17 = .ok (.aload_n 0, 1) := by decide +kernel
theorem dX5_lostOfGrower_18 : decode cX5_lostOfGrower 18 = .ok (.getfield 16, 3) := by decide +kernel
theorem dX5_lostOfGrower_21 : decode cX5_lostOfGrower 21 = .ok (.iload_n 3, 1) := by decide +kernel
theorem dX5_lostOfGrower_22 : decode cX5_lostOfGrower 22 = .ok (.invokeinterface 101 2, 5) := by decide +kernel
theorem dX5_lostOfGrower_27 : decode cX5_lostOfGrower 27 = .ok (.checkcast 89, 3) := by decide +kernel
theorem dX5_lostOfGrower_30 : decode cX5_lostOfGrower 30 = .ok (.getfield 129, 3) := by decide +kernel
theorem dX5_lostOfGrower_33 : decode cX5_lostOfGrower 33 = .ok (.iload_n 1, 1) := by decide +kernel
theorem dX5_lostOfGrower_34 : decode cX5_lostOfGrower 34 = .ok (.if_icmp .ne 23, 3) := by decide +kernel
theorem dX5_lostOfGrower_37 : decode cX5_lostOfGrower 37 = .ok (.iload_n 2, 1) := by decide +kernel
theorem dX5_lostOfGrower_38 : decode cX5_lostOfGrower 38 = .ok (.aload_n 0, 1) := by decide +kernel
theorem dX5_lostOfGrower_39 : decode cX5_lostOfGrower 39 = .ok (.aload_n 0, 1) := by decide +kernel
theorem dX5_lostOfGrower_40 : decode cX5_lostOfGrower 40 = .ok (.getfield 16, 3) := by decide +kernel
theorem dX5_lostOfGrower_43 : decode cX5_lostOfGrower 43 = .ok (.iload_n 3, 1) := by decide +kernel
theorem dX5_lostOfGrower_44 : decode cX5_lostOfGrower 44 = .ok (.invokeinterface 101 2, 5) := by decide +kernel
theorem dX5_lostOfGrower_49 : decode cX5_lostOfGrower 49 = .ok (.checkcast 89, 3) := by decide +kernel
theorem dX5_lostOfGrower_52 : decode cX5_lostOfGrower 52 = .ok (.invokevirtual 132, 3) := by decide +kernel
theorem dX5_lostOfGrower_55 : decode cX5_lostOfGrower 55 = .ok (.iadd, 1) := by decide +kernel
theorem dX5_lostOfGrower_56 : decode cX5_lostOfGrower 56 = .ok (.istore_n 2, 1) := by decide +kernel
theorem dX5_lostOfGrower_57 : decode cX5_lostOfGrower 57 = .ok (.iinc 3 1, 3) := by decide +kernel
theorem dX5_lostOfGrower_60 : decode cX5_lostOfGrower 60 = .ok (.goto (-56), 3) := by decide +kernel
theorem dX5_lostOfGrower_63 : decode cX5_lostOfGrower 63 = .ok (.iload_n 2, 1) := by decide +kernel
theorem dX5_lostOfGrower_64 : decode cX5_lostOfGrower 64 = .ok (.ireturn, 1) := by decide +kernel
theorem dX5_tellHouse_0 : decode cX5_tellHouse 0 = .ok (.iload_n 2, 1) := by decide +kernel
theorem dX5_tellHouse_1 : decode cX5_tellHouse 1 = .ok (.tableswitch 117 0 9 #[55, 60, 65, 70, 75, 80, 85, 90, 103, 110], 55) := by decide +kernel
theorem dX5_tellHouse_56 : decode cX5_tellHouse 56 = .ok (.aload_n 1, 1) := by decide +kernel
theorem dX5_tellHouse_57 : decode cX5_tellHouse 57 = .ok (.getfield 129, 3) := by decide +kernel
theorem dX5_tellHouse_60 : decode cX5_tellHouse 60 = .ok (.ireturn, 1) := by decide +kernel
theorem dX5_tellHouse_61 : decode cX5_tellHouse 61 = .ok (.aload_n 1, 1) := by decide +kernel
theorem dX5_tellHouse_62 : decode cX5_tellHouse 62 = .ok (.getfield 275, 3) := by decide +kernel
theorem dX5_tellHouse_65 : decode cX5_tellHouse 65 = .ok (.ireturn, 1) := by decide +kernel
theorem dX5_tellHouse_66 : decode cX5_tellHouse 66 = .ok (.aload_n 1, 1) := by decide +kernel
theorem dX5_tellHouse_67 : decode cX5_tellHouse 67 = .ok (.getfield 271, 3) := by decide +kernel
theorem dX5_tellHouse_70 : decode cX5_tellHouse 70 = .ok (.ireturn, 1) := by decide +kernel
theorem dX5_tellHouse_71 : decode cX5_tellHouse 71 = .ok (.aload_n 1, 1) := by decide +kernel
theorem dX5_tellHouse_72 : decode cX5_tellHouse 72 = .ok (.getfield 278, 3) := by decide +kernel
theorem dX5_tellHouse_75 : decode cX5_tellHouse 75 = .ok (.ireturn, 1) := by decide +kernel
theorem dX5_tellHouse_76 : decode cX5_tellHouse 76 = .ok (.aload_n 1, 1) := by decide +kernel
theorem dX5_tellHouse_77 : decode cX5_tellHouse 77 = .ok (.getfield 272, 3) := by decide +kernel
theorem dX5_tellHouse_80 : decode cX5_tellHouse 80 = .ok (.ireturn, 1) := by decide +kernel
theorem dX5_tellHouse_81 : decode cX5_tellHouse 81 = .ok (.aload_n 1, 1) := by decide +kernel
theorem dX5_tellHouse_82 : decode cX5_tellHouse 82 = .ok (.getfield 308, 3) := by decide +kernel
theorem dX5_tellHouse_85 : decode cX5_tellHouse 85 = .ok (.ireturn, 1) := by decide +kernel
theorem dX5_tellHouse_86 : decode cX5_tellHouse 86 = .ok (.aload_n 1, 1) := by decide +kernel
theorem dX5_tellHouse_87 : decode cX5_tellHouse 87 = .ok (.getfield 287, 3) := by decide +kernel
theorem dX5_tellHouse_90 : decode cX5_tellHouse 90 = .ok (.ireturn, 1) := by decide +kernel
theorem dX5_tellHouse_91 : decode cX5_tellHouse 91 = .ok (.aload_n 1, 1) := by decide +kernel
theorem dX5_tellHouse_92 : decode cX5_tellHouse 92 = .ok (.getfield 105, 3) := by decide +kernel
theorem dX5_tellHouse_95 : decode cX5_tellHouse 95 = .ok (.ifCond .eq 7, 3) := by decide +kernel
theorem dX5_tellHouse_98 : decode cX5_tellHouse 98 = .ok (.iconst 1, 1) := by decide +kernel
theorem dX5_tellHouse_99 : decode cX5_tellHouse 99 = .ok (.goto 4, 3) := by decide +kernel
theorem dX5_tellHouse_102 : decode cX5_tellHouse 102 = .ok (.iconst 0, 1) := by decide +kernel
theorem dX5_tellHouse_103 : decode cX5_tellHouse 103 = .ok (.ireturn, 1) := by decide +kernel
theorem dX5_tellHouse_104 : decode cX5_tellHouse 104 = .ok (.aload_n 0, 1) := by decide +kernel
theorem dX5_tellHouse_105 : decode cX5_tellHouse 105 = .ok (.aload_n 1, 1) := by decide +kernel
theorem dX5_tellHouse_106 : decode cX5_tellHouse 106 = .ok (.iconst 1, 1) := by decide +kernel
theorem dX5_tellHouse_107 : decode cX5_tellHouse 107 = .ok (.invokevirtual 281, 3) := by decide +kernel
theorem dX5_tellHouse_110 : decode cX5_tellHouse 110 = .ok (.ireturn, 1) := by decide +kernel
theorem dX5_tellHouse_111 : decode cX5_tellHouse 111 = .ok (.aload_n 0, 1) := by decide +kernel
theorem dX5_tellHouse_112 : decode cX5_tellHouse 112 = .ok (.aload_n 1, 1) := by decide +kernel
theorem dX5_tellHouse_113 : decode cX5_tellHouse 113 = .ok (.iconst 2, 1) := by decide +kernel
theorem dX5_tellHouse_114 : decode cX5_tellHouse 114 = .ok (.invokevirtual 281, 3) := by decide +kernel
theorem dX5_tellHouse_117 : decode cX5_tellHouse 117 = .ok (.ireturn, 1) := by decide +kernel
theorem dX5_tellHouse_118 : decode cX5_tellHouse 118 = .ok (.aload_n 0, 1) := by decide +kernel
theorem dX5_tellHouse_119 : decode cX5_tellHouse 119 = .ok (.aload_n 1, 1) := by decide +kernel
theorem dX5_tellHouse_120 : decode cX5_tellHouse 120 = .ok (.invokevirtual 132, 3) := by decide +kernel
theorem dX5_tellHouse_123 : decode cX5_tellHouse 123 = .ok (.ireturn, 1) := by decide +kernel
theorem dX5_tellLayer_0 : decode cX5_tellLayer 0 = .ok (.iload_n 1, 1) := by decide +kernel
theorem dX5_tellLayer_1 : decode cX5_tellLayer 1 = .ok (.tableswitch 51 0 3 #[31, 36, 41, 46], 31) := by decide +kernel
theorem dX5_tellLayer_32 : decode cX5_tellLayer 32 = .ok (.aload_n 0, 1) := by decide +kernel
theorem dX5_tellLayer_33 : decode cX5_tellLayer 33 = .ok (.getfield 311, 3) := by decide +kernel
theorem dX5_tellLayer_36 : decode cX5_tellLayer 36 = .ok (.ireturn, 1) := by decide +kernel
theorem dX5_tellLayer_37 : decode cX5_tellLayer 37 = .ok (.aload_n 0, 1) := by decide +kernel
theorem dX5_tellLayer_38 : decode cX5_tellLayer 38 = .ok (.getfield 314, 3) := by decide +kernel
theorem dX5_tellLayer_41 : decode cX5_tellLayer 41 = .ok (.ireturn, 1) := by decide +kernel
theorem dX5_tellLayer_42 : decode cX5_tellLayer 42 = .ok (.aload_n 0, 1) := by decide +kernel
theorem dX5_tellLayer_43 : decode cX5_tellLayer 43 = .ok (.getfield 315, 3) := by decide +kernel
theorem dX5_tellLayer_46 : decode cX5_tellLayer 46 = .ok (.ireturn, 1) := by decide +kernel
theorem dX5_tellLayer_47 : decode cX5_tellLayer 47 = .ok (.aload_n 0, 1) := by decide +kernel
theorem dX5_tellLayer_48 : decode cX5_tellLayer 48 = .ok (.getfield 318, 3) := by decide +kernel
theorem dX5_tellLayer_51 : decode cX5_tellLayer 51 = .ok (.ireturn, 1) := by decide +kernel
theorem dX5_tellLayer_52 : decode cX5_tellLayer 52 = .ok (.aload_n 0, 1) := by decide +kernel
theorem dX5_tellLayer_53 : decode cX5_tellLayer 53 = .ok (.getfield 321, 3) := by decide +kernel
theorem dX5_tellLayer_56 : decode cX5_tellLayer 56 = .ok (.ireturn, 1) := by decide +kernel
theorem dX5_tellCount_0 : decode cX5_tellCount 0 = .ok (.iload_n 1, 1) := by decide +kernel
theorem dX5_tellCount_1 : decode cX5_tellCount 1 = .ok (.tableswitch 122 0 9 #[55, 65, 75, 85, 90, 95, 100, 105, 110, 116], 55) := by decide +kernel
theorem dX5_tellCount_56 : decode cX5_tellCount 56 = .ok (.aload_n 0, 1) := by decide +kernel
theorem dX5_tellCount_57 : decode cX5_tellCount 57 = .ok (.getfield 10, 3) := by decide +kernel
theorem dX5_tellCount_60 : decode cX5_tellCount 60 = .ok (.invokeinterface 50 1, 5) := by decide +kernel
theorem dX5_tellCount_65 : decode cX5_tellCount 65 = .ok (.ireturn, 1) := by decide +kernel
theorem dX5_tellCount_66 : decode cX5_tellCount 66 = .ok (.aload_n 0, 1) := by decide +kernel
theorem dX5_tellCount_67 : decode cX5_tellCount 67 = .ok (.getfield 16, 3) := by decide +kernel
theorem dX5_tellCount_70 : decode cX5_tellCount 70 = .ok (.invokeinterface 50 1, 5) := by decide +kernel
theorem dX5_tellCount_75 : decode cX5_tellCount 75 = .ok (.ireturn, 1) := by decide +kernel
theorem dX5_tellCount_76 : decode cX5_tellCount 76 = .ok (.aload_n 0, 1) := by decide +kernel
theorem dX5_tellCount_77 : decode cX5_tellCount 77 = .ok (.getfield 19, 3) := by decide +kernel
theorem dX5_tellCount_80 : decode cX5_tellCount 80 = .ok (.invokeinterface 50 1, 5) := by decide +kernel
theorem dX5_tellCount_85 : decode cX5_tellCount 85 = .ok (.ireturn, 1) := by decide +kernel
theorem dX5_tellCount_86 : decode cX5_tellCount 86 = .ok (.aload_n 0, 1) := by decide +kernel
theorem dX5_tellCount_87 : decode cX5_tellCount 87 = .ok (.getfield 163, 3) := by decide +kernel
theorem dX5_tellCount_90 : decode cX5_tellCount 90 = .ok (.ireturn, 1) := by decide +kernel
theorem dX5_tellCount_91 : decode cX5_tellCount 91 = .ok (.aload_n 0, 1) := by decide +kernel
theorem dX5_tellCount_92 : decode cX5_tellCount 92 = .ok (.invokevirtual 324, 3) := by decide +kernel
theorem dX5_tellCount_95 : decode cX5_tellCount 95 = .ok (.ireturn, 1) := by decide +kernel
theorem dX5_tellCount_96 : decode cX5_tellCount 96 = .ok (.aload_n 0, 1) := by decide +kernel
theorem dX5_tellCount_97 : decode cX5_tellCount 97 = .ok (.getfield 209, 3) := by decide +kernel
theorem dX5_tellCount_100 : decode cX5_tellCount 100 = .ok (.ireturn, 1) := by decide +kernel
theorem dX5_tellCount_101 : decode cX5_tellCount 101 = .ok (.aload_n 0, 1) := by decide +kernel
theorem dX5_tellCount_102 : decode cX5_tellCount 102 = .ok (.getfield 199, 3) := by decide +kernel
theorem dX5_tellCount_105 : decode cX5_tellCount 105 = .ok (.ireturn, 1) := by decide +kernel
theorem dX5_tellCount_106 : decode cX5_tellCount 106 = .ok (.aload_n 0, 1) := by decide +kernel
theorem dX5_tellCount_107 : decode cX5_tellCount 107 = .ok (.invokevirtual 327, 3) := by decide +kernel
theorem dX5_tellCount_110 : decode cX5_tellCount 110 = .ok (.ireturn, 1) := by decide +kernel
theorem dX5_tellCount_111 : decode cX5_tellCount 111 = .ok (.aload_n 0, 1) := by decide +kernel
theorem dX5_tellCount_112 : decode cX5_tellCount 112 = .ok (.iconst 1, 1) := by decide +kernel
theorem dX5_tellCount_113 : decode cX5_tellCount 113 = .ok (.invokevirtual 330, 3) := by decide +kernel
theorem dX5_tellCount_116 : decode cX5_tellCount 116 = .ok (.ireturn, 1) := by decide +kernel
theorem dX5_tellCount_117 : decode cX5_tellCount 117 = .ok (.aload_n 0, 1) := by decide +kernel
theorem dX5_tellCount_118 : decode cX5_tellCount 118 = .ok (.iconst 2, 1) := by decide +kernel
theorem dX5_tellCount_119 : decode cX5_tellCount 119 = .ok (.invokevirtual 330, 3) := by decide +kernel
theorem dX5_tellCount_122 : decode cX5_tellCount 122 = .ok (.ireturn, 1) := by decide +kernel
theorem dX5_tellCount_123 : decode cX5_tellCount 123 = .ok (.aload_n 0, 1) := by decide +kernel
theorem dX5_tellCount_124 : decode cX5_tellCount 124 = .ok (.invokevirtual 245, 3) := by decide +kernel
theorem dX5_tellCount_127 : decode cX5_tellCount 127 = .ok (.ireturn, 1) := by decide +kernel
theorem dX5_owedToAll_0 : decode cX5_owedToAll 0 = .ok (.iconst 0, 1) := by decide +kernel
theorem dX5_owedToAll_1 : decode cX5_owedToAll 1 = .ok (.istore_n 1, 1) := by decide +kernel
theorem dX5_owedToAll_2 : decode cX5_owedToAll 2 = .ok (.iconst 0, 1) := by decide +kernel
theorem dX5_owedToAll_3 : decode cX5_owedToAll 3 = .ok (.istore_n 2, 1) := by decide +kernel
theorem dX5_owedToAll_4 : decode cX5_owedToAll 4 = .ok (.iload_n 2, 1) := by decide +kernel
theorem dX5_owedToAll_5 : decode cX5_owedToAll 5 = .ok (.aload_n 0, 1) := by decide +kernel
theorem dX5_owedToAll_6 : decode cX5_owedToAll 6 = .ok (.getfield 10, 3) := by decide +kernel
theorem dX5_owedToAll_9 : decode cX5_owedToAll 9 = .ok (.invokeinterface 50 1, 5) := by decide +kernel
theorem dX5_owedToAll_14 : decode cX5_owedToAll 14 = .ok (.if_icmp .ge 28, 3) := by decide +kernel
theorem dX5_owedToAll_17 : decode cX5_owedToAll 17 = .ok (.iload_n 1, 1) := by decide +kernel
theorem dX5_owedToAll_18 : decode cX5_owedToAll 18 = .ok (.aload_n 0, 1) := by decide +kernel
theorem dX5_owedToAll_19 : decode cX5_owedToAll 19 = .ok (.getfield 10, 3) := by decide +kernel
theorem dX5_owedToAll_22 : decode cX5_owedToAll 22 = .ok (.iload_n 2, 1) := by decide +kernel
theorem dX5_owedToAll_23 : decode cX5_owedToAll 23 = .ok (.invokeinterface 101 2, 5) := by decide +kernel
theorem dX5_owedToAll_28 : decode cX5_owedToAll 28 = .ok (.checkcast 61, 3) := by decide +kernel
theorem dX5_owedToAll_31 : decode cX5_owedToAll 31 = .ok (.getfield 296, 3) := by decide +kernel
theorem dX5_owedToAll_34 : decode cX5_owedToAll 34 = .ok (.iadd, 1) := by decide +kernel
theorem dX5_owedToAll_35 : decode cX5_owedToAll 35 = .ok (.istore_n 1, 1) := by decide +kernel
theorem dX5_owedToAll_36 : decode cX5_owedToAll 36 = .ok (.iinc 2 1, 3) := by decide +kernel
theorem dX5_owedToAll_39 : decode cX5_owedToAll 39 = .ok (.goto (-35), 3) := by decide +kernel
theorem dX5_owedToAll_42 : decode cX5_owedToAll 42 = .ok (.iload_n 1, 1) := by decide +kernel
theorem dX5_owedToAll_43 : decode cX5_owedToAll 43 = .ok (.ireturn, 1) := by decide +kernel
theorem dX5_paneCountOfAll_0 : decode cX5_paneCountOfAll 0 = .ok (.iconst 0, 1) := by decide +kernel
theorem dX5_paneCountOfAll_1 : decode cX5_paneCountOfAll 1 = .ok (.istore_n 1, 1) := by decide +kernel
theorem dX5_paneCountOfAll_2 : decode cX5_paneCountOfAll 2 = .ok (.iconst 0, 1) := by decide +kernel
theorem dX5_paneCountOfAll_3 : decode cX5_paneCountOfAll 3 = .ok (.istore_n 2, 1) := by decide +kernel
theorem dX5_paneCountOfAll_4 : decode cX5_paneCountOfAll 4 = .ok (.iload_n 2, 1) := by decide +kernel
theorem dX5_paneCountOfAll_5 : decode cX5_paneCountOfAll 5 = .ok (.aload_n 0, 1) := by decide +kernel
theorem dX5_paneCountOfAll_6 : decode cX5_paneCountOfAll 6 = .ok (.getfield 16, 3) := by decide +kernel
theorem dX5_paneCountOfAll_9 : decode cX5_paneCountOfAll 9 = .ok (.invokeinterface 50 1, 5) := by decide +kernel
theorem dX5_paneCountOfAll_14 : decode cX5_paneCountOfAll 14 = .ok (.if_icmp .ge 28, 3) := by decide +kernel
theorem dX5_paneCountOfAll_17 : decode cX5_paneCountOfAll 17 = .ok (.iload_n 1, 1) := by decide +kernel
theorem dX5_paneCountOfAll_18 : decode cX5_paneCountOfAll 18 = .ok (.aload_n 0, 1) := by decide +kernel
theorem dX5_paneCountOfAll_19 : decode cX5_paneCountOfAll 19 = .ok (.getfield 16, 3) := by decide +kernel
theorem dX5_paneCountOfAll_22 : decode cX5_paneCountOfAll 22 = .ok (.iload_n 2, 1) := by decide +kernel
theorem dX5_paneCountOfAll_23 : decode cX5_paneCountOfAll 23 = .ok (.invokeinterface 101 2, 5) := by decide +kernel
theorem dX5_paneCountOfAll_28 : decode cX5_paneCountOfAll 28 = .ok (.checkcast 89, 3) := by decide +kernel
theorem dX5_paneCountOfAll_31 : decode cX5_paneCountOfAll 31 = .ok (.invokevirtual 333, 3) := by decide +kernel
theorem dX5_paneCountOfAll_34 : decode cX5_paneCountOfAll 34 = .ok (.iadd, 1) := by decide +kernel
theorem dX5_paneCountOfAll_35 : decode cX5_paneCountOfAll 35 = .ok (.istore_n 1, 1) := by decide +kernel
theorem dX5_paneCountOfAll_36 : decode cX5_paneCountOfAll 36 = .ok (.iinc 2 1, 3) := by decide +kernel
theorem dX5_paneCountOfAll_39 : decode cX5_paneCountOfAll 39 = .ok (.goto (-35), 3) := by decide +kernel
theorem dX5_paneCountOfAll_42 : decode cX5_paneCountOfAll 42 = .ok (.iload_n 1, 1) := by decide +kernel
theorem dX5_paneCountOfAll_43 : decode cX5_paneCountOfAll 43 = .ok (.ireturn, 1) := by decide +kernel
theorem dX5_digestHouse_0 : decode cX5_digestHouse 0 = .ok (.lload_n 1, 1) := by decide +kernel
theorem dX5_digestHouse_1 : decode cX5_digestHouse 1 = .ok (.lstore 4, 2) := by decide +kernel
theorem dX5_digestHouse_3 : decode cX5_digestHouse 3 = .ok (.iconst 0, 1) := by decide +kernel
theorem dX5_digestHouse_4 : decode cX5_digestHouse 4 = .ok (.istore 6, 2) := by decide +kernel
theorem dX5_digestHouse_6 : decode cX5_digestHouse 6 = .ok (.iload 6, 2) := by decide +kernel
theorem dX5_digestHouse_8 : decode cX5_digestHouse 8 = .ok (.bipush 11, 2) := by decide +kernel
theorem dX5_digestHouse_10 : decode cX5_digestHouse 10 = .ok (.if_icmp .ge 26, 3) := by decide +kernel
theorem dX5_digestHouse_13 : decode cX5_digestHouse 13 = .ok (.lload 4, 2) := by decide +kernel
theorem dX5_digestHouse_15 : decode cX5_digestHouse 15 = .ok (.ldc2_w 250, 3) := by decide +kernel
theorem dX5_digestHouse_18 : decode cX5_digestHouse 18 = .ok (.lmul, 1) := by decide +kernel
theorem dX5_digestHouse_19 : decode cX5_digestHouse 19 = .ok (.aload_n 0, 1) := by decide +kernel
theorem dX5_digestHouse_20 : decode cX5_digestHouse 20 = .ok (.aload_n 3, 1) := by decide +kernel
theorem dX5_digestHouse_21 : decode cX5_digestHouse 21 = .ok (.iload 6, 2) := by decide +kernel
theorem dX5_digestHouse_23 : decode cX5_digestHouse 23 = .ok (.invokevirtual 149, 3) := by decide +kernel
theorem dX5_digestHouse_26 : decode cX5_digestHouse 26 = .ok (.i2l, 1) := by decide +kernel
theorem dX5_digestHouse_27 : decode cX5_digestHouse 27 = .ok (.ladd, 1) := by decide +kernel
theorem dX5_digestHouse_28 : decode cX5_digestHouse 28 = .ok (.lstore 4, 2) := by decide +kernel
theorem dX5_digestHouse_30 : decode cX5_digestHouse 30 = .ok (.iinc 6 1, 3) := by decide +kernel
theorem dX5_digestHouse_33 : decode cX5_digestHouse 33 = .ok (.goto (-27), 3) := by decide +kernel
theorem dX5_digestHouse_36 : decode cX5_digestHouse 36 = .ok (.aload_n 3, 1) := by decide +kernel
theorem dX5_digestHouse_37 : decode cX5_digestHouse 37 = .ok (.getfield 271, 3) := by decide +kernel
theorem dX5_digestHouse_40 : decode cX5_digestHouse 40 = .ok (.istore 6, 2) := by decide +kernel
theorem dX5_digestHouse_42 : decode cX5_digestHouse 42 = .ok (.iload 6, 2) := by decide +kernel
theorem dX5_digestHouse_44 : decode cX5_digestHouse 44 = .ok (.aload_n 3, 1) := by decide +kernel
theorem dX5_digestHouse_45 : decode cX5_digestHouse 45 = .ok (.getfield 271, 3) := by decide +kernel
theorem dX5_digestHouse_48 : decode cX5_digestHouse 48 = .ok (.aload_n 3, 1) := by decide +kernel
theorem dX5_digestHouse_49 : decode cX5_digestHouse 49 = .ok (.getfield 272, 3) := by decide +kernel
theorem dX5_digestHouse_52 : decode cX5_digestHouse 52 = .ok (.iadd, 1) := by decide +kernel
theorem dX5_digestHouse_53 : decode cX5_digestHouse 53 = .ok (.if_icmp .ge 57, 3) := by decide +kernel
theorem dX5_digestHouse_56 : decode cX5_digestHouse 56 = .ok (.aload_n 3, 1) := by decide +kernel
theorem dX5_digestHouse_57 : decode cX5_digestHouse 57 = .ok (.getfield 275, 3) := by decide +kernel
theorem dX5_digestHouse_60 : decode cX5_digestHouse 60 = .ok (.istore 7, 2) := by decide +kernel
theorem dX5_digestHouse_62 : decode cX5_digestHouse 62 = .ok (.iload 7, 2) := by decide +kernel
theorem dX5_digestHouse_64 : decode cX5_digestHouse 64 = .ok (.aload_n 3, 1) := by decide +kernel
theorem dX5_digestHouse_65 : decode cX5_digestHouse 65 = .ok (.getfield 275, 3) := by decide +kernel
theorem dX5_digestHouse_68 : decode cX5_digestHouse 68 = .ok (.aload_n 3, 1) := by decide +kernel
theorem dX5_digestHouse_69 : decode cX5_digestHouse 69 = .ok (.getfield 278, 3) := by decide +kernel
theorem dX5_digestHouse_72 : decode cX5_digestHouse 72 = .ok (.iadd, 1) := by decide +kernel
theorem dX5_digestHouse_73 : decode cX5_digestHouse 73 = .ok (.if_icmp .ge 31, 3) := by decide +kernel
theorem dX5_digestHouse_76 : decode cX5_digestHouse 76 = .ok (.lload 4, 2) := by decide +kernel
theorem dX5_digestHouse_78 : decode cX5_digestHouse 78 = .ok (.ldc2_w 250, 3) := by decide +kernel
theorem dX5_digestHouse_81 : decode cX5_digestHouse 81 = .ok (.lmul, 1) := by decide +kernel
theorem dX5_digestHouse_82 : decode cX5_digestHouse 82 = .ok (.aload_n 0, 1) := by decide +kernel
theorem dX5_digestHouse_83 : decode cX5_digestHouse 83 = .ok (.getfield 22, 3) := by decide +kernel
theorem dX5_digestHouse_86 : decode cX5_digestHouse 86 = .ok (.iload 7, 2) := by decide +kernel
theorem dX5_digestHouse_88 : decode cX5_digestHouse 88 = .ok (.iload 6, 2) := by decide +kernel
theorem dX5_digestHouse_90 : decode cX5_digestHouse 90 = .ok (.invokestatic 158, 3) := by decide +kernel
theorem dX5_digestHouse_93 : decode cX5_digestHouse 93 = .ok (.iaload, 1) := by decide +kernel
theorem dX5_digestHouse_94 : decode cX5_digestHouse 94 = .ok (.i2l, 1) := by decide +kernel
theorem dX5_digestHouse_95 : decode cX5_digestHouse 95 = .ok (.ladd, 1) := by decide +kernel
theorem dX5_digestHouse_96 : decode cX5_digestHouse 96 = .ok (.lstore 4, 2) := by decide +kernel
theorem dX5_digestHouse_98 : decode cX5_digestHouse 98 = .ok (.iinc 7 1, 3) := by decide +kernel
theorem dX5_digestHouse_101 : decode cX5_digestHouse 101 = .ok (.goto (-39), 3) := by decide +kernel
theorem dX5_digestHouse_104 : decode cX5_digestHouse 104 = .ok (.iinc 6 1, 3) := by decide +kernel
theorem dX5_digestHouse_107 : decode cX5_digestHouse 107 = .ok (.goto (-65), 3) := by decide +kernel
theorem dX5_digestHouse_110 : decode cX5_digestHouse 110 = .ok (.lload 4, 2) := by decide +kernel
theorem dX5_digestHouse_112 : decode cX5_digestHouse 112 = .ok (.lreturn, 1) := by decide +kernel
theorem dX5_takePremium_0 : decode cX5_takePremium 0 = .ok (.aload_n 0, 1) := by decide +kernel
theorem dX5_takePremium_1 : decode cX5_takePremium 1 = .ok (.getfield 10, 3) := by decide +kernel
theorem dX5_takePremium_4 : decode cX5_takePremium 4 = .ok (.iload_n 1, 1) := by decide +kernel
theorem dX5_takePremium_5 : decode cX5_takePremium 5 = .ok (.invokeinterface 101 2, 5) := by decide +kernel
theorem dX5_takePremium_10 : decode cX5_takePremium 10 = .ok (.checkcast 61, 3) := by decide +kernel
theorem dX5_takePremium_13 : decode cX5_takePremium 13 = .ok (.astore_n 2, 1) := by decide +kernel
theorem dX5_takePremium_14 : decode cX5_takePremium 14 = .ok (.aload_n 2, 1) := by decide +kernel
theorem dX5_takePremium_15 : decode cX5_takePremium 15 = .ok (.aload_n 0, 1) := by decide +kernel
theorem dX5_takePremium_16 : decode cX5_takePremium 16 = .ok (.iload_n 1, 1) := by decide +kernel
theorem dX5_takePremium_17 : decode cX5_takePremium 17 = .ok (.invokevirtual 302, 3) := by decide +kernel
theorem dX5_takePremium_20 : decode cX5_takePremium 20 = .ok (.invokevirtual 336, 3) := by decide +kernel
theorem dX5_takePremium_23 : decode cX5_takePremium 23 = .ok (.istore_n 3, 1) := by decide +kernel
theorem dX5_takePremium_24 : decode cX5_takePremium 24 = .ok (.aload_n 2, 1) := by decide +kernel
theorem dX5_takePremium_25 : decode cX5_takePremium 25 = .ok (.dup, 1) := by decide +kernel
theorem dX5_takePremium_26 : decode cX5_takePremium 26 = .ok (.getfield 136, 3) := by decide +kernel
theorem dX5_takePremium_29 : decode cX5_takePremium 29 = .ok (.iload_n 3, 1) := by decide +kernel
theorem dX5_takePremium_30 : decode cX5_takePremium 30 = .ok (.isub, 1) := by decide +kernel
theorem dX5_takePremium_31 : decode cX5_takePremium 31 = .ok (.putfield 136, 3) := by decide +kernel
theorem dX5_takePremium_34 : decode cX5_takePremium 34 = .ok (.aload_n 0, 1) := by decide +kernel
theorem dX5_takePremium_35 : decode cX5_takePremium 35 = .ok (.dup, 1) := by decide +kernel
theorem dX5_takePremium_36 : decode cX5_takePremium 36 = .ok (.getfield 163, 3) := by decide +kernel
theorem dX5_takePremium_39 : decode cX5_takePremium 39 = .ok (.iload_n 3, 1) := by decide +kernel
theorem dX5_takePremium_40 : decode cX5_takePremium 40 = .ok (.iadd, 1) := by decide +kernel
theorem dX5_takePremium_41 : decode cX5_takePremium 41 = .ok (.putfield 163, 3) := by decide +kernel
theorem dX5_takePremium_44 : decode cX5_takePremium 44 = .ok (.aload_n 2, 1) := by decide +kernel
theorem dX5_takePremium_45 : decode cX5_takePremium 45 = .ok (.invokevirtual 339, 3) := by decide +kernel
theorem dX5_takePremium_48 : decode cX5_takePremium 48 = .ok (.iload_n 3, 1) := by decide +kernel
theorem dX5_takePremium_49 : decode cX5_takePremium 49 = .ok (.ireturn, 1) := by decide +kernel
theorem dX5_payDebts_0 : decode cX5_payDebts 0 = .ok (.iconst 0, 1) := by decide +kernel
theorem dX5_payDebts_1 : decode cX5_payDebts 1 = .ok (.istore_n 1, 1) := by decide +kernel
theorem dX5_payDebts_2 : decode cX5_payDebts 2 = .ok (.iload_n 1, 1) := by decide +kernel
theorem dX5_payDebts_3 : decode cX5_payDebts 3 = .ok (.aload_n 0, 1) := by decide +kernel
theorem dX5_payDebts_4 : decode cX5_payDebts 4 = .ok (.getfield 10, 3) := by decide +kernel
theorem dX5_payDebts_7 : decode cX5_payDebts 7 = .ok (.invokeinterface 50 1, 5) := by decide +kernel
theorem dX5_payDebts_12 : decode cX5_payDebts 12 = .ok (.if_icmp .ge 65, 3) := by decide +kernel
theorem dX5_payDebts_15 : decode cX5_payDebts 15 = .ok (.aload_n 0, 1) := by decide +kernel
theorem dX5_payDebts_16 : decode cX5_payDebts 16 = .ok (.getfield 10, 3) := by decide +kernel
theorem dX5_payDebts_19 : decode cX5_payDebts 19 = .ok (.iload_n 1, 1) := by decide +kernel
theorem dX5_payDebts_20 : decode cX5_payDebts 20 = .ok (.invokeinterface 101 2, 5) := by decide +kernel
theorem dX5_payDebts_25 : decode cX5_payDebts 25 = .ok (.checkcast 61, 3) := by decide +kernel
theorem dX5_payDebts_28 : decode cX5_payDebts 28 = .ok (.astore_n 2, 1) := by decide +kernel
theorem dX5_payDebts_29 : decode cX5_payDebts 29 = .ok (.aload_n 2, 1) := by decide +kernel
theorem dX5_payDebts_30 : decode cX5_payDebts 30 = .ok (.getfield 296, 3) := by decide +kernel
theorem dX5_payDebts_33 : decode cX5_payDebts 33 = .ok (.aload_n 0, 1) := by decide +kernel
theorem dX5_payDebts_34 : decode cX5_payDebts 34 = .ok (.getfield 163, 3) := by decide +kernel
theorem dX5_payDebts_37 : decode cX5_payDebts 37 = .ok (.invokestatic 342, 3) := by decide +kernel
theorem dX5_payDebts_40 : decode cX5_payDebts 40 = .ok (.istore_n 3, 1) := by decide +kernel
theorem dX5_payDebts_41 : decode cX5_payDebts 41 = .ok (.aload_n 0, 1) := by decide +kernel
theorem dX5_payDebts_42 : decode cX5_payDebts 42 = .ok (.dup, 1) := by decide +kernel
theorem dX5_payDebts_43 : decode cX5_payDebts 43 = .ok (.getfield 163, 3) := by decide +kernel
theorem dX5_payDebts_46 : decode cX5_payDebts 46 = .ok (.iload_n 3, 1) := by decide +kernel
theorem dX5_payDebts_47 : decode cX5_payDebts 47 = .ok (.isub, 1) := by decide +kernel
theorem dX5_payDebts_48 : decode cX5_payDebts 48 = .ok (.putfield 163, 3) := by decide +kernel
theorem dX5_payDebts_51 : decode cX5_payDebts 51 = .ok (.aload_n 2, 1) := by decide +kernel
theorem dX5_payDebts_52 : decode cX5_payDebts 52 = .ok (.dup, 1) := by decide +kernel
theorem dX5_payDebts_53 : decode cX5_payDebts 53 = .ok (.getfield 136, 3) := by decide +kernel
theorem dX5_payDebts_56 : decode cX5_payDebts 56 = .ok (.iload_n 3, 1) := by decide +kernel
theorem dX5_payDebts_57 : decode cX5_payDebts 57 = .ok (.iadd, 1) := by decide +kernel
theorem dX5_payDebts_58 : decode cX5_payDebts 58 = .ok (.putfield 136, 3) := by decide +kernel
theorem dX5_payDebts_61 : decode cX5_payDebts 61 = .ok (.aload_n 2, 1) := by decide +kernel
theorem dX5_payDebts_62 : decode cX5_payDebts 62 = .ok (.dup, 1) := by decide +kernel
theorem dX5_payDebts_63 : decode cX5_payDebts 63 = .ok (.getfield 296, 3) := by decide +kernel
theorem dX5_payDebts_66 : decode cX5_payDebts 66 = .ok (.iload_n 3, 1) := by decide +kernel
theorem dX5_payDebts_67 : decode cX5_payDebts 67 = .ok (.isub, 1) := by decide +kernel
theorem dX5_payDebts_68 : decode cX5_payDebts 68 = .ok (.putfield 296, 3) := by decide +kernel
theorem dX5_payDebts_71 : decode cX5_payDebts 71 = .ok (.iinc 1 1, 3) := by decide +kernel
theorem dX5_payDebts_74 : decode cX5_payDebts 74 = .ok (.goto (-72), 3) := by decide +kernel
theorem dX5_payDebts_77 : decode cX5_payDebts 77 = .ok (.return_, 1) := by decide +kernel
theorem dX5_beginYear_0 : decode cX5_beginYear 0 = .ok (.iconst 0, 1) := by decide +kernel
theorem dX5_beginYear_1 : decode cX5_beginYear 1 = .ok (.istore_n 1, 1) := by decide +kernel
theorem dX5_beginYear_2 : decode cX5_beginYear 2 = .ok (.iload_n 1, 1) := by decide +kernel
theorem dX5_beginYear_3 : decode cX5_beginYear 3 = .ok (.aload_n 0, 1) := by decide +kernel
theorem dX5_beginYear_4 : decode cX5_beginYear 4 = .ok (.getfield 10, 3) := by decide +kernel
theorem dX5_beginYear_7 : decode cX5_beginYear 7 = .ok (.invokeinterface 50 1, 5) := by decide +kernel
theorem dX5_beginYear_12 : decode cX5_beginYear 12 = .ok (.if_icmp .ge 26, 3) := by decide +kernel
theorem dX5_beginYear_15 : decode cX5_beginYear 15 = .ok (.aload_n 0, 1) := by decide +kernel
theorem dX5_beginYear_16 : decode cX5_beginYear 16 = .ok (.getfield 10, 3) := by decide +kernel
theorem dX5_beginYear_19 : decode cX5_beginYear 19 = .ok (.iload_n 1, 1) := by decide +kernel
theorem dX5_beginYear_20 : decode cX5_beginYear 20 = .ok (.invokeinterface 101 2, 5) := by decide +kernel
theorem dX5_beginYear_25 : decode cX5_beginYear 25 = .ok (.checkcast 61, 3) := by decide +kernel
theorem dX5_beginYear_28 : decode cX5_beginYear 28 = .ok (.iconst 0, 1) := by decide +kernel
theorem dX5_beginYear_29 : decode cX5_beginYear 29 = .ok (.putfield 293, 3) := by decide +kernel
theorem dX5_beginYear_32 : decode cX5_beginYear 32 = .ok (.iinc 1 1, 3) := by decide +kernel
theorem dX5_beginYear_35 : decode cX5_beginYear 35 = .ok (.goto (-33), 3) := by decide +kernel
theorem dX5_beginYear_38 : decode cX5_beginYear 38 = .ok (.iconst 0, 1) := by decide +kernel
theorem dX5_beginYear_39 : decode cX5_beginYear 39 = .ok (.istore_n 1, 1) := by decide +kernel
theorem dX5_beginYear_40 : decode cX5_beginYear 40 = .ok (.iload_n 1, 1) := by decide +kernel
theorem dX5_beginYear_41 : decode cX5_beginYear 41 = .ok (.aload_n 0, 1) := by decide +kernel
theorem dX5_beginYear_42 : decode cX5_beginYear 42 = .ok (.getfield 19, 3) := by decide +kernel
theorem dX5_beginYear_45 : decode cX5_beginYear 45 = .ok (.invokeinterface 50 1, 5) := by decide +kernel
theorem dX5_beginYear_50 : decode cX5_beginYear 50 = .ok (.if_icmp .ge 33, 3) := by decide +kernel
theorem dX5_beginYear_53 : decode cX5_beginYear 53 = .ok (.aload_n 0, 1) := by decide +kernel
theorem dX5_beginYear_54 : decode cX5_beginYear 54 = .ok (.getfield 19, 3) := by decide +kernel
theorem dX5_beginYear_57 : decode cX5_beginYear 57 = .ok (.iload_n 1, 1) := by decide +kernel
theorem dX5_beginYear_58 : decode cX5_beginYear 58 = .ok (.invokeinterface 101 2, 5) := by decide +kernel
theorem dX5_beginYear_63 : decode cX5_beginYear 63 = .ok (.checkcast 175, 3) := by decide +kernel
theorem dX5_beginYear_66 : decode cX5_beginYear 66 = .ok (.astore_n 2, 1) := by decide +kernel
theorem dX5_beginYear_67 : decode cX5_beginYear 67 = .ok (.aload_n 2, 1) := by decide +kernel
theorem dX5_beginYear_68 : decode cX5_beginYear 68 = .ok (.iconst 2, 1) := by decide +kernel
theorem dX5_beginYear_69 : decode cX5_beginYear 69 = .ok (.aload_n 2, 1) := by decide +kernel
theorem dX5_beginYear_70 : decode cX5_beginYear 70 = .ok (.getfield 314, 3) := by decide +kernel
theorem dX5_beginYear_73 : decode cX5_beginYear 73 = .ok (.imul, 1) := by decide +kernel
theorem dX5_beginYear_74 : decode cX5_beginYear 74 = .ok (.putfield 318, 3) := by decide +kernel
theorem dX5_beginYear_77 : decode cX5_beginYear 77 = .ok (.iinc 1 1, 3) := by decide +kernel
theorem dX5_beginYear_80 : decode cX5_beginYear 80 = .ok (.goto (-40), 3) := by decide +kernel
theorem dX5_beginYear_83 : decode cX5_beginYear 83 = .ok (.aload_n 0, 1) := by decide +kernel
theorem dX5_beginYear_84 : decode cX5_beginYear 84 = .ok (.iconst 0, 1) := by decide +kernel
theorem dX5_beginYear_85 : decode cX5_beginYear 85 = .ok (.putfield 209, 3) := by decide +kernel
theorem dX5_beginYear_88 : decode cX5_beginYear 88 = .ok (.return_, 1) := by decide +kernel
theorem dX5_westStorm_0 : decode cX5_westStorm 0 = .ok (.new 202, 3) := by decide +kernel
theorem dX5_westStorm_3 : decode cX5_westStorm 3 = .ok (.dup, 1) := by decide +kernel
theorem dX5_westStorm_4 : decode cX5_westStorm 4 = .ok (.iconst 0, 1) := by decide +kernel
theorem dX5_westStorm_5 : decode cX5_westStorm 5 = .ok (.iload_n 0, 1) := by decide +kernel
theorem dX5_westStorm_6 : decode cX5_westStorm 6 = .ok (.iconst 2, 1) := by decide +kernel
theorem dX5_westStorm_7 : decode cX5_westStorm 7 = .ok (.iconst 0, 1) := by decide +kernel
theorem dX5_westStorm_8 : decode cX5_westStorm 8 = .ok (.iload_n 1, 1) := by decide +kernel
theorem dX5_westStorm_9 : decode cX5_westStorm 9 = .ok (.iload_n 2, 1) := by decide +kernel
theorem dX5_westStorm_10 : decode cX5_westStorm 10 = .ok (.bipush 12, 2) := by decide +kernel
theorem dX5_westStorm_12 : decode cX5_westStorm 12 = .ok (.invokespecial 204, 3) := by decide +kernel
theorem dX5_westStorm_15 : decode cX5_westStorm 15 = .ok (.areturn, 1) := by decide +kernel
theorem dX5_tryStorm_0 : decode cX5_tryStorm 0 = .ok (.aload_n 0, 1) := by decide +kernel
theorem dX5_tryStorm_1 : decode cX5_tryStorm 1 = .ok (.aload_n 1, 1) := by decide +kernel
theorem dX5_tryStorm_2 : decode cX5_tryStorm 2 = .ok (.invokevirtual 347, 3) := by decide +kernel
theorem dX5_tryStorm_5 : decode cX5_tryStorm 5 = .ok (.aload_n 0, 1) := by decide +kernel
theorem dX5_tryStorm_6 : decode cX5_tryStorm 6 = .ok (.invokevirtual 350, 3) := by decide +kernel
theorem dX5_tryStorm_9 : decode cX5_tryStorm 9 = .ok (.aload_n 0, 1) := by decide +kernel
theorem dX5_tryStorm_10 : decode cX5_tryStorm 10 = .ok (.invokevirtual 353, 3) := by decide +kernel
theorem dX5_tryStorm_13 : decode cX5_tryStorm 13 = .ok (.aload_n 0, 1) := by decide +kernel
theorem dX5_tryStorm_14 : decode cX5_tryStorm 14 = .ok (.invokevirtual 356, 3) := by decide +kernel
theorem dX5_tryStorm_17 : decode cX5_tryStorm 17 = .ok (.return_, 1) := by decide +kernel
theorem dX5_damageOf_0 : decode cX5_damageOf 0 = .ok (.aload_n 0, 1) := by decide +kernel
theorem dX5_damageOf_1 : decode cX5_damageOf 1 = .ok (.aload_n 1, 1) := by decide +kernel
theorem dX5_damageOf_2 : decode cX5_damageOf 2 = .ok (.invokevirtual 347, 3) := by decide +kernel
theorem dX5_damageOf_5 : decode cX5_damageOf 5 = .ok (.aload_n 0, 1) := by decide +kernel
theorem dX5_damageOf_6 : decode cX5_damageOf 6 = .ok (.getfield 34, 3) := by decide +kernel
theorem dX5_damageOf_9 : decode cX5_damageOf 9 = .ok (.getfield 220, 3) := by decide +kernel
theorem dX5_damageOf_12 : decode cX5_damageOf 12 = .ok (.iconst 2, 1) := by decide +kernel
theorem dX5_damageOf_13 : decode cX5_damageOf 13 = .ok (.iaload, 1) := by decide +kernel
theorem dX5_damageOf_14 : decode cX5_damageOf 14 = .ok (.ireturn, 1) := by decide +kernel
theorem dX5_damageWithNet_0 : decode cX5_damageWithNet 0 = .ok (.aload_n 1, 1) := by decide +kernel
theorem dX5_damageWithNet_1 : decode cX5_damageWithNet 1 = .ok (.iconst 1, 1) := by decide +kernel
theorem dX5_damageWithNet_2 : decode cX5_damageWithNet 2 = .ok (.putfield 105, 3) := by decide +kernel
theorem dX5_damageWithNet_5 : decode cX5_damageWithNet 5 = .ok (.aload_n 0, 1) := by decide +kernel
theorem dX5_damageWithNet_6 : decode cX5_damageWithNet 6 = .ok (.aload_n 2, 1) := by decide +kernel
theorem dX5_damageWithNet_7 : decode cX5_damageWithNet 7 = .ok (.invokevirtual 234, 3) := by decide +kernel
theorem dX5_damageWithNet_10 : decode cX5_damageWithNet 10 = .ok (.istore_n 3, 1) := by decide +kernel
theorem dX5_damageWithNet_11 : decode cX5_damageWithNet 11 = .ok (.aload_n 1, 1) := by decide +kernel
theorem dX5_damageWithNet_12 : decode cX5_damageWithNet 12 = .ok (.iconst 0, 1) := by decide +kernel
theorem dX5_damageWithNet_13 : decode cX5_damageWithNet 13 = .ok (.putfield 105, 3) := by decide +kernel
theorem dX5_damageWithNet_16 : decode cX5_damageWithNet 16 = .ok (.iload_n 3, 1) := by decide +kernel
theorem dX5_damageWithNet_17 : decode cX5_damageWithNet 17 = .ok (.ireturn, 1) := by decide +kernel
theorem dX5_blow_0 : decode cX5_blow 0 = .ok (.aload_n 0, 1) := by decide +kernel
theorem dX5_blow_1 : decode cX5_blow 1 = .ok (.getfield 34, 3) := by decide +kernel
theorem dX5_blow_4 : decode cX5_blow 4 = .ok (.aload_n 0, 1) := by decide +kernel
theorem dX5_blow_5 : decode cX5_blow 5 = .ok (.getfield 22, 3) := by decide +kernel
theorem dX5_blow_8 : decode cX5_blow 8 = .ok (.invokevirtual 359, 3) := by decide +kernel
theorem dX5_blow_11 : decode cX5_blow 11 = .ok (.iconst 0, 1) := by decide +kernel
theorem dX5_blow_12 : decode cX5_blow 12 = .ok (.istore_n 2, 1) := by decide +kernel
theorem dX5_blow_13 : decode cX5_blow 13 = .ok (.iload_n 2, 1) := by decide +kernel
theorem dX5_blow_14 : decode cX5_blow 14 = .ok (.aload_n 1, 1) := by decide +kernel
theorem dX5_blow_15 : decode cX5_blow 15 = .ok (.getfield 363, 3) := by decide +kernel
theorem dX5_blow_18 : decode cX5_blow 18 = .ok (.if_icmp .ge 79, 3) := by decide +kernel
theorem dX5_blow_21 : decode cX5_blow 21 = .ok (.aload_n 1, 1) := by decide +kernel
theorem dX5_blow_22 : decode cX5_blow 22 = .ok (.getfield 366, 3) := by decide +kernel
theorem dX5_blow_25 : decode cX5_blow 25 = .ok (.iload_n 2, 1) := by decide +kernel
theorem dX5_blow_26 : decode cX5_blow 26 = .ok (.aload_n 1, 1) := by decide +kernel
theorem dX5_blow_27 : decode cX5_blow 27 = .ok (.getfield 367, 3) := by decide +kernel
theorem dX5_blow_30 : decode cX5_blow 30 = .ok (.imul, 1) := by decide +kernel
theorem dX5_blow_31 : decode cX5_blow 31 = .ok (.iadd, 1) := by decide +kernel
theorem dX5_blow_32 : decode cX5_blow 32 = .ok (.istore_n 3, 1) := by decide +kernel
theorem dX5_blow_33 : decode cX5_blow 33 = .ok (.aload_n 1, 1) := by decide +kernel
theorem dX5_blow_34 : decode cX5_blow 34 = .ok (.getfield 229, 3) := by decide +kernel
theorem dX5_blow_37 : decode cX5_blow 37 = .ok (.iload_n 2, 1) := by decide +kernel
theorem dX5_blow_38 : decode cX5_blow 38 = .ok (.aload_n 1, 1) := by decide +kernel
theorem dX5_blow_39 : decode cX5_blow 39 = .ok (.getfield 370, 3) := by decide +kernel
theorem dX5_blow_42 : decode cX5_blow 42 = .ok (.imul, 1) := by decide +kernel
theorem dX5_blow_43 : decode cX5_blow 43 = .ok (.iadd, 1) := by decide +kernel
theorem dX5_blow_44 : decode cX5_blow 44 = .ok (.istore 4, 2) := by decide +kernel
theorem dX5_blow_46 : decode cX5_blow 46 = .ok (.iconst 0, 1) := by decide +kernel
theorem dX5_blow_47 : decode cX5_blow 47 = .ok (.istore 5, 2) := by decide +kernel
theorem dX5_blow_49 : decode cX5_blow 49 = .ok (.iload 5, 2) := by decide +kernel
theorem dX5_blow_51 : decode cX5_blow 51 = .ok (.aload_n 0, 1) := by decide +kernel
theorem dX5_blow_52 : decode cX5_blow 52 = .ok (.getfield 16, 3) := by decide +kernel
theorem dX5_blow_55 : decode cX5_blow 55 = .ok (.invokeinterface 50 1, 5) := by decide +kernel
theorem dX5_blow_60 : decode cX5_blow 60 = .ok (.if_icmp .ge 31, 3) := by decide +kernel
theorem dX5_blow_63 : decode cX5_blow 63 = .ok (.aload_n 0, 1) := by decide +kernel
theorem dX5_blow_64 : decode cX5_blow 64 = .ok (.aload_n 0, 1) := by decide +kernel
theorem dX5_blow_65 : decode cX5_blow 65 = .ok (.getfield 16, 3) := by decide +kernel
theorem dX5_blow_68 : decode cX5_blow 68 = .ok (.iload 5, 2) := by decide +kernel
theorem dX5_blow_70 : decode cX5_blow 70 = .ok (.invokeinterface 101 2, 5) := by decide +kernel
theorem dX5_blow_75 : decode cX5_blow 75 = .ok (.checkcast 89, 3) := by decide +kernel
theorem dX5_blow_78 : decode cX5_blow 78 = .ok (.aload_n 1, 1) := by decide +kernel
theorem dX5_blow_79 : decode cX5_blow 79 = .ok (.iload_n 3, 1) := by decide +kernel
theorem dX5_blow_80 : decode cX5_blow 80 = .ok (.iload 4, 2) := by decide +kernel
theorem dX5_blow_82 : decode cX5_blow 82 = .ok (.invokevirtual 373, 3) := by decide +kernel
theorem dX5_blow_85 : decode cX5_blow 85 = .ok (.iinc 5 1, 3) := by decide +kernel
theorem dX5_blow_88 : decode cX5_blow 88 = .ok (.goto (-39), 3) := by decide +kernel
theorem dX5_blow_91 : decode cX5_blow 91 = .ok (.iinc 2 1, 3) := by decide +kernel
theorem dX5_blow_94 : decode cX5_blow 94 = .ok (.goto (-81), 3) := by decide +kernel
theorem dX5_blow_97 : decode cX5_blow 97 = .ok (.return_, 1) := by decide +kernel
theorem dX5_hitHouse_0 : decode cX5_hitHouse 0 = .ok (.aload_n 1, 1) := by decide +kernel
theorem dX5_hitHouse_1 : decode cX5_hitHouse 1 = .ok (.getfield 275, 3) := by decide +kernel
theorem dX5_hitHouse_4 : decode cX5_hitHouse 4 = .ok (.iload_n 3, 1) := by decide +kernel
theorem dX5_hitHouse_5 : decode cX5_hitHouse 5 = .ok (.aload_n 2, 1) := by decide +kernel
theorem dX5_hitHouse_6 : decode cX5_hitHouse 6 = .ok (.getfield 377, 3) := by decide +kernel
theorem dX5_hitHouse_9 : decode cX5_hitHouse 9 = .ok (.isub, 1) := by decide +kernel
theorem dX5_hitHouse_10 : decode cX5_hitHouse 10 = .ok (.invokestatic 380, 3) := by decide +kernel
theorem dX5_hitHouse_13 : decode cX5_hitHouse 13 = .ok (.istore 5, 2) := by decide +kernel
theorem dX5_hitHouse_15 : decode cX5_hitHouse 15 = .ok (.aload_n 1, 1) := by decide +kernel
theorem dX5_hitHouse_16 : decode cX5_hitHouse 16 = .ok (.getfield 275, 3) := by decide +kernel
theorem dX5_hitHouse_19 : decode cX5_hitHouse 19 = .ok (.aload_n 1, 1) := by decide +kernel
theorem dX5_hitHouse_20 : decode cX5_hitHouse 20 = .ok (.getfield 278, 3) := by decide +kernel
theorem dX5_hitHouse_23 : decode cX5_hitHouse 23 = .ok (.iadd, 1) := by decide +kernel
theorem dX5_hitHouse_24 : decode cX5_hitHouse 24 = .ok (.iconst 1, 1) := by decide +kernel
theorem dX5_hitHouse_25 : decode cX5_hitHouse 25 = .ok (.isub, 1) := by decide +kernel
theorem dX5_hitHouse_26 : decode cX5_hitHouse 26 = .ok (.iload_n 3, 1) := by decide +kernel
theorem dX5_hitHouse_27 : decode cX5_hitHouse 27 = .ok (.aload_n 2, 1) := by decide +kernel
theorem dX5_hitHouse_28 : decode cX5_hitHouse 28 = .ok (.getfield 377, 3) := by decide +kernel
theorem dX5_hitHouse_31 : decode cX5_hitHouse 31 = .ok (.iadd, 1) := by decide +kernel
theorem dX5_hitHouse_32 : decode cX5_hitHouse 32 = .ok (.invokestatic 342, 3) := by decide +kernel
theorem dX5_hitHouse_35 : decode cX5_hitHouse 35 = .ok (.istore 6, 2) := by decide +kernel
theorem dX5_hitHouse_37 : decode cX5_hitHouse 37 = .ok (.aload_n 1, 1) := by decide +kernel
theorem dX5_hitHouse_38 : decode cX5_hitHouse 38 = .ok (.getfield 271, 3) := by decide +kernel
theorem dX5_hitHouse_41 : decode cX5_hitHouse 41 = .ok (.iload 4, 2) := by decide +kernel
theorem dX5_hitHouse_43 : decode cX5_hitHouse 43 = .ok (.aload_n 2, 1) := by decide +kernel
theorem dX5_hitHouse_44 : decode cX5_hitHouse 44 = .ok (.getfield 377, 3) := by decide +kernel
theorem dX5_hitHouse_47 : decode cX5_hitHouse 47 = .ok (.isub, 1) := by decide +kernel
theorem dX5_hitHouse_48 : decode cX5_hitHouse 48 = .ok (.invokestatic 380, 3) := by decide +kernel
theorem dX5_hitHouse_51 : decode cX5_hitHouse 51 = .ok (.istore 7, 2) := by decide +kernel
theorem dX5_hitHouse_53 : decode cX5_hitHouse 53 = .ok (.aload_n 1, 1) := by decide +kernel
theorem dX5_hitHouse_54 : decode cX5_hitHouse 54 = .ok (.getfield 271, 3) := by decide +kernel
theorem dX5_hitHouse_57 : decode cX5_hitHouse 57 = .ok (.aload_n 1, 1) := by decide +kernel
theorem dX5_hitHouse_58 : decode cX5_hitHouse 58 = .ok (.getfield 272, 3) := by decide +kernel
theorem dX5_hitHouse_61 : decode cX5_hitHouse 61 = .ok (.iadd, 1) := by decide +kernel
theorem dX5_hitHouse_62 : decode cX5_hitHouse 62 = .ok (.iconst 1, 1) := by decide +kernel
theorem dX5_hitHouse_63 : decode cX5_hitHouse 63 = .ok (.isub, 1) := by decide +kernel
theorem dX5_hitHouse_64 : decode cX5_hitHouse 64 = .ok (.iload 4, 2) := by decide +kernel
theorem dX5_hitHouse_66 : decode cX5_hitHouse 66 = .ok (.aload_n 2, 1) := by decide +kernel
theorem dX5_hitHouse_67 : decode cX5_hitHouse 67 = .ok (.getfield 377, 3) := by decide +kernel
theorem dX5_hitHouse_70 : decode cX5_hitHouse 70 = .ok (.iadd, 1) := by decide +kernel
theorem dX5_hitHouse_71 : decode cX5_hitHouse 71 = .ok (.invokestatic 342, 3) := by decide +kernel
theorem dX5_hitHouse_74 : decode cX5_hitHouse 74 = .ok (.istore 8, 2) := by decide +kernel
theorem dX5_hitHouse_76 : decode cX5_hitHouse 76 = .ok (.aload_n 1, 1) := by decide +kernel
theorem dX5_hitHouse_77 : decode cX5_hitHouse 77 = .ok (.getfield 105, 3) := by decide +kernel
theorem dX5_hitHouse_80 : decode cX5_hitHouse 80 = .ok (.ifCond .eq 12, 3) := by decide +kernel
theorem dX5_hitHouse_83 : decode cX5_hitHouse 83 = .ok (.aload_n 2, 1) := by decide +kernel
theorem dX5_hitHouse_84 : decode cX5_hitHouse 84 = .ok (.getfield 383, 3) := by decide +kernel
theorem dX5_hitHouse_87 : decode cX5_hitHouse 87 = .ok (.iconst 5, 1) := by decide +kernel
theorem dX5_hitHouse_88 : decode cX5_hitHouse 88 = .ok (.isub, 1) := by decide +kernel
theorem dX5_hitHouse_89 : decode cX5_hitHouse 89 = .ok (.goto 7, 3) := by decide +kernel
theorem dX5_hitHouse_92 : decode cX5_hitHouse 92 = .ok (.aload_n 2, 1) := by decide +kernel
theorem dX5_hitHouse_93 : decode cX5_hitHouse 93 = .ok (.getfield 383, 3) := by decide +kernel
theorem dX5_hitHouse_96 : decode cX5_hitHouse 96 = .ok (.istore 9, 2) := by decide +kernel
theorem dX5_hitHouse_98 : decode cX5_hitHouse 98 = .ok (.iload 7, 2) := by decide +kernel
theorem dX5_hitHouse_100 : decode cX5_hitHouse 100 = .ok (.istore 10, 2) := by decide +kernel
theorem dX5_hitHouse_102 : decode cX5_hitHouse 102 = .ok (.iload 10, 2) := by decide +kernel
theorem dX5_hitHouse_104 : decode cX5_hitHouse 104 = .ok (.iload 8, 2) := by decide +kernel
theorem dX5_hitHouse_106 : decode cX5_hitHouse 106 = .ok (.if_icmp .gt 68, 3) := by decide +kernel
theorem dX5_hitHouse_109 : decode cX5_hitHouse 109 = .ok (.iload 5, 2) := by decide +kernel
theorem dX5_hitHouse_111 : decode cX5_hitHouse 111 = .ok (.istore 11, 2) := by decide +kernel
theorem dX5_hitHouse_113 : decode cX5_hitHouse 113 = .ok (.iload 11, 2) := by decide +kernel
theorem dX5_hitHouse_115 : decode cX5_hitHouse 115 = .ok (.iload 6, 2) := by decide +kernel
theorem dX5_hitHouse_117 : decode cX5_hitHouse 117 = .ok (.if_icmp .gt 51, 3) := by decide +kernel
theorem dX5_hitHouse_120 : decode cX5_hitHouse 120 = .ok (.iload 11, 2) := by decide +kernel
theorem dX5_hitHouse_122 : decode cX5_hitHouse 122 = .ok (.iload_n 3, 1) := by decide +kernel
theorem dX5_hitHouse_123 : decode cX5_hitHouse 123 = .ok (.isub, 1) := by decide +kernel
theorem dX5_hitHouse_124 : decode cX5_hitHouse 124 = .ok (.invokestatic 386, 3) := by decide +kernel
theorem dX5_hitHouse_127 : decode cX5_hitHouse 127 = .ok (.iload 10, 2) := by decide +kernel
theorem dX5_hitHouse_129 : decode cX5_hitHouse 129 = .ok (.iload 4, 2) := by decide +kernel
theorem dX5_hitHouse_131 : decode cX5_hitHouse 131 = .ok (.isub, 1) := by decide +kernel
theorem dX5_hitHouse_132 : decode cX5_hitHouse 132 = .ok (.invokestatic 386, 3) := by decide +kernel
theorem dX5_hitHouse_135 : decode cX5_hitHouse 135 = .ok (.invokestatic 380, 3) := by decide +kernel
theorem dX5_hitHouse_138 : decode cX5_hitHouse 138 = .ok (.istore 12, 2) := by decide +kernel
theorem dX5_hitHouse_140 : decode cX5_hitHouse 140 = .ok (.aload_n 0, 1) := by decide +kernel
theorem dX5_hitHouse_141 : decode cX5_hitHouse 141 = .ok (.getfield 34, 3) := by decide +kernel
theorem dX5_hitHouse_144 : decode cX5_hitHouse 144 = .ok (.aload_n 1, 1) := by decide +kernel
theorem dX5_hitHouse_145 : decode cX5_hitHouse 145 = .ok (.iload 11, 2) := by decide +kernel
theorem dX5_hitHouse_147 : decode cX5_hitHouse 147 = .ok (.iload 10, 2) := by decide +kernel
theorem dX5_hitHouse_149 : decode cX5_hitHouse 149 = .ok (.invokestatic 158, 3) := by decide +kernel
theorem dX5_hitHouse_152 : decode cX5_hitHouse 152 = .ok (.iload 9, 2) := by decide +kernel
theorem dX5_hitHouse_154 : decode cX5_hitHouse 154 = .ok (.iconst 2, 1) := by decide +kernel
theorem dX5_hitHouse_155 : decode cX5_hitHouse 155 = .ok (.iload 12, 2) := by decide +kernel
theorem dX5_hitHouse_157 : decode cX5_hitHouse 157 = .ok (.imul, 1) := by decide +kernel
theorem dX5_hitHouse_158 : decode cX5_hitHouse 158 = .ok (.isub, 1) := by decide +kernel
theorem dX5_hitHouse_159 : decode cX5_hitHouse 159 = .ok (.invokevirtual 389, 3) := by decide +kernel
theorem dX5_hitHouse_162 : decode cX5_hitHouse 162 = .ok (.iinc 11 1, 3) := by decide +kernel
theorem dX5_hitHouse_165 : decode cX5_hitHouse 165 = .ok (.goto (-52), 3) := by decide +kernel
theorem dX5_hitHouse_168 : decode cX5_hitHouse 168 = .ok (.iinc 10 1, 3) := by decide +kernel
theorem dX5_hitHouse_171 : decode cX5_hitHouse 171 = .ok (.goto (-69), 3) := by decide +kernel
theorem dX5_hitHouse_174 : decode cX5_hitHouse 174 = .ok (.return_, 1) := by decide +kernel
theorem dX5_claimDamages_0 : decode cX5_claimDamages 0 = .ok (.iconst 0, 1) := by decide +kernel
theorem dX5_claimDamages_1 : decode cX5_claimDamages 1 = .ok (.istore_n 1, 1) := by decide +kernel
theorem dX5_claimDamages_2 : decode cX5_claimDamages 2 = .ok (.iconst 0, 1) := by decide +kernel
theorem dX5_claimDamages_3 : decode cX5_claimDamages 3 = .ok (.istore_n 2, 1) := by decide +kernel
theorem dX5_claimDamages_4 : decode cX5_claimDamages 4 = .ok (.iload_n 2, 1) := by decide +kernel
theorem dX5_claimDamages_5 : decode cX5_claimDamages 5 = .ok (.aload_n 0, 1) := by decide +kernel
theorem dX5_claimDamages_6 : decode cX5_claimDamages 6 = .ok (.getfield 10, 3) := by decide +kernel
theorem dX5_claimDamages_9 : decode cX5_claimDamages 9 = .ok (.invokeinterface 50 1, 5) := by decide +kernel
theorem dX5_claimDamages_14 : decode cX5_claimDamages 14 = .ok (.if_icmp .ge 49, 3) := by decide +kernel
theorem dX5_claimDamages_17 : decode cX5_claimDamages 17 = .ok (.aload_n 0, 1) := by decide +kernel
theorem dX5_claimDamages_18 : decode cX5_claimDamages 18 = .ok (.getfield 10, 3) := by decide +kernel
theorem dX5_claimDamages_21 : decode cX5_claimDamages 21 = .ok (.iload_n 2, 1) := by decide +kernel
theorem dX5_claimDamages_22 : decode cX5_claimDamages 22 = .ok (.invokeinterface 101 2, 5) := by decide +kernel
theorem dX5_claimDamages_27 : decode cX5_claimDamages 27 = .ok (.checkcast 61, 3) := by decide +kernel
theorem dX5_claimDamages_30 : decode cX5_claimDamages 30 = .ok (.aload_n 0, 1) := by decide +kernel
theorem dX5_claimDamages_31 : decode cX5_claimDamages 31 = .ok (.getfield 34, 3) := by decide +kernel
theorem dX5_claimDamages_34 : decode cX5_claimDamages 34 = .ok (.getfield 393, 3) := by decide +kernel
theorem dX5_claimDamages_37 : decode cX5_claimDamages 37 = .ok (.iload_n 2, 1) := by decide +kernel
theorem dX5_claimDamages_38 : decode cX5_claimDamages 38 = .ok (.iaload, 1) := by decide +kernel
theorem dX5_claimDamages_39 : decode cX5_claimDamages 39 = .ok (.invokevirtual 396, 3) := by decide +kernel
theorem dX5_claimDamages_42 : decode cX5_claimDamages 42 = .ok (.istore_n 3, 1) := by decide +kernel
theorem dX5_claimDamages_43 : decode cX5_claimDamages 43 = .ok (.aload_n 0, 1) := by decide +kernel
theorem dX5_claimDamages_44 : decode cX5_claimDamages 44 = .ok (.getfield 34, 3) := by decide +kernel
theorem dX5_claimDamages_47 : decode cX5_claimDamages 47 = .ok (.getfield 399, 3) := by decide +kernel
theorem dX5_claimDamages_50 : decode cX5_claimDamages 50 = .ok (.iload_n 2, 1) := by decide +kernel
theorem dX5_claimDamages_51 : decode cX5_claimDamages 51 = .ok (.iload_n 3, 1) := by decide +kernel
theorem dX5_claimDamages_52 : decode cX5_claimDamages 52 = .ok (.iastore, 1) := by decide +kernel
theorem dX5_claimDamages_53 : decode cX5_claimDamages 53 = .ok (.iload_n 1, 1) := by decide +kernel
theorem dX5_claimDamages_54 : decode cX5_claimDamages 54 = .ok (.iload_n 3, 1) := by decide +kernel
theorem dX5_claimDamages_55 : decode cX5_claimDamages 55 = .ok (.iadd, 1) := by decide +kernel
theorem dX5_claimDamages_56 : decode cX5_claimDamages 56 = .ok (.istore_n 1, 1) := by decide +kernel
theorem dX5_claimDamages_57 : decode cX5_claimDamages 57 = .ok (.iinc 2 1, 3) := by decide +kernel
theorem dX5_claimDamages_60 : decode cX5_claimDamages 60 = .ok (.goto (-56), 3) := by decide +kernel
theorem dX5_claimDamages_63 : decode cX5_claimDamages 63 = .ok (.aload_n 0, 1) := by decide +kernel
theorem dX5_claimDamages_64 : decode cX5_claimDamages 64 = .ok (.getfield 34, 3) := by decide +kernel
theorem dX5_claimDamages_67 : decode cX5_claimDamages 67 = .ok (.getfield 220, 3) := by decide +kernel
theorem dX5_claimDamages_70 : decode cX5_claimDamages 70 = .ok (.iconst 3, 1) := by decide +kernel
theorem dX5_claimDamages_71 : decode cX5_claimDamages 71 = .ok (.iload_n 1, 1) := by decide +kernel
theorem dX5_claimDamages_72 : decode cX5_claimDamages 72 = .ok (.iastore, 1) := by decide +kernel
theorem dX5_claimDamages_73 : decode cX5_claimDamages 73 = .ok (.return_, 1) := by decide +kernel
theorem dX5_callLayers_0 : decode cX5_callLayers 0 = .ok (.iconst 0, 1) := by decide +kernel
theorem dX5_callLayers_1 : decode cX5_callLayers 1 = .ok (.istore_n 1, 1) := by decide +kernel
theorem dX5_callLayers_2 : decode cX5_callLayers 2 = .ok (.iconst 0, 1) := by decide +kernel
theorem dX5_callLayers_3 : decode cX5_callLayers 3 = .ok (.istore_n 2, 1) := by decide +kernel
theorem dX5_callLayers_4 : decode cX5_callLayers 4 = .ok (.iload_n 2, 1) := by decide +kernel
theorem dX5_callLayers_5 : decode cX5_callLayers 5 = .ok (.aload_n 0, 1) := by decide +kernel
theorem dX5_callLayers_6 : decode cX5_callLayers 6 = .ok (.getfield 19, 3) := by decide +kernel
theorem dX5_callLayers_9 : decode cX5_callLayers 9 = .ok (.invokeinterface 50 1, 5) := by decide +kernel
theorem dX5_callLayers_14 : decode cX5_callLayers 14 = .ok (.if_icmp .ge 49, 3) := by decide +kernel
theorem dX5_callLayers_17 : decode cX5_callLayers 17 = .ok (.aload_n 0, 1) := by decide +kernel
theorem dX5_callLayers_18 : decode cX5_callLayers 18 = .ok (.getfield 19, 3) := by decide +kernel
theorem dX5_callLayers_21 : decode cX5_callLayers 21 = .ok (.iload_n 2, 1) := by decide +kernel
theorem dX5_callLayers_22 : decode cX5_callLayers 22 = .ok (.invokeinterface 101 2, 5) := by decide +kernel
theorem dX5_callLayers_27 : decode cX5_callLayers 27 = .ok (.checkcast 175, 3) := by decide +kernel
theorem dX5_callLayers_30 : decode cX5_callLayers 30 = .ok (.aload_n 0, 1) := by decide +kernel
theorem dX5_callLayers_31 : decode cX5_callLayers 31 = .ok (.getfield 34, 3) := by decide +kernel
theorem dX5_callLayers_34 : decode cX5_callLayers 34 = .ok (.getfield 220, 3) := by decide +kernel
theorem dX5_callLayers_37 : decode cX5_callLayers 37 = .ok (.iconst 3, 1) := by decide +kernel
theorem dX5_callLayers_38 : decode cX5_callLayers 38 = .ok (.iaload, 1) := by decide +kernel
theorem dX5_callLayers_39 : decode cX5_callLayers 39 = .ok (.invokevirtual 402, 3) := by decide +kernel
theorem dX5_callLayers_42 : decode cX5_callLayers 42 = .ok (.istore_n 3, 1) := by decide +kernel
theorem dX5_callLayers_43 : decode cX5_callLayers 43 = .ok (.aload_n 0, 1) := by decide +kernel
theorem dX5_callLayers_44 : decode cX5_callLayers 44 = .ok (.getfield 34, 3) := by decide +kernel
theorem dX5_callLayers_47 : decode cX5_callLayers 47 = .ok (.getfield 405, 3) := by decide +kernel
theorem dX5_callLayers_50 : decode cX5_callLayers 50 = .ok (.iload_n 2, 1) := by decide +kernel
theorem dX5_callLayers_51 : decode cX5_callLayers 51 = .ok (.iload_n 3, 1) := by decide +kernel
theorem dX5_callLayers_52 : decode cX5_callLayers 52 = .ok (.iastore, 1) := by decide +kernel
theorem dX5_callLayers_53 : decode cX5_callLayers 53 = .ok (.iload_n 1, 1) := by decide +kernel
theorem dX5_callLayers_54 : decode cX5_callLayers 54 = .ok (.iload_n 3, 1) := by decide +kernel
theorem dX5_callLayers_55 : decode cX5_callLayers 55 = .ok (.iadd, 1) := by decide +kernel
theorem dX5_callLayers_56 : decode cX5_callLayers 56 = .ok (.istore_n 1, 1) := by decide +kernel
theorem dX5_callLayers_57 : decode cX5_callLayers 57 = .ok (.iinc 2 1, 3) := by decide +kernel
theorem dX5_callLayers_60 : decode cX5_callLayers 60 = .ok (.goto (-56), 3) := by decide +kernel
theorem dX5_callLayers_63 : decode cX5_callLayers 63 = .ok (.aload_n 0, 1) := by decide +kernel
theorem dX5_callLayers_64 : decode cX5_callLayers 64 = .ok (.getfield 34, 3) := by decide +kernel
theorem dX5_callLayers_67 : decode cX5_callLayers 67 = .ok (.getfield 220, 3) := by decide +kernel
theorem dX5_callLayers_70 : decode cX5_callLayers 70 = .ok (.iconst 4, 1) := by decide +kernel
theorem dX5_callLayers_71 : decode cX5_callLayers 71 = .ok (.iload_n 1, 1) := by decide +kernel
theorem dX5_callLayers_72 : decode cX5_callLayers 72 = .ok (.iastore, 1) := by decide +kernel
theorem dX5_callLayers_73 : decode cX5_callLayers 73 = .ok (.return_, 1) := by decide +kernel
theorem dX5_payClaims_0 : decode cX5_payClaims 0 = .ok (.aload_n 0, 1) := by decide +kernel
theorem dX5_payClaims_1 : decode cX5_payClaims 1 = .ok (.getfield 163, 3) := by decide +kernel
theorem dX5_payClaims_4 : decode cX5_payClaims 4 = .ok (.aload_n 0, 1) := by decide +kernel
theorem dX5_payClaims_5 : decode cX5_payClaims 5 = .ok (.getfield 34, 3) := by decide +kernel
theorem dX5_payClaims_8 : decode cX5_payClaims 8 = .ok (.getfield 220, 3) := by decide +kernel
theorem dX5_payClaims_11 : decode cX5_payClaims 11 = .ok (.iconst 4, 1) := by decide +kernel
theorem dX5_payClaims_12 : decode cX5_payClaims 12 = .ok (.iaload, 1) := by decide +kernel
theorem dX5_payClaims_13 : decode cX5_payClaims 13 = .ok (.iadd, 1) := by decide +kernel
theorem dX5_payClaims_14 : decode cX5_payClaims 14 = .ok (.istore_n 1, 1) := by decide +kernel
theorem dX5_payClaims_15 : decode cX5_payClaims 15 = .ok (.iconst 0, 1) := by decide +kernel
theorem dX5_payClaims_16 : decode cX5_payClaims 16 = .ok (.istore_n 2, 1) := by decide +kernel
theorem dX5_payClaims_17 : decode cX5_payClaims 17 = .ok (.iconst 0, 1) := by decide +kernel
theorem dX5_payClaims_18 : decode cX5_payClaims 18 = .ok (.istore_n 3, 1) := by decide +kernel
theorem dX5_payClaims_19 : decode cX5_payClaims 19 = .ok (.iload_n 3, 1) := by decide +kernel
theorem dX5_payClaims_20 : decode cX5_payClaims 20 = .ok (.aload_n 0, 1) := by decide +kernel
theorem dX5_payClaims_21 : decode cX5_payClaims 21 = .ok (.getfield 10, 3) := by decide +kernel
theorem dX5_payClaims_24 : decode cX5_payClaims 24 = .ok (.invokeinterface 50 1, 5) := by decide +kernel
theorem dX5_payClaims_29 : decode cX5_payClaims 29 = .ok (.if_icmp .ge 55, 3) := by decide +kernel
theorem dX5_payClaims_32 : decode cX5_payClaims 32 = .ok (.aload_n 0, 1) := by decide +kernel
theorem dX5_payClaims_33 : decode cX5_payClaims 33 = .ok (.getfield 34, 3) := by decide +kernel
theorem dX5_payClaims_36 : decode cX5_payClaims 36 = .ok (.getfield 399, 3) := by decide +kernel
theorem dX5_payClaims_39 : decode cX5_payClaims 39 = .ok (.iload_n 3, 1) := by decide +kernel
theorem dX5_payClaims_40 : decode cX5_payClaims 40 = .ok (.iaload, 1) := by decide +kernel
theorem dX5_payClaims_41 : decode cX5_payClaims 41 = .ok (.iload_n 1, 1) := by decide +kernel
theorem dX5_payClaims_42 : decode cX5_payClaims 42 = .ok (.invokestatic 342, 3) := by decide +kernel
theorem dX5_payClaims_45 : decode cX5_payClaims 45 = .ok (.istore 4, 2) := by decide +kernel
theorem dX5_payClaims_47 : decode cX5_payClaims 47 = .ok (.aload_n 0, 1) := by decide +kernel
theorem dX5_payClaims_48 : decode cX5_payClaims 48 = .ok (.getfield 34, 3) := by decide +kernel
theorem dX5_payClaims_51 : decode cX5_payClaims 51 = .ok (.getfield 408, 3) := by decide +kernel
theorem dX5_payClaims_54 : decode cX5_payClaims 54 = .ok (.iload_n 3, 1) := by decide +kernel
theorem dX5_payClaims_55 : decode cX5_payClaims 55 = .ok (.iload 4, 2) := by decide +kernel
theorem dX5_payClaims_57 : decode cX5_payClaims 57 = .ok (.iastore, 1) := by decide +kernel
theorem dX5_payClaims_58 : decode cX5_payClaims 58 = .ok (.iload_n 1, 1) := by decide +kernel
theorem dX5_payClaims_59 : decode cX5_payClaims 59 = .ok (.iload 4, 2) := by decide +kernel
theorem dX5_payClaims_61 : decode cX5_payClaims 61 = .ok (.isub, 1) := by decide +kernel
theorem dX5_payClaims_62 : decode cX5_payClaims 62 = .ok (.istore_n 1, 1) := by decide +kernel
theorem dX5_payClaims_63 : decode cX5_payClaims 63 = .ok (.iload_n 2, 1) := by decide +kernel
theorem dX5_payClaims_64 : decode cX5_payClaims 64 = .ok (.aload_n 0, 1) := by decide +kernel
theorem dX5_payClaims_65 : decode cX5_payClaims 65 = .ok (.getfield 34, 3) := by decide +kernel
theorem dX5_payClaims_68 : decode cX5_payClaims 68 = .ok (.getfield 399, 3) := by decide +kernel
theorem dX5_payClaims_71 : decode cX5_payClaims 71 = .ok (.iload_n 3, 1) := by decide +kernel
theorem dX5_payClaims_72 : decode cX5_payClaims 72 = .ok (.iaload, 1) := by decide +kernel
theorem dX5_payClaims_73 : decode cX5_payClaims 73 = .ok (.iload 4, 2) := by decide +kernel
theorem dX5_payClaims_75 : decode cX5_payClaims 75 = .ok (.isub, 1) := by decide +kernel
theorem dX5_payClaims_76 : decode cX5_payClaims 76 = .ok (.iadd, 1) := by decide +kernel
theorem dX5_payClaims_77 : decode cX5_payClaims 77 = .ok (.istore_n 2, 1) := by decide +kernel
theorem dX5_payClaims_78 : decode cX5_payClaims 78 = .ok (.iinc 3 1, 3) := by decide +kernel
theorem dX5_payClaims_81 : decode cX5_payClaims 81 = .ok (.goto (-62), 3) := by decide +kernel
theorem dX5_payClaims_84 : decode cX5_payClaims 84 = .ok (.aload_n 0, 1) := by decide +kernel
theorem dX5_payClaims_85 : decode cX5_payClaims 85 = .ok (.getfield 34, 3) := by decide +kernel
theorem dX5_payClaims_88 : decode cX5_payClaims 88 = .ok (.getfield 220, 3) := by decide +kernel
theorem dX5_payClaims_91 : decode cX5_payClaims 91 = .ok (.iconst 5, 1) := by decide +kernel
theorem dX5_payClaims_92 : decode cX5_payClaims 92 = .ok (.iload_n 2, 1) := by decide +kernel
theorem dX5_payClaims_93 : decode cX5_payClaims 93 = .ok (.iastore, 1) := by decide +kernel
theorem dX5_payClaims_94 : decode cX5_payClaims 94 = .ok (.return_, 1) := by decide +kernel
theorem dX5_takeTrialOver_0 : decode cX5_takeTrialOver 0 = .ok (.aload_n 0, 1) := by decide +kernel
theorem dX5_takeTrialOver_1 : decode cX5_takeTrialOver 1 = .ok (.getfield 34, 3) := by decide +kernel
theorem dX5_takeTrialOver_4 : decode cX5_takeTrialOver 4 = .ok (.getfield 411, 3) := by decide +kernel
theorem dX5_takeTrialOver_7 : decode cX5_takeTrialOver 7 = .ok (.iconst 0, 1) := by decide +kernel
theorem dX5_takeTrialOver_8 : decode cX5_takeTrialOver 8 = .ok (.aload_n 0, 1) := by decide +kernel
theorem dX5_takeTrialOver_9 : decode cX5_takeTrialOver 9 = .ok (.getfield 22, 3) := by decide +kernel
theorem dX5_takeTrialOver_12 : decode cX5_takeTrialOver 12 = .ok (.iconst 0, 1) := by decide +kernel
theorem dX5_takeTrialOver_13 : decode cX5_takeTrialOver 13 = .ok (.sipush 400, 3) := by decide +kernel
theorem dX5_takeTrialOver_16 : decode cX5_takeTrialOver 16 = .ok (.invokestatic 412, 3) := by decide +kernel
theorem dX5_takeTrialOver_19 : decode cX5_takeTrialOver 19 = .ok (.iconst 0, 1) := by decide +kernel
theorem dX5_takeTrialOver_20 : decode cX5_takeTrialOver 20 = .ok (.istore_n 1, 1) := by decide +kernel
theorem dX5_takeTrialOver_21 : decode cX5_takeTrialOver 21 = .ok (.iload_n 1, 1) := by decide +kernel
theorem dX5_takeTrialOver_22 : decode cX5_takeTrialOver 22 = .ok (.aload_n 0, 1) := by decide +kernel
theorem dX5_takeTrialOver_23 : decode cX5_takeTrialOver 23 = .ok (.getfield 19, 3) := by decide +kernel
theorem dX5_takeTrialOver_26 : decode cX5_takeTrialOver 26 = .ok (.invokeinterface 50 1, 5) := by decide +kernel
theorem dX5_takeTrialOver_31 : decode cX5_takeTrialOver 31 = .ok (.if_icmp .ge 59, 3) := by decide +kernel
theorem dX5_takeTrialOver_34 : decode cX5_takeTrialOver 34 = .ok (.aload_n 0, 1) := by decide +kernel
theorem dX5_takeTrialOver_35 : decode cX5_takeTrialOver 35 = .ok (.getfield 19, 3) := by decide +kernel
theorem dX5_takeTrialOver_38 : decode cX5_takeTrialOver 38 = .ok (.iload_n 1, 1) := by decide +kernel
theorem dX5_takeTrialOver_39 : decode cX5_takeTrialOver 39 = .ok (.invokeinterface 101 2, 5) := by decide +kernel
theorem dX5_takeTrialOver_44 : decode cX5_takeTrialOver 44 = .ok (.checkcast 175, 3) := by decide +kernel
theorem dX5_takeTrialOver_47 : decode cX5_takeTrialOver 47 = .ok (.astore_n 2, 1) := by decide +kernel
theorem dX5_takeTrialOver_48 : decode cX5_takeTrialOver 48 = .ok (.aload_n 2, 1) := by decide +kernel
theorem dX5_takeTrialOver_49 : decode cX5_takeTrialOver 49 = .ok (.dup, 1) := by decide +kernel
theorem dX5_takeTrialOver_50 : decode cX5_takeTrialOver 50 = .ok (.getfield 318, 3) := by decide +kernel
theorem dX5_takeTrialOver_53 : decode cX5_takeTrialOver 53 = .ok (.aload_n 0, 1) := by decide +kernel
theorem dX5_takeTrialOver_54 : decode cX5_takeTrialOver 54 = .ok (.getfield 34, 3) := by decide +kernel
theorem dX5_takeTrialOver_57 : decode cX5_takeTrialOver 57 = .ok (.getfield 405, 3) := by decide +kernel
theorem dX5_takeTrialOver_60 : decode cX5_takeTrialOver 60 = .ok (.iload_n 1, 1) := by decide +kernel
theorem dX5_takeTrialOver_61 : decode cX5_takeTrialOver 61 = .ok (.iaload, 1) := by decide +kernel
theorem dX5_takeTrialOver_62 : decode cX5_takeTrialOver 62 = .ok (.isub, 1) := by decide +kernel
theorem dX5_takeTrialOver_63 : decode cX5_takeTrialOver 63 = .ok (.putfield 318, 3) := by decide +kernel
theorem dX5_takeTrialOver_66 : decode cX5_takeTrialOver 66 = .ok (.aload_n 2, 1) := by decide +kernel
theorem dX5_takeTrialOver_67 : decode cX5_takeTrialOver 67 = .ok (.dup, 1) := by decide +kernel
theorem dX5_takeTrialOver_68 : decode cX5_takeTrialOver 68 = .ok (.getfield 321, 3) := by decide +kernel
theorem dX5_takeTrialOver_71 : decode cX5_takeTrialOver 71 = .ok (.aload_n 0, 1) := by decide +kernel
theorem dX5_takeTrialOver_72 : decode cX5_takeTrialOver 72 = .ok (.getfield 34, 3) := by decide +kernel
theorem dX5_takeTrialOver_75 : decode cX5_takeTrialOver 75 = .ok (.getfield 405, 3) := by decide +kernel
theorem dX5_takeTrialOver_78 : decode cX5_takeTrialOver 78 = .ok (.iload_n 1, 1) := by decide +kernel
theorem dX5_takeTrialOver_79 : decode cX5_takeTrialOver 79 = .ok (.iaload, 1) := by decide +kernel
theorem dX5_takeTrialOver_80 : decode cX5_takeTrialOver 80 = .ok (.iadd, 1) := by decide +kernel
theorem dX5_takeTrialOver_81 : decode cX5_takeTrialOver 81 = .ok (.putfield 321, 3) := by decide +kernel
theorem dX5_takeTrialOver_84 : decode cX5_takeTrialOver 84 = .ok (.iinc 1 1, 3) := by decide +kernel
theorem dX5_takeTrialOver_87 : decode cX5_takeTrialOver 87 = .ok (.goto (-66), 3) := by decide +kernel
theorem dX5_takeTrialOver_90 : decode cX5_takeTrialOver 90 = .ok (.aload_n 0, 1) := by decide +kernel
theorem dX5_takeTrialOver_91 : decode cX5_takeTrialOver 91 = .ok (.dup, 1) := by decide +kernel
theorem dX5_takeTrialOver_92 : decode cX5_takeTrialOver 92 = .ok (.getfield 163, 3) := by decide +kernel
theorem dX5_takeTrialOver_95 : decode cX5_takeTrialOver 95 = .ok (.aload_n 0, 1) := by decide +kernel
theorem dX5_takeTrialOver_96 : decode cX5_takeTrialOver 96 = .ok (.getfield 34, 3) := by decide +kernel
theorem dX5_takeTrialOver_99 : decode cX5_takeTrialOver 99 = .ok (.getfield 220, 3) := by decide +kernel
theorem dX5_takeTrialOver_102 : decode cX5_takeTrialOver 102 = .ok (.iconst 4, 1) := by decide +kernel
theorem dX5_takeTrialOver_103 : decode cX5_takeTrialOver 103 = .ok (.iaload, 1) := by decide +kernel
theorem dX5_takeTrialOver_104 : decode cX5_takeTrialOver 104 = .ok (.iadd, 1) := by decide +kernel
theorem dX5_takeTrialOver_105 : decode cX5_takeTrialOver 105 = .ok (.putfield 163, 3) := by decide +kernel
theorem dX5_takeTrialOver_108 : decode cX5_takeTrialOver 108 = .ok (.iconst 0, 1) := by decide +kernel
theorem dX5_takeTrialOver_109 : decode cX5_takeTrialOver 109 = .ok (.istore_n 1, 1) := by decide +kernel
theorem dX5_takeTrialOver_110 : decode cX5_takeTrialOver 110 = .ok (.iload_n 1, 1) := by decide +kernel
theorem dX5_takeTrialOver_111 : decode cX5_takeTrialOver 111 = .ok (.aload_n 0, 1) := by decide +kernel
theorem dX5_takeTrialOver_112 : decode cX5_takeTrialOver 112 = .ok (.getfield 10, 3) := by decide +kernel
theorem dX5_takeTrialOver_115 : decode cX5_takeTrialOver 115 = .ok (.invokeinterface 50 1, 5) := by decide +kernel
theorem dX5_takeTrialOver_120 : decode cX5_takeTrialOver 120 = .ok (.if_icmp .ge 105, 3) := by decide +kernel
theorem dX5_takeTrialOver_123 : decode cX5_takeTrialOver 123 = .ok (.aload_n 0, 1) := by decide +kernel
theorem dX5_takeTrialOver_124 : decode cX5_takeTrialOver 124 = .ok (.getfield 10, 3) := by decide +kernel
theorem dX5_takeTrialOver_127 : decode cX5_takeTrialOver 127 = .ok (.iload_n 1, 1) := by decide +kernel
theorem dX5_takeTrialOver_128 : decode cX5_takeTrialOver 128 = .ok (.invokeinterface 101 2, 5) := by decide +kernel
theorem dX5_takeTrialOver_133 : decode cX5_takeTrialOver 133 = .ok (.checkcast 61, 3) := by decide +kernel
theorem dX5_takeTrialOver_136 : decode cX5_takeTrialOver 136 = .ok (.astore_n 2, 1) := by decide +kernel
theorem dX5_takeTrialOver_137 : decode cX5_takeTrialOver 137 = .ok (.aload_n 2, 1) := by decide +kernel
theorem dX5_takeTrialOver_138 : decode cX5_takeTrialOver 138 = .ok (.dup, 1) := by decide +kernel
theorem dX5_takeTrialOver_139 : decode cX5_takeTrialOver 139 = .ok (.getfield 293, 3) := by decide +kernel
theorem dX5_takeTrialOver_142 : decode cX5_takeTrialOver 142 = .ok (.aload_n 0, 1) := by decide +kernel
theorem dX5_takeTrialOver_143 : decode cX5_takeTrialOver 143 = .ok (.getfield 34, 3) := by decide +kernel
theorem dX5_takeTrialOver_146 : decode cX5_takeTrialOver 146 = .ok (.getfield 399, 3) := by decide +kernel
theorem dX5_takeTrialOver_149 : decode cX5_takeTrialOver 149 = .ok (.iload_n 1, 1) := by decide +kernel
theorem dX5_takeTrialOver_150 : decode cX5_takeTrialOver 150 = .ok (.iaload, 1) := by decide +kernel
theorem dX5_takeTrialOver_151 : decode cX5_takeTrialOver 151 = .ok (.iadd, 1) := by decide +kernel
theorem dX5_takeTrialOver_152 : decode cX5_takeTrialOver 152 = .ok (.putfield 293, 3) := by decide +kernel
theorem dX5_takeTrialOver_155 : decode cX5_takeTrialOver 155 = .ok (.aload_n 2, 1) := by decide +kernel
theorem dX5_takeTrialOver_156 : decode cX5_takeTrialOver 156 = .ok (.dup, 1) := by decide +kernel
theorem dX5_takeTrialOver_157 : decode cX5_takeTrialOver 157 = .ok (.getfield 136, 3) := by decide +kernel
theorem dX5_takeTrialOver_160 : decode cX5_takeTrialOver 160 = .ok (.aload_n 0, 1) := by decide +kernel
theorem dX5_takeTrialOver_161 : decode cX5_takeTrialOver 161 = .ok (.getfield 34, 3) := by decide +kernel
theorem dX5_takeTrialOver_164 : decode cX5_takeTrialOver 164 = .ok (.getfield 408, 3) := by decide +kernel
theorem dX5_takeTrialOver_167 : decode cX5_takeTrialOver 167 = .ok (.iload_n 1, 1) := by decide +kernel
theorem dX5_takeTrialOver_168 : decode cX5_takeTrialOver 168 = .ok (.iaload, 1) := by decide +kernel
theorem dX5_takeTrialOver_169 : decode cX5_takeTrialOver 169 = .ok (.iadd, 1) := by decide +kernel
theorem dX5_takeTrialOver_170 : decode cX5_takeTrialOver 170 = .ok (.putfield 136, 3) := by decide +kernel
theorem dX5_takeTrialOver_173 : decode cX5_takeTrialOver 173 = .ok (.aload_n 2, 1) := by decide +kernel
theorem dX5_takeTrialOver_174 : decode cX5_takeTrialOver 174 = .ok (.dup, 1) := by decide +kernel
theorem dX5_takeTrialOver_175 : decode cX5_takeTrialOver 175 = .ok (.getfield 296, 3) := by decide +kernel
theorem dX5_takeTrialOver_178 : decode cX5_takeTrialOver 178 = .ok (.aload_n 0, 1) := by decide +kernel
theorem dX5_takeTrialOver_179 : decode cX5_takeTrialOver 179 = .ok (.getfield 34, 3) := by decide +kernel
theorem dX5_takeTrialOver_182 : decode cX5_takeTrialOver 182 = .ok (.getfield 399, 3) := by decide +kernel
theorem dX5_takeTrialOver_185 : decode cX5_takeTrialOver 185 = .ok (.iload_n 1, 1) := by decide +kernel
theorem dX5_takeTrialOver_186 : decode cX5_takeTrialOver 186 = .ok (.iaload, 1) := by decide +kernel
theorem dX5_takeTrialOver_187 : decode cX5_takeTrialOver 187 = .ok (.aload_n 0, 1) := by decide +kernel
theorem dX5_takeTrialOver_188 : decode cX5_takeTrialOver 188 = .ok (.getfield 34, 3) := by decide +kernel
theorem dX5_takeTrialOver_191 : decode cX5_takeTrialOver 191 = .ok (.getfield 408, 3) := by decide +kernel
theorem dX5_takeTrialOver_194 : decode cX5_takeTrialOver 194 = .ok (.iload_n 1, 1) := by decide +kernel
theorem dX5_takeTrialOver_195 : decode cX5_takeTrialOver 195 = .ok (.iaload, 1) := by decide +kernel
theorem dX5_takeTrialOver_196 : decode cX5_takeTrialOver 196 = .ok (.isub, 1) := by decide +kernel
theorem dX5_takeTrialOver_197 : decode cX5_takeTrialOver 197 = .ok (.iadd, 1) := by decide +kernel
theorem dX5_takeTrialOver_198 : decode cX5_takeTrialOver 198 = .ok (.putfield 296, 3) := by decide +kernel
theorem dX5_takeTrialOver_201 : decode cX5_takeTrialOver 201 = .ok (.aload_n 0, 1) := by decide +kernel
theorem dX5_takeTrialOver_202 : decode cX5_takeTrialOver 202 = .ok (.dup, 1) := by decide +kernel
theorem dX5_takeTrialOver_203 : decode cX5_takeTrialOver 203 = .ok (.getfield 163, 3) := by decide +kernel
theorem dX5_takeTrialOver_206 : decode cX5_takeTrialOver 206 = .ok (.aload_n 0, 1) := by decide +kernel
theorem dX5_takeTrialOver_207 : decode cX5_takeTrialOver 207 = .ok (.getfield 34, 3) := by decide +kernel
theorem dX5_takeTrialOver_210 : decode cX5_takeTrialOver 210 = .ok (.getfield 408, 3) := by decide +kernel
theorem dX5_takeTrialOver_213 : decode cX5_takeTrialOver 213 = .ok (.iload_n 1, 1) := by decide +kernel
theorem dX5_takeTrialOver_214 : decode cX5_takeTrialOver 214 = .ok (.iaload, 1) := by decide +kernel
theorem dX5_takeTrialOver_215 : decode cX5_takeTrialOver 215 = .ok (.isub, 1) := by decide +kernel
theorem dX5_takeTrialOver_216 : decode cX5_takeTrialOver 216 = .ok (.putfield 163, 3) := by decide +kernel
theorem dX5_takeTrialOver_219 : decode cX5_takeTrialOver 219 = .ok (.iinc 1 1, 3) := by decide +kernel
theorem dX5_takeTrialOver_222 : decode cX5_takeTrialOver 222 = .ok (.goto (-112), 3) := by decide +kernel
theorem dX5_takeTrialOver_225 : decode cX5_takeTrialOver 225 = .ok (.aload_n 0, 1) := by decide +kernel
theorem dX5_takeTrialOver_226 : decode cX5_takeTrialOver 226 = .ok (.getfield 34, 3) := by decide +kernel
theorem dX5_takeTrialOver_229 : decode cX5_takeTrialOver 229 = .ok (.getfield 220, 3) := by decide +kernel
theorem dX5_takeTrialOver_232 : decode cX5_takeTrialOver 232 = .ok (.iconst 0, 1) := by decide +kernel
theorem dX5_takeTrialOver_233 : decode cX5_takeTrialOver 233 = .ok (.aload_n 0, 1) := by decide +kernel
theorem dX5_takeTrialOver_234 : decode cX5_takeTrialOver 234 = .ok (.getfield 28, 3) := by decide +kernel
theorem dX5_takeTrialOver_237 : decode cX5_takeTrialOver 237 = .ok (.aload_n 0, 1) := by decide +kernel
theorem dX5_takeTrialOver_238 : decode cX5_takeTrialOver 238 = .ok (.getfield 209, 3) := by decide +kernel
theorem dX5_takeTrialOver_241 : decode cX5_takeTrialOver 241 = .ok (.aaload, 1) := by decide +kernel
theorem dX5_takeTrialOver_242 : decode cX5_takeTrialOver 242 = .ok (.iconst 0, 1) := by decide +kernel
theorem dX5_takeTrialOver_243 : decode cX5_takeTrialOver 243 = .ok (.bipush 6, 2) := by decide +kernel
theorem dX5_takeTrialOver_245 : decode cX5_takeTrialOver 245 = .ok (.invokestatic 412, 3) := by decide +kernel
theorem dX5_takeTrialOver_248 : decode cX5_takeTrialOver 248 = .ok (.aload_n 0, 1) := by decide +kernel
theorem dX5_takeTrialOver_249 : decode cX5_takeTrialOver 249 = .ok (.dup, 1) := by decide +kernel
theorem dX5_takeTrialOver_250 : decode cX5_takeTrialOver 250 = .ok (.getfield 209, 3) := by decide +kernel
theorem dX5_takeTrialOver_253 : decode cX5_takeTrialOver 253 = .ok (.iconst 1, 1) := by decide +kernel
theorem dX5_takeTrialOver_254 : decode cX5_takeTrialOver 254 = .ok (.iadd, 1) := by decide +kernel
theorem dX5_takeTrialOver_255 : decode cX5_takeTrialOver 255 = .ok (.putfield 209, 3) := by decide +kernel
theorem dX5_takeTrialOver_258 : decode cX5_takeTrialOver 258 = .ok (.return_, 1) := by decide +kernel
theorem dX6_init_0 : decode cX6_init 0 = .ok (.aload_n 0, 1) := by decide +kernel
theorem dX6_init_1 : decode cX6_init 1 = .ok (.invokespecial 3, 3) := by decide +kernel
theorem dX6_init_4 : decode cX6_init 4 = .ok (.aload_n 0, 1) := by decide +kernel
theorem dX6_init_5 : decode cX6_init 5 = .ok (.bipush 6, 2) := by decide +kernel
theorem dX6_init_7 : decode cX6_init 7 = .ok (.newarray .int, 2) := by decide +kernel
theorem dX6_init_9 : decode cX6_init 9 = .ok (.putfield 9, 3) := by decide +kernel
theorem dX6_init_12 : decode cX6_init 12 = .ok (.aload_n 0, 1) := by decide +kernel
theorem dX6_init_13 : decode cX6_init 13 = .ok (.bipush 18, 2) := by decide +kernel
theorem dX6_init_15 : decode cX6_init 15 = .ok (.newarray .int, 2) := by decide +kernel
theorem dX6_init_17 : decode cX6_init 17 = .ok (.putfield 15, 3) := by decide +kernel
theorem dX6_init_20 : decode cX6_init 20 = .ok (.aload_n 0, 1) := by decide +kernel
theorem dX6_init_21 : decode cX6_init 21 = .ok (.bipush 6, 2) := by decide +kernel
theorem dX6_init_23 : decode cX6_init 23 = .ok (.newarray .int, 2) := by decide +kernel
theorem dX6_init_25 : decode cX6_init 25 = .ok (.putfield 18, 3) := by decide +kernel
theorem dX6_init_28 : decode cX6_init 28 = .ok (.aload_n 0, 1) := by decide +kernel
theorem dX6_init_29 : decode cX6_init 29 = .ok (.bipush 6, 2) := by decide +kernel
theorem dX6_init_31 : decode cX6_init 31 = .ok (.newarray .int, 2) := by decide +kernel
theorem dX6_init_33 : decode cX6_init 33 = .ok (.putfield 21, 3) := by decide +kernel
theorem dX6_init_36 : decode cX6_init 36 = .ok (.aload_n 0, 1) := by decide +kernel
theorem dX6_init_37 : decode cX6_init 37 = .ok (.bipush 6, 2) := by decide +kernel
theorem dX6_init_39 : decode cX6_init 39 = .ok (.newarray .int, 2) := by decide +kernel
theorem dX6_init_41 : decode cX6_init 41 = .ok (.putfield 24, 3) := by decide +kernel
theorem dX6_init_44 : decode cX6_init 44 = .ok (.aload_n 0, 1) := by decide +kernel
theorem dX6_init_45 : decode cX6_init 45 = .ok (.bipush 84, 2) := by decide +kernel
theorem dX6_init_47 : decode cX6_init 47 = .ok (.newarray .int, 2) := by decide +kernel
theorem dX6_init_49 : decode cX6_init 49 = .ok (.putfield 27, 3) := by decide +kernel
theorem dX6_init_52 : decode cX6_init 52 = .ok (.aload_n 0, 1) := by decide +kernel
theorem dX6_init_53 : decode cX6_init 53 = .ok (.bipush 12, 2) := by decide +kernel
theorem dX6_init_55 : decode cX6_init 55 = .ok (.newarray .boolean, 2) := by decide +kernel
theorem dX6_init_57 : decode cX6_init 57 = .ok (.putfield 30, 3) := by decide +kernel
theorem dX6_init_60 : decode cX6_init 60 = .ok (.aload_n 0, 1) := by decide +kernel
theorem dX6_init_61 : decode cX6_init 61 = .ok (.sipush 432, 3) := by decide +kernel
theorem dX6_init_64 : decode cX6_init 64 = .ok (.newarray .int, 2) := by decide +kernel
theorem dX6_init_66 : decode cX6_init 66 = .ok (.putfield 34, 3) := by decide +kernel
theorem dX6_init_69 : decode cX6_init 69 = .ok (.aload_n 0, 1) := by decide +kernel
theorem dX6_init_70 : decode cX6_init 70 = .ok (.bipush 30, 2) := by decide +kernel
theorem dX6_init_72 : decode cX6_init 72 = .ok (.newarray .int, 2) := by decide +kernel
theorem dX6_init_74 : decode cX6_init 74 = .ok (.putfield 37, 3) := by decide +kernel
theorem dX6_init_77 : decode cX6_init 77 = .ok (.aload_n 0, 1) := by decide +kernel
theorem dX6_init_78 : decode cX6_init 78 = .ok (.sipush 180, 3) := by decide +kernel
theorem dX6_init_81 : decode cX6_init 81 = .ok (.newarray .int, 2) := by decide +kernel
theorem dX6_init_83 : decode cX6_init 83 = .ok (.putfield 40, 3) := by decide +kernel
theorem dX6_init_86 : decode cX6_init 86 = .ok (.aload_n 0, 1) := by decide +kernel
theorem dX6_init_87 : decode cX6_init 87 = .ok (.bipush 6, 2) := by decide +kernel
theorem dX6_init_89 : decode cX6_init 89 = .ok (.newarray .int, 2) := by decide +kernel
theorem dX6_init_91 : decode cX6_init 91 = .ok (.putfield 43, 3) := by decide +kernel
theorem dX6_init_94 : decode cX6_init 94 = .ok (.aload_n 0, 1) := by decide +kernel
theorem dX6_init_95 : decode cX6_init 95 = .ok (.bipush 6, 2) := by decide +kernel
theorem dX6_init_97 : decode cX6_init 97 = .ok (.newarray .int, 2) := by decide +kernel
theorem dX6_init_99 : decode cX6_init 99 = .ok (.putfield 46, 3) := by decide +kernel
theorem dX6_init_102 : decode cX6_init 102 = .ok (.aload_n 0, 1) := by decide +kernel
theorem dX6_init_103 : decode cX6_init 103 = .ok (.bipush 6, 2) := by decide +kernel
theorem dX6_init_105 : decode cX6_init 105 = .ok (.newarray .int, 2) := by decide +kernel
theorem dX6_init_107 : decode cX6_init 107 = .ok (.putfield 49, 3) := by decide +kernel
theorem dX6_init_110 : decode cX6_init 110 = .ok (.return_, 1) := by decide +kernel
theorem dX6_copy_0 : decode cX6_copy 0 = .ok (.aload_n 0, 1) := by decide +kernel
theorem dX6_copy_1 : decode cX6_copy 1 = .ok (.iconst 0, 1) := by decide +kernel
theorem dX6_copy_2 : decode cX6_copy 2 = .ok (.aload_n 1, 1) := by decide +kernel
theorem dX6_copy_3 : decode cX6_copy 3 = .ok (.iconst 0, 1) := by decide +kernel
theorem dX6_copy_4 : decode cX6_copy 4 = .ok (.aload_n 0, 1) := by decide +kernel
theorem dX6_copy_5 : decode cX6_copy 5 = .ok (.arraylength, 1) := by decide +kernel
theorem dX6_copy_6 : decode cX6_copy 6 = .ok (.invokestatic 52, 3) := by decide +kernel
theorem dX6_copy_9 : decode cX6_copy 9 = .ok (.return_, 1) := by decide +kernel
theorem dX6_become_0 : decode cX6_become 0 = .ok (.aload_n 0, 1) := by decide +kernel
theorem dX6_become_1 : decode cX6_become 1 = .ok (.aload_n 1, 1) := by decide +kernel
theorem dX6_become_2 : decode cX6_become 2 = .ok (.getfield 58, 3) := by decide +kernel
theorem dX6_become_5 : decode cX6_become 5 = .ok (.putfield 58, 3) := by decide +kernel
theorem dX6_become_8 : decode cX6_become 8 = .ok (.aload_n 0, 1) := by decide +kernel
theorem dX6_become_9 : decode cX6_become 9 = .ok (.aload_n 1, 1) := by decide +kernel
theorem dX6_become_10 : decode cX6_become 10 = .ok (.getfield 62, 3) := by decide +kernel
theorem dX6_become_13 : decode cX6_become 13 = .ok (.putfield 62, 3) := by decide +kernel
theorem dX6_become_16 : decode cX6_become 16 = .ok (.aload_n 0, 1) := by decide +kernel
theorem dX6_become_17 : decode cX6_become 17 = .ok (.aload_n 1, 1) := by decide +kernel
theorem dX6_become_18 : decode cX6_become 18 = .ok (.getfield 65, 3) := by decide +kernel
theorem dX6_become_21 : decode cX6_become 21 = .ok (.putfield 65, 3) := by decide +kernel
theorem dX6_become_24 : decode cX6_become 24 = .ok (.aload_n 0, 1) := by decide +kernel
theorem dX6_become_25 : decode cX6_become 25 = .ok (.aload_n 1, 1) := by decide +kernel
theorem dX6_become_26 : decode cX6_become 26 = .ok (.getfield 68, 3) := by decide +kernel
theorem dX6_become_29 : decode cX6_become 29 = .ok (.putfield 68, 3) := by decide +kernel
theorem dX6_become_32 : decode cX6_become 32 = .ok (.aload_n 0, 1) := by decide +kernel
theorem dX6_become_33 : decode cX6_become 33 = .ok (.aload_n 1, 1) := by decide +kernel
theorem dX6_become_34 : decode cX6_become 34 = .ok (.getfield 71, 3) := by decide +kernel
theorem dX6_become_37 : decode cX6_become 37 = .ok (.putfield 71, 3) := by decide +kernel
theorem dX6_become_40 : decode cX6_become 40 = .ok (.aload_n 0, 1) := by decide +kernel
theorem dX6_become_41 : decode cX6_become 41 = .ok (.aload_n 1, 1) := by decide +kernel
theorem dX6_become_42 : decode cX6_become 42 = .ok (.getfield 74, 3) := by decide +kernel
theorem dX6_become_45 : decode cX6_become 45 = .ok (.putfield 74, 3) := by decide +kernel
theorem dX6_become_48 : decode cX6_become 48 = .ok (.aload_n 1, 1) := by decide +kernel
theorem dX6_become_49 : decode cX6_become 49 = .ok (.getfield 9, 3) := by decide +kernel
theorem dX6_become_52 : decode cX6_become 52 = .ok (.aload_n 0, 1) := by decide +kernel
theorem dX6_become_53 : decode cX6_become 53 = .ok (.getfield 9, 3) := by decide +kernel
theorem dX6_become_56 : decode cX6_become 56 = .ok (.invokestatic 77, 3) := by decide +kernel
theorem dX6_become_59 : decode cX6_become 59 = .ok (.aload_n 1, 1) := by decide +kernel
theorem dX6_become_60 : decode cX6_become 60 = .ok (.getfield 15, 3) := by decide +kernel
theorem dX6_become_63 : decode cX6_become 63 = .ok (.aload_n 0, 1) := by decide +kernel
theorem dX6_become_64 : decode cX6_become 64 = .ok (.getfield 15, 3) := by decide +kernel
theorem dX6_become_67 : decode cX6_become 67 = .ok (.invokestatic 77, 3) := by decide +kernel
theorem dX6_become_70 : decode cX6_become 70 = .ok (.aload_n 1, 1) := by decide +kernel
theorem dX6_become_71 : decode cX6_become 71 = .ok (.getfield 18, 3) := by decide +kernel
theorem dX6_become_74 : decode cX6_become 74 = .ok (.aload_n 0, 1) := by decide +kernel
theorem dX6_become_75 : decode cX6_become 75 = .ok (.getfield 18, 3) := by decide +kernel
theorem dX6_become_78 : decode cX6_become 78 = .ok (.invokestatic 77, 3) := by decide +kernel
theorem dX6_become_81 : decode cX6_become 81 = .ok (.aload_n 1, 1) := by decide +kernel
theorem dX6_become_82 : decode cX6_become 82 = .ok (.getfield 21, 3) := by decide +kernel
theorem dX6_become_85 : decode cX6_become 85 = .ok (.aload_n 0, 1) := by decide +kernel
theorem dX6_become_86 : decode cX6_become 86 = .ok (.getfield 21, 3) := by decide +kernel
theorem dX6_become_89 : decode cX6_become 89 = .ok (.invokestatic 77, 3) := by decide +kernel
theorem dX6_become_92 : decode cX6_become 92 = .ok (.aload_n 1, 1) := by decide +kernel
theorem dX6_become_93 : decode cX6_become 93 = .ok (.getfield 24, 3) := by decide +kernel
theorem dX6_become_96 : decode cX6_become 96 = .ok (.aload_n 0, 1) := by decide +kernel
theorem dX6_become_97 : decode cX6_become 97 = .ok (.getfield 24, 3) := by decide +kernel
theorem dX6_become_100 : decode cX6_become 100 = .ok (.invokestatic 77, 3) := by decide +kernel
theorem dX6_become_103 : decode cX6_become 103 = .ok (.aload_n 1, 1) := by decide +kernel
theorem dX6_become_104 : decode cX6_become 104 = .ok (.getfield 27, 3) := by decide +kernel
theorem dX6_become_107 : decode cX6_become 107 = .ok (.aload_n 0, 1) := by decide +kernel
theorem dX6_become_108 : decode cX6_become 108 = .ok (.getfield 27, 3) := by decide +kernel
theorem dX6_become_111 : decode cX6_become 111 = .ok (.invokestatic 77, 3) := by decide +kernel
theorem dX6_become_114 : decode cX6_become 114 = .ok (.aload_n 1, 1) := by decide +kernel
theorem dX6_become_115 : decode cX6_become 115 = .ok (.getfield 30, 3) := by decide +kernel
theorem dX6_become_118 : decode cX6_become 118 = .ok (.iconst 0, 1) := by decide +kernel
theorem dX6_become_119 : decode cX6_become 119 = .ok (.aload_n 0, 1) := by decide +kernel
theorem dX6_become_120 : decode cX6_become 120 = .ok (.getfield 30, 3) := by decide +kernel
theorem dX6_become_123 : decode cX6_become 123 = .ok (.iconst 0, 1) := by decide +kernel
theorem dX6_become_124 : decode cX6_become 124 = .ok (.bipush 12, 2) := by decide +kernel
theorem dX6_become_126 : decode cX6_become 126 = .ok (.invokestatic 52, 3) := by decide +kernel
theorem dX6_become_129 : decode cX6_become 129 = .ok (.aload_n 1, 1) := by decide +kernel
theorem dX6_become_130 : decode cX6_become 130 = .ok (.getfield 34, 3) := by decide +kernel
theorem dX6_become_133 : decode cX6_become 133 = .ok (.aload_n 0, 1) := by decide +kernel
theorem dX6_become_134 : decode cX6_become 134 = .ok (.getfield 34, 3) := by decide +kernel
theorem dX6_become_137 : decode cX6_become 137 = .ok (.invokestatic 77, 3) := by decide +kernel
theorem dX6_become_140 : decode cX6_become 140 = .ok (.aload_n 1, 1) := by decide +kernel
theorem dX6_become_141 : decode cX6_become 141 = .ok (.getfield 37, 3) := by decide +kernel
theorem dX6_become_144 : decode cX6_become 144 = .ok (.aload_n 0, 1) := by decide +kernel
theorem dX6_become_145 : decode cX6_become 145 = .ok (.getfield 37, 3) := by decide +kernel
theorem dX6_become_148 : decode cX6_become 148 = .ok (.invokestatic 77, 3) := by decide +kernel
theorem dX6_become_151 : decode cX6_become 151 = .ok (.aload_n 1, 1) := by decide +kernel
theorem dX6_become_152 : decode cX6_become 152 = .ok (.getfield 40, 3) := by decide +kernel
theorem dX6_become_155 : decode cX6_become 155 = .ok (.aload_n 0, 1) := by decide +kernel
theorem dX6_become_156 : decode cX6_become 156 = .ok (.getfield 40, 3) := by decide +kernel
theorem dX6_become_159 : decode cX6_become 159 = .ok (.invokestatic 77, 3) := by decide +kernel
theorem dX6_become_162 : decode cX6_become 162 = .ok (.return_, 1) := by decide +kernel
theorem dX6_size_0 : decode cX6_size 0 = .ok (.aload_n 0, 1) := by decide +kernel
theorem dX6_size_1 : decode cX6_size 1 = .ok (.getfield 27, 3) := by decide +kernel
theorem dX6_size_4 : decode cX6_size 4 = .ok (.bipush 7, 2) := by decide +kernel
theorem dX6_size_6 : decode cX6_size 6 = .ok (.iload_n 1, 1) := by decide +kernel
theorem dX6_size_7 : decode cX6_size 7 = .ok (.imul, 1) := by decide +kernel
theorem dX6_size_8 : decode cX6_size 8 = .ok (.iconst 3, 1) := by decide +kernel
theorem dX6_size_9 : decode cX6_size 9 = .ok (.iadd, 1) := by decide +kernel
theorem dX6_size_10 : decode cX6_size 10 = .ok (.iaload, 1) := by decide +kernel
theorem dX6_size_11 : decode cX6_size 11 = .ok (.aload_n 0, 1) := by decide +kernel
theorem dX6_size_12 : decode cX6_size 12 = .ok (.getfield 27, 3) := by decide +kernel
theorem dX6_size_15 : decode cX6_size 15 = .ok (.bipush 7, 2) := by decide +kernel
theorem dX6_size_17 : decode cX6_size 17 = .ok (.iload_n 1, 1) := by decide +kernel
theorem dX6_size_18 : decode cX6_size 18 = .ok (.imul, 1) := by decide +kernel
theorem dX6_size_19 : decode cX6_size 19 = .ok (.iconst 4, 1) := by decide +kernel
theorem dX6_size_20 : decode cX6_size 20 = .ok (.iadd, 1) := by decide +kernel
theorem dX6_size_21 : decode cX6_size 21 = .ok (.iaload, 1) := by decide +kernel
theorem dX6_size_22 : decode cX6_size 22 = .ok (.imul, 1) := by decide +kernel
theorem dX6_size_23 : decode cX6_size 23 = .ok (.ireturn, 1) := by decide +kernel
theorem dX6_valueOf_0 : decode cX6_valueOf 0 = .ok (.iload_n 2, 1) := by decide +kernel
theorem dX6_valueOf_1 : decode cX6_valueOf 1 = .ok (.ifCond .ne 7, 3) := by decide +kernel
theorem dX6_valueOf_4 : decode cX6_valueOf 4 = .ok (.iconst 0, 1) := by decide +kernel
theorem dX6_valueOf_5 : decode cX6_valueOf 5 = .ok (.goto 37, 3) := by decide +kernel
theorem dX6_valueOf_8 : decode cX6_valueOf 8 = .ok (.iload_n 2, 1) := by decide +kernel
theorem dX6_valueOf_9 : decode cX6_valueOf 9 = .ok (.iconst 1, 1) := by decide +kernel
theorem dX6_valueOf_10 : decode cX6_valueOf 10 = .ok (.if_icmp .ne 20, 3) := by decide +kernel
theorem dX6_valueOf_13 : decode cX6_valueOf 13 = .ok (.aload_n 0, 1) := by decide +kernel
theorem dX6_valueOf_14 : decode cX6_valueOf 14 = .ok (.getfield 27, 3) := by decide +kernel
theorem dX6_valueOf_17 : decode cX6_valueOf 17 = .ok (.bipush 7, 2) := by decide +kernel
theorem dX6_valueOf_19 : decode cX6_valueOf 19 = .ok (.iload_n 1, 1) := by decide +kernel
theorem dX6_valueOf_20 : decode cX6_valueOf 20 = .ok (.imul, 1) := by decide +kernel
theorem dX6_valueOf_21 : decode cX6_valueOf 21 = .ok (.bipush 6, 2) := by decide +kernel
theorem dX6_valueOf_23 : decode cX6_valueOf 23 = .ok (.iadd, 1) := by decide +kernel
theorem dX6_valueOf_24 : decode cX6_valueOf 24 = .ok (.iaload, 1) := by decide +kernel
theorem dX6_valueOf_25 : decode cX6_valueOf 25 = .ok (.iconst 2, 1) := by decide +kernel
theorem dX6_valueOf_26 : decode cX6_valueOf 26 = .ok (.idiv, 1) := by decide +kernel
theorem dX6_valueOf_27 : decode cX6_valueOf 27 = .ok (.goto 15, 3) := by decide +kernel
theorem dX6_valueOf_30 : decode cX6_valueOf 30 = .ok (.aload_n 0, 1) := by decide +kernel
theorem dX6_valueOf_31 : decode cX6_valueOf 31 = .ok (.getfield 27, 3) := by decide +kernel
theorem dX6_valueOf_34 : decode cX6_valueOf 34 = .ok (.bipush 7, 2) := by decide +kernel
theorem dX6_valueOf_36 : decode cX6_valueOf 36 = .ok (.iload_n 1, 1) := by decide +kernel
theorem dX6_valueOf_37 : decode cX6_valueOf 37 = .ok (.imul, 1) := by decide +kernel
theorem dX6_valueOf_38 : decode cX6_valueOf 38 = .ok (.bipush 6, 2) := by decide +kernel
theorem dX6_valueOf_40 : decode cX6_valueOf 40 = .ok (.iadd, 1) := by decide +kernel
theorem dX6_valueOf_41 : decode cX6_valueOf 41 = .ok (.iaload, 1) := by decide +kernel
theorem dX6_valueOf_42 : decode cX6_valueOf 42 = .ok (.ireturn, 1) := by decide +kernel
theorem dX6_lostOf_0 : decode cX6_lostOf 0 = .ok (.iconst 0, 1) := by decide +kernel
theorem dX6_lostOf_1 : decode cX6_lostOf 1 = .ok (.istore_n 2, 1) := by decide +kernel
theorem dX6_lostOf_2 : decode cX6_lostOf 2 = .ok (.iconst 0, 1) := by decide +kernel
theorem dX6_lostOf_3 : decode cX6_lostOf 3 = .ok (.istore_n 3, 1) := by decide +kernel
theorem dX6_lostOf_4 : decode cX6_lostOf 4 = .ok (.iload_n 3, 1) := by decide +kernel
theorem dX6_lostOf_5 : decode cX6_lostOf 5 = .ok (.aload_n 0, 1) := by decide +kernel
theorem dX6_lostOf_6 : decode cX6_lostOf 6 = .ok (.iload_n 1, 1) := by decide +kernel
theorem dX6_lostOf_7 : decode cX6_lostOf 7 = .ok (.invokevirtual 81, 3) := by decide +kernel
theorem dX6_lostOf_10 : decode cX6_lostOf 10 = .ok (.if_icmp .ge 28, 3) := by decide +kernel
theorem dX6_lostOf_13 : decode cX6_lostOf 13 = .ok (.iload_n 2, 1) := by decide +kernel
theorem dX6_lostOf_14 : decode cX6_lostOf 14 = .ok (.aload_n 0, 1) := by decide +kernel
theorem dX6_lostOf_15 : decode cX6_lostOf 15 = .ok (.iload_n 1, 1) := by decide +kernel
theorem dX6_lostOf_16 : decode cX6_lostOf 16 = .ok (.aload_n 0, 1) := by decide +kernel
theorem dX6_lostOf_17 : decode cX6_lostOf 17 = .ok (.getfield 34, 3) := by decide +kernel
theorem dX6_lostOf_20 : decode cX6_lostOf 20 = .ok (.bipush 36, 2) := by decide +kernel
theorem dX6_lostOf_22 : decode cX6_lostOf 22 = .ok (.iload_n 1, 1) := by decide +kernel
theorem dX6_lostOf_23 : decode cX6_lostOf 23 = .ok (.imul, 1) := by decide +kernel
theorem dX6_lostOf_24 : decode cX6_lostOf 24 = .ok (.iload_n 3, 1) := by decide +kernel
theorem dX6_lostOf_25 : decode cX6_lostOf 25 = .ok (.iadd, 1) := by decide +kernel
theorem dX6_lostOf_26 : decode cX6_lostOf 26 = .ok (.iaload, 1) := by decide +kernel
theorem dX6_lostOf_27 : decode cX6_lostOf 27 = .ok (.invokevirtual 85, 3) := by decide +kernel
theorem dX6_lostOf_30 : decode cX6_lostOf 30 = .ok (.iadd, 1) := by decide +kernel
theorem dX6_lostOf_31 : decode cX6_lostOf 31 = .ok (.istore_n 2, 1) := by decide +kernel
theorem dX6_lostOf_32 : decode cX6_lostOf 32 = .ok (.iinc 3 1, 3) := by decide +kernel
theorem dX6_lostOf_35 : decode cX6_lostOf 35 = .ok (.goto (-31), 3) := by decide +kernel
theorem dX6_lostOf_38 : decode cX6_lostOf 38 = .ok (.iload_n 2, 1) := by decide +kernel
theorem dX6_lostOf_39 : decode cX6_lostOf 39 = .ok (.ireturn, 1) := by decide +kernel
theorem dX6_lostBy_0 : decode cX6_lostBy 0 = .ok (.iconst 0, 1) := by decide +kernel
theorem dX6_lostBy_1 : decode cX6_lostBy 1 = .ok (.istore_n 2, 1) := by decide +kernel
theorem dX6_lostBy_2 : decode cX6_lostBy 2 = .ok (.iconst 0, 1) := by decide +kernel
theorem dX6_lostBy_3 : decode cX6_lostBy 3 = .ok (.istore_n 3, 1) := by decide +kernel
theorem dX6_lostBy_4 : decode cX6_lostBy 4 = .ok (.iload_n 3, 1) := by decide +kernel
theorem dX6_lostBy_5 : decode cX6_lostBy 5 = .ok (.aload_n 0, 1) := by decide +kernel
theorem dX6_lostBy_6 : decode cX6_lostBy 6 = .ok (.getfield 62, 3) := by decide +kernel
theorem dX6_lostBy_9 : decode cX6_lostBy 9 = .ok (.if_icmp .ge 39, 3) := by decide +kernel
theorem dX6_lostBy_12 : decode cX6_lostBy 12 = .ok (.iload_n 2, 1) := by decide +kernel
theorem dX6_lostBy_13 : decode cX6_lostBy 13 = .ok (.iload_n 1, 1) := by decide +kernel
theorem dX6_lostBy_14 : decode cX6_lostBy 14 = .ok (.iconst (-1), 1) := by decide +kernel
theorem dX6_lostBy_15 : decode cX6_lostBy 15 = .ok (.if_icmp .eq 16, 3) := by decide +kernel
theorem dX6_lostBy_18 : decode cX6_lostBy 18 = .ok (.aload_n 0, 1) := by decide +kernel
theorem dX6_lostBy_19 : decode cX6_lostBy 19 = .ok (.getfield 27, 3) := by decide +kernel
theorem dX6_lostBy_22 : decode cX6_lostBy 22 = .ok (.bipush 7, 2) := by decide +kernel
theorem dX6_lostBy_24 : decode cX6_lostBy 24 = .ok (.iload_n 3, 1) := by decide +kernel
theorem dX6_lostBy_25 : decode cX6_lostBy 25 = .ok (.imul, 1) := by decide +kernel
theorem dX6_lostBy_26 : decode cX6_lostBy 26 = .ok (.iaload, 1) := by decide +kernel
theorem dX6_lostBy_27 : decode cX6_lostBy 27 = .ok (.iload_n 1, 1) := by decide +kernel
theorem dX6_lostBy_28 : decode cX6_lostBy 28 = .ok (.if_icmp .ne 11, 3) := by decide +kernel
theorem dX6_lostBy_31 : decode cX6_lostBy 31 = .ok (.aload_n 0, 1) := by decide +kernel
theorem dX6_lostBy_32 : decode cX6_lostBy 32 = .ok (.iload_n 3, 1) := by decide +kernel
theorem dX6_lostBy_33 : decode cX6_lostBy 33 = .ok (.invokevirtual 89, 3) := by decide +kernel
theorem dX6_lostBy_36 : decode cX6_lostBy 36 = .ok (.goto 4, 3) := by decide +kernel
theorem dX6_lostBy_39 : decode cX6_lostBy 39 = .ok (.iconst 0, 1) := by decide +kernel
theorem dX6_lostBy_40 : decode cX6_lostBy 40 = .ok (.iadd, 1) := by decide +kernel
theorem dX6_lostBy_41 : decode cX6_lostBy 41 = .ok (.istore_n 2, 1) := by decide +kernel
theorem dX6_lostBy_42 : decode cX6_lostBy 42 = .ok (.iinc 3 1, 3) := by decide +kernel
theorem dX6_lostBy_45 : decode cX6_lostBy 45 = .ok (.goto (-41), 3) := by decide +kernel
theorem dX6_lostBy_48 : decode cX6_lostBy 48 = .ok (.iload_n 2, 1) := by decide +kernel
theorem dX6_lostBy_49 : decode cX6_lostBy 49 = .ok (.ireturn, 1) := by decide +kernel
theorem dX6_valuesOf_0 : decode cX6_valuesOf 0 = .ok (.iconst 0, 1) := by decide +kernel
theorem dX6_valuesOf_1 : decode cX6_valuesOf 1 = .ok (.istore_n 2, 1) := by decide +kernel
theorem dX6_valuesOf_2 : decode cX6_valuesOf 2 = .ok (.iconst 0, 1) := by decide +kernel
theorem dX6_valuesOf_3 : decode cX6_valuesOf 3 = .ok (.istore_n 3, 1) := by decide +kernel
theorem dX6_valuesOf_4 : decode cX6_valuesOf 4 = .ok (.iload_n 3, 1) := by decide +kernel
theorem dX6_valuesOf_5 : decode cX6_valuesOf 5 = .ok (.aload_n 0, 1) := by decide +kernel
theorem dX6_valuesOf_6 : decode cX6_valuesOf 6 = .ok (.getfield 62, 3) := by decide +kernel
theorem dX6_valuesOf_9 : decode cX6_valuesOf 9 = .ok (.if_icmp .ge 52, 3) := by decide +kernel
theorem dX6_valuesOf_12 : decode cX6_valuesOf 12 = .ok (.iload_n 2, 1) := by decide +kernel
theorem dX6_valuesOf_13 : decode cX6_valuesOf 13 = .ok (.iload_n 1, 1) := by decide +kernel
theorem dX6_valuesOf_14 : decode cX6_valuesOf 14 = .ok (.iconst (-1), 1) := by decide +kernel
theorem dX6_valuesOf_15 : decode cX6_valuesOf 15 = .ok (.if_icmp .eq 16, 3) := by decide +kernel
theorem dX6_valuesOf_18 : decode cX6_valuesOf 18 = .ok (.aload_n 0, 1) := by decide +kernel
theorem dX6_valuesOf_19 : decode cX6_valuesOf 19 = .ok (.getfield 27, 3) := by decide +kernel
theorem dX6_valuesOf_22 : decode cX6_valuesOf 22 = .ok (.bipush 7, 2) := by decide +kernel
theorem dX6_valuesOf_24 : decode cX6_valuesOf 24 = .ok (.iload_n 3, 1) := by decide +kernel
theorem dX6_valuesOf_25 : decode cX6_valuesOf 25 = .ok (.imul, 1) := by decide +kernel
theorem dX6_valuesOf_26 : decode cX6_valuesOf 26 = .ok (.iaload, 1) := by decide +kernel
theorem dX6_valuesOf_27 : decode cX6_valuesOf 27 = .ok (.iload_n 1, 1) := by decide +kernel
theorem dX6_valuesOf_28 : decode cX6_valuesOf 28 = .ok (.if_icmp .ne 24, 3) := by decide +kernel
theorem dX6_valuesOf_31 : decode cX6_valuesOf 31 = .ok (.aload_n 0, 1) := by decide +kernel
theorem dX6_valuesOf_32 : decode cX6_valuesOf 32 = .ok (.iload_n 3, 1) := by decide +kernel
theorem dX6_valuesOf_33 : decode cX6_valuesOf 33 = .ok (.invokevirtual 81, 3) := by decide +kernel
theorem dX6_valuesOf_36 : decode cX6_valuesOf 36 = .ok (.aload_n 0, 1) := by decide +kernel
theorem dX6_valuesOf_37 : decode cX6_valuesOf 37 = .ok (.getfield 27, 3) := by decide +kernel
theorem dX6_valuesOf_40 : decode cX6_valuesOf 40 = .ok (.bipush 7, 2) := by decide +kernel
theorem dX6_valuesOf_42 : decode cX6_valuesOf 42 = .ok (.iload_n 3, 1) := by decide +kernel
theorem dX6_valuesOf_43 : decode cX6_valuesOf 43 = .ok (.imul, 1) := by decide +kernel
theorem dX6_valuesOf_44 : decode cX6_valuesOf 44 = .ok (.bipush 6, 2) := by decide +kernel
theorem dX6_valuesOf_46 : decode cX6_valuesOf 46 = .ok (.iadd, 1) := by decide +kernel
theorem dX6_valuesOf_47 : decode cX6_valuesOf 47 = .ok (.iaload, 1) := by decide +kernel
theorem dX6_valuesOf_48 : decode cX6_valuesOf 48 = .ok (.imul, 1) := by decide +kernel
theorem dX6_valuesOf_49 : decode cX6_valuesOf 49 = .ok (.goto 4, 3) := by decide +kernel
theorem dX6_valuesOf_52 : decode cX6_valuesOf 52 = .ok (.iconst 0, 1) := by decide +kernel
theorem dX6_valuesOf_53 : decode cX6_valuesOf 53 = .ok (.iadd, 1) := by decide +kernel
theorem dX6_valuesOf_54 : decode cX6_valuesOf 54 = .ok (.istore_n 2, 1) := by decide +kernel
theorem dX6_valuesOf_55 : decode cX6_valuesOf 55 = .ok (.iinc 3 1, 3) := by decide +kernel
theorem dX6_valuesOf_58 : decode cX6_valuesOf 58 = .ok (.goto (-54), 3) := by decide +kernel
theorem dX6_valuesOf_61 : decode cX6_valuesOf 61 = .ok (.iload_n 2, 1) := by decide +kernel
theorem dX6_valuesOf_62 : decode cX6_valuesOf 62 = .ok (.ireturn, 1) := by decide +kernel
theorem dX6_inState_0 : decode cX6_inState 0 = .ok (.iconst 0, 1) := by decide +kernel
theorem dX6_inState_1 : decode cX6_inState 1 = .ok (.istore_n 3, 1) := by decide +kernel
theorem dX6_inState_2 : decode cX6_inState 2 = .ok (.iconst 0, 1) := by decide +kernel
theorem dX6_inState_3 : decode cX6_inState 3 = .ok (.istore 4, 2) := by decide +kernel
theorem dX6_inState_5 : decode cX6_inState 5 = .ok (.iload 4, 2) := by decide +kernel
theorem dX6_inState_7 : decode cX6_inState 7 = .ok (.aload_n 0, 1) := by decide +kernel
theorem dX6_inState_8 : decode cX6_inState 8 = .ok (.getfield 62, 3) := by decide +kernel
theorem dX6_inState_11 : decode cX6_inState 11 = .ok (.if_icmp .ge 65, 3) := by decide +kernel
theorem dX6_inState_14 : decode cX6_inState 14 = .ok (.iconst 0, 1) := by decide +kernel
theorem dX6_inState_15 : decode cX6_inState 15 = .ok (.istore 5, 2) := by decide +kernel
theorem dX6_inState_17 : decode cX6_inState 17 = .ok (.iload 5, 2) := by decide +kernel
theorem dX6_inState_19 : decode cX6_inState 19 = .ok (.aload_n 0, 1) := by decide +kernel
theorem dX6_inState_20 : decode cX6_inState 20 = .ok (.iload 4, 2) := by decide +kernel
theorem dX6_inState_22 : decode cX6_inState 22 = .ok (.invokevirtual 81, 3) := by decide +kernel
theorem dX6_inState_25 : decode cX6_inState 25 = .ok (.if_icmp .ge 45, 3) := by decide +kernel
theorem dX6_inState_28 : decode cX6_inState 28 = .ok (.iload_n 1, 1) := by decide +kernel
theorem dX6_inState_29 : decode cX6_inState 29 = .ok (.iconst (-1), 1) := by decide +kernel
theorem dX6_inState_30 : decode cX6_inState 30 = .ok (.if_icmp .eq 9, 3) := by decide +kernel
theorem dX6_inState_33 : decode cX6_inState 33 = .ok (.iload 4, 2) := by decide +kernel
theorem dX6_inState_35 : decode cX6_inState 35 = .ok (.iload_n 1, 1) := by decide +kernel
theorem dX6_inState_36 : decode cX6_inState 36 = .ok (.if_icmp .ne 34, 3) := by decide +kernel
theorem dX6_inState_39 : decode cX6_inState 39 = .ok (.iload_n 3, 1) := by decide +kernel
theorem dX6_inState_40 : decode cX6_inState 40 = .ok (.aload_n 0, 1) := by decide +kernel
theorem dX6_inState_41 : decode cX6_inState 41 = .ok (.getfield 34, 3) := by decide +kernel
theorem dX6_inState_44 : decode cX6_inState 44 = .ok (.bipush 36, 2) := by decide +kernel
theorem dX6_inState_46 : decode cX6_inState 46 = .ok (.iload 4, 2) := by decide +kernel
theorem dX6_inState_48 : decode cX6_inState 48 = .ok (.imul, 1) := by decide +kernel
theorem dX6_inState_49 : decode cX6_inState 49 = .ok (.iload 5, 2) := by decide +kernel
theorem dX6_inState_51 : decode cX6_inState 51 = .ok (.iadd, 1) := by decide +kernel
theorem dX6_inState_52 : decode cX6_inState 52 = .ok (.iaload, 1) := by decide +kernel
theorem dX6_inState_53 : decode cX6_inState 53 = .ok (.iload_n 2, 1) := by decide +kernel
theorem dX6_inState_54 : decode cX6_inState 54 = .ok (.if_icmp .ne 7, 3) := by decide +kernel
theorem dX6_inState_57 : decode cX6_inState 57 = .ok (.iconst 1, 1) := by decide +kernel
theorem dX6_inState_58 : decode cX6_inState 58 = .ok (.goto 4, 3) := by decide +kernel
theorem dX6_inState_61 : decode cX6_inState 61 = .ok (.iconst 0, 1) := by decide +kernel
theorem dX6_inState_62 : decode cX6_inState 62 = .ok (.iadd, 1) := by decide +kernel
theorem dX6_inState_63 : decode cX6_inState 63 = .ok (.istore_n 3, 1) := by decide +kernel
theorem dX6_inState_64 : decode cX6_inState 64 = .ok (.iinc 5 1, 3) := by decide +kernel
theorem dX6_inState_67 : decode cX6_inState 67 = .ok (.goto (-50), 3) := by decide +kernel
theorem dX6_inState_70 : decode cX6_inState 70 = .ok (.iinc 4 1, 3) := by decide +kernel
theorem dX6_inState_73 : decode cX6_inState 73 = .ok (.goto (-68), 3) := by decide +kernel
theorem dX6_inState_76 : decode cX6_inState 76 = .ok (.iload_n 3, 1) := by decide +kernel
theorem dX6_inState_77 : decode cX6_inState 77 = .ok (.ireturn, 1) := by decide +kernel
theorem dX6_storm_0 : decode cX6_storm 0 = .ok (.iconst 0, 1) := by decide +kernel
theorem dX6_storm_1 : decode cX6_storm 1 = .ok (.istore 8, 2) := by decide +kernel
theorem dX6_storm_3 : decode cX6_storm 3 = .ok (.iload 8, 2) := by decide +kernel
theorem dX6_storm_5 : decode cX6_storm 5 = .ok (.bipush 6, 2) := by decide +kernel
theorem dX6_storm_7 : decode cX6_storm 7 = .ok (.if_icmp .ge 17, 3) := by decide +kernel
theorem dX6_storm_10 : decode cX6_storm 10 = .ok (.aload_n 0, 1) := by decide +kernel
theorem dX6_storm_11 : decode cX6_storm 11 = .ok (.getfield 43, 3) := by decide +kernel
theorem dX6_storm_14 : decode cX6_storm 14 = .ok (.iload 8, 2) := by decide +kernel
theorem dX6_storm_16 : decode cX6_storm 16 = .ok (.iconst 0, 1) := by decide +kernel
theorem dX6_storm_17 : decode cX6_storm 17 = .ok (.iastore, 1) := by decide +kernel
theorem dX6_storm_18 : decode cX6_storm 18 = .ok (.iinc 8 1, 3) := by decide +kernel
theorem dX6_storm_21 : decode cX6_storm 21 = .ok (.goto (-18), 3) := by decide +kernel
theorem dX6_storm_24 : decode cX6_storm 24 = .ok (.iconst 0, 1) := by decide +kernel
theorem dX6_storm_25 : decode cX6_storm 25 = .ok (.istore 8, 2) := by decide +kernel
theorem dX6_storm_27 : decode cX6_storm 27 = .ok (.iload 8, 2) := by decide +kernel
theorem dX6_storm_29 : decode cX6_storm 29 = .ok (.aload_n 0, 1) := by decide +kernel
theorem dX6_storm_30 : decode cX6_storm 30 = .ok (.getfield 58, 3) := by decide +kernel
theorem dX6_storm_33 : decode cX6_storm 33 = .ok (.if_icmp .ge 22, 3) := by decide +kernel
theorem dX6_storm_36 : decode cX6_storm 36 = .ok (.aload_n 0, 1) := by decide +kernel
theorem dX6_storm_37 : decode cX6_storm 37 = .ok (.getfield 46, 3) := by decide +kernel
theorem dX6_storm_40 : decode cX6_storm 40 = .ok (.iload 8, 2) := by decide +kernel
theorem dX6_storm_42 : decode cX6_storm 42 = .ok (.aload_n 0, 1) := by decide +kernel
theorem dX6_storm_43 : decode cX6_storm 43 = .ok (.iload 8, 2) := by decide +kernel
theorem dX6_storm_45 : decode cX6_storm 45 = .ok (.invokevirtual 92, 3) := by decide +kernel
theorem dX6_storm_48 : decode cX6_storm 48 = .ok (.iastore, 1) := by decide +kernel
theorem dX6_storm_49 : decode cX6_storm 49 = .ok (.iinc 8 1, 3) := by decide +kernel
theorem dX6_storm_52 : decode cX6_storm 52 = .ok (.goto (-25), 3) := by decide +kernel
theorem dX6_storm_55 : decode cX6_storm 55 = .ok (.iconst 0, 1) := by decide +kernel
theorem dX6_storm_56 : decode cX6_storm 56 = .ok (.istore 8, 2) := by decide +kernel
theorem dX6_storm_58 : decode cX6_storm 58 = .ok (.iload 8, 2) := by decide +kernel
theorem dX6_storm_60 : decode cX6_storm 60 = .ok (.iload 7, 2) := by decide +kernel
theorem dX6_storm_62 : decode cX6_storm 62 = .ok (.if_icmp .ge 50, 3) := by decide +kernel
theorem dX6_storm_65 : decode cX6_storm 65 = .ok (.iconst 0, 1) := by decide +kernel
theorem dX6_storm_66 : decode cX6_storm 66 = .ok (.istore 9, 2) := by decide +kernel
theorem dX6_storm_68 : decode cX6_storm 68 = .ok (.iload 9, 2) := by decide +kernel
theorem dX6_storm_70 : decode cX6_storm 70 = .ok (.aload_n 0, 1) := by decide +kernel
theorem dX6_storm_71 : decode cX6_storm 71 = .ok (.getfield 62, 3) := by decide +kernel
theorem dX6_storm_74 : decode cX6_storm 74 = .ok (.if_icmp .ge 32, 3) := by decide +kernel
theorem dX6_storm_77 : decode cX6_storm 77 = .ok (.aload_n 0, 1) := by decide +kernel
theorem dX6_storm_78 : decode cX6_storm 78 = .ok (.iload 9, 2) := by decide +kernel
theorem dX6_storm_80 : decode cX6_storm 80 = .ok (.iload_n 1, 1) := by decide +kernel
theorem dX6_storm_81 : decode cX6_storm 81 = .ok (.iload 8, 2) := by decide +kernel
theorem dX6_storm_83 : decode cX6_storm 83 = .ok (.iload_n 3, 1) := by decide +kernel
theorem dX6_storm_84 : decode cX6_storm 84 = .ok (.imul, 1) := by decide +kernel
theorem dX6_storm_85 : decode cX6_storm 85 = .ok (.iadd, 1) := by decide +kernel
theorem dX6_storm_86 : decode cX6_storm 86 = .ok (.iload_n 2, 1) := by decide +kernel
theorem dX6_storm_87 : decode cX6_storm 87 = .ok (.iload 8, 2) := by decide +kernel
theorem dX6_storm_89 : decode cX6_storm 89 = .ok (.iload 4, 2) := by decide +kernel
theorem dX6_storm_91 : decode cX6_storm 91 = .ok (.imul, 1) := by decide +kernel
theorem dX6_storm_92 : decode cX6_storm 92 = .ok (.iadd, 1) := by decide +kernel
theorem dX6_storm_93 : decode cX6_storm 93 = .ok (.iload 5, 2) := by decide +kernel
theorem dX6_storm_95 : decode cX6_storm 95 = .ok (.iload 6, 2) := by decide +kernel
theorem dX6_storm_97 : decode cX6_storm 97 = .ok (.invokevirtual 95, 3) := by decide +kernel
theorem dX6_storm_100 : decode cX6_storm 100 = .ok (.iinc 9 1, 3) := by decide +kernel
theorem dX6_storm_103 : decode cX6_storm 103 = .ok (.goto (-35), 3) := by decide +kernel
theorem dX6_storm_106 : decode cX6_storm 106 = .ok (.iinc 8 1, 3) := by decide +kernel
theorem dX6_storm_109 : decode cX6_storm 109 = .ok (.goto (-51), 3) := by decide +kernel
theorem dX6_storm_112 : decode cX6_storm 112 = .ok (.iconst 0, 1) := by decide +kernel
theorem dX6_storm_113 : decode cX6_storm 113 = .ok (.istore 8, 2) := by decide +kernel
theorem dX6_storm_115 : decode cX6_storm 115 = .ok (.iconst 0, 1) := by decide +kernel
theorem dX6_storm_116 : decode cX6_storm 116 = .ok (.istore 9, 2) := by decide +kernel
theorem dX6_storm_118 : decode cX6_storm 118 = .ok (.iload 9, 2) := by decide +kernel
theorem dX6_storm_120 : decode cX6_storm 120 = .ok (.aload_n 0, 1) := by decide +kernel
theorem dX6_storm_121 : decode cX6_storm 121 = .ok (.getfield 58, 3) := by decide +kernel
theorem dX6_storm_124 : decode cX6_storm 124 = .ok (.if_icmp .ge 128, 3) := by decide +kernel
theorem dX6_storm_127 : decode cX6_storm 127 = .ok (.aload_n 0, 1) := by decide +kernel
theorem dX6_storm_128 : decode cX6_storm 128 = .ok (.iload 9, 2) := by decide +kernel
theorem dX6_storm_130 : decode cX6_storm 130 = .ok (.invokevirtual 92, 3) := by decide +kernel
theorem dX6_storm_133 : decode cX6_storm 133 = .ok (.aload_n 0, 1) := by decide +kernel
theorem dX6_storm_134 : decode cX6_storm 134 = .ok (.getfield 46, 3) := by decide +kernel
theorem dX6_storm_137 : decode cX6_storm 137 = .ok (.iload 9, 2) := by decide +kernel
theorem dX6_storm_139 : decode cX6_storm 139 = .ok (.iaload, 1) := by decide +kernel
theorem dX6_storm_140 : decode cX6_storm 140 = .ok (.isub, 1) := by decide +kernel
theorem dX6_storm_141 : decode cX6_storm 141 = .ok (.istore 10, 2) := by decide +kernel
theorem dX6_storm_143 : decode cX6_storm 143 = .ok (.aload_n 0, 1) := by decide +kernel
theorem dX6_storm_144 : decode cX6_storm 144 = .ok (.getfield 43, 3) := by decide +kernel
theorem dX6_storm_147 : decode cX6_storm 147 = .ok (.iconst 2, 1) := by decide +kernel
theorem dX6_storm_148 : decode cX6_storm 148 = .ok (.dup2, 1) := by decide +kernel
theorem dX6_storm_149 : decode cX6_storm 149 = .ok (.iaload, 1) := by decide +kernel
theorem dX6_storm_150 : decode cX6_storm 150 = .ok (.iload 10, 2) := by decide +kernel
theorem dX6_storm_152 : decode cX6_storm 152 = .ok (.iadd, 1) := by decide +kernel
theorem dX6_storm_153 : decode cX6_storm 153 = .ok (.iastore, 1) := by decide +kernel
theorem dX6_storm_154 : decode cX6_storm 154 = .ok (.aload_n 0, 1) := by decide +kernel
theorem dX6_storm_155 : decode cX6_storm 155 = .ok (.getfield 49, 3) := by decide +kernel
theorem dX6_storm_158 : decode cX6_storm 158 = .ok (.iload 9, 2) := by decide +kernel
theorem dX6_storm_160 : decode cX6_storm 160 = .ok (.aload_n 0, 1) := by decide +kernel
theorem dX6_storm_161 : decode cX6_storm 161 = .ok (.getfield 15, 3) := by decide +kernel
theorem dX6_storm_164 : decode cX6_storm 164 = .ok (.iconst 3, 1) := by decide +kernel
theorem dX6_storm_165 : decode cX6_storm 165 = .ok (.iload 9, 2) := by decide +kernel
theorem dX6_storm_167 : decode cX6_storm 167 = .ok (.imul, 1) := by decide +kernel
theorem dX6_storm_168 : decode cX6_storm 168 = .ok (.iconst 1, 1) := by decide +kernel
theorem dX6_storm_169 : decode cX6_storm 169 = .ok (.iadd, 1) := by decide +kernel
theorem dX6_storm_170 : decode cX6_storm 170 = .ok (.iaload, 1) := by decide +kernel
theorem dX6_storm_171 : decode cX6_storm 171 = .ok (.ifCond .ne 7, 3) := by decide +kernel
theorem dX6_storm_174 : decode cX6_storm 174 = .ok (.iconst 0, 1) := by decide +kernel
theorem dX6_storm_175 : decode cX6_storm 175 = .ok (.goto 41, 3) := by decide +kernel
theorem dX6_storm_178 : decode cX6_storm 178 = .ok (.iconst 0, 1) := by decide +kernel
theorem dX6_storm_179 : decode cX6_storm 179 = .ok (.iload 10, 2) := by decide +kernel
theorem dX6_storm_181 : decode cX6_storm 181 = .ok (.aload_n 0, 1) := by decide +kernel
theorem dX6_storm_182 : decode cX6_storm 182 = .ok (.getfield 15, 3) := by decide +kernel
theorem dX6_storm_185 : decode cX6_storm 185 = .ok (.iconst 3, 1) := by decide +kernel
theorem dX6_storm_186 : decode cX6_storm 186 = .ok (.iload 9, 2) := by decide +kernel
theorem dX6_storm_188 : decode cX6_storm 188 = .ok (.imul, 1) := by decide +kernel
theorem dX6_storm_189 : decode cX6_storm 189 = .ok (.iaload, 1) := by decide +kernel
theorem dX6_storm_190 : decode cX6_storm 190 = .ok (.isub, 1) := by decide +kernel
theorem dX6_storm_191 : decode cX6_storm 191 = .ok (.aload_n 0, 1) := by decide +kernel
theorem dX6_storm_192 : decode cX6_storm 192 = .ok (.getfield 15, 3) := by decide +kernel
theorem dX6_storm_195 : decode cX6_storm 195 = .ok (.iconst 3, 1) := by decide +kernel
theorem dX6_storm_196 : decode cX6_storm 196 = .ok (.iload 9, 2) := by decide +kernel
theorem dX6_storm_198 : decode cX6_storm 198 = .ok (.imul, 1) := by decide +kernel
theorem dX6_storm_199 : decode cX6_storm 199 = .ok (.iconst 1, 1) := by decide +kernel
theorem dX6_storm_200 : decode cX6_storm 200 = .ok (.iadd, 1) := by decide +kernel
theorem dX6_storm_201 : decode cX6_storm 201 = .ok (.iaload, 1) := by decide +kernel
theorem dX6_storm_202 : decode cX6_storm 202 = .ok (.aload_n 0, 1) := by decide +kernel
theorem dX6_storm_203 : decode cX6_storm 203 = .ok (.getfield 21, 3) := by decide +kernel
theorem dX6_storm_206 : decode cX6_storm 206 = .ok (.iload 9, 2) := by decide +kernel
theorem dX6_storm_208 : decode cX6_storm 208 = .ok (.iaload, 1) := by decide +kernel
theorem dX6_storm_209 : decode cX6_storm 209 = .ok (.isub, 1) := by decide +kernel
theorem dX6_storm_210 : decode cX6_storm 210 = .ok (.invokestatic 99, 3) := by decide +kernel
theorem dX6_storm_213 : decode cX6_storm 213 = .ok (.invokestatic 104, 3) := by decide +kernel
theorem dX6_storm_216 : decode cX6_storm 216 = .ok (.iastore, 1) := by decide +kernel
theorem dX6_storm_217 : decode cX6_storm 217 = .ok (.aload_n 0, 1) := by decide +kernel
theorem dX6_storm_218 : decode cX6_storm 218 = .ok (.getfield 21, 3) := by decide +kernel
theorem dX6_storm_221 : decode cX6_storm 221 = .ok (.iload 9, 2) := by decide +kernel
theorem dX6_storm_223 : decode cX6_storm 223 = .ok (.dup2, 1) := by decide +kernel
theorem dX6_storm_224 : decode cX6_storm 224 = .ok (.iaload, 1) := by decide +kernel
theorem dX6_storm_225 : decode cX6_storm 225 = .ok (.aload_n 0, 1) := by decide +kernel
theorem dX6_storm_226 : decode cX6_storm 226 = .ok (.getfield 49, 3) := by decide +kernel
theorem dX6_storm_229 : decode cX6_storm 229 = .ok (.iload 9, 2) := by decide +kernel
theorem dX6_storm_231 : decode cX6_storm 231 = .ok (.iaload, 1) := by decide +kernel
theorem dX6_storm_232 : decode cX6_storm 232 = .ok (.iadd, 1) := by decide +kernel
theorem dX6_storm_233 : decode cX6_storm 233 = .ok (.iastore, 1) := by decide +kernel
theorem dX6_storm_234 : decode cX6_storm 234 = .ok (.iload 8, 2) := by decide +kernel
theorem dX6_storm_236 : decode cX6_storm 236 = .ok (.aload_n 0, 1) := by decide +kernel
theorem dX6_storm_237 : decode cX6_storm 237 = .ok (.getfield 49, 3) := by decide +kernel
theorem dX6_storm_240 : decode cX6_storm 240 = .ok (.iload 9, 2) := by decide +kernel
theorem dX6_storm_242 : decode cX6_storm 242 = .ok (.iaload, 1) := by decide +kernel
theorem dX6_storm_243 : decode cX6_storm 243 = .ok (.iadd, 1) := by decide +kernel
theorem dX6_storm_244 : decode cX6_storm 244 = .ok (.istore 8, 2) := by decide +kernel
theorem dX6_storm_246 : decode cX6_storm 246 = .ok (.iinc 9 1, 3) := by decide +kernel
theorem dX6_storm_249 : decode cX6_storm 249 = .ok (.goto (-131), 3) := by decide +kernel
theorem dX6_storm_252 : decode cX6_storm 252 = .ok (.aload_n 0, 1) := by decide +kernel
theorem dX6_storm_253 : decode cX6_storm 253 = .ok (.getfield 43, 3) := by decide +kernel
theorem dX6_storm_256 : decode cX6_storm 256 = .ok (.iconst 3, 1) := by decide +kernel
theorem dX6_storm_257 : decode cX6_storm 257 = .ok (.iload 8, 2) := by decide +kernel
theorem dX6_storm_259 : decode cX6_storm 259 = .ok (.iastore, 1) := by decide +kernel
theorem dX6_storm_260 : decode cX6_storm 260 = .ok (.iconst 0, 1) := by decide +kernel
theorem dX6_storm_261 : decode cX6_storm 261 = .ok (.istore 9, 2) := by decide +kernel
theorem dX6_storm_263 : decode cX6_storm 263 = .ok (.iload 9, 2) := by decide +kernel
theorem dX6_storm_265 : decode cX6_storm 265 = .ok (.aload_n 0, 1) := by decide +kernel
theorem dX6_storm_266 : decode cX6_storm 266 = .ok (.getfield 68, 3) := by decide +kernel
theorem dX6_storm_269 : decode cX6_storm 269 = .ok (.if_icmp .ge 118, 3) := by decide +kernel
theorem dX6_storm_272 : decode cX6_storm 272 = .ok (.iconst 5, 1) := by decide +kernel
theorem dX6_storm_273 : decode cX6_storm 273 = .ok (.iload 9, 2) := by decide +kernel
theorem dX6_storm_275 : decode cX6_storm 275 = .ok (.imul, 1) := by decide +kernel
theorem dX6_storm_276 : decode cX6_storm 276 = .ok (.istore 10, 2) := by decide +kernel
theorem dX6_storm_278 : decode cX6_storm 278 = .ok (.aload_n 0, 1) := by decide +kernel
theorem dX6_storm_279 : decode cX6_storm 279 = .ok (.getfield 37, 3) := by decide +kernel
theorem dX6_storm_282 : decode cX6_storm 282 = .ok (.iload 10, 2) := by decide +kernel
theorem dX6_storm_284 : decode cX6_storm 284 = .ok (.iconst 3, 1) := by decide +kernel
theorem dX6_storm_285 : decode cX6_storm 285 = .ok (.iadd, 1) := by decide +kernel
theorem dX6_storm_286 : decode cX6_storm 286 = .ok (.iaload, 1) := by decide +kernel
theorem dX6_storm_287 : decode cX6_storm 287 = .ok (.aload_n 0, 1) := by decide +kernel
theorem dX6_storm_288 : decode cX6_storm 288 = .ok (.getfield 37, 3) := by decide +kernel
theorem dX6_storm_291 : decode cX6_storm 291 = .ok (.iload 10, 2) := by decide +kernel
theorem dX6_storm_293 : decode cX6_storm 293 = .ok (.iconst 1, 1) := by decide +kernel
theorem dX6_storm_294 : decode cX6_storm 294 = .ok (.iadd, 1) := by decide +kernel
theorem dX6_storm_295 : decode cX6_storm 295 = .ok (.iaload, 1) := by decide +kernel
theorem dX6_storm_296 : decode cX6_storm 296 = .ok (.iconst 0, 1) := by decide +kernel
theorem dX6_storm_297 : decode cX6_storm 297 = .ok (.iload 8, 2) := by decide +kernel
theorem dX6_storm_299 : decode cX6_storm 299 = .ok (.aload_n 0, 1) := by decide +kernel
theorem dX6_storm_300 : decode cX6_storm 300 = .ok (.getfield 37, 3) := by decide +kernel
theorem dX6_storm_303 : decode cX6_storm 303 = .ok (.iload 10, 2) := by decide +kernel
theorem dX6_storm_305 : decode cX6_storm 305 = .ok (.iaload, 1) := by decide +kernel
theorem dX6_storm_306 : decode cX6_storm 306 = .ok (.isub, 1) := by decide +kernel
theorem dX6_storm_307 : decode cX6_storm 307 = .ok (.invokestatic 104, 3) := by decide +kernel
theorem dX6_storm_310 : decode cX6_storm 310 = .ok (.invokestatic 99, 3) := by decide +kernel
theorem dX6_storm_313 : decode cX6_storm 313 = .ok (.aload_n 0, 1) := by decide +kernel
theorem dX6_storm_314 : decode cX6_storm 314 = .ok (.getfield 37, 3) := by decide +kernel
theorem dX6_storm_317 : decode cX6_storm 317 = .ok (.iload 10, 2) := by decide +kernel
theorem dX6_storm_319 : decode cX6_storm 319 = .ok (.iconst 2, 1) := by decide +kernel
theorem dX6_storm_320 : decode cX6_storm 320 = .ok (.iadd, 1) := by decide +kernel
theorem dX6_storm_321 : decode cX6_storm 321 = .ok (.iaload, 1) := by decide +kernel
theorem dX6_storm_322 : decode cX6_storm 322 = .ok (.imul, 1) := by decide +kernel
theorem dX6_storm_323 : decode cX6_storm 323 = .ok (.bipush 100, 2) := by decide +kernel
theorem dX6_storm_325 : decode cX6_storm 325 = .ok (.idiv, 1) := by decide +kernel
theorem dX6_storm_326 : decode cX6_storm 326 = .ok (.invokestatic 99, 3) := by decide +kernel
theorem dX6_storm_329 : decode cX6_storm 329 = .ok (.istore 11, 2) := by decide +kernel
theorem dX6_storm_331 : decode cX6_storm 331 = .ok (.aload_n 0, 1) := by decide +kernel
theorem dX6_storm_332 : decode cX6_storm 332 = .ok (.getfield 37, 3) := by decide +kernel
theorem dX6_storm_335 : decode cX6_storm 335 = .ok (.iload 10, 2) := by decide +kernel
theorem dX6_storm_337 : decode cX6_storm 337 = .ok (.iconst 3, 1) := by decide +kernel
theorem dX6_storm_338 : decode cX6_storm 338 = .ok (.iadd, 1) := by decide +kernel
theorem dX6_storm_339 : decode cX6_storm 339 = .ok (.dup2, 1) := by decide +kernel
theorem dX6_storm_340 : decode cX6_storm 340 = .ok (.iaload, 1) := by decide +kernel
theorem dX6_storm_341 : decode cX6_storm 341 = .ok (.iload 11, 2) := by decide +kernel
theorem dX6_storm_343 : decode cX6_storm 343 = .ok (.isub, 1) := by decide +kernel
theorem dX6_storm_344 : decode cX6_storm 344 = .ok (.iastore, 1) := by decide +kernel
theorem dX6_storm_345 : decode cX6_storm 345 = .ok (.aload_n 0, 1) := by decide +kernel
theorem dX6_storm_346 : decode cX6_storm 346 = .ok (.getfield 37, 3) := by decide +kernel
theorem dX6_storm_349 : decode cX6_storm 349 = .ok (.iload 10, 2) := by decide +kernel
theorem dX6_storm_351 : decode cX6_storm 351 = .ok (.iconst 4, 1) := by decide +kernel
theorem dX6_storm_352 : decode cX6_storm 352 = .ok (.iadd, 1) := by decide +kernel
theorem dX6_storm_353 : decode cX6_storm 353 = .ok (.dup2, 1) := by decide +kernel
theorem dX6_storm_354 : decode cX6_storm 354 = .ok (.iaload, 1) := by decide +kernel
theorem dX6_storm_355 : decode cX6_storm 355 = .ok (.iload 11, 2) := by decide +kernel
theorem dX6_storm_357 : decode cX6_storm 357 = .ok (.iadd, 1) := by decide +kernel
theorem dX6_storm_358 : decode cX6_storm 358 = .ok (.iastore, 1) := by decide +kernel
theorem dX6_storm_359 : decode cX6_storm 359 = .ok (.aload_n 0, 1) := by decide +kernel
theorem dX6_storm_360 : decode cX6_storm 360 = .ok (.dup, 1) := by decide +kernel
theorem dX6_storm_361 : decode cX6_storm 361 = .ok (.getfield 65, 3) := by decide +kernel
theorem dX6_storm_364 : decode cX6_storm 364 = .ok (.iload 11, 2) := by decide +kernel
theorem dX6_storm_366 : decode cX6_storm 366 = .ok (.iadd, 1) := by decide +kernel
theorem dX6_storm_367 : decode cX6_storm 367 = .ok (.putfield 65, 3) := by decide +kernel
theorem dX6_storm_370 : decode cX6_storm 370 = .ok (.aload_n 0, 1) := by decide +kernel
theorem dX6_storm_371 : decode cX6_storm 371 = .ok (.getfield 43, 3) := by decide +kernel
theorem dX6_storm_374 : decode cX6_storm 374 = .ok (.iconst 4, 1) := by decide +kernel
theorem dX6_storm_375 : decode cX6_storm 375 = .ok (.dup2, 1) := by decide +kernel
theorem dX6_storm_376 : decode cX6_storm 376 = .ok (.iaload, 1) := by decide +kernel
theorem dX6_storm_377 : decode cX6_storm 377 = .ok (.iload 11, 2) := by decide +kernel
theorem dX6_storm_379 : decode cX6_storm 379 = .ok (.iadd, 1) := by decide +kernel
theorem dX6_storm_380 : decode cX6_storm 380 = .ok (.iastore, 1) := by decide +kernel
theorem dX6_storm_381 : decode cX6_storm 381 = .ok (.iinc 9 1, 3) := by decide +kernel
theorem dX6_storm_384 : decode cX6_storm 384 = .ok (.goto (-121), 3) := by decide +kernel
theorem dX6_storm_387 : decode cX6_storm 387 = .ok (.iconst 0, 1) := by decide +kernel
theorem dX6_storm_388 : decode cX6_storm 388 = .ok (.istore 9, 2) := by decide +kernel
theorem dX6_storm_390 : decode cX6_storm 390 = .ok (.iload 9, 2) := by decide +kernel
theorem dX6_storm_392 : decode cX6_storm 392 = .ok (.aload_n 0, 1) := by decide +kernel
theorem dX6_storm_393 : decode cX6_storm 393 = .ok (.getfield 58, 3) := by decide +kernel
theorem dX6_storm_396 : decode cX6_storm 396 = .ok (.if_icmp .ge 56, 3) := by decide +kernel
theorem dX6_storm_399 : decode cX6_storm 399 = .ok (.aload_n 0, 1) := by decide +kernel
theorem dX6_storm_400 : decode cX6_storm 400 = .ok (.getfield 24, 3) := by decide +kernel
theorem dX6_storm_403 : decode cX6_storm 403 = .ok (.iload 9, 2) := by decide +kernel
theorem dX6_storm_405 : decode cX6_storm 405 = .ok (.dup2, 1) := by decide +kernel
theorem dX6_storm_406 : decode cX6_storm 406 = .ok (.iaload, 1) := by decide +kernel
theorem dX6_storm_407 : decode cX6_storm 407 = .ok (.aload_n 0, 1) := by decide +kernel
theorem dX6_storm_408 : decode cX6_storm 408 = .ok (.getfield 49, 3) := by decide +kernel
theorem dX6_storm_411 : decode cX6_storm 411 = .ok (.iload 9, 2) := by decide +kernel
theorem dX6_storm_413 : decode cX6_storm 413 = .ok (.iaload, 1) := by decide +kernel
theorem dX6_storm_414 : decode cX6_storm 414 = .ok (.iadd, 1) := by decide +kernel
theorem dX6_storm_415 : decode cX6_storm 415 = .ok (.iastore, 1) := by decide +kernel
theorem dX6_storm_416 : decode cX6_storm 416 = .ok (.aload_n 0, 1) := by decide +kernel
theorem dX6_storm_417 : decode cX6_storm 417 = .ok (.getfield 43, 3) := by decide +kernel
theorem dX6_storm_420 : decode cX6_storm 420 = .ok (.iconst 5, 1) := by decide +kernel
theorem dX6_storm_421 : decode cX6_storm 421 = .ok (.dup2, 1) := by decide +kernel
theorem dX6_storm_422 : decode cX6_storm 422 = .ok (.iaload, 1) := by decide +kernel
theorem dX6_storm_423 : decode cX6_storm 423 = .ok (.aload_n 0, 1) := by decide +kernel
theorem dX6_storm_424 : decode cX6_storm 424 = .ok (.getfield 49, 3) := by decide +kernel
theorem dX6_storm_427 : decode cX6_storm 427 = .ok (.iload 9, 2) := by decide +kernel
theorem dX6_storm_429 : decode cX6_storm 429 = .ok (.iaload, 1) := by decide +kernel
theorem dX6_storm_430 : decode cX6_storm 430 = .ok (.aload_n 0, 1) := by decide +kernel
theorem dX6_storm_431 : decode cX6_storm 431 = .ok (.iload 9, 2) := by decide +kernel
theorem dX6_storm_433 : decode cX6_storm 433 = .ok (.aload_n 0, 1) := by decide +kernel
theorem dX6_storm_434 : decode cX6_storm 434 = .ok (.getfield 49, 3) := by decide +kernel
theorem dX6_storm_437 : decode cX6_storm 437 = .ok (.iload 9, 2) := by decide +kernel
theorem dX6_storm_439 : decode cX6_storm 439 = .ok (.iaload, 1) := by decide +kernel
theorem dX6_storm_440 : decode cX6_storm 440 = .ok (.invokevirtual 107, 3) := by decide +kernel
theorem dX6_storm_443 : decode cX6_storm 443 = .ok (.isub, 1) := by decide +kernel
theorem dX6_storm_444 : decode cX6_storm 444 = .ok (.iadd, 1) := by decide +kernel
theorem dX6_storm_445 : decode cX6_storm 445 = .ok (.iastore, 1) := by decide +kernel
theorem dX6_storm_446 : decode cX6_storm 446 = .ok (.iinc 9 1, 3) := by decide +kernel
theorem dX6_storm_449 : decode cX6_storm 449 = .ok (.goto (-59), 3) := by decide +kernel
theorem dX6_storm_452 : decode cX6_storm 452 = .ok (.return_, 1) := by decide +kernel
theorem dX6_pay_0 : decode cX6_pay 0 = .ok (.aload_n 0, 1) := by decide +kernel
theorem dX6_pay_1 : decode cX6_pay 1 = .ok (.getfield 65, 3) := by decide +kernel
theorem dX6_pay_4 : decode cX6_pay 4 = .ok (.iload_n 2, 1) := by decide +kernel
theorem dX6_pay_5 : decode cX6_pay 5 = .ok (.invokestatic 99, 3) := by decide +kernel
theorem dX6_pay_8 : decode cX6_pay 8 = .ok (.istore_n 3, 1) := by decide +kernel
theorem dX6_pay_9 : decode cX6_pay 9 = .ok (.aload_n 0, 1) := by decide +kernel
theorem dX6_pay_10 : decode cX6_pay 10 = .ok (.dup, 1) := by decide +kernel
theorem dX6_pay_11 : decode cX6_pay 11 = .ok (.getfield 65, 3) := by decide +kernel
theorem dX6_pay_14 : decode cX6_pay 14 = .ok (.iload_n 3, 1) := by decide +kernel
theorem dX6_pay_15 : decode cX6_pay 15 = .ok (.isub, 1) := by decide +kernel
theorem dX6_pay_16 : decode cX6_pay 16 = .ok (.putfield 65, 3) := by decide +kernel
theorem dX6_pay_19 : decode cX6_pay 19 = .ok (.aload_n 0, 1) := by decide +kernel
theorem dX6_pay_20 : decode cX6_pay 20 = .ok (.getfield 9, 3) := by decide +kernel
theorem dX6_pay_23 : decode cX6_pay 23 = .ok (.iload_n 1, 1) := by decide +kernel
theorem dX6_pay_24 : decode cX6_pay 24 = .ok (.dup2, 1) := by decide +kernel
theorem dX6_pay_25 : decode cX6_pay 25 = .ok (.iaload, 1) := by decide +kernel
theorem dX6_pay_26 : decode cX6_pay 26 = .ok (.iload_n 3, 1) := by decide +kernel
theorem dX6_pay_27 : decode cX6_pay 27 = .ok (.iadd, 1) := by decide +kernel
theorem dX6_pay_28 : decode cX6_pay 28 = .ok (.iastore, 1) := by decide +kernel
theorem dX6_pay_29 : decode cX6_pay 29 = .ok (.aload_n 0, 1) := by decide +kernel
theorem dX6_pay_30 : decode cX6_pay 30 = .ok (.getfield 24, 3) := by decide +kernel
theorem dX6_pay_33 : decode cX6_pay 33 = .ok (.iload_n 1, 1) := by decide +kernel
theorem dX6_pay_34 : decode cX6_pay 34 = .ok (.dup2, 1) := by decide +kernel
theorem dX6_pay_35 : decode cX6_pay 35 = .ok (.iaload, 1) := by decide +kernel
theorem dX6_pay_36 : decode cX6_pay 36 = .ok (.iload_n 3, 1) := by decide +kernel
theorem dX6_pay_37 : decode cX6_pay 37 = .ok (.isub, 1) := by decide +kernel
theorem dX6_pay_38 : decode cX6_pay 38 = .ok (.iastore, 1) := by decide +kernel
theorem dX6_pay_39 : decode cX6_pay 39 = .ok (.iload_n 3, 1) := by decide +kernel
theorem dX6_pay_40 : decode cX6_pay 40 = .ok (.ireturn, 1) := by decide +kernel
theorem dX6_hail_0 : decode cX6_hail 0 = .ok (.bipush 7, 2) := by decide +kernel
theorem dX6_hail_2 : decode cX6_hail 2 = .ok (.iload_n 1, 1) := by decide +kernel
theorem dX6_hail_3 : decode cX6_hail 3 = .ok (.imul, 1) := by decide +kernel
theorem dX6_hail_4 : decode cX6_hail 4 = .ok (.istore 6, 2) := by decide +kernel
theorem dX6_hail_6 : decode cX6_hail 6 = .ok (.iconst 0, 1) := by decide +kernel
theorem dX6_hail_7 : decode cX6_hail 7 = .ok (.istore 7, 2) := by decide +kernel
theorem dX6_hail_9 : decode cX6_hail 9 = .ok (.iload 7, 2) := by decide +kernel
theorem dX6_hail_11 : decode cX6_hail 11 = .ok (.aload_n 0, 1) := by decide +kernel
theorem dX6_hail_12 : decode cX6_hail 12 = .ok (.iload_n 1, 1) := by decide +kernel
theorem dX6_hail_13 : decode cX6_hail 13 = .ok (.invokevirtual 81, 3) := by decide +kernel
theorem dX6_hail_16 : decode cX6_hail 16 = .ok (.if_icmp .ge 206, 3) := by decide +kernel
theorem dX6_hail_19 : decode cX6_hail 19 = .ok (.aload_n 0, 1) := by decide +kernel
theorem dX6_hail_20 : decode cX6_hail 20 = .ok (.getfield 27, 3) := by decide +kernel
theorem dX6_hail_23 : decode cX6_hail 23 = .ok (.iload 6, 2) := by decide +kernel
theorem dX6_hail_25 : decode cX6_hail 25 = .ok (.iconst 1, 1) := by decide +kernel
theorem dX6_hail_26 : decode cX6_hail 26 = .ok (.iadd, 1) := by decide +kernel
theorem dX6_hail_27 : decode cX6_hail 27 = .ok (.iaload, 1) := by decide +kernel
theorem dX6_hail_28 : decode cX6_hail 28 = .ok (.iload 7, 2) := by decide +kernel
theorem dX6_hail_30 : decode cX6_hail 30 = .ok (.aload_n 0, 1) := by decide +kernel
theorem dX6_hail_31 : decode cX6_hail 31 = .ok (.getfield 27, 3) := by decide +kernel
theorem dX6_hail_34 : decode cX6_hail 34 = .ok (.iload 6, 2) := by decide +kernel
theorem dX6_hail_36 : decode cX6_hail 36 = .ok (.iconst 3, 1) := by decide +kernel
theorem dX6_hail_37 : decode cX6_hail 37 = .ok (.iadd, 1) := by decide +kernel
theorem dX6_hail_38 : decode cX6_hail 38 = .ok (.iaload, 1) := by decide +kernel
theorem dX6_hail_39 : decode cX6_hail 39 = .ok (.irem, 1) := by decide +kernel
theorem dX6_hail_40 : decode cX6_hail 40 = .ok (.iadd, 1) := by decide +kernel
theorem dX6_hail_41 : decode cX6_hail 41 = .ok (.iload_n 2, 1) := by decide +kernel
theorem dX6_hail_42 : decode cX6_hail 42 = .ok (.isub, 1) := by decide +kernel
theorem dX6_hail_43 : decode cX6_hail 43 = .ok (.invokestatic 110, 3) := by decide +kernel
theorem dX6_hail_46 : decode cX6_hail 46 = .ok (.aload_n 0, 1) := by decide +kernel
theorem dX6_hail_47 : decode cX6_hail 47 = .ok (.getfield 27, 3) := by decide +kernel
theorem dX6_hail_50 : decode cX6_hail 50 = .ok (.iload 6, 2) := by decide +kernel
theorem dX6_hail_52 : decode cX6_hail 52 = .ok (.iconst 2, 1) := by decide +kernel
theorem dX6_hail_53 : decode cX6_hail 53 = .ok (.iadd, 1) := by decide +kernel
theorem dX6_hail_54 : decode cX6_hail 54 = .ok (.iaload, 1) := by decide +kernel
theorem dX6_hail_55 : decode cX6_hail 55 = .ok (.iload 7, 2) := by decide +kernel
theorem dX6_hail_57 : decode cX6_hail 57 = .ok (.aload_n 0, 1) := by decide +kernel
theorem dX6_hail_58 : decode cX6_hail 58 = .ok (.getfield 27, 3) := by decide +kernel
theorem dX6_hail_61 : decode cX6_hail 61 = .ok (.iload 6, 2) := by decide +kernel
theorem dX6_hail_63 : decode cX6_hail 63 = .ok (.iconst 3, 1) := by decide +kernel
theorem dX6_hail_64 : decode cX6_hail 64 = .ok (.iadd, 1) := by decide +kernel
theorem dX6_hail_65 : decode cX6_hail 65 = .ok (.iaload, 1) := by decide +kernel
theorem dX6_hail_66 : decode cX6_hail 66 = .ok (.idiv, 1) := by decide +kernel
theorem dX6_hail_67 : decode cX6_hail 67 = .ok (.iadd, 1) := by decide +kernel
theorem dX6_hail_68 : decode cX6_hail 68 = .ok (.iload_n 3, 1) := by decide +kernel
theorem dX6_hail_69 : decode cX6_hail 69 = .ok (.isub, 1) := by decide +kernel
theorem dX6_hail_70 : decode cX6_hail 70 = .ok (.invokestatic 110, 3) := by decide +kernel
theorem dX6_hail_73 : decode cX6_hail 73 = .ok (.invokestatic 104, 3) := by decide +kernel
theorem dX6_hail_76 : decode cX6_hail 76 = .ok (.istore 8, 2) := by decide +kernel
theorem dX6_hail_78 : decode cX6_hail 78 = .ok (.iload 8, 2) := by decide +kernel
theorem dX6_hail_80 : decode cX6_hail 80 = .ok (.iload 4, 2) := by decide +kernel
theorem dX6_hail_82 : decode cX6_hail 82 = .ok (.if_icmp .le 6, 3) := by decide +kernel
theorem dX6_hail_85 : decode cX6_hail 85 = .ok (.goto 131, 3) := by decide +kernel
theorem dX6_hail_88 : decode cX6_hail 88 = .ok (.iload 5, 2) := by decide +kernel
theorem dX6_hail_90 : decode cX6_hail 90 = .ok (.iconst 2, 1) := by decide +kernel
theorem dX6_hail_91 : decode cX6_hail 91 = .ok (.iload 8, 2) := by decide +kernel
theorem dX6_hail_93 : decode cX6_hail 93 = .ok (.imul, 1) := by decide +kernel
theorem dX6_hail_94 : decode cX6_hail 94 = .ok (.isub, 1) := by decide +kernel
theorem dX6_hail_95 : decode cX6_hail 95 = .ok (.aload_n 0, 1) := by decide +kernel
theorem dX6_hail_96 : decode cX6_hail 96 = .ok (.getfield 30, 3) := by decide +kernel
theorem dX6_hail_99 : decode cX6_hail 99 = .ok (.iload_n 1, 1) := by decide +kernel
theorem dX6_hail_100 : decode cX6_hail 100 = .ok (.baload, 1) := by decide +kernel
theorem dX6_hail_101 : decode cX6_hail 101 = .ok (.ifCond .eq 7, 3) := by decide +kernel
theorem dX6_hail_104 : decode cX6_hail 104 = .ok (.iconst 5, 1) := by decide +kernel
theorem dX6_hail_105 : decode cX6_hail 105 = .ok (.goto 4, 3) := by decide +kernel
theorem dX6_hail_108 : decode cX6_hail 108 = .ok (.iconst 0, 1) := by decide +kernel
theorem dX6_hail_109 : decode cX6_hail 109 = .ok (.isub, 1) := by decide +kernel
theorem dX6_hail_110 : decode cX6_hail 110 = .ok (.istore 9, 2) := by decide +kernel
theorem dX6_hail_112 : decode cX6_hail 112 = .ok (.aload_n 0, 1) := by decide +kernel
theorem dX6_hail_113 : decode cX6_hail 113 = .ok (.getfield 34, 3) := by decide +kernel
theorem dX6_hail_116 : decode cX6_hail 116 = .ok (.bipush 36, 2) := by decide +kernel
theorem dX6_hail_118 : decode cX6_hail 118 = .ok (.iload_n 1, 1) := by decide +kernel
theorem dX6_hail_119 : decode cX6_hail 119 = .ok (.imul, 1) := by decide +kernel
theorem dX6_hail_120 : decode cX6_hail 120 = .ok (.iload 7, 2) := by decide +kernel
theorem dX6_hail_122 : decode cX6_hail 122 = .ok (.iadd, 1) := by decide +kernel
theorem dX6_hail_123 : decode cX6_hail 123 = .ok (.iaload, 1) := by decide +kernel
theorem dX6_hail_124 : decode cX6_hail 124 = .ok (.istore 10, 2) := by decide +kernel
theorem dX6_hail_126 : decode cX6_hail 126 = .ok (.iload 10, 2) := by decide +kernel
theorem dX6_hail_128 : decode cX6_hail 128 = .ok (.ifCond .ne 43, 3) := by decide +kernel
theorem dX6_hail_131 : decode cX6_hail 131 = .ok (.iload 9, 2) := by decide +kernel
theorem dX6_hail_133 : decode cX6_hail 133 = .ok (.aload_n 0, 1) := by decide +kernel
theorem dX6_hail_134 : decode cX6_hail 134 = .ok (.getfield 27, 3) := by decide +kernel
theorem dX6_hail_137 : decode cX6_hail 137 = .ok (.iload 6, 2) := by decide +kernel
theorem dX6_hail_139 : decode cX6_hail 139 = .ok (.iconst 5, 1) := by decide +kernel
theorem dX6_hail_140 : decode cX6_hail 140 = .ok (.iadd, 1) := by decide +kernel
theorem dX6_hail_141 : decode cX6_hail 141 = .ok (.iaload, 1) := by decide +kernel
theorem dX6_hail_142 : decode cX6_hail 142 = .ok (.if_icmp .le 29, 3) := by decide +kernel
theorem dX6_hail_145 : decode cX6_hail 145 = .ok (.aload_n 0, 1) := by decide +kernel
theorem dX6_hail_146 : decode cX6_hail 146 = .ok (.getfield 34, 3) := by decide +kernel
theorem dX6_hail_149 : decode cX6_hail 149 = .ok (.bipush 36, 2) := by decide +kernel
theorem dX6_hail_151 : decode cX6_hail 151 = .ok (.iload_n 1, 1) := by decide +kernel
theorem dX6_hail_152 : decode cX6_hail 152 = .ok (.imul, 1) := by decide +kernel
theorem dX6_hail_153 : decode cX6_hail 153 = .ok (.iload 7, 2) := by decide +kernel
theorem dX6_hail_155 : decode cX6_hail 155 = .ok (.iadd, 1) := by decide +kernel
theorem dX6_hail_156 : decode cX6_hail 156 = .ok (.iconst 1, 1) := by decide +kernel
theorem dX6_hail_157 : decode cX6_hail 157 = .ok (.iastore, 1) := by decide +kernel
theorem dX6_hail_158 : decode cX6_hail 158 = .ok (.aload_n 0, 1) := by decide +kernel
theorem dX6_hail_159 : decode cX6_hail 159 = .ok (.getfield 43, 3) := by decide +kernel
theorem dX6_hail_162 : decode cX6_hail 162 = .ok (.iconst 0, 1) := by decide +kernel
theorem dX6_hail_163 : decode cX6_hail 163 = .ok (.dup2, 1) := by decide +kernel
theorem dX6_hail_164 : decode cX6_hail 164 = .ok (.iaload, 1) := by decide +kernel
theorem dX6_hail_165 : decode cX6_hail 165 = .ok (.iconst 1, 1) := by decide +kernel
theorem dX6_hail_166 : decode cX6_hail 166 = .ok (.iadd, 1) := by decide +kernel
theorem dX6_hail_167 : decode cX6_hail 167 = .ok (.iastore, 1) := by decide +kernel
theorem dX6_hail_168 : decode cX6_hail 168 = .ok (.goto 48, 3) := by decide +kernel
theorem dX6_hail_171 : decode cX6_hail 171 = .ok (.iload 10, 2) := by decide +kernel
theorem dX6_hail_173 : decode cX6_hail 173 = .ok (.iconst 1, 1) := by decide +kernel
theorem dX6_hail_174 : decode cX6_hail 174 = .ok (.if_icmp .ne 42, 3) := by decide +kernel
theorem dX6_hail_177 : decode cX6_hail 177 = .ok (.iconst 2, 1) := by decide +kernel
theorem dX6_hail_178 : decode cX6_hail 178 = .ok (.iload 9, 2) := by decide +kernel
theorem dX6_hail_180 : decode cX6_hail 180 = .ok (.imul, 1) := by decide +kernel
theorem dX6_hail_181 : decode cX6_hail 181 = .ok (.aload_n 0, 1) := by decide +kernel
theorem dX6_hail_182 : decode cX6_hail 182 = .ok (.getfield 27, 3) := by decide +kernel
theorem dX6_hail_185 : decode cX6_hail 185 = .ok (.iload 6, 2) := by decide +kernel
theorem dX6_hail_187 : decode cX6_hail 187 = .ok (.iconst 5, 1) := by decide +kernel
theorem dX6_hail_188 : decode cX6_hail 188 = .ok (.iadd, 1) := by decide +kernel
theorem dX6_hail_189 : decode cX6_hail 189 = .ok (.iaload, 1) := by decide +kernel
theorem dX6_hail_190 : decode cX6_hail 190 = .ok (.if_icmp .le 26, 3) := by decide +kernel
theorem dX6_hail_193 : decode cX6_hail 193 = .ok (.aload_n 0, 1) := by decide +kernel
theorem dX6_hail_194 : decode cX6_hail 194 = .ok (.getfield 34, 3) := by decide +kernel
theorem dX6_hail_197 : decode cX6_hail 197 = .ok (.bipush 36, 2) := by decide +kernel
theorem dX6_hail_199 : decode cX6_hail 199 = .ok (.iload_n 1, 1) := by decide +kernel
theorem dX6_hail_200 : decode cX6_hail 200 = .ok (.imul, 1) := by decide +kernel
theorem dX6_hail_201 : decode cX6_hail 201 = .ok (.iload 7, 2) := by decide +kernel
theorem dX6_hail_203 : decode cX6_hail 203 = .ok (.iadd, 1) := by decide +kernel
theorem dX6_hail_204 : decode cX6_hail 204 = .ok (.iconst 2, 1) := by decide +kernel
theorem dX6_hail_205 : decode cX6_hail 205 = .ok (.iastore, 1) := by decide +kernel
theorem dX6_hail_206 : decode cX6_hail 206 = .ok (.aload_n 0, 1) := by decide +kernel
theorem dX6_hail_207 : decode cX6_hail 207 = .ok (.getfield 43, 3) := by decide +kernel
theorem dX6_hail_210 : decode cX6_hail 210 = .ok (.iconst 1, 1) := by decide +kernel
theorem dX6_hail_211 : decode cX6_hail 211 = .ok (.dup2, 1) := by decide +kernel
theorem dX6_hail_212 : decode cX6_hail 212 = .ok (.iaload, 1) := by decide +kernel
theorem dX6_hail_213 : decode cX6_hail 213 = .ok (.iconst 1, 1) := by decide +kernel
theorem dX6_hail_214 : decode cX6_hail 214 = .ok (.iadd, 1) := by decide +kernel
theorem dX6_hail_215 : decode cX6_hail 215 = .ok (.iastore, 1) := by decide +kernel
theorem dX6_hail_216 : decode cX6_hail 216 = .ok (.iinc 7 1, 3) := by decide +kernel
theorem dX6_hail_219 : decode cX6_hail 219 = .ok (.goto (-210), 3) := by decide +kernel
theorem dX6_hail_222 : decode cX6_hail 222 = .ok (.return_, 1) := by decide +kernel
theorem dX6_endYear_0 : decode cX6_endYear 0 = .ok (.iconst 0, 1) := by decide +kernel
theorem dX6_endYear_1 : decode cX6_endYear 1 = .ok (.istore_n 1, 1) := by decide +kernel
theorem dX6_endYear_2 : decode cX6_endYear 2 = .ok (.iconst 0, 1) := by decide +kernel
theorem dX6_endYear_3 : decode cX6_endYear 3 = .ok (.istore_n 2, 1) := by decide +kernel
theorem dX6_endYear_4 : decode cX6_endYear 4 = .ok (.iload_n 2, 1) := by decide +kernel
theorem dX6_endYear_5 : decode cX6_endYear 5 = .ok (.aload_n 0, 1) := by decide +kernel
theorem dX6_endYear_6 : decode cX6_endYear 6 = .ok (.getfield 58, 3) := by decide +kernel
theorem dX6_endYear_9 : decode cX6_endYear 9 = .ok (.if_icmp .ge 126, 3) := by decide +kernel
theorem dX6_endYear_12 : decode cX6_endYear 12 = .ok (.aload_n 0, 1) := by decide +kernel
theorem dX6_endYear_13 : decode cX6_endYear 13 = .ok (.getfield 15, 3) := by decide +kernel
theorem dX6_endYear_16 : decode cX6_endYear 16 = .ok (.iconst 3, 1) := by decide +kernel
theorem dX6_endYear_17 : decode cX6_endYear 17 = .ok (.iload_n 2, 1) := by decide +kernel
theorem dX6_endYear_18 : decode cX6_endYear 18 = .ok (.imul, 1) := by decide +kernel
theorem dX6_endYear_19 : decode cX6_endYear 19 = .ok (.iconst 1, 1) := by decide +kernel
theorem dX6_endYear_20 : decode cX6_endYear 20 = .ok (.iadd, 1) := by decide +kernel
theorem dX6_endYear_21 : decode cX6_endYear 21 = .ok (.iaload, 1) := by decide +kernel
theorem dX6_endYear_22 : decode cX6_endYear 22 = .ok (.ifCond .ne 6, 3) := by decide +kernel
theorem dX6_endYear_25 : decode cX6_endYear 25 = .ok (.goto 104, 3) := by decide +kernel
theorem dX6_endYear_28 : decode cX6_endYear 28 = .ok (.aload_n 0, 1) := by decide +kernel
theorem dX6_endYear_29 : decode cX6_endYear 29 = .ok (.getfield 9, 3) := by decide +kernel
theorem dX6_endYear_32 : decode cX6_endYear 32 = .ok (.iload_n 2, 1) := by decide +kernel
theorem dX6_endYear_33 : decode cX6_endYear 33 = .ok (.iaload, 1) := by decide +kernel
theorem dX6_endYear_34 : decode cX6_endYear 34 = .ok (.aload_n 0, 1) := by decide +kernel
theorem dX6_endYear_35 : decode cX6_endYear 35 = .ok (.iload_n 2, 1) := by decide +kernel
theorem dX6_endYear_36 : decode cX6_endYear 36 = .ok (.invokevirtual 113, 3) := by decide +kernel
theorem dX6_endYear_39 : decode cX6_endYear 39 = .ok (.aload_n 0, 1) := by decide +kernel
theorem dX6_endYear_40 : decode cX6_endYear 40 = .ok (.getfield 15, 3) := by decide +kernel
theorem dX6_endYear_43 : decode cX6_endYear 43 = .ok (.iconst 3, 1) := by decide +kernel
theorem dX6_endYear_44 : decode cX6_endYear 44 = .ok (.iload_n 2, 1) := by decide +kernel
theorem dX6_endYear_45 : decode cX6_endYear 45 = .ok (.imul, 1) := by decide +kernel
theorem dX6_endYear_46 : decode cX6_endYear 46 = .ok (.iconst 2, 1) := by decide +kernel
theorem dX6_endYear_47 : decode cX6_endYear 47 = .ok (.iadd, 1) := by decide +kernel
theorem dX6_endYear_48 : decode cX6_endYear 48 = .ok (.iaload, 1) := by decide +kernel
theorem dX6_endYear_49 : decode cX6_endYear 49 = .ok (.imul, 1) := by decide +kernel
theorem dX6_endYear_50 : decode cX6_endYear 50 = .ok (.sipush 1000, 3) := by decide +kernel
theorem dX6_endYear_53 : decode cX6_endYear 53 = .ok (.idiv, 1) := by decide +kernel
theorem dX6_endYear_54 : decode cX6_endYear 54 = .ok (.aload_n 0, 1) := by decide +kernel
theorem dX6_endYear_55 : decode cX6_endYear 55 = .ok (.getfield 18, 3) := by decide +kernel
theorem dX6_endYear_58 : decode cX6_endYear 58 = .ok (.iload_n 2, 1) := by decide +kernel
theorem dX6_endYear_59 : decode cX6_endYear 59 = .ok (.iaload, 1) := by decide +kernel
theorem dX6_endYear_60 : decode cX6_endYear 60 = .ok (.imul, 1) := by decide +kernel
theorem dX6_endYear_61 : decode cX6_endYear 61 = .ok (.bipush 100, 2) := by decide +kernel
theorem dX6_endYear_63 : decode cX6_endYear 63 = .ok (.idiv, 1) := by decide +kernel
theorem dX6_endYear_64 : decode cX6_endYear 64 = .ok (.invokestatic 99, 3) := by decide +kernel
theorem dX6_endYear_67 : decode cX6_endYear 67 = .ok (.istore_n 3, 1) := by decide +kernel
theorem dX6_endYear_68 : decode cX6_endYear 68 = .ok (.aload_n 0, 1) := by decide +kernel
theorem dX6_endYear_69 : decode cX6_endYear 69 = .ok (.getfield 9, 3) := by decide +kernel
theorem dX6_endYear_72 : decode cX6_endYear 72 = .ok (.iload_n 2, 1) := by decide +kernel
theorem dX6_endYear_73 : decode cX6_endYear 73 = .ok (.dup2, 1) := by decide +kernel
theorem dX6_endYear_74 : decode cX6_endYear 74 = .ok (.iaload, 1) := by decide +kernel
