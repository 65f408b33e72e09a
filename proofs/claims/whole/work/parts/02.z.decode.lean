theorem dX0_init_0 : decode cX0_init 0 = .ok (.aload_n 0, 1) := by decide +kernel
theorem dX0_init_1 : decode cX0_init 1 = .ok (.invokespecial 1, 3) := by decide +kernel
theorem dX0_init_4 : decode cX0_init 4 = .ok (.return_, 1) := by decide +kernel
theorem dX0_takeOver_0 : decode cX0_takeOver 0 = .ok (.aload_n 0, 1) := by decide +kernel
theorem dX0_takeOver_1 : decode cX0_takeOver 1 = .ok (.aload_n 1, 1) := by decide +kernel
theorem dX0_takeOver_2 : decode cX0_takeOver 2 = .ok (.getfield 7, 3) := by decide +kernel
theorem dX0_takeOver_5 : decode cX0_takeOver 5 = .ok (.putfield 7, 3) := by decide +kernel
theorem dX0_takeOver_8 : decode cX0_takeOver 8 = .ok (.aload_n 0, 1) := by decide +kernel
theorem dX0_takeOver_9 : decode cX0_takeOver 9 = .ok (.aload_n 1, 1) := by decide +kernel
theorem dX0_takeOver_10 : decode cX0_takeOver 10 = .ok (.getfield 13, 3) := by decide +kernel
theorem dX0_takeOver_13 : decode cX0_takeOver 13 = .ok (.putfield 13, 3) := by decide +kernel
theorem dX0_takeOver_16 : decode cX0_takeOver 16 = .ok (.aload_n 0, 1) := by decide +kernel
theorem dX0_takeOver_17 : decode cX0_takeOver 17 = .ok (.aload_n 1, 1) := by decide +kernel
theorem dX0_takeOver_18 : decode cX0_takeOver 18 = .ok (.getfield 16, 3) := by decide +kernel
theorem dX0_takeOver_21 : decode cX0_takeOver 21 = .ok (.putfield 16, 3) := by decide +kernel
theorem dX0_takeOver_24 : decode cX0_takeOver 24 = .ok (.aload_n 0, 1) := by decide +kernel
theorem dX0_takeOver_25 : decode cX0_takeOver 25 = .ok (.aload_n 1, 1) := by decide +kernel
theorem dX0_takeOver_26 : decode cX0_takeOver 26 = .ok (.getfield 19, 3) := by decide +kernel
theorem dX0_takeOver_29 : decode cX0_takeOver 29 = .ok (.putfield 19, 3) := by decide +kernel
theorem dX0_takeOver_32 : decode cX0_takeOver 32 = .ok (.aload_n 0, 1) := by decide +kernel
theorem dX0_takeOver_33 : decode cX0_takeOver 33 = .ok (.aload_n 1, 1) := by decide +kernel
theorem dX0_takeOver_34 : decode cX0_takeOver 34 = .ok (.getfield 22, 3) := by decide +kernel
theorem dX0_takeOver_37 : decode cX0_takeOver 37 = .ok (.putfield 22, 3) := by decide +kernel
theorem dX0_takeOver_40 : decode cX0_takeOver 40 = .ok (.return_, 1) := by decide +kernel
theorem dX1_init_0 : decode cX1_init 0 = .ok (.aload_n 0, 1) := by decide +kernel
theorem dX1_init_1 : decode cX1_init 1 = .ok (.invokespecial 3, 3) := by decide +kernel
theorem dX1_init_4 : decode cX1_init 4 = .ok (.aload_n 0, 1) := by decide +kernel
theorem dX1_init_5 : decode cX1_init 5 = .ok (.bipush 100, 2) := by decide +kernel
theorem dX1_init_7 : decode cX1_init 7 = .ok (.putfield 9, 3) := by decide +kernel
theorem dX1_init_10 : decode cX1_init 10 = .ok (.aload_n 0, 1) := by decide +kernel
theorem dX1_init_11 : decode cX1_init 11 = .ok (.iconst 3, 1) := by decide +kernel
theorem dX1_init_12 : decode cX1_init 12 = .ok (.putfield 15, 3) := by decide +kernel
theorem dX1_init_15 : decode cX1_init 15 = .ok (.aload_n 0, 1) := by decide +kernel
theorem dX1_init_16 : decode cX1_init 16 = .ok (.iconst 2, 1) := by decide +kernel
theorem dX1_init_17 : decode cX1_init 17 = .ok (.putfield 18, 3) := by decide +kernel
theorem dX1_init_20 : decode cX1_init 20 = .ok (.return_, 1) := by decide +kernel
theorem dX1_isSharp_0 : decode cX1_isSharp 0 = .ok (.aload_n 0, 1) := by decide +kernel
theorem dX1_isSharp_1 : decode cX1_isSharp 1 = .ok (.getfield 9, 3) := by decide +kernel
theorem dX1_isSharp_4 : decode cX1_isSharp 4 = .ok (.ifCond .le 7, 3) := by decide +kernel
theorem dX1_isSharp_7 : decode cX1_isSharp 7 = .ok (.iconst 1, 1) := by decide +kernel
theorem dX1_isSharp_8 : decode cX1_isSharp 8 = .ok (.goto 4, 3) := by decide +kernel
theorem dX1_isSharp_11 : decode cX1_isSharp 11 = .ok (.iconst 0, 1) := by decide +kernel
theorem dX1_isSharp_12 : decode cX1_isSharp 12 = .ok (.ireturn, 1) := by decide +kernel
theorem dX1_reach_0 : decode cX1_reach 0 = .ok (.aload_n 0, 1) := by decide +kernel
theorem dX1_reach_1 : decode cX1_reach 1 = .ok (.invokevirtual 21, 3) := by decide +kernel
theorem dX1_reach_4 : decode cX1_reach 4 = .ok (.ifCond .ne 5, 3) := by decide +kernel
theorem dX1_reach_7 : decode cX1_reach 7 = .ok (.iconst 0, 1) := by decide +kernel
theorem dX1_reach_8 : decode cX1_reach 8 = .ok (.ireturn, 1) := by decide +kernel
theorem dX1_reach_9 : decode cX1_reach 9 = .ok (.aload_n 0, 1) := by decide +kernel
theorem dX1_reach_10 : decode cX1_reach 10 = .ok (.getfield 9, 3) := by decide +kernel
theorem dX1_reach_13 : decode cX1_reach 13 = .ok (.bipush 50, 2) := by decide +kernel
theorem dX1_reach_15 : decode cX1_reach 15 = .ok (.if_icmp .lt 10, 3) := by decide +kernel
theorem dX1_reach_18 : decode cX1_reach 18 = .ok (.aload_n 0, 1) := by decide +kernel
theorem dX1_reach_19 : decode cX1_reach 19 = .ok (.getfield 15, 3) := by decide +kernel
theorem dX1_reach_22 : decode cX1_reach 22 = .ok (.goto 11, 3) := by decide +kernel
theorem dX1_reach_25 : decode cX1_reach 25 = .ok (.aload_n 0, 1) := by decide +kernel
theorem dX1_reach_26 : decode cX1_reach 26 = .ok (.getfield 15, 3) := by decide +kernel
theorem dX1_reach_29 : decode cX1_reach 29 = .ok (.iconst 1, 1) := by decide +kernel
theorem dX1_reach_30 : decode cX1_reach 30 = .ok (.iadd, 1) := by decide +kernel
theorem dX1_reach_31 : decode cX1_reach 31 = .ok (.iconst 2, 1) := by decide +kernel
theorem dX1_reach_32 : decode cX1_reach 32 = .ok (.idiv, 1) := by decide +kernel
theorem dX1_reach_33 : decode cX1_reach 33 = .ok (.ireturn, 1) := by decide +kernel
theorem dX1_becomeBlunter_0 : decode cX1_becomeBlunter 0 = .ok (.aload_n 0, 1) := by decide +kernel
theorem dX1_becomeBlunter_1 : decode cX1_becomeBlunter 1 = .ok (.iconst 0, 1) := by decide +kernel
theorem dX1_becomeBlunter_2 : decode cX1_becomeBlunter 2 = .ok (.aload_n 0, 1) := by decide +kernel
theorem dX1_becomeBlunter_3 : decode cX1_becomeBlunter 3 = .ok (.getfield 9, 3) := by decide +kernel
theorem dX1_becomeBlunter_6 : decode cX1_becomeBlunter 6 = .ok (.iload_n 1, 1) := by decide +kernel
theorem dX1_becomeBlunter_7 : decode cX1_becomeBlunter 7 = .ok (.isub, 1) := by decide +kernel
theorem dX1_becomeBlunter_8 : decode cX1_becomeBlunter 8 = .ok (.invokestatic 25, 3) := by decide +kernel
theorem dX1_becomeBlunter_11 : decode cX1_becomeBlunter 11 = .ok (.putfield 9, 3) := by decide +kernel
theorem dX1_becomeBlunter_14 : decode cX1_becomeBlunter 14 = .ok (.return_, 1) := by decide +kernel
theorem dX1_takeOver_0 : decode cX1_takeOver 0 = .ok (.aload_n 0, 1) := by decide +kernel
theorem dX1_takeOver_1 : decode cX1_takeOver 1 = .ok (.aload_n 1, 1) := by decide +kernel
theorem dX1_takeOver_2 : decode cX1_takeOver 2 = .ok (.getfield 9, 3) := by decide +kernel
theorem dX1_takeOver_5 : decode cX1_takeOver 5 = .ok (.putfield 9, 3) := by decide +kernel
theorem dX1_takeOver_8 : decode cX1_takeOver 8 = .ok (.aload_n 0, 1) := by decide +kernel
theorem dX1_takeOver_9 : decode cX1_takeOver 9 = .ok (.aload_n 1, 1) := by decide +kernel
theorem dX1_takeOver_10 : decode cX1_takeOver 10 = .ok (.getfield 15, 3) := by decide +kernel
theorem dX1_takeOver_13 : decode cX1_takeOver 13 = .ok (.putfield 15, 3) := by decide +kernel
theorem dX1_takeOver_16 : decode cX1_takeOver 16 = .ok (.aload_n 0, 1) := by decide +kernel
theorem dX1_takeOver_17 : decode cX1_takeOver 17 = .ok (.aload_n 1, 1) := by decide +kernel
theorem dX1_takeOver_18 : decode cX1_takeOver 18 = .ok (.getfield 18, 3) := by decide +kernel
theorem dX1_takeOver_21 : decode cX1_takeOver 21 = .ok (.putfield 18, 3) := by decide +kernel
theorem dX1_takeOver_24 : decode cX1_takeOver 24 = .ok (.return_, 1) := by decide +kernel
theorem dX2_init_0 : decode cX2_init 0 = .ok (.aload_n 0, 1) := by decide +kernel
theorem dX2_init_1 : decode cX2_init 1 = .ok (.invokespecial 3, 3) := by decide +kernel
theorem dX2_init_4 : decode cX2_init 4 = .ok (.aload_n 0, 1) := by decide +kernel
theorem dX2_init_5 : decode cX2_init 5 = .ok (.iconst 1, 1) := by decide +kernel
theorem dX2_init_6 : decode cX2_init 6 = .ok (.putfield 9, 3) := by decide +kernel
theorem dX2_init_9 : decode cX2_init 9 = .ok (.return_, 1) := by decide +kernel
theorem dX2_renew_0 : decode cX2_renew 0 = .ok (.aload_n 0, 1) := by decide +kernel
theorem dX2_renew_1 : decode cX2_renew 1 = .ok (.iload_n 1, 1) := by decide +kernel
theorem dX2_renew_2 : decode cX2_renew 2 = .ok (.putfield 9, 3) := by decide +kernel
theorem dX2_renew_5 : decode cX2_renew 5 = .ok (.aload_n 0, 1) := by decide +kernel
theorem dX2_renew_6 : decode cX2_renew 6 = .ok (.iconst 0, 1) := by decide +kernel
theorem dX2_renew_7 : decode cX2_renew 7 = .ok (.putfield 15, 3) := by decide +kernel
theorem dX2_renew_10 : decode cX2_renew 10 = .ok (.aload_n 0, 1) := by decide +kernel
theorem dX2_renew_11 : decode cX2_renew 11 = .ok (.iconst 0, 1) := by decide +kernel
theorem dX2_renew_12 : decode cX2_renew 12 = .ok (.putfield 18, 3) := by decide +kernel
theorem dX2_renew_15 : decode cX2_renew 15 = .ok (.return_, 1) := by decide +kernel
theorem dX2_wearByPass_0 : decode cX2_wearByPass 0 = .ok (.aload_n 0, 1) := by decide +kernel
theorem dX2_wearByPass_1 : decode cX2_wearByPass 1 = .ok (.dup, 1) := by decide +kernel
theorem dX2_wearByPass_2 : decode cX2_wearByPass 2 = .ok (.getfield 18, 3) := by decide +kernel
theorem dX2_wearByPass_5 : decode cX2_wearByPass 5 = .ok (.iconst 1, 1) := by decide +kernel
theorem dX2_wearByPass_6 : decode cX2_wearByPass 6 = .ok (.iadd, 1) := by decide +kernel
theorem dX2_wearByPass_7 : decode cX2_wearByPass 7 = .ok (.putfield 18, 3) := by decide +kernel
theorem dX2_wearByPass_10 : decode cX2_wearByPass 10 = .ok (.aload_n 0, 1) := by decide +kernel
theorem dX2_wearByPass_11 : decode cX2_wearByPass 11 = .ok (.getfield 18, 3) := by decide +kernel
theorem dX2_wearByPass_14 : decode cX2_wearByPass 14 = .ok (.iconst 4, 1) := by decide +kernel
theorem dX2_wearByPass_15 : decode cX2_wearByPass 15 = .ok (.irem, 1) := by decide +kernel
theorem dX2_wearByPass_16 : decode cX2_wearByPass 16 = .ok (.ifCond .ne 18, 3) := by decide +kernel
theorem dX2_wearByPass_19 : decode cX2_wearByPass 19 = .ok (.aload_n 0, 1) := by decide +kernel
theorem dX2_wearByPass_20 : decode cX2_wearByPass 20 = .ok (.bipush 30, 2) := by decide +kernel
theorem dX2_wearByPass_22 : decode cX2_wearByPass 22 = .ok (.aload_n 0, 1) := by decide +kernel
theorem dX2_wearByPass_23 : decode cX2_wearByPass 23 = .ok (.getfield 15, 3) := by decide +kernel
theorem dX2_wearByPass_26 : decode cX2_wearByPass 26 = .ok (.iconst 1, 1) := by decide +kernel
theorem dX2_wearByPass_27 : decode cX2_wearByPass 27 = .ok (.iadd, 1) := by decide +kernel
theorem dX2_wearByPass_28 : decode cX2_wearByPass 28 = .ok (.invokestatic 21, 3) := by decide +kernel
theorem dX2_wearByPass_31 : decode cX2_wearByPass 31 = .ok (.putfield 15, 3) := by decide +kernel
theorem dX2_wearByPass_34 : decode cX2_wearByPass 34 = .ok (.return_, 1) := by decide +kernel
theorem dX2_takeOver_0 : decode cX2_takeOver 0 = .ok (.aload_n 0, 1) := by decide +kernel
theorem dX2_takeOver_1 : decode cX2_takeOver 1 = .ok (.aload_n 1, 1) := by decide +kernel
theorem dX2_takeOver_2 : decode cX2_takeOver 2 = .ok (.getfield 9, 3) := by decide +kernel
theorem dX2_takeOver_5 : decode cX2_takeOver 5 = .ok (.putfield 9, 3) := by decide +kernel
theorem dX2_takeOver_8 : decode cX2_takeOver 8 = .ok (.aload_n 0, 1) := by decide +kernel
theorem dX2_takeOver_9 : decode cX2_takeOver 9 = .ok (.aload_n 1, 1) := by decide +kernel
theorem dX2_takeOver_10 : decode cX2_takeOver 10 = .ok (.getfield 15, 3) := by decide +kernel
theorem dX2_takeOver_13 : decode cX2_takeOver 13 = .ok (.putfield 15, 3) := by decide +kernel
theorem dX2_takeOver_16 : decode cX2_takeOver 16 = .ok (.aload_n 0, 1) := by decide +kernel
theorem dX2_takeOver_17 : decode cX2_takeOver 17 = .ok (.aload_n 1, 1) := by decide +kernel
theorem dX2_takeOver_18 : decode cX2_takeOver 18 = .ok (.getfield 27, 3) := by decide +kernel
theorem dX2_takeOver_21 : decode cX2_takeOver 21 = .ok (.putfield 27, 3) := by decide +kernel
theorem dX2_takeOver_24 : decode cX2_takeOver 24 = .ok (.aload_n 0, 1) := by decide +kernel
theorem dX2_takeOver_25 : decode cX2_takeOver 25 = .ok (.aload_n 1, 1) := by decide +kernel
theorem dX2_takeOver_26 : decode cX2_takeOver 26 = .ok (.getfield 18, 3) := by decide +kernel
theorem dX2_takeOver_29 : decode cX2_takeOver 29 = .ok (.putfield 18, 3) := by decide +kernel
theorem dX2_takeOver_32 : decode cX2_takeOver 32 = .ok (.return_, 1) := by decide +kernel
theorem dX3_init_0 : decode cX3_init 0 = .ok (.aload_n 0, 1) := by decide +kernel
theorem dX3_init_1 : decode cX3_init 1 = .ok (.invokespecial 3, 3) := by decide +kernel
theorem dX3_init_4 : decode cX3_init 4 = .ok (.aload_n 0, 1) := by decide +kernel
theorem dX3_init_5 : decode cX3_init 5 = .ok (.bipush 6, 2) := by decide +kernel
theorem dX3_init_7 : decode cX3_init 7 = .ok (.anewarray 9, 3) := by decide +kernel
theorem dX3_init_10 : decode cX3_init 10 = .ok (.putfield 11, 3) := by decide +kernel
theorem dX3_init_13 : decode cX3_init 13 = .ok (.aload_n 0, 1) := by decide +kernel
theorem dX3_init_14 : decode cX3_init 14 = .ok (.iconst 2, 1) := by decide +kernel
theorem dX3_init_15 : decode cX3_init 15 = .ok (.anewarray 9, 3) := by decide +kernel
theorem dX3_init_18 : decode cX3_init 18 = .ok (.putfield 17, 3) := by decide +kernel
theorem dX3_init_21 : decode cX3_init 21 = .ok (.return_, 1) := by decide +kernel
theorem dX3_save_0 : decode cX3_save 0 = .ok (.aload_n 0, 1) := by decide +kernel
theorem dX3_save_1 : decode cX3_save 1 = .ok (.getfield 20, 3) := by decide +kernel
theorem dX3_save_4 : decode cX3_save 4 = .ok (.bipush 6, 2) := by decide +kernel
theorem dX3_save_6 : decode cX3_save 6 = .ok (.if_icmp .ge 16, 3) := by decide +kernel
theorem dX3_save_9 : decode cX3_save 9 = .ok (.aload_n 0, 1) := by decide +kernel
theorem dX3_save_10 : decode cX3_save 10 = .ok (.dup, 1) := by decide +kernel
theorem dX3_save_11 : decode cX3_save 11 = .ok (.getfield 20, 3) := by decide +kernel
theorem dX3_save_14 : decode cX3_save 14 = .ok (.iconst 1, 1) := by decide +kernel
theorem dX3_save_15 : decode cX3_save 15 = .ok (.iadd, 1) := by decide +kernel
theorem dX3_save_16 : decode cX3_save 16 = .ok (.putfield 20, 3) := by decide +kernel
theorem dX3_save_19 : decode cX3_save 19 = .ok (.goto 16, 3) := by decide +kernel
theorem dX3_save_22 : decode cX3_save 22 = .ok (.aload_n 0, 1) := by decide +kernel
theorem dX3_save_23 : decode cX3_save 23 = .ok (.aload_n 0, 1) := by decide +kernel
theorem dX3_save_24 : decode cX3_save 24 = .ok (.getfield 24, 3) := by decide +kernel
theorem dX3_save_27 : decode cX3_save 27 = .ok (.iconst 1, 1) := by decide +kernel
theorem dX3_save_28 : decode cX3_save 28 = .ok (.iadd, 1) := by decide +kernel
theorem dX3_save_29 : decode cX3_save 29 = .ok (.bipush 6, 2) := by decide +kernel
theorem dX3_save_31 : decode cX3_save 31 = .ok (.irem, 1) := by decide +kernel
theorem dX3_save_32 : decode cX3_save 32 = .ok (.putfield 24, 3) := by decide +kernel
theorem dX3_save_35 : decode cX3_save 35 = .ok (.aload_n 0, 1) := by decide +kernel
theorem dX3_save_36 : decode cX3_save 36 = .ok (.getfield 11, 3) := by decide +kernel
theorem dX3_save_39 : decode cX3_save 39 = .ok (.aload_n 0, 1) := by decide +kernel
theorem dX3_save_40 : decode cX3_save 40 = .ok (.invokevirtual 27, 3) := by decide +kernel
theorem dX3_save_43 : decode cX3_save 43 = .ok (.aload_n 1, 1) := by decide +kernel
theorem dX3_save_44 : decode cX3_save 44 = .ok (.invokestatic 31, 3) := by decide +kernel
theorem dX3_save_47 : decode cX3_save 47 = .ok (.return_, 1) := by decide +kernel
theorem dX3_restoreLatest_0 : decode cX3_restoreLatest 0 = .ok (.aload_n 0, 1) := by decide +kernel
theorem dX3_restoreLatest_1 : decode cX3_restoreLatest 1 = .ok (.getfield 20, 3) := by decide +kernel
theorem dX3_restoreLatest_4 : decode cX3_restoreLatest 4 = .ok (.ifCond .le 25, 3) := by decide +kernel
theorem dX3_restoreLatest_7 : decode cX3_restoreLatest 7 = .ok (.aload_n 0, 1) := by decide +kernel
theorem dX3_restoreLatest_8 : decode cX3_restoreLatest 8 = .ok (.getfield 11, 3) := by decide +kernel
theorem dX3_restoreLatest_11 : decode cX3_restoreLatest 11 = .ok (.aload_n 0, 1) := by decide +kernel
theorem dX3_restoreLatest_12 : decode cX3_restoreLatest 12 = .ok (.invokevirtual 27, 3) := by decide +kernel
theorem dX3_restoreLatest_15 : decode cX3_restoreLatest 15 = .ok (.aload_n 1, 1) := by decide +kernel
theorem dX3_restoreLatest_16 : decode cX3_restoreLatest 16 = .ok (.invokestatic 35, 3) := by decide +kernel
theorem dX3_restoreLatest_19 : decode cX3_restoreLatest 19 = .ok (.aload_n 0, 1) := by decide +kernel
theorem dX3_restoreLatest_20 : decode cX3_restoreLatest 20 = .ok (.dup, 1) := by decide +kernel
theorem dX3_restoreLatest_21 : decode cX3_restoreLatest 21 = .ok (.getfield 20, 3) := by decide +kernel
theorem dX3_restoreLatest_24 : decode cX3_restoreLatest 24 = .ok (.iconst 1, 1) := by decide +kernel
theorem dX3_restoreLatest_25 : decode cX3_restoreLatest 25 = .ok (.isub, 1) := by decide +kernel
theorem dX3_restoreLatest_26 : decode cX3_restoreLatest 26 = .ok (.putfield 20, 3) := by decide +kernel
theorem dX3_restoreLatest_29 : decode cX3_restoreLatest 29 = .ok (.return_, 1) := by decide +kernel
theorem dX3_latest_0 : decode cX3_latest 0 = .ok (.aload_n 0, 1) := by decide +kernel
theorem dX3_latest_1 : decode cX3_latest 1 = .ok (.getfield 24, 3) := by decide +kernel
theorem dX3_latest_4 : decode cX3_latest 4 = .ok (.aload_n 0, 1) := by decide +kernel
theorem dX3_latest_5 : decode cX3_latest 5 = .ok (.getfield 20, 3) := by decide +kernel
theorem dX3_latest_8 : decode cX3_latest 8 = .ok (.iadd, 1) := by decide +kernel
theorem dX3_latest_9 : decode cX3_latest 9 = .ok (.iconst 1, 1) := by decide +kernel
theorem dX3_latest_10 : decode cX3_latest 10 = .ok (.isub, 1) := by decide +kernel
theorem dX3_latest_11 : decode cX3_latest 11 = .ok (.bipush 6, 2) := by decide +kernel
theorem dX3_latest_13 : decode cX3_latest 13 = .ok (.irem, 1) := by decide +kernel
theorem dX3_latest_14 : decode cX3_latest 14 = .ok (.ireturn, 1) := by decide +kernel
theorem dX3_isFilled_0 : decode cX3_isFilled 0 = .ok (.iload_n 1, 1) := by decide +kernel
theorem dX3_isFilled_1 : decode cX3_isFilled 1 = .ok (.ifCond .lt 25, 3) := by decide +kernel
theorem dX3_isFilled_4 : decode cX3_isFilled 4 = .ok (.iload_n 1, 1) := by decide +kernel
theorem dX3_isFilled_5 : decode cX3_isFilled 5 = .ok (.aload_n 0, 1) := by decide +kernel
theorem dX3_isFilled_6 : decode cX3_isFilled 6 = .ok (.getfield 17, 3) := by decide +kernel
theorem dX3_isFilled_9 : decode cX3_isFilled 9 = .ok (.arraylength, 1) := by decide +kernel
theorem dX3_isFilled_10 : decode cX3_isFilled 10 = .ok (.if_icmp .ge 16, 3) := by decide +kernel
theorem dX3_isFilled_13 : decode cX3_isFilled 13 = .ok (.aload_n 0, 1) := by decide +kernel
theorem dX3_isFilled_14 : decode cX3_isFilled 14 = .ok (.getfield 17, 3) := by decide +kernel
theorem dX3_isFilled_17 : decode cX3_isFilled 17 = .ok (.iload_n 1, 1) := by decide +kernel
theorem dX3_isFilled_18 : decode cX3_isFilled 18 = .ok (.aaload, 1) := by decide +kernel
theorem dX3_isFilled_19 : decode cX3_isFilled 19 = .ok (.ifnull 7, 3) := by decide +kernel
theorem dX3_isFilled_22 : decode cX3_isFilled 22 = .ok (.iconst 1, 1) := by decide +kernel
theorem dX3_isFilled_23 : decode cX3_isFilled 23 = .ok (.goto 4, 3) := by decide +kernel
theorem dX3_isFilled_26 : decode cX3_isFilled 26 = .ok (.iconst 0, 1) := by decide +kernel
theorem dX3_isFilled_27 : decode cX3_isFilled 27 = .ok (.ireturn, 1) := by decide +kernel
theorem dX3_fillSlot_0 : decode cX3_fillSlot 0 = .ok (.aload_n 0, 1) := by decide +kernel
theorem dX3_fillSlot_1 : decode cX3_fillSlot 1 = .ok (.getfield 17, 3) := by decide +kernel
theorem dX3_fillSlot_4 : decode cX3_fillSlot 4 = .ok (.iload_n 1, 1) := by decide +kernel
theorem dX3_fillSlot_5 : decode cX3_fillSlot 5 = .ok (.aload_n 2, 1) := by decide +kernel
theorem dX3_fillSlot_6 : decode cX3_fillSlot 6 = .ok (.invokestatic 31, 3) := by decide +kernel
theorem dX3_fillSlot_9 : decode cX3_fillSlot 9 = .ok (.return_, 1) := by decide +kernel
theorem dX3_restoreSlot_0 : decode cX3_restoreSlot 0 = .ok (.aload_n 0, 1) := by decide +kernel
theorem dX3_restoreSlot_1 : decode cX3_restoreSlot 1 = .ok (.getfield 17, 3) := by decide +kernel
theorem dX3_restoreSlot_4 : decode cX3_restoreSlot 4 = .ok (.iload_n 1, 1) := by decide +kernel
theorem dX3_restoreSlot_5 : decode cX3_restoreSlot 5 = .ok (.aload_n 2, 1) := by decide +kernel
theorem dX3_restoreSlot_6 : decode cX3_restoreSlot 6 = .ok (.invokestatic 35, 3) := by decide +kernel
theorem dX3_restoreSlot_9 : decode cX3_restoreSlot 9 = .ok (.return_, 1) := by decide +kernel
theorem dX3_store_0 : decode cX3_store 0 = .ok (.iload_n 1, 1) := by decide +kernel
theorem dX3_store_1 : decode cX3_store 1 = .ok (.ifCond .lt 9, 3) := by decide +kernel
theorem dX3_store_4 : decode cX3_store 4 = .ok (.iload_n 1, 1) := by decide +kernel
theorem dX3_store_5 : decode cX3_store 5 = .ok (.aload_n 0, 1) := by decide +kernel
theorem dX3_store_6 : decode cX3_store 6 = .ok (.arraylength, 1) := by decide +kernel
theorem dX3_store_7 : decode cX3_store 7 = .ok (.if_icmp .lt 4, 3) := by decide +kernel
theorem dX3_store_10 : decode cX3_store 10 = .ok (.return_, 1) := by decide +kernel
theorem dX3_store_11 : decode cX3_store 11 = .ok (.aload_n 0, 1) := by decide +kernel
theorem dX3_store_12 : decode cX3_store 12 = .ok (.iload_n 1, 1) := by decide +kernel
theorem dX3_store_13 : decode cX3_store 13 = .ok (.aaload, 1) := by decide +kernel
theorem dX3_store_14 : decode cX3_store 14 = .ok (.astore_n 3, 1) := by decide +kernel
theorem dX3_store_15 : decode cX3_store 15 = .ok (.aload_n 3, 1) := by decide +kernel
theorem dX3_store_16 : decode cX3_store 16 = .ok (.ifnonnull 15, 3) := by decide +kernel
theorem dX3_store_19 : decode cX3_store 19 = .ok (.new 9, 3) := by decide +kernel
theorem dX3_store_22 : decode cX3_store 22 = .ok (.dup, 1) := by decide +kernel
theorem dX3_store_23 : decode cX3_store 23 = .ok (.invokespecial 38, 3) := by decide +kernel
theorem dX3_store_26 : decode cX3_store 26 = .ok (.astore_n 3, 1) := by decide +kernel
theorem dX3_store_27 : decode cX3_store 27 = .ok (.aload_n 0, 1) := by decide +kernel
theorem dX3_store_28 : decode cX3_store 28 = .ok (.iload_n 1, 1) := by decide +kernel
theorem dX3_store_29 : decode cX3_store 29 = .ok (.aload_n 3, 1) := by decide +kernel
theorem dX3_store_30 : decode cX3_store 30 = .ok (.aastore, 1) := by decide +kernel
theorem dX3_store_31 : decode cX3_store 31 = .ok (.aload_n 3, 1) := by decide +kernel
theorem dX3_store_32 : decode cX3_store 32 = .ok (.aload_n 2, 1) := by decide +kernel
theorem dX3_store_33 : decode cX3_store 33 = .ok (.invokevirtual 39, 3) := by decide +kernel
theorem dX3_store_36 : decode cX3_store 36 = .ok (.return_, 1) := by decide +kernel
theorem dX3_fetch_0 : decode cX3_fetch 0 = .ok (.iload_n 1, 1) := by decide +kernel
theorem dX3_fetch_1 : decode cX3_fetch 1 = .ok (.ifCond .lt 15, 3) := by decide +kernel
theorem dX3_fetch_4 : decode cX3_fetch 4 = .ok (.iload_n 1, 1) := by decide +kernel
theorem dX3_fetch_5 : decode cX3_fetch 5 = .ok (.aload_n 0, 1) := by decide +kernel
theorem dX3_fetch_6 : decode cX3_fetch 6 = .ok (.arraylength, 1) := by decide +kernel
theorem dX3_fetch_7 : decode cX3_fetch 7 = .ok (.if_icmp .ge 9, 3) := by decide +kernel
theorem dX3_fetch_10 : decode cX3_fetch 10 = .ok (.aload_n 0, 1) := by decide +kernel
theorem dX3_fetch_11 : decode cX3_fetch 11 = .ok (.iload_n 1, 1) := by decide +kernel
theorem dX3_fetch_12 : decode cX3_fetch 12 = .ok (.aaload, 1) := by decide +kernel
theorem dX3_fetch_13 : decode cX3_fetch 13 = .ok (.goto 4, 3) := by decide +kernel
theorem dX3_fetch_16 : decode cX3_fetch 16 = .ok (.aconst_null, 1) := by decide +kernel
theorem dX3_fetch_17 : decode cX3_fetch 17 = .ok (.astore_n 3, 1) := by decide +kernel
theorem dX3_fetch_18 : decode cX3_fetch 18 = .ok (.aload_n 3, 1) := by decide +kernel
theorem dX3_fetch_19 : decode cX3_fetch 19 = .ok (.ifnull 8, 3) := by decide +kernel
theorem dX3_fetch_22 : decode cX3_fetch 22 = .ok (.aload_n 2, 1) := by decide +kernel
theorem dX3_fetch_23 : decode cX3_fetch 23 = .ok (.aload_n 3, 1) := by decide +kernel
theorem dX3_fetch_24 : decode cX3_fetch 24 = .ok (.invokevirtual 39, 3) := by decide +kernel
theorem dX3_fetch_27 : decode cX3_fetch 27 = .ok (.return_, 1) := by decide +kernel
theorem dX4_init_0 : decode cX4_init 0 = .ok (.aload_n 0, 1) := by decide +kernel
theorem dX4_init_1 : decode cX4_init 1 = .ok (.invokespecial 3, 3) := by decide +kernel
theorem dX4_init_4 : decode cX4_init 4 = .ok (.aload_n 0, 1) := by decide +kernel
theorem dX4_init_5 : decode cX4_init 5 = .ok (.new 9, 3) := by decide +kernel
theorem dX4_init_8 : decode cX4_init 8 = .ok (.dup, 1) := by decide +kernel
theorem dX4_init_9 : decode cX4_init 9 = .ok (.invokespecial 11, 3) := by decide +kernel
theorem dX4_init_12 : decode cX4_init 12 = .ok (.putfield 12, 3) := by decide +kernel
theorem dX4_init_15 : decode cX4_init 15 = .ok (.aload_n 0, 1) := by decide +kernel
theorem dX4_init_16 : decode cX4_init 16 = .ok (.new 18, 3) := by decide +kernel
theorem dX4_init_19 : decode cX4_init 19 = .ok (.dup, 1) := by decide +kernel
theorem dX4_init_20 : decode cX4_init 20 = .ok (.invokespecial 20, 3) := by decide +kernel
theorem dX4_init_23 : decode cX4_init 23 = .ok (.putfield 21, 3) := by decide +kernel
theorem dX4_init_26 : decode cX4_init 26 = .ok (.aload_n 0, 1) := by decide +kernel
theorem dX4_init_27 : decode cX4_init 27 = .ok (.new 25, 3) := by decide +kernel
theorem dX4_init_30 : decode cX4_init 30 = .ok (.dup, 1) := by decide +kernel
theorem dX4_init_31 : decode cX4_init 31 = .ok (.invokespecial 27, 3) := by decide +kernel
theorem dX4_init_34 : decode cX4_init 34 = .ok (.putfield 28, 3) := by decide +kernel
theorem dX4_init_37 : decode cX4_init 37 = .ok (.aload_n 0, 1) := by decide +kernel
theorem dX4_init_38 : decode cX4_init 38 = .ok (.new 32, 3) := by decide +kernel
theorem dX4_init_41 : decode cX4_init 41 = .ok (.dup, 1) := by decide +kernel
theorem dX4_init_42 : decode cX4_init 42 = .ok (.invokespecial 34, 3) := by decide +kernel
theorem dX4_init_45 : decode cX4_init 45 = .ok (.putfield 35, 3) := by decide +kernel
theorem dX4_init_48 : decode cX4_init 48 = .ok (.aload_n 0, 1) := by decide +kernel
theorem dX4_init_49 : decode cX4_init 49 = .ok (.new 39, 3) := by decide +kernel
theorem dX4_init_52 : decode cX4_init 52 = .ok (.dup, 1) := by decide +kernel
theorem dX4_init_53 : decode cX4_init 53 = .ok (.invokespecial 41, 3) := by decide +kernel
theorem dX4_init_56 : decode cX4_init 56 = .ok (.putfield 42, 3) := by decide +kernel
theorem dX4_init_59 : decode cX4_init 59 = .ok (.aload_n 0, 1) := by decide +kernel
theorem dX4_init_60 : decode cX4_init 60 = .ok (.iconst 2, 1) := by decide +kernel
theorem dX4_init_61 : decode cX4_init 61 = .ok (.putfield 46, 3) := by decide +kernel
theorem dX4_init_64 : decode cX4_init 64 = .ok (.return_, 1) := by decide +kernel
theorem dX4_reading_0 : decode cX4_reading 0 = .ok (.iconst 0, 1) := by decide +kernel
theorem dX4_reading_1 : decode cX4_reading 1 = .ok (.istore_n 2, 1) := by decide +kernel
theorem dX4_reading_2 : decode cX4_reading 2 = .ok (.bipush 15, 2) := by decide +kernel
theorem dX4_reading_4 : decode cX4_reading 4 = .ok (.iload_n 1, 1) := by decide +kernel
theorem dX4_reading_5 : decode cX4_reading 5 = .ok (.aload_n 0, 1) := by decide +kernel
theorem dX4_reading_6 : decode cX4_reading 6 = .ok (.getfield 21, 3) := by decide +kernel
theorem dX4_reading_9 : decode cX4_reading 9 = .ok (.getfield 50, 3) := by decide +kernel
theorem dX4_reading_12 : decode cX4_reading 12 = .ok (.iadd, 1) := by decide +kernel
theorem dX4_reading_13 : decode cX4_reading 13 = .ok (.invokestatic 53, 3) := by decide +kernel
theorem dX4_reading_16 : decode cX4_reading 16 = .ok (.istore_n 3, 1) := by decide +kernel
theorem dX4_reading_17 : decode cX4_reading 17 = .ok (.iconst 0, 1) := by decide +kernel
theorem dX4_reading_18 : decode cX4_reading 18 = .ok (.iload_n 1, 1) := by decide +kernel
theorem dX4_reading_19 : decode cX4_reading 19 = .ok (.aload_n 0, 1) := by decide +kernel
theorem dX4_reading_20 : decode cX4_reading 20 = .ok (.getfield 21, 3) := by decide +kernel
theorem dX4_reading_23 : decode cX4_reading 23 = .ok (.getfield 50, 3) := by decide +kernel
theorem dX4_reading_26 : decode cX4_reading 26 = .ok (.isub, 1) := by decide +kernel
theorem dX4_reading_27 : decode cX4_reading 27 = .ok (.invokestatic 59, 3) := by decide +kernel
theorem dX4_reading_30 : decode cX4_reading 30 = .ok (.istore 4, 2) := by decide +kernel
theorem dX4_reading_32 : decode cX4_reading 32 = .ok (.iload 4, 2) := by decide +kernel
theorem dX4_reading_34 : decode cX4_reading 34 = .ok (.iload_n 3, 1) := by decide +kernel
theorem dX4_reading_35 : decode cX4_reading 35 = .ok (.if_icmp .gt 30, 3) := by decide +kernel
theorem dX4_reading_38 : decode cX4_reading 38 = .ok (.iload_n 2, 1) := by decide +kernel
theorem dX4_reading_39 : decode cX4_reading 39 = .ok (.aload_n 0, 1) := by decide +kernel
theorem dX4_reading_40 : decode cX4_reading 40 = .ok (.getfield 12, 3) := by decide +kernel
theorem dX4_reading_43 : decode cX4_reading 43 = .ok (.aload_n 0, 1) := by decide +kernel
theorem dX4_reading_44 : decode cX4_reading 44 = .ok (.getfield 12, 3) := by decide +kernel
theorem dX4_reading_47 : decode cX4_reading 47 = .ok (.getfield 62, 3) := by decide +kernel
theorem dX4_reading_50 : decode cX4_reading 50 = .ok (.iload 4, 2) := by decide +kernel
theorem dX4_reading_52 : decode cX4_reading 52 = .ok (.invokevirtual 65, 3) := by decide +kernel
theorem dX4_reading_55 : decode cX4_reading 55 = .ok (.invokestatic 59, 3) := by decide +kernel
theorem dX4_reading_58 : decode cX4_reading 58 = .ok (.istore_n 2, 1) := by decide +kernel
theorem dX4_reading_59 : decode cX4_reading 59 = .ok (.iinc 4 1, 3) := by decide +kernel
theorem dX4_reading_62 : decode cX4_reading 62 = .ok (.goto (-30), 3) := by decide +kernel
theorem dX4_reading_65 : decode cX4_reading 65 = .ok (.iload_n 2, 1) := by decide +kernel
theorem dX4_reading_66 : decode cX4_reading 66 = .ok (.ireturn, 1) := by decide +kernel
theorem dX4_target_0 : decode cX4_target 0 = .ok (.iconst 1, 1) := by decide +kernel
theorem dX4_target_1 : decode cX4_target 1 = .ok (.aload_n 0, 1) := by decide +kernel
theorem dX4_target_2 : decode cX4_target 2 = .ok (.iload_n 1, 1) := by decide +kernel
theorem dX4_target_3 : decode cX4_target 3 = .ok (.invokevirtual 68, 3) := by decide +kernel
theorem dX4_target_6 : decode cX4_target 6 = .ok (.aload_n 0, 1) := by decide +kernel
theorem dX4_target_7 : decode cX4_target 7 = .ok (.getfield 21, 3) := by decide +kernel
theorem dX4_target_10 : decode cX4_target 10 = .ok (.getfield 72, 3) := by decide +kernel
theorem dX4_target_13 : decode cX4_target 13 = .ok (.isub, 1) := by decide +kernel
theorem dX4_target_14 : decode cX4_target 14 = .ok (.aload_n 0, 1) := by decide +kernel
theorem dX4_target_15 : decode cX4_target 15 = .ok (.getfield 21, 3) := by decide +kernel
theorem dX4_target_18 : decode cX4_target 18 = .ok (.getfield 75, 3) := by decide +kernel
theorem dX4_target_21 : decode cX4_target 21 = .ok (.iadd, 1) := by decide +kernel
theorem dX4_target_22 : decode cX4_target 22 = .ok (.invokestatic 59, 3) := by decide +kernel
theorem dX4_target_25 : decode cX4_target 25 = .ok (.ireturn, 1) := by decide +kernel
theorem dX4_above_0 : decode cX4_above 0 = .ok (.iconst 0, 1) := by decide +kernel
theorem dX4_above_1 : decode cX4_above 1 = .ok (.aload_n 0, 1) := by decide +kernel
theorem dX4_above_2 : decode cX4_above 2 = .ok (.getfield 35, 3) := by decide +kernel
theorem dX4_above_5 : decode cX4_above 5 = .ok (.iload_n 1, 1) := by decide +kernel
theorem dX4_above_6 : decode cX4_above 6 = .ok (.iload_n 2, 1) := by decide +kernel
theorem dX4_above_7 : decode cX4_above 7 = .ok (.invokevirtual 78, 3) := by decide +kernel
theorem dX4_above_10 : decode cX4_above 10 = .ok (.aload_n 0, 1) := by decide +kernel
theorem dX4_above_11 : decode cX4_above 11 = .ok (.iload_n 2, 1) := by decide +kernel
theorem dX4_above_12 : decode cX4_above 12 = .ok (.invokevirtual 79, 3) := by decide +kernel
theorem dX4_above_15 : decode cX4_above 15 = .ok (.isub, 1) := by decide +kernel
theorem dX4_above_16 : decode cX4_above 16 = .ok (.invokestatic 59, 3) := by decide +kernel
theorem dX4_above_19 : decode cX4_above 19 = .ok (.ireturn, 1) := by decide +kernel
theorem dX4_mostAbove_0 : decode cX4_mostAbove 0 = .ok (.iconst 0, 1) := by decide +kernel
theorem dX4_mostAbove_1 : decode cX4_mostAbove 1 = .ok (.istore_n 2, 1) := by decide +kernel
theorem dX4_mostAbove_2 : decode cX4_mostAbove 2 = .ok (.iconst 0, 1) := by decide +kernel
theorem dX4_mostAbove_3 : decode cX4_mostAbove 3 = .ok (.istore_n 3, 1) := by decide +kernel
theorem dX4_mostAbove_4 : decode cX4_mostAbove 4 = .ok (.iload_n 3, 1) := by decide +kernel
theorem dX4_mostAbove_5 : decode cX4_mostAbove 5 = .ok (.bipush 16, 2) := by decide +kernel
theorem dX4_mostAbove_7 : decode cX4_mostAbove 7 = .ok (.if_icmp .ge 20, 3) := by decide +kernel
theorem dX4_mostAbove_10 : decode cX4_mostAbove 10 = .ok (.iload_n 2, 1) := by decide +kernel
theorem dX4_mostAbove_11 : decode cX4_mostAbove 11 = .ok (.aload_n 0, 1) := by decide +kernel
theorem dX4_mostAbove_12 : decode cX4_mostAbove 12 = .ok (.iload_n 1, 1) := by decide +kernel
theorem dX4_mostAbove_13 : decode cX4_mostAbove 13 = .ok (.iload_n 3, 1) := by decide +kernel
theorem dX4_mostAbove_14 : decode cX4_mostAbove 14 = .ok (.invokevirtual 82, 3) := by decide +kernel
theorem dX4_mostAbove_17 : decode cX4_mostAbove 17 = .ok (.invokestatic 59, 3) := by decide +kernel
theorem dX4_mostAbove_20 : decode cX4_mostAbove 20 = .ok (.istore_n 2, 1) := by decide +kernel
theorem dX4_mostAbove_21 : decode cX4_mostAbove 21 = .ok (.iinc 3 1, 3) := by decide +kernel
theorem dX4_mostAbove_24 : decode cX4_mostAbove 24 = .ok (.goto (-20), 3) := by decide +kernel
theorem dX4_mostAbove_27 : decode cX4_mostAbove 27 = .ok (.iload_n 2, 1) := by decide +kernel
theorem dX4_mostAbove_28 : decode cX4_mostAbove 28 = .ok (.ireturn, 1) := by decide +kernel
theorem dX4_allAbove_0 : decode cX4_allAbove 0 = .ok (.iconst 0, 1) := by decide +kernel
theorem dX4_allAbove_1 : decode cX4_allAbove 1 = .ok (.istore_n 2, 1) := by decide +kernel
theorem dX4_allAbove_2 : decode cX4_allAbove 2 = .ok (.iconst 0, 1) := by decide +kernel
theorem dX4_allAbove_3 : decode cX4_allAbove 3 = .ok (.istore_n 3, 1) := by decide +kernel
theorem dX4_allAbove_4 : decode cX4_allAbove 4 = .ok (.iload_n 3, 1) := by decide +kernel
theorem dX4_allAbove_5 : decode cX4_allAbove 5 = .ok (.bipush 16, 2) := by decide +kernel
theorem dX4_allAbove_7 : decode cX4_allAbove 7 = .ok (.if_icmp .ge 18, 3) := by decide +kernel
theorem dX4_allAbove_10 : decode cX4_allAbove 10 = .ok (.iload_n 2, 1) := by decide +kernel
theorem dX4_allAbove_11 : decode cX4_allAbove 11 = .ok (.aload_n 0, 1) := by decide +kernel
theorem dX4_allAbove_12 : decode cX4_allAbove 12 = .ok (.iload_n 1, 1) := by decide +kernel
theorem dX4_allAbove_13 : decode cX4_allAbove 13 = .ok (.iload_n 3, 1) := by decide +kernel
theorem dX4_allAbove_14 : decode cX4_allAbove 14 = .ok (.invokevirtual 82, 3) := by decide +kernel
theorem dX4_allAbove_17 : decode cX4_allAbove 17 = .ok (.iadd, 1) := by decide +kernel
theorem dX4_allAbove_18 : decode cX4_allAbove 18 = .ok (.istore_n 2, 1) := by decide +kernel
theorem dX4_allAbove_19 : decode cX4_allAbove 19 = .ok (.iinc 3 1, 3) := by decide +kernel
theorem dX4_allAbove_22 : decode cX4_allAbove 22 = .ok (.goto (-18), 3) := by decide +kernel
theorem dX4_allAbove_25 : decode cX4_allAbove 25 = .ok (.iload_n 2, 1) := by decide +kernel
theorem dX4_allAbove_26 : decode cX4_allAbove 26 = .ok (.ireturn, 1) := by decide +kernel
theorem dX4_canRun_0 : decode cX4_canRun 0 = .ok (.aload_n 0, 1) := by decide +kernel
theorem dX4_canRun_1 : decode cX4_canRun 1 = .ok (.getfield 85, 3) := by decide +kernel
theorem dX4_canRun_4 : decode cX4_canRun 4 = .ok (.ifCond .ne 17, 3) := by decide +kernel
theorem dX4_canRun_7 : decode cX4_canRun 7 = .ok (.aload_n 0, 1) := by decide +kernel
theorem dX4_canRun_8 : decode cX4_canRun 8 = .ok (.getfield 28, 3) := by decide +kernel
theorem dX4_canRun_11 : decode cX4_canRun 11 = .ok (.invokevirtual 89, 3) := by decide +kernel
theorem dX4_canRun_14 : decode cX4_canRun 14 = .ok (.ifCond .eq 7, 3) := by decide +kernel
theorem dX4_canRun_17 : decode cX4_canRun 17 = .ok (.iconst 1, 1) := by decide +kernel
theorem dX4_canRun_18 : decode cX4_canRun 18 = .ok (.goto 4, 3) := by decide +kernel
theorem dX4_canRun_21 : decode cX4_canRun 21 = .ok (.iconst 0, 1) := by decide +kernel
theorem dX4_canRun_22 : decode cX4_canRun 22 = .ok (.ireturn, 1) := by decide +kernel
theorem dX4_blunting_0 : decode cX4_blunting 0 = .ok (.aload_n 0, 1) := by decide +kernel
theorem dX4_blunting_1 : decode cX4_blunting 1 = .ok (.getfield 35, 3) := by decide +kernel
theorem dX4_blunting_4 : decode cX4_blunting 4 = .ok (.aload_n 0, 1) := by decide +kernel
theorem dX4_blunting_5 : decode cX4_blunting 5 = .ok (.getfield 35, 3) := by decide +kernel
theorem dX4_blunting_8 : decode cX4_blunting 8 = .ok (.getfield 93, 3) := by decide +kernel
theorem dX4_blunting_11 : decode cX4_blunting 11 = .ok (.invokevirtual 96, 3) := by decide +kernel
theorem dX4_blunting_14 : decode cX4_blunting 14 = .ok (.aload_n 0, 1) := by decide +kernel
theorem dX4_blunting_15 : decode cX4_blunting 15 = .ok (.getfield 28, 3) := by decide +kernel
theorem dX4_blunting_18 : decode cX4_blunting 18 = .ok (.getfield 99, 3) := by decide +kernel
theorem dX4_blunting_21 : decode cX4_blunting 21 = .ok (.imul, 1) := by decide +kernel
theorem dX4_blunting_22 : decode cX4_blunting 22 = .ok (.ireturn, 1) := by decide +kernel
theorem dX4_runPass_0 : decode cX4_runPass 0 = .ok (.aload_n 0, 1) := by decide +kernel
theorem dX4_runPass_1 : decode cX4_runPass 1 = .ok (.invokevirtual 102, 3) := by decide +kernel
theorem dX4_runPass_4 : decode cX4_runPass 4 = .ok (.istore_n 1, 1) := by decide +kernel
theorem dX4_runPass_5 : decode cX4_runPass 5 = .ok (.aload_n 0, 1) := by decide +kernel
theorem dX4_runPass_6 : decode cX4_runPass 6 = .ok (.getfield 42, 3) := by decide +kernel
theorem dX4_runPass_9 : decode cX4_runPass 9 = .ok (.dup, 1) := by decide +kernel
theorem dX4_runPass_10 : decode cX4_runPass 10 = .ok (.getfield 106, 3) := by decide +kernel
theorem dX4_runPass_13 : decode cX4_runPass 13 = .ok (.iconst 1, 1) := by decide +kernel
theorem dX4_runPass_14 : decode cX4_runPass 14 = .ok (.iadd, 1) := by decide +kernel
theorem dX4_runPass_15 : decode cX4_runPass 15 = .ok (.putfield 106, 3) := by decide +kernel
theorem dX4_runPass_18 : decode cX4_runPass 18 = .ok (.aload_n 0, 1) := by decide +kernel
theorem dX4_runPass_19 : decode cX4_runPass 19 = .ok (.getfield 42, 3) := by decide +kernel
theorem dX4_runPass_22 : decode cX4_runPass 22 = .ok (.dup, 1) := by decide +kernel
theorem dX4_runPass_23 : decode cX4_runPass 23 = .ok (.getfield 109, 3) := by decide +kernel
theorem dX4_runPass_26 : decode cX4_runPass 26 = .ok (.iload_n 1, 1) := by decide +kernel
theorem dX4_runPass_27 : decode cX4_runPass 27 = .ok (.iadd, 1) := by decide +kernel
theorem dX4_runPass_28 : decode cX4_runPass 28 = .ok (.putfield 109, 3) := by decide +kernel
theorem dX4_runPass_31 : decode cX4_runPass 31 = .ok (.aload_n 0, 1) := by decide +kernel
theorem dX4_runPass_32 : decode cX4_runPass 32 = .ok (.getfield 35, 3) := by decide +kernel
theorem dX4_runPass_35 : decode cX4_runPass 35 = .ok (.getfield 112, 3) := by decide +kernel
theorem dX4_runPass_38 : decode cX4_runPass 38 = .ok (.aload_n 0, 1) := by decide +kernel
theorem dX4_runPass_39 : decode cX4_runPass 39 = .ok (.getfield 35, 3) := by decide +kernel
theorem dX4_runPass_42 : decode cX4_runPass 42 = .ok (.getfield 93, 3) := by decide +kernel
theorem dX4_runPass_45 : decode cX4_runPass 45 = .ok (.iconst 1, 1) := by decide +kernel
theorem dX4_runPass_46 : decode cX4_runPass 46 = .ok (.invokevirtual 116, 3) := by decide +kernel
theorem dX4_runPass_49 : decode cX4_runPass 49 = .ok (.aload_n 0, 1) := by decide +kernel
theorem dX4_runPass_50 : decode cX4_runPass 50 = .ok (.getfield 28, 3) := by decide +kernel
theorem dX4_runPass_53 : decode cX4_runPass 53 = .ok (.aload_n 0, 1) := by decide +kernel
theorem dX4_runPass_54 : decode cX4_runPass 54 = .ok (.invokevirtual 122, 3) := by decide +kernel
theorem dX4_runPass_57 : decode cX4_runPass 57 = .ok (.invokevirtual 125, 3) := by decide +kernel
theorem dX4_runPass_60 : decode cX4_runPass 60 = .ok (.aload_n 0, 1) := by decide +kernel
theorem dX4_runPass_61 : decode cX4_runPass 61 = .ok (.getfield 21, 3) := by decide +kernel
theorem dX4_runPass_64 : decode cX4_runPass 64 = .ok (.invokevirtual 129, 3) := by decide +kernel
theorem dX4_runPass_67 : decode cX4_runPass 67 = .ok (.iload_n 1, 1) := by decide +kernel
theorem dX4_runPass_68 : decode cX4_runPass 68 = .ok (.ireturn, 1) := by decide +kernel
theorem dX4_cutSteps_0 : decode cX4_cutSteps 0 = .ok (.iconst 0, 1) := by decide +kernel
theorem dX4_cutSteps_1 : decode cX4_cutSteps 1 = .ok (.istore_n 1, 1) := by decide +kernel
theorem dX4_cutSteps_2 : decode cX4_cutSteps 2 = .ok (.iconst 0, 1) := by decide +kernel
theorem dX4_cutSteps_3 : decode cX4_cutSteps 3 = .ok (.istore_n 2, 1) := by decide +kernel
theorem dX4_cutSteps_4 : decode cX4_cutSteps 4 = .ok (.iload_n 2, 1) := by decide +kernel
theorem dX4_cutSteps_5 : decode cX4_cutSteps 5 = .ok (.bipush 16, 2) := by decide +kernel
theorem dX4_cutSteps_7 : decode cX4_cutSteps 7 = .ok (.if_icmp .ge 102, 3) := by decide +kernel
theorem dX4_cutSteps_10 : decode cX4_cutSteps 10 = .ok (.aload_n 0, 1) := by decide +kernel
theorem dX4_cutSteps_11 : decode cX4_cutSteps 11 = .ok (.getfield 85, 3) := by decide +kernel
theorem dX4_cutSteps_14 : decode cX4_cutSteps 14 = .ok (.ifCond .ne 95, 3) := by decide +kernel
theorem dX4_cutSteps_17 : decode cX4_cutSteps 17 = .ok (.aload_n 0, 1) := by decide +kernel
theorem dX4_cutSteps_18 : decode cX4_cutSteps 18 = .ok (.getfield 28, 3) := by decide +kernel
theorem dX4_cutSteps_21 : decode cX4_cutSteps 21 = .ok (.invokevirtual 132, 3) := by decide +kernel
theorem dX4_cutSteps_24 : decode cX4_cutSteps 24 = .ok (.aload_n 0, 1) := by decide +kernel
theorem dX4_cutSteps_25 : decode cX4_cutSteps 25 = .ok (.aload_n 0, 1) := by decide +kernel
theorem dX4_cutSteps_26 : decode cX4_cutSteps 26 = .ok (.getfield 35, 3) := by decide +kernel
theorem dX4_cutSteps_29 : decode cX4_cutSteps 29 = .ok (.getfield 93, 3) := by decide +kernel
theorem dX4_cutSteps_32 : decode cX4_cutSteps 32 = .ok (.iload_n 2, 1) := by decide +kernel
theorem dX4_cutSteps_33 : decode cX4_cutSteps 33 = .ok (.invokevirtual 82, 3) := by decide +kernel
theorem dX4_cutSteps_36 : decode cX4_cutSteps 36 = .ok (.invokestatic 53, 3) := by decide +kernel
theorem dX4_cutSteps_39 : decode cX4_cutSteps 39 = .ok (.istore_n 3, 1) := by decide +kernel
theorem dX4_cutSteps_40 : decode cX4_cutSteps 40 = .ok (.iload_n 3, 1) := by decide +kernel
theorem dX4_cutSteps_41 : decode cX4_cutSteps 41 = .ok (.sipush 200, 3) := by decide +kernel
theorem dX4_cutSteps_44 : decode cX4_cutSteps 44 = .ok (.aload_n 0, 1) := by decide +kernel
theorem dX4_cutSteps_45 : decode cX4_cutSteps 45 = .ok (.getfield 135, 3) := by decide +kernel
theorem dX4_cutSteps_48 : decode cX4_cutSteps 48 = .ok (.isub, 1) := by decide +kernel
theorem dX4_cutSteps_49 : decode cX4_cutSteps 49 = .ok (.if_icmp .le 24, 3) := by decide +kernel
theorem dX4_cutSteps_52 : decode cX4_cutSteps 52 = .ok (.aload_n 0, 1) := by decide +kernel
theorem dX4_cutSteps_53 : decode cX4_cutSteps 53 = .ok (.iconst 1, 1) := by decide +kernel
theorem dX4_cutSteps_54 : decode cX4_cutSteps 54 = .ok (.putfield 85, 3) := by decide +kernel
theorem dX4_cutSteps_57 : decode cX4_cutSteps 57 = .ok (.aload_n 0, 1) := by decide +kernel
theorem dX4_cutSteps_58 : decode cX4_cutSteps 58 = .ok (.getfield 42, 3) := by decide +kernel
theorem dX4_cutSteps_61 : decode cX4_cutSteps 61 = .ok (.dup, 1) := by decide +kernel
theorem dX4_cutSteps_62 : decode cX4_cutSteps 62 = .ok (.getfield 138, 3) := by decide +kernel
theorem dX4_cutSteps_65 : decode cX4_cutSteps 65 = .ok (.iconst 1, 1) := by decide +kernel
theorem dX4_cutSteps_66 : decode cX4_cutSteps 66 = .ok (.iadd, 1) := by decide +kernel
theorem dX4_cutSteps_67 : decode cX4_cutSteps 67 = .ok (.putfield 138, 3) := by decide +kernel
theorem dX4_cutSteps_70 : decode cX4_cutSteps 70 = .ok (.goto 33, 3) := by decide +kernel
theorem dX4_cutSteps_73 : decode cX4_cutSteps 73 = .ok (.aload_n 0, 1) := by decide +kernel
theorem dX4_cutSteps_74 : decode cX4_cutSteps 74 = .ok (.getfield 35, 3) := by decide +kernel
theorem dX4_cutSteps_77 : decode cX4_cutSteps 77 = .ok (.aload_n 0, 1) := by decide +kernel
theorem dX4_cutSteps_78 : decode cX4_cutSteps 78 = .ok (.getfield 35, 3) := by decide +kernel
theorem dX4_cutSteps_81 : decode cX4_cutSteps 81 = .ok (.getfield 93, 3) := by decide +kernel
theorem dX4_cutSteps_84 : decode cX4_cutSteps 84 = .ok (.iload_n 2, 1) := by decide +kernel
theorem dX4_cutSteps_85 : decode cX4_cutSteps 85 = .ok (.iload_n 3, 1) := by decide +kernel
theorem dX4_cutSteps_86 : decode cX4_cutSteps 86 = .ok (.invokevirtual 141, 3) := by decide +kernel
theorem dX4_cutSteps_89 : decode cX4_cutSteps 89 = .ok (.aload_n 0, 1) := by decide +kernel
theorem dX4_cutSteps_90 : decode cX4_cutSteps 90 = .ok (.dup, 1) := by decide +kernel
theorem dX4_cutSteps_91 : decode cX4_cutSteps 91 = .ok (.getfield 135, 3) := by decide +kernel
theorem dX4_cutSteps_94 : decode cX4_cutSteps 94 = .ok (.iload_n 3, 1) := by decide +kernel
theorem dX4_cutSteps_95 : decode cX4_cutSteps 95 = .ok (.iadd, 1) := by decide +kernel
theorem dX4_cutSteps_96 : decode cX4_cutSteps 96 = .ok (.putfield 135, 3) := by decide +kernel
theorem dX4_cutSteps_99 : decode cX4_cutSteps 99 = .ok (.iload_n 1, 1) := by decide +kernel
theorem dX4_cutSteps_100 : decode cX4_cutSteps 100 = .ok (.iload_n 3, 1) := by decide +kernel
theorem dX4_cutSteps_101 : decode cX4_cutSteps 101 = .ok (.iadd, 1) := by decide +kernel
theorem dX4_cutSteps_102 : decode cX4_cutSteps 102 = .ok (.istore_n 1, 1) := by decide +kernel
theorem dX4_cutSteps_103 : decode cX4_cutSteps 103 = .ok (.iinc 2 1, 3) := by decide +kernel
theorem dX4_cutSteps_106 : decode cX4_cutSteps 106 = .ok (.goto (-102), 3) := by decide +kernel
theorem dX4_cutSteps_109 : decode cX4_cutSteps 109 = .ok (.iload_n 1, 1) := by decide +kernel
theorem dX4_cutSteps_110 : decode cX4_cutSteps 110 = .ok (.ireturn, 1) := by decide +kernel
theorem dX4_wouldCut_0 : decode cX4_wouldCut 0 = .ok (.iconst 0, 1) := by decide +kernel
theorem dX4_wouldCut_1 : decode cX4_wouldCut 1 = .ok (.istore_n 1, 1) := by decide +kernel
theorem dX4_wouldCut_2 : decode cX4_wouldCut 2 = .ok (.iconst 0, 1) := by decide +kernel
theorem dX4_wouldCut_3 : decode cX4_wouldCut 3 = .ok (.istore_n 2, 1) := by decide +kernel
theorem dX4_wouldCut_4 : decode cX4_wouldCut 4 = .ok (.iload_n 2, 1) := by decide +kernel
theorem dX4_wouldCut_5 : decode cX4_wouldCut 5 = .ok (.bipush 16, 2) := by decide +kernel
theorem dX4_wouldCut_7 : decode cX4_wouldCut 7 = .ok (.if_icmp .ge 52, 3) := by decide +kernel
theorem dX4_wouldCut_10 : decode cX4_wouldCut 10 = .ok (.aload_n 0, 1) := by decide +kernel
theorem dX4_wouldCut_11 : decode cX4_wouldCut 11 = .ok (.getfield 28, 3) := by decide +kernel
theorem dX4_wouldCut_14 : decode cX4_wouldCut 14 = .ok (.invokevirtual 132, 3) := by decide +kernel
theorem dX4_wouldCut_17 : decode cX4_wouldCut 17 = .ok (.aload_n 0, 1) := by decide +kernel
theorem dX4_wouldCut_18 : decode cX4_wouldCut 18 = .ok (.aload_n 0, 1) := by decide +kernel
theorem dX4_wouldCut_19 : decode cX4_wouldCut 19 = .ok (.getfield 35, 3) := by decide +kernel
theorem dX4_wouldCut_22 : decode cX4_wouldCut 22 = .ok (.getfield 93, 3) := by decide +kernel
theorem dX4_wouldCut_25 : decode cX4_wouldCut 25 = .ok (.iload_n 2, 1) := by decide +kernel
theorem dX4_wouldCut_26 : decode cX4_wouldCut 26 = .ok (.invokevirtual 82, 3) := by decide +kernel
theorem dX4_wouldCut_29 : decode cX4_wouldCut 29 = .ok (.invokestatic 53, 3) := by decide +kernel
theorem dX4_wouldCut_32 : decode cX4_wouldCut 32 = .ok (.istore_n 3, 1) := by decide +kernel
theorem dX4_wouldCut_33 : decode cX4_wouldCut 33 = .ok (.iload_n 3, 1) := by decide +kernel
theorem dX4_wouldCut_34 : decode cX4_wouldCut 34 = .ok (.sipush 200, 3) := by decide +kernel
theorem dX4_wouldCut_37 : decode cX4_wouldCut 37 = .ok (.aload_n 0, 1) := by decide +kernel
theorem dX4_wouldCut_38 : decode cX4_wouldCut 38 = .ok (.getfield 135, 3) := by decide +kernel
theorem dX4_wouldCut_41 : decode cX4_wouldCut 41 = .ok (.isub, 1) := by decide +kernel
theorem dX4_wouldCut_42 : decode cX4_wouldCut 42 = .ok (.iload_n 1, 1) := by decide +kernel
theorem dX4_wouldCut_43 : decode cX4_wouldCut 43 = .ok (.isub, 1) := by decide +kernel
theorem dX4_wouldCut_44 : decode cX4_wouldCut 44 = .ok (.if_icmp .le 5, 3) := by decide +kernel
theorem dX4_wouldCut_47 : decode cX4_wouldCut 47 = .ok (.iload_n 1, 1) := by decide +kernel
theorem dX4_wouldCut_48 : decode cX4_wouldCut 48 = .ok (.ireturn, 1) := by decide +kernel
theorem dX4_wouldCut_49 : decode cX4_wouldCut 49 = .ok (.iload_n 1, 1) := by decide +kernel
theorem dX4_wouldCut_50 : decode cX4_wouldCut 50 = .ok (.iload_n 3, 1) := by decide +kernel
theorem dX4_wouldCut_51 : decode cX4_wouldCut 51 = .ok (.iadd, 1) := by decide +kernel
theorem dX4_wouldCut_52 : decode cX4_wouldCut 52 = .ok (.istore_n 1, 1) := by decide +kernel
theorem dX4_wouldCut_53 : decode cX4_wouldCut 53 = .ok (.iinc 2 1, 3) := by decide +kernel
theorem dX4_wouldCut_56 : decode cX4_wouldCut 56 = .ok (.goto (-52), 3) := by decide +kernel
theorem dX4_wouldCut_59 : decode cX4_wouldCut 59 = .ok (.iload_n 1, 1) := by decide +kernel
theorem dX4_wouldCut_60 : decode cX4_wouldCut 60 = .ok (.ireturn, 1) := by decide +kernel
theorem dX4_rub_0 : decode cX4_rub 0 = .ok (.iconst 0, 1) := by decide +kernel
theorem dX4_rub_1 : decode cX4_rub 1 = .ok (.istore_n 2, 1) := by decide +kernel
theorem dX4_rub_2 : decode cX4_rub 2 = .ok (.iconst 0, 1) := by decide +kernel
theorem dX4_rub_3 : decode cX4_rub 3 = .ok (.istore_n 3, 1) := by decide +kernel
theorem dX4_rub_4 : decode cX4_rub 4 = .ok (.iload_n 3, 1) := by decide +kernel
theorem dX4_rub_5 : decode cX4_rub 5 = .ok (.bipush 16, 2) := by decide +kernel
theorem dX4_rub_7 : decode cX4_rub 7 = .ok (.if_icmp .ge 49, 3) := by decide +kernel
theorem dX4_rub_10 : decode cX4_rub 10 = .ok (.iload_n 1, 1) := by decide +kernel
theorem dX4_rub_11 : decode cX4_rub 11 = .ok (.aload_n 0, 1) := by decide +kernel
theorem dX4_rub_12 : decode cX4_rub 12 = .ok (.aload_n 0, 1) := by decide +kernel
theorem dX4_rub_13 : decode cX4_rub 13 = .ok (.getfield 35, 3) := by decide +kernel
theorem dX4_rub_16 : decode cX4_rub 16 = .ok (.getfield 93, 3) := by decide +kernel
theorem dX4_rub_19 : decode cX4_rub 19 = .ok (.iload_n 3, 1) := by decide +kernel
theorem dX4_rub_20 : decode cX4_rub 20 = .ok (.invokevirtual 82, 3) := by decide +kernel
theorem dX4_rub_23 : decode cX4_rub 23 = .ok (.invokestatic 53, 3) := by decide +kernel
theorem dX4_rub_26 : decode cX4_rub 26 = .ok (.istore 4, 2) := by decide +kernel
theorem dX4_rub_28 : decode cX4_rub 28 = .ok (.aload_n 0, 1) := by decide +kernel
theorem dX4_rub_29 : decode cX4_rub 29 = .ok (.getfield 35, 3) := by decide +kernel
theorem dX4_rub_32 : decode cX4_rub 32 = .ok (.aload_n 0, 1) := by decide +kernel
theorem dX4_rub_33 : decode cX4_rub 33 = .ok (.getfield 35, 3) := by decide +kernel
theorem dX4_rub_36 : decode cX4_rub 36 = .ok (.getfield 93, 3) := by decide +kernel
theorem dX4_rub_39 : decode cX4_rub 39 = .ok (.iload_n 3, 1) := by decide +kernel
theorem dX4_rub_40 : decode cX4_rub 40 = .ok (.iload 4, 2) := by decide +kernel
theorem dX4_rub_42 : decode cX4_rub 42 = .ok (.invokevirtual 141, 3) := by decide +kernel
theorem dX4_rub_45 : decode cX4_rub 45 = .ok (.iload_n 2, 1) := by decide +kernel
theorem dX4_rub_46 : decode cX4_rub 46 = .ok (.iload 4, 2) := by decide +kernel
theorem dX4_rub_48 : decode cX4_rub 48 = .ok (.iadd, 1) := by decide +kernel
theorem dX4_rub_49 : decode cX4_rub 49 = .ok (.istore_n 2, 1) := by decide +kernel
theorem dX4_rub_50 : decode cX4_rub 50 = .ok (.iinc 3 1, 3) := by decide +kernel
theorem dX4_rub_53 : decode cX4_rub 53 = .ok (.goto (-49), 3) := by decide +kernel
theorem dX4_rub_56 : decode cX4_rub 56 = .ok (.aload_n 0, 1) := by decide +kernel
theorem dX4_rub_57 : decode cX4_rub 57 = .ok (.getfield 42, 3) := by decide +kernel
theorem dX4_rub_60 : decode cX4_rub 60 = .ok (.dup, 1) := by decide +kernel
theorem dX4_rub_61 : decode cX4_rub 61 = .ok (.getfield 109, 3) := by decide +kernel
theorem dX4_rub_64 : decode cX4_rub 64 = .ok (.iload_n 2, 1) := by decide +kernel
theorem dX4_rub_65 : decode cX4_rub 65 = .ok (.iadd, 1) := by decide +kernel
theorem dX4_rub_66 : decode cX4_rub 66 = .ok (.putfield 109, 3) := by decide +kernel
theorem dX4_rub_69 : decode cX4_rub 69 = .ok (.iload_n 2, 1) := by decide +kernel
theorem dX4_rub_70 : decode cX4_rub 70 = .ok (.ireturn, 1) := by decide +kernel
theorem dX4_difference_0 : decode cX4_difference 0 = .ok (.aload_n 0, 1) := by decide +kernel
theorem dX4_difference_1 : decode cX4_difference 1 = .ok (.getfield 35, 3) := by decide +kernel
theorem dX4_difference_4 : decode cX4_difference 4 = .ok (.iload_n 1, 1) := by decide +kernel
theorem dX4_difference_5 : decode cX4_difference 5 = .ok (.iload_n 3, 1) := by decide +kernel
theorem dX4_difference_6 : decode cX4_difference 6 = .ok (.invokevirtual 78, 3) := by decide +kernel
theorem dX4_difference_9 : decode cX4_difference 9 = .ok (.aload_n 0, 1) := by decide +kernel
theorem dX4_difference_10 : decode cX4_difference 10 = .ok (.getfield 12, 3) := by decide +kernel
theorem dX4_difference_13 : decode cX4_difference 13 = .ok (.iload_n 2, 1) := by decide +kernel
theorem dX4_difference_14 : decode cX4_difference 14 = .ok (.iload_n 3, 1) := by decide +kernel
theorem dX4_difference_15 : decode cX4_difference 15 = .ok (.invokevirtual 65, 3) := by decide +kernel
theorem dX4_difference_18 : decode cX4_difference 18 = .ok (.isub, 1) := by decide +kernel
theorem dX4_difference_19 : decode cX4_difference 19 = .ok (.ireturn, 1) := by decide +kernel
theorem dX4_differences_0 : decode cX4_differences 0 = .ok (.iconst 0, 1) := by decide +kernel
theorem dX4_differences_1 : decode cX4_differences 1 = .ok (.istore_n 3, 1) := by decide +kernel
theorem dX4_differences_2 : decode cX4_differences 2 = .ok (.iconst 0, 1) := by decide +kernel
theorem dX4_differences_3 : decode cX4_differences 3 = .ok (.istore 4, 2) := by decide +kernel
theorem dX4_differences_5 : decode cX4_differences 5 = .ok (.iload 4, 2) := by decide +kernel
theorem dX4_differences_7 : decode cX4_differences 7 = .ok (.bipush 16, 2) := by decide +kernel
theorem dX4_differences_9 : decode cX4_differences 9 = .ok (.if_icmp .ge 23, 3) := by decide +kernel
theorem dX4_differences_12 : decode cX4_differences 12 = .ok (.iload_n 3, 1) := by decide +kernel
theorem dX4_differences_13 : decode cX4_differences 13 = .ok (.aload_n 0, 1) := by decide +kernel
theorem dX4_differences_14 : decode cX4_differences 14 = .ok (.iload_n 1, 1) := by decide +kernel
theorem dX4_differences_15 : decode cX4_differences 15 = .ok (.iload_n 2, 1) := by decide +kernel
theorem dX4_differences_16 : decode cX4_differences 16 = .ok (.iload 4, 2) := by decide +kernel
theorem dX4_differences_18 : decode cX4_differences 18 = .ok (.invokevirtual 145, 3) := by decide +kernel
theorem dX4_differences_21 : decode cX4_differences 21 = .ok (.invokestatic 149, 3) := by decide +kernel
theorem dX4_differences_24 : decode cX4_differences 24 = .ok (.iadd, 1) := by decide +kernel
theorem dX4_differences_25 : decode cX4_differences 25 = .ok (.istore_n 3, 1) := by decide +kernel
theorem dX4_differences_26 : decode cX4_differences 26 = .ok (.iinc 4 1, 3) := by decide +kernel
theorem dX4_differences_29 : decode cX4_differences 29 = .ok (.goto (-24), 3) := by decide +kernel
theorem dX4_differences_32 : decode cX4_differences 32 = .ok (.iload_n 3, 1) := by decide +kernel
theorem dX4_differences_33 : decode cX4_differences 33 = .ok (.ireturn, 1) := by decide +kernel
theorem dX4_faults_0 : decode cX4_faults 0 = .ok (.iconst 0, 1) := by decide +kernel
theorem dX4_faults_1 : decode cX4_faults 1 = .ok (.istore_n 2, 1) := by decide +kernel
theorem dX4_faults_2 : decode cX4_faults 2 = .ok (.iconst 0, 1) := by decide +kernel
theorem dX4_faults_3 : decode cX4_faults 3 = .ok (.istore_n 3, 1) := by decide +kernel
theorem dX4_faults_4 : decode cX4_faults 4 = .ok (.iload_n 3, 1) := by decide +kernel
theorem dX4_faults_5 : decode cX4_faults 5 = .ok (.bipush 16, 2) := by decide +kernel
theorem dX4_faults_7 : decode cX4_faults 7 = .ok (.if_icmp .ge 35, 3) := by decide +kernel
theorem dX4_faults_10 : decode cX4_faults 10 = .ok (.aload_n 0, 1) := by decide +kernel
theorem dX4_faults_11 : decode cX4_faults 11 = .ok (.iload_n 1, 1) := by decide +kernel
theorem dX4_faults_12 : decode cX4_faults 12 = .ok (.aload_n 0, 1) := by decide +kernel
theorem dX4_faults_13 : decode cX4_faults 13 = .ok (.getfield 12, 3) := by decide +kernel
theorem dX4_faults_16 : decode cX4_faults 16 = .ok (.getfield 62, 3) := by decide +kernel
theorem dX4_faults_19 : decode cX4_faults 19 = .ok (.iload_n 3, 1) := by decide +kernel
theorem dX4_faults_20 : decode cX4_faults 20 = .ok (.invokevirtual 145, 3) := by decide +kernel
theorem dX4_faults_23 : decode cX4_faults 23 = .ok (.invokestatic 149, 3) := by decide +kernel
theorem dX4_faults_26 : decode cX4_faults 26 = .ok (.aload_n 0, 1) := by decide +kernel
theorem dX4_faults_27 : decode cX4_faults 27 = .ok (.getfield 46, 3) := by decide +kernel
theorem dX4_faults_30 : decode cX4_faults 30 = .ok (.if_icmp .le 6, 3) := by decide +kernel
theorem dX4_faults_33 : decode cX4_faults 33 = .ok (.iinc 2 1, 3) := by decide +kernel
theorem dX4_faults_36 : decode cX4_faults 36 = .ok (.iinc 3 1, 3) := by decide +kernel
theorem dX4_faults_39 : decode cX4_faults 39 = .ok (.goto (-35), 3) := by decide +kernel
theorem dX4_faults_42 : decode cX4_faults 42 = .ok (.iload_n 2, 1) := by decide +kernel
theorem dX4_faults_43 : decode cX4_faults 43 = .ok (.ireturn, 1) := by decide +kernel
theorem dX4_isBetter_0 : decode cX4_isBetter 0 = .ok (.aload_n 0, 1) := by decide +kernel
theorem dX4_isBetter_1 : decode cX4_isBetter 1 = .ok (.iload_n 1, 1) := by decide +kernel
theorem dX4_isBetter_2 : decode cX4_isBetter 2 = .ok (.invokevirtual 152, 3) := by decide +kernel
theorem dX4_isBetter_5 : decode cX4_isBetter 5 = .ok (.istore_n 3, 1) := by decide +kernel
theorem dX4_isBetter_6 : decode cX4_isBetter 6 = .ok (.aload_n 0, 1) := by decide +kernel
theorem dX4_isBetter_7 : decode cX4_isBetter 7 = .ok (.iload_n 2, 1) := by decide +kernel
theorem dX4_isBetter_8 : decode cX4_isBetter 8 = .ok (.invokevirtual 152, 3) := by decide +kernel
theorem dX4_isBetter_11 : decode cX4_isBetter 11 = .ok (.istore 4, 2) := by decide +kernel
theorem dX4_isBetter_13 : decode cX4_isBetter 13 = .ok (.iload_n 3, 1) := by decide +kernel
theorem dX4_isBetter_14 : decode cX4_isBetter 14 = .ok (.iload 4, 2) := by decide +kernel
theorem dX4_isBetter_16 : decode cX4_isBetter 16 = .ok (.if_icmp .eq 15, 3) := by decide +kernel
theorem dX4_isBetter_19 : decode cX4_isBetter 19 = .ok (.iload_n 3, 1) := by decide +kernel
theorem dX4_isBetter_20 : decode cX4_isBetter 20 = .ok (.iload 4, 2) := by decide +kernel
theorem dX4_isBetter_22 : decode cX4_isBetter 22 = .ok (.if_icmp .ge 7, 3) := by decide +kernel
theorem dX4_isBetter_25 : decode cX4_isBetter 25 = .ok (.iconst 1, 1) := by decide +kernel
theorem dX4_isBetter_26 : decode cX4_isBetter 26 = .ok (.goto 4, 3) := by decide +kernel
theorem dX4_isBetter_29 : decode cX4_isBetter 29 = .ok (.iconst 0, 1) := by decide +kernel
theorem dX4_isBetter_30 : decode cX4_isBetter 30 = .ok (.ireturn, 1) := by decide +kernel
theorem dX4_isBetter_31 : decode cX4_isBetter 31 = .ok (.aload_n 0, 1) := by decide +kernel
theorem dX4_isBetter_32 : decode cX4_isBetter 32 = .ok (.iload_n 1, 1) := by decide +kernel
theorem dX4_isBetter_33 : decode cX4_isBetter 33 = .ok (.aload_n 0, 1) := by decide +kernel
theorem dX4_isBetter_34 : decode cX4_isBetter 34 = .ok (.getfield 12, 3) := by decide +kernel
theorem dX4_isBetter_37 : decode cX4_isBetter 37 = .ok (.getfield 62, 3) := by decide +kernel
theorem dX4_isBetter_40 : decode cX4_isBetter 40 = .ok (.invokevirtual 155, 3) := by decide +kernel
theorem dX4_isBetter_43 : decode cX4_isBetter 43 = .ok (.aload_n 0, 1) := by decide +kernel
theorem dX4_isBetter_44 : decode cX4_isBetter 44 = .ok (.iload_n 2, 1) := by decide +kernel
theorem dX4_isBetter_45 : decode cX4_isBetter 45 = .ok (.aload_n 0, 1) := by decide +kernel
theorem dX4_isBetter_46 : decode cX4_isBetter 46 = .ok (.getfield 12, 3) := by decide +kernel
theorem dX4_isBetter_49 : decode cX4_isBetter 49 = .ok (.getfield 62, 3) := by decide +kernel
theorem dX4_isBetter_52 : decode cX4_isBetter 52 = .ok (.invokevirtual 155, 3) := by decide +kernel
theorem dX4_isBetter_55 : decode cX4_isBetter 55 = .ok (.if_icmp .ge 7, 3) := by decide +kernel
theorem dX4_isBetter_58 : decode cX4_isBetter 58 = .ok (.iconst 1, 1) := by decide +kernel
theorem dX4_isBetter_59 : decode cX4_isBetter 59 = .ok (.goto 4, 3) := by decide +kernel
theorem dX4_isBetter_62 : decode cX4_isBetter 62 = .ok (.iconst 0, 1) := by decide +kernel
theorem dX4_isBetter_63 : decode cX4_isBetter 63 = .ok (.ireturn, 1) := by decide +kernel
theorem dX4_takeOver_0 : decode cX4_takeOver 0 = .ok (.aload_n 0, 1) := by decide +kernel
theorem dX4_takeOver_1 : decode cX4_takeOver 1 = .ok (.getfield 12, 3) := by decide +kernel
theorem dX4_takeOver_4 : decode cX4_takeOver 4 = .ok (.aload_n 1, 1) := by decide +kernel
theorem dX4_takeOver_5 : decode cX4_takeOver 5 = .ok (.getfield 12, 3) := by decide +kernel
theorem dX4_takeOver_8 : decode cX4_takeOver 8 = .ok (.invokevirtual 158, 3) := by decide +kernel
theorem dX4_takeOver_11 : decode cX4_takeOver 11 = .ok (.aload_n 0, 1) := by decide +kernel
theorem dX4_takeOver_12 : decode cX4_takeOver 12 = .ok (.getfield 21, 3) := by decide +kernel
theorem dX4_takeOver_15 : decode cX4_takeOver 15 = .ok (.aload_n 1, 1) := by decide +kernel
theorem dX4_takeOver_16 : decode cX4_takeOver 16 = .ok (.getfield 21, 3) := by decide +kernel
theorem dX4_takeOver_19 : decode cX4_takeOver 19 = .ok (.invokevirtual 162, 3) := by decide +kernel
theorem dX4_takeOver_22 : decode cX4_takeOver 22 = .ok (.aload_n 0, 1) := by decide +kernel
theorem dX4_takeOver_23 : decode cX4_takeOver 23 = .ok (.getfield 28, 3) := by decide +kernel
theorem dX4_takeOver_26 : decode cX4_takeOver 26 = .ok (.aload_n 1, 1) := by decide +kernel
theorem dX4_takeOver_27 : decode cX4_takeOver 27 = .ok (.getfield 28, 3) := by decide +kernel
theorem dX4_takeOver_30 : decode cX4_takeOver 30 = .ok (.invokevirtual 165, 3) := by decide +kernel
theorem dX4_takeOver_33 : decode cX4_takeOver 33 = .ok (.aload_n 0, 1) := by decide +kernel
theorem dX4_takeOver_34 : decode cX4_takeOver 34 = .ok (.getfield 35, 3) := by decide +kernel
theorem dX4_takeOver_37 : decode cX4_takeOver 37 = .ok (.aload_n 1, 1) := by decide +kernel
theorem dX4_takeOver_38 : decode cX4_takeOver 38 = .ok (.getfield 35, 3) := by decide +kernel
theorem dX4_takeOver_41 : decode cX4_takeOver 41 = .ok (.invokevirtual 168, 3) := by decide +kernel
theorem dX4_takeOver_44 : decode cX4_takeOver 44 = .ok (.aload_n 0, 1) := by decide +kernel
theorem dX4_takeOver_45 : decode cX4_takeOver 45 = .ok (.getfield 42, 3) := by decide +kernel
theorem dX4_takeOver_48 : decode cX4_takeOver 48 = .ok (.aload_n 1, 1) := by decide +kernel
theorem dX4_takeOver_49 : decode cX4_takeOver 49 = .ok (.getfield 42, 3) := by decide +kernel
theorem dX4_takeOver_52 : decode cX4_takeOver 52 = .ok (.invokevirtual 171, 3) := by decide +kernel
theorem dX4_takeOver_55 : decode cX4_takeOver 55 = .ok (.aload_n 0, 1) := by decide +kernel
theorem dX4_takeOver_56 : decode cX4_takeOver 56 = .ok (.aload_n 1, 1) := by decide +kernel
theorem dX4_takeOver_57 : decode cX4_takeOver 57 = .ok (.getfield 46, 3) := by decide +kernel
theorem dX4_takeOver_60 : decode cX4_takeOver 60 = .ok (.putfield 46, 3) := by decide +kernel
theorem dX4_takeOver_63 : decode cX4_takeOver 63 = .ok (.aload_n 0, 1) := by decide +kernel
theorem dX4_takeOver_64 : decode cX4_takeOver 64 = .ok (.aload_n 1, 1) := by decide +kernel
theorem dX4_takeOver_65 : decode cX4_takeOver 65 = .ok (.getfield 135, 3) := by decide +kernel
theorem dX4_takeOver_68 : decode cX4_takeOver 68 = .ok (.putfield 135, 3) := by decide +kernel
theorem dX4_takeOver_71 : decode cX4_takeOver 71 = .ok (.aload_n 0, 1) := by decide +kernel
theorem dX4_takeOver_72 : decode cX4_takeOver 72 = .ok (.aload_n 1, 1) := by decide +kernel
theorem dX4_takeOver_73 : decode cX4_takeOver 73 = .ok (.getfield 85, 3) := by decide +kernel
theorem dX4_takeOver_76 : decode cX4_takeOver 76 = .ok (.putfield 85, 3) := by decide +kernel
theorem dX4_takeOver_79 : decode cX4_takeOver 79 = .ok (.return_, 1) := by decide +kernel
theorem dX5_init_0 : decode cX5_init 0 = .ok (.aload_n 0, 1) := by decide +kernel
theorem dX5_init_1 : decode cX5_init 1 = .ok (.invokespecial 3, 3) := by decide +kernel
theorem dX5_init_4 : decode cX5_init 4 = .ok (.aload_n 0, 1) := by decide +kernel
theorem dX5_init_5 : decode cX5_init 5 = .ok (.new 9, 3) := by decide +kernel
theorem dX5_init_8 : decode cX5_init 8 = .ok (.dup, 1) := by decide +kernel
theorem dX5_init_9 : decode cX5_init 9 = .ok (.bipush 60, 2) := by decide +kernel
theorem dX5_init_11 : decode cX5_init 11 = .ok (.invokespecial 11, 3) := by decide +kernel
theorem dX5_init_14 : decode cX5_init 14 = .ok (.putfield 14, 3) := by decide +kernel
theorem dX5_init_17 : decode cX5_init 17 = .ok (.aload_n 0, 1) := by decide +kernel
theorem dX5_init_18 : decode cX5_init 18 = .ok (.new 9, 3) := by decide +kernel
theorem dX5_init_21 : decode cX5_init 21 = .ok (.dup, 1) := by decide +kernel
theorem dX5_init_22 : decode cX5_init 22 = .ok (.bipush 16, 2) := by decide +kernel
theorem dX5_init_24 : decode cX5_init 24 = .ok (.invokespecial 11, 3) := by decide +kernel
theorem dX5_init_27 : decode cX5_init 27 = .ok (.putfield 20, 3) := by decide +kernel
theorem dX5_init_30 : decode cX5_init 30 = .ok (.return_, 1) := by decide +kernel
theorem dX5_add_0 : decode cX5_add 0 = .ok (.aload_n 0, 1) := by decide +kernel
theorem dX5_add_1 : decode cX5_add 1 = .ok (.getfield 14, 3) := by decide +kernel
theorem dX5_add_4 : decode cX5_add 4 = .ok (.aload_n 0, 1) := by decide +kernel
theorem dX5_add_5 : decode cX5_add 5 = .ok (.getfield 23, 3) := by decide +kernel
theorem dX5_add_8 : decode cX5_add 8 = .ok (.iload_n 1, 1) := by decide +kernel
theorem dX5_add_9 : decode cX5_add 9 = .ok (.invokevirtual 27, 3) := by decide +kernel
theorem dX5_add_12 : decode cX5_add 12 = .ok (.aload_n 0, 1) := by decide +kernel
theorem dX5_add_13 : decode cX5_add 13 = .ok (.dup, 1) := by decide +kernel
theorem dX5_add_14 : decode cX5_add 14 = .ok (.getfield 23, 3) := by decide +kernel
theorem dX5_add_17 : decode cX5_add 17 = .ok (.iconst 1, 1) := by decide +kernel
theorem dX5_add_18 : decode cX5_add 18 = .ok (.iadd, 1) := by decide +kernel
theorem dX5_add_19 : decode cX5_add 19 = .ok (.putfield 23, 3) := by decide +kernel
theorem dX5_add_22 : decode cX5_add 22 = .ok (.aload_n 0, 1) := by decide +kernel
theorem dX5_add_23 : decode cX5_add 23 = .ok (.getfield 23, 3) := by decide +kernel
theorem dX5_add_26 : decode cX5_add 26 = .ok (.ireturn, 1) := by decide +kernel
theorem dX5_empty_0 : decode cX5_empty 0 = .ok (.aload_n 0, 1) := by decide +kernel
theorem dX5_empty_1 : decode cX5_empty 1 = .ok (.getfield 23, 3) := by decide +kernel
theorem dX5_empty_4 : decode cX5_empty 4 = .ok (.istore_n 1, 1) := by decide +kernel
theorem dX5_empty_5 : decode cX5_empty 5 = .ok (.aload_n 0, 1) := by decide +kernel
theorem dX5_empty_6 : decode cX5_empty 6 = .ok (.iconst 0, 1) := by decide +kernel
theorem dX5_empty_7 : decode cX5_empty 7 = .ok (.putfield 23, 3) := by decide +kernel
theorem dX5_empty_10 : decode cX5_empty 10 = .ok (.iload_n 1, 1) := by decide +kernel
theorem dX5_empty_11 : decode cX5_empty 11 = .ok (.ireturn, 1) := by decide +kernel
theorem dX5_readable_0 : decode cX5_readable 0 = .ok (.aload_n 0, 1) := by decide +kernel
theorem dX5_readable_1 : decode cX5_readable 1 = .ok (.iconst 0, 1) := by decide +kernel
theorem dX5_readable_2 : decode cX5_readable 2 = .ok (.putfield 31, 3) := by decide +kernel
theorem dX5_readable_5 : decode cX5_readable 5 = .ok (.aload_n 0, 1) := by decide +kernel
theorem dX5_readable_6 : decode cX5_readable 6 = .ok (.invokevirtual 34, 3) := by decide +kernel
theorem dX5_readable_9 : decode cX5_readable 9 = .ok (.iconst 0, 1) := by decide +kernel
theorem dX5_readable_10 : decode cX5_readable 10 = .ok (.istore_n 1, 1) := by decide +kernel
theorem dX5_readable_11 : decode cX5_readable 11 = .ok (.iload_n 1, 1) := by decide +kernel
theorem dX5_readable_12 : decode cX5_readable 12 = .ok (.aload_n 0, 1) := by decide +kernel
theorem dX5_readable_13 : decode cX5_readable 13 = .ok (.getfield 23, 3) := by decide +kernel
theorem dX5_readable_16 : decode cX5_readable 16 = .ok (.if_icmp .ge 24, 3) := by decide +kernel
theorem dX5_readable_19 : decode cX5_readable 19 = .ok (.aload_n 0, 1) := by decide +kernel
theorem dX5_readable_20 : decode cX5_readable 20 = .ok (.aload_n 0, 1) := by decide +kernel
theorem dX5_readable_21 : decode cX5_readable 21 = .ok (.getfield 14, 3) := by decide +kernel
theorem dX5_readable_24 : decode cX5_readable 24 = .ok (.iload_n 1, 1) := by decide +kernel
theorem dX5_readable_25 : decode cX5_readable 25 = .ok (.invokevirtual 37, 3) := by decide +kernel
theorem dX5_readable_28 : decode cX5_readable 28 = .ok (.invokevirtual 41, 3) := by decide +kernel
theorem dX5_readable_31 : decode cX5_readable 31 = .ok (.ifCond .eq 9, 3) := by decide +kernel
theorem dX5_readable_34 : decode cX5_readable 34 = .ok (.iinc 1 1, 3) := by decide +kernel
theorem dX5_readable_37 : decode cX5_readable 37 = .ok (.goto (-26), 3) := by decide +kernel
theorem dX5_readable_40 : decode cX5_readable 40 = .ok (.iload_n 1, 1) := by decide +kernel
theorem dX5_readable_41 : decode cX5_readable 41 = .ok (.ireturn, 1) := by decide +kernel
theorem dX5_tellsMaster_0 : decode cX5_tellsMaster 0 = .ok (.aload_n 0, 1) := by decide +kernel
theorem dX5_tellsMaster_1 : decode cX5_tellsMaster 1 = .ok (.invokevirtual 45, 3) := by decide +kernel
theorem dX5_tellsMaster_4 : decode cX5_tellsMaster 4 = .ok (.aload_n 0, 1) := by decide +kernel
theorem dX5_tellsMaster_5 : decode cX5_tellsMaster 5 = .ok (.getfield 23, 3) := by decide +kernel
theorem dX5_tellsMaster_8 : decode cX5_tellsMaster 8 = .ok (.if_icmp .lt 10, 3) := by decide +kernel
theorem dX5_tellsMaster_11 : decode cX5_tellsMaster 11 = .ok (.aload_n 0, 1) := by decide +kernel
theorem dX5_tellsMaster_12 : decode cX5_tellsMaster 12 = .ok (.invokevirtual 49, 3) := by decide +kernel
theorem dX5_tellsMaster_15 : decode cX5_tellsMaster 15 = .ok (.ifCond .ne 5, 3) := by decide +kernel
theorem dX5_tellsMaster_18 : decode cX5_tellsMaster 18 = .ok (.iconst 0, 1) := by decide +kernel
theorem dX5_tellsMaster_19 : decode cX5_tellsMaster 19 = .ok (.ireturn, 1) := by decide +kernel
theorem dX5_tellsMaster_20 : decode cX5_tellsMaster 20 = .ok (.aload_n 0, 1) := by decide +kernel
theorem dX5_tellsMaster_21 : decode cX5_tellsMaster 21 = .ok (.invokevirtual 53, 3) := by decide +kernel
theorem dX5_tellsMaster_24 : decode cX5_tellsMaster 24 = .ok (.aload_n 0, 1) := by decide +kernel
theorem dX5_tellsMaster_25 : decode cX5_tellsMaster 25 = .ok (.getfield 31, 3) := by decide +kernel
theorem dX5_tellsMaster_28 : decode cX5_tellsMaster 28 = .ok (.bipush 16, 2) := by decide +kernel
theorem dX5_tellsMaster_30 : decode cX5_tellsMaster 30 = .ok (.if_icmp .ne 7, 3) := by decide +kernel
theorem dX5_tellsMaster_33 : decode cX5_tellsMaster 33 = .ok (.iconst 1, 1) := by decide +kernel
theorem dX5_tellsMaster_34 : decode cX5_tellsMaster 34 = .ok (.goto 4, 3) := by decide +kernel
theorem dX5_tellsMaster_37 : decode cX5_tellsMaster 37 = .ok (.iconst 0, 1) := by decide +kernel
theorem dX5_tellsMaster_38 : decode cX5_tellsMaster 38 = .ok (.ireturn, 1) := by decide +kernel
theorem dX5_beginPart_0 : decode cX5_beginPart 0 = .ok (.aload_n 0, 1) := by decide +kernel
theorem dX5_beginPart_1 : decode cX5_beginPart 1 = .ok (.iconst 0, 1) := by decide +kernel
theorem dX5_beginPart_2 : decode cX5_beginPart 2 = .ok (.putfield 56, 3) := by decide +kernel
theorem dX5_beginPart_5 : decode cX5_beginPart 5 = .ok (.aload_n 0, 1) := by decide +kernel
theorem dX5_beginPart_6 : decode cX5_beginPart 6 = .ok (.iconst 0, 1) := by decide +kernel
theorem dX5_beginPart_7 : decode cX5_beginPart 7 = .ok (.putfield 59, 3) := by decide +kernel
theorem dX5_beginPart_10 : decode cX5_beginPart 10 = .ok (.aload_n 0, 1) := by decide +kernel
theorem dX5_beginPart_11 : decode cX5_beginPart 11 = .ok (.iconst 1, 1) := by decide +kernel
theorem dX5_beginPart_12 : decode cX5_beginPart 12 = .ok (.putfield 62, 3) := by decide +kernel
theorem dX5_beginPart_15 : decode cX5_beginPart 15 = .ok (.return_, 1) := by decide +kernel
theorem dX5_takes_0 : decode cX5_takes 0 = .ok (.iload_n 1, 1) := by decide +kernel
theorem dX5_takes_1 : decode cX5_takes 1 = .ok (.bipush 48, 2) := by decide +kernel
theorem dX5_takes_3 : decode cX5_takes 3 = .ok (.if_icmp .lt 18, 3) := by decide +kernel
theorem dX5_takes_6 : decode cX5_takes 6 = .ok (.iload_n 1, 1) := by decide +kernel
theorem dX5_takes_7 : decode cX5_takes 7 = .ok (.bipush 57, 2) := by decide +kernel
theorem dX5_takes_9 : decode cX5_takes 9 = .ok (.if_icmp .gt 12, 3) := by decide +kernel
theorem dX5_takes_12 : decode cX5_takes 12 = .ok (.aload_n 0, 1) := by decide +kernel
theorem dX5_takes_13 : decode cX5_takes 13 = .ok (.iload_n 1, 1) := by decide +kernel
theorem dX5_takes_14 : decode cX5_takes 14 = .ok (.bipush 48, 2) := by decide +kernel
theorem dX5_takes_16 : decode cX5_takes 16 = .ok (.isub, 1) := by decide +kernel
theorem dX5_takes_17 : decode cX5_takes 17 = .ok (.invokevirtual 65, 3) := by decide +kernel
theorem dX5_takes_20 : decode cX5_takes 20 = .ok (.ireturn, 1) := by decide +kernel
theorem dX5_takes_21 : decode cX5_takes 21 = .ok (.iload_n 1, 1) := by decide +kernel
theorem dX5_takes_22 : decode cX5_takes 22 = .ok (.bipush 120, 2) := by decide +kernel
theorem dX5_takes_24 : decode cX5_takes 24 = .ok (.if_icmp .ne 8, 3) := by decide +kernel
theorem dX5_takes_27 : decode cX5_takes 27 = .ok (.aload_n 0, 1) := by decide +kernel
theorem dX5_takes_28 : decode cX5_takes 28 = .ok (.invokevirtual 68, 3) := by decide +kernel
theorem dX5_takes_31 : decode cX5_takes 31 = .ok (.ireturn, 1) := by decide +kernel
theorem dX5_takes_32 : decode cX5_takes 32 = .ok (.iload_n 1, 1) := by decide +kernel
theorem dX5_takes_33 : decode cX5_takes 33 = .ok (.bipush 44, 2) := by decide +kernel
theorem dX5_takes_35 : decode cX5_takes 35 = .ok (.if_icmp .ne 14, 3) := by decide +kernel
theorem dX5_takes_38 : decode cX5_takes 38 = .ok (.aload_n 0, 1) := by decide +kernel
theorem dX5_takes_39 : decode cX5_takes 39 = .ok (.invokevirtual 71, 3) := by decide +kernel
theorem dX5_takes_42 : decode cX5_takes 42 = .ok (.ifCond .eq 7, 3) := by decide +kernel
theorem dX5_takes_45 : decode cX5_takes 45 = .ok (.iconst 1, 1) := by decide +kernel
theorem dX5_takes_46 : decode cX5_takes 46 = .ok (.goto 4, 3) := by decide +kernel
theorem dX5_takes_49 : decode cX5_takes 49 = .ok (.iconst 0, 1) := by decide +kernel
theorem dX5_takes_50 : decode cX5_takes 50 = .ok (.ireturn, 1) := by decide +kernel
theorem dX5_takesDigit_0 : decode cX5_takesDigit 0 = .ok (.aload_n 0, 1) := by decide +kernel
theorem dX5_takesDigit_1 : decode cX5_takesDigit 1 = .ok (.getfield 56, 3) := by decide +kernel
theorem dX5_takesDigit_4 : decode cX5_takesDigit 4 = .ok (.ifCond .ne 17, 3) := by decide +kernel
theorem dX5_takesDigit_7 : decode cX5_takesDigit 7 = .ok (.aload_n 0, 1) := by decide +kernel
theorem dX5_takesDigit_8 : decode cX5_takesDigit 8 = .ok (.aload_n 0, 1) := by decide +kernel
theorem dX5_takesDigit_9 : decode cX5_takesDigit 9 = .ok (.getfield 59, 3) := by decide +kernel
theorem dX5_takesDigit_12 : decode cX5_takesDigit 12 = .ok (.bipush 10, 2) := by decide +kernel
theorem dX5_takesDigit_14 : decode cX5_takesDigit 14 = .ok (.imul, 1) := by decide +kernel
theorem dX5_takesDigit_15 : decode cX5_takesDigit 15 = .ok (.iload_n 1, 1) := by decide +kernel
theorem dX5_takesDigit_16 : decode cX5_takesDigit 16 = .ok (.iadd, 1) := by decide +kernel
theorem dX5_takesDigit_17 : decode cX5_takesDigit 17 = .ok (.invokevirtual 74, 3) := by decide +kernel
theorem dX5_takesDigit_20 : decode cX5_takesDigit 20 = .ok (.ireturn, 1) := by decide +kernel
theorem dX5_takesDigit_21 : decode cX5_takesDigit 21 = .ok (.aload_n 0, 1) := by decide +kernel
theorem dX5_takesDigit_22 : decode cX5_takesDigit 22 = .ok (.aload_n 0, 1) := by decide +kernel
theorem dX5_takesDigit_23 : decode cX5_takesDigit 23 = .ok (.getfield 56, 3) := by decide +kernel
theorem dX5_takesDigit_26 : decode cX5_takesDigit 26 = .ok (.iconst 2, 1) := by decide +kernel
theorem dX5_takesDigit_27 : decode cX5_takesDigit 27 = .ok (.if_icmp .ne 15, 3) := by decide +kernel
theorem dX5_takesDigit_30 : decode cX5_takesDigit 30 = .ok (.aload_n 0, 1) := by decide +kernel
theorem dX5_takesDigit_31 : decode cX5_takesDigit 31 = .ok (.getfield 62, 3) := by decide +kernel
theorem dX5_takesDigit_34 : decode cX5_takesDigit 34 = .ok (.bipush 10, 2) := by decide +kernel
theorem dX5_takesDigit_36 : decode cX5_takesDigit 36 = .ok (.imul, 1) := by decide +kernel
theorem dX5_takesDigit_37 : decode cX5_takesDigit 37 = .ok (.iload_n 1, 1) := by decide +kernel
theorem dX5_takesDigit_38 : decode cX5_takesDigit 38 = .ok (.iadd, 1) := by decide +kernel
theorem dX5_takesDigit_39 : decode cX5_takesDigit 39 = .ok (.goto 4, 3) := by decide +kernel
theorem dX5_takesDigit_42 : decode cX5_takesDigit 42 = .ok (.iload_n 1, 1) := by decide +kernel
theorem dX5_takesDigit_43 : decode cX5_takesDigit 43 = .ok (.invokevirtual 77, 3) := by decide +kernel
theorem dX5_takesDigit_46 : decode cX5_takesDigit 46 = .ok (.ireturn, 1) := by decide +kernel
theorem dX5_takesDiameter_0 : decode cX5_takesDiameter 0 = .ok (.iload_n 1, 1) := by decide +kernel
theorem dX5_takesDiameter_1 : decode cX5_takesDiameter 1 = .ok (.iconst 1, 1) := by decide +kernel
theorem dX5_takesDiameter_2 : decode cX5_takesDiameter 2 = .ok (.if_icmp .lt 9, 3) := by decide +kernel
theorem dX5_takesDiameter_5 : decode cX5_takesDiameter 5 = .ok (.iload_n 1, 1) := by decide +kernel
theorem dX5_takesDiameter_6 : decode cX5_takesDiameter 6 = .ok (.bipush 99, 2) := by decide +kernel
theorem dX5_takesDiameter_8 : decode cX5_takesDiameter 8 = .ok (.if_icmp .le 5, 3) := by decide +kernel
theorem dX5_takesDiameter_11 : decode cX5_takesDiameter 11 = .ok (.iconst 0, 1) := by decide +kernel
theorem dX5_takesDiameter_12 : decode cX5_takesDiameter 12 = .ok (.ireturn, 1) := by decide +kernel
theorem dX5_takesDiameter_13 : decode cX5_takesDiameter 13 = .ok (.aload_n 0, 1) := by decide +kernel
theorem dX5_takesDiameter_14 : decode cX5_takesDiameter 14 = .ok (.iload_n 1, 1) := by decide +kernel
theorem dX5_takesDiameter_15 : decode cX5_takesDiameter 15 = .ok (.putfield 59, 3) := by decide +kernel
theorem dX5_takesDiameter_18 : decode cX5_takesDiameter 18 = .ok (.iconst 1, 1) := by decide +kernel
theorem dX5_takesDiameter_19 : decode cX5_takesDiameter 19 = .ok (.ireturn, 1) := by decide +kernel
theorem dX5_takesNumber_0 : decode cX5_takesNumber 0 = .ok (.iload_n 1, 1) := by decide +kernel
theorem dX5_takesNumber_1 : decode cX5_takesNumber 1 = .ok (.iconst 1, 1) := by decide +kernel
theorem dX5_takesNumber_2 : decode cX5_takesNumber 2 = .ok (.if_icmp .lt 14, 3) := by decide +kernel
theorem dX5_takesNumber_5 : decode cX5_takesNumber 5 = .ok (.aload_n 0, 1) := by decide +kernel
theorem dX5_takesNumber_6 : decode cX5_takesNumber 6 = .ok (.getfield 31, 3) := by decide +kernel
theorem dX5_takesNumber_9 : decode cX5_takesNumber 9 = .ok (.iload_n 1, 1) := by decide +kernel
theorem dX5_takesNumber_10 : decode cX5_takesNumber 10 = .ok (.iadd, 1) := by decide +kernel
theorem dX5_takesNumber_11 : decode cX5_takesNumber 11 = .ok (.bipush 16, 2) := by decide +kernel
theorem dX5_takesNumber_13 : decode cX5_takesNumber 13 = .ok (.if_icmp .le 5, 3) := by decide +kernel
theorem dX5_takesNumber_16 : decode cX5_takesNumber 16 = .ok (.iconst 0, 1) := by decide +kernel
theorem dX5_takesNumber_17 : decode cX5_takesNumber 17 = .ok (.ireturn, 1) := by decide +kernel
theorem dX5_takesNumber_18 : decode cX5_takesNumber 18 = .ok (.aload_n 0, 1) := by decide +kernel
theorem dX5_takesNumber_19 : decode cX5_takesNumber 19 = .ok (.iload_n 1, 1) := by decide +kernel
theorem dX5_takesNumber_20 : decode cX5_takesNumber 20 = .ok (.putfield 62, 3) := by decide +kernel
theorem dX5_takesNumber_23 : decode cX5_takesNumber 23 = .ok (.aload_n 0, 1) := by decide +kernel
theorem dX5_takesNumber_24 : decode cX5_takesNumber 24 = .ok (.iconst 2, 1) := by decide +kernel
theorem dX5_takesNumber_25 : decode cX5_takesNumber 25 = .ok (.putfield 56, 3) := by decide +kernel
theorem dX5_takesNumber_28 : decode cX5_takesNumber 28 = .ok (.iconst 1, 1) := by decide +kernel
theorem dX5_takesNumber_29 : decode cX5_takesNumber 29 = .ok (.ireturn, 1) := by decide +kernel
theorem dX5_takesTimes_0 : decode cX5_takesTimes 0 = .ok (.aload_n 0, 1) := by decide +kernel
theorem dX5_takesTimes_1 : decode cX5_takesTimes 1 = .ok (.getfield 56, 3) := by decide +kernel
theorem dX5_takesTimes_4 : decode cX5_takesTimes 4 = .ok (.ifCond .ne 11, 3) := by decide +kernel
theorem dX5_takesTimes_7 : decode cX5_takesTimes 7 = .ok (.aload_n 0, 1) := by decide +kernel
theorem dX5_takesTimes_8 : decode cX5_takesTimes 8 = .ok (.getfield 59, 3) := by decide +kernel
theorem dX5_takesTimes_11 : decode cX5_takesTimes 11 = .ok (.iconst 5, 1) := by decide +kernel
theorem dX5_takesTimes_12 : decode cX5_takesTimes 12 = .ok (.if_icmp .ge 5, 3) := by decide +kernel
theorem dX5_takesTimes_15 : decode cX5_takesTimes 15 = .ok (.iconst 0, 1) := by decide +kernel
theorem dX5_takesTimes_16 : decode cX5_takesTimes 16 = .ok (.ireturn, 1) := by decide +kernel
theorem dX5_takesTimes_17 : decode cX5_takesTimes 17 = .ok (.aload_n 0, 1) := by decide +kernel
theorem dX5_takesTimes_18 : decode cX5_takesTimes 18 = .ok (.iconst 1, 1) := by decide +kernel
theorem dX5_takesTimes_19 : decode cX5_takesTimes 19 = .ok (.putfield 56, 3) := by decide +kernel
theorem dX5_takesTimes_22 : decode cX5_takesTimes 22 = .ok (.iconst 1, 1) := by decide +kernel
theorem dX5_takesTimes_23 : decode cX5_takesTimes 23 = .ok (.ireturn, 1) := by decide +kernel
theorem dX5_takesComma_0 : decode cX5_takesComma 0 = .ok (.aload_n 0, 1) := by decide +kernel
theorem dX5_takesComma_1 : decode cX5_takesComma 1 = .ok (.invokevirtual 49, 3) := by decide +kernel
theorem dX5_takesComma_4 : decode cX5_takesComma 4 = .ok (.ifCond .eq 17, 3) := by decide +kernel
theorem dX5_takesComma_7 : decode cX5_takesComma 7 = .ok (.aload_n 0, 1) := by decide +kernel
theorem dX5_takesComma_8 : decode cX5_takesComma 8 = .ok (.getfield 31, 3) := by decide +kernel
theorem dX5_takesComma_11 : decode cX5_takesComma 11 = .ok (.aload_n 0, 1) := by decide +kernel
theorem dX5_takesComma_12 : decode cX5_takesComma 12 = .ok (.getfield 62, 3) := by decide +kernel
theorem dX5_takesComma_15 : decode cX5_takesComma 15 = .ok (.iadd, 1) := by decide +kernel
theorem dX5_takesComma_16 : decode cX5_takesComma 16 = .ok (.bipush 16, 2) := by decide +kernel
theorem dX5_takesComma_18 : decode cX5_takesComma 18 = .ok (.if_icmp .lt 5, 3) := by decide +kernel
theorem dX5_takesComma_21 : decode cX5_takesComma 21 = .ok (.iconst 0, 1) := by decide +kernel
theorem dX5_takesComma_22 : decode cX5_takesComma 22 = .ok (.ireturn, 1) := by decide +kernel
theorem dX5_takesComma_23 : decode cX5_takesComma 23 = .ok (.aload_n 0, 1) := by decide +kernel
theorem dX5_takesComma_24 : decode cX5_takesComma 24 = .ok (.invokevirtual 53, 3) := by decide +kernel
theorem dX5_takesComma_27 : decode cX5_takesComma 27 = .ok (.aload_n 0, 1) := by decide +kernel
theorem dX5_takesComma_28 : decode cX5_takesComma 28 = .ok (.invokevirtual 34, 3) := by decide +kernel
theorem dX5_takesComma_31 : decode cX5_takesComma 31 = .ok (.iconst 1, 1) := by decide +kernel
theorem dX5_takesComma_32 : decode cX5_takesComma 32 = .ok (.ireturn, 1) := by decide +kernel
theorem dX5_canPartEnd_0 : decode cX5_canPartEnd 0 = .ok (.aload_n 0, 1) := by decide +kernel
theorem dX5_canPartEnd_1 : decode cX5_canPartEnd 1 = .ok (.getfield 56, 3) := by decide +kernel
theorem dX5_canPartEnd_4 : decode cX5_canPartEnd 4 = .ok (.iconst 2, 1) := by decide +kernel
theorem dX5_canPartEnd_5 : decode cX5_canPartEnd 5 = .ok (.if_icmp .eq 18, 3) := by decide +kernel
theorem dX5_canPartEnd_8 : decode cX5_canPartEnd 8 = .ok (.aload_n 0, 1) := by decide +kernel
theorem dX5_canPartEnd_9 : decode cX5_canPartEnd 9 = .ok (.getfield 56, 3) := by decide +kernel
theorem dX5_canPartEnd_12 : decode cX5_canPartEnd 12 = .ok (.ifCond .ne 15, 3) := by decide +kernel
theorem dX5_canPartEnd_15 : decode cX5_canPartEnd 15 = .ok (.aload_n 0, 1) := by decide +kernel
theorem dX5_canPartEnd_16 : decode cX5_canPartEnd 16 = .ok (.getfield 59, 3) := by decide +kernel
theorem dX5_canPartEnd_19 : decode cX5_canPartEnd 19 = .ok (.iconst 5, 1) := by decide +kernel
theorem dX5_canPartEnd_20 : decode cX5_canPartEnd 20 = .ok (.if_icmp .lt 7, 3) := by decide +kernel
theorem dX5_canPartEnd_23 : decode cX5_canPartEnd 23 = .ok (.iconst 1, 1) := by decide +kernel
theorem dX5_canPartEnd_24 : decode cX5_canPartEnd 24 = .ok (.goto 4, 3) := by decide +kernel
theorem dX5_canPartEnd_27 : decode cX5_canPartEnd 27 = .ok (.iconst 0, 1) := by decide +kernel
theorem dX5_canPartEnd_28 : decode cX5_canPartEnd 28 = .ok (.ireturn, 1) := by decide +kernel
theorem dX5_tellPart_0 : decode cX5_tellPart 0 = .ok (.iconst 0, 1) := by decide +kernel
theorem dX5_tellPart_1 : decode cX5_tellPart 1 = .ok (.istore_n 1, 1) := by decide +kernel
theorem dX5_tellPart_2 : decode cX5_tellPart 2 = .ok (.iload_n 1, 1) := by decide +kernel
theorem dX5_tellPart_3 : decode cX5_tellPart 3 = .ok (.aload_n 0, 1) := by decide +kernel
theorem dX5_tellPart_4 : decode cX5_tellPart 4 = .ok (.getfield 62, 3) := by decide +kernel
theorem dX5_tellPart_7 : decode cX5_tellPart 7 = .ok (.if_icmp .ge 26, 3) := by decide +kernel
theorem dX5_tellPart_10 : decode cX5_tellPart 10 = .ok (.aload_n 0, 1) := by decide +kernel
theorem dX5_tellPart_11 : decode cX5_tellPart 11 = .ok (.getfield 20, 3) := by decide +kernel
theorem dX5_tellPart_14 : decode cX5_tellPart 14 = .ok (.aload_n 0, 1) := by decide +kernel
theorem dX5_tellPart_15 : decode cX5_tellPart 15 = .ok (.getfield 31, 3) := by decide +kernel
theorem dX5_tellPart_18 : decode cX5_tellPart 18 = .ok (.iload_n 1, 1) := by decide +kernel
theorem dX5_tellPart_19 : decode cX5_tellPart 19 = .ok (.iadd, 1) := by decide +kernel
theorem dX5_tellPart_20 : decode cX5_tellPart 20 = .ok (.aload_n 0, 1) := by decide +kernel
theorem dX5_tellPart_21 : decode cX5_tellPart 21 = .ok (.getfield 59, 3) := by decide +kernel
theorem dX5_tellPart_24 : decode cX5_tellPart 24 = .ok (.invokevirtual 27, 3) := by decide +kernel
theorem dX5_tellPart_27 : decode cX5_tellPart 27 = .ok (.iinc 1 1, 3) := by decide +kernel
theorem dX5_tellPart_30 : decode cX5_tellPart 30 = .ok (.goto (-28), 3) := by decide +kernel
theorem dX5_tellPart_33 : decode cX5_tellPart 33 = .ok (.aload_n 0, 1) := by decide +kernel
theorem dX5_tellPart_34 : decode cX5_tellPart 34 = .ok (.dup, 1) := by decide +kernel
theorem dX5_tellPart_35 : decode cX5_tellPart 35 = .ok (.getfield 31, 3) := by decide +kernel
theorem dX5_tellPart_38 : decode cX5_tellPart 38 = .ok (.aload_n 0, 1) := by decide +kernel
theorem dX5_tellPart_39 : decode cX5_tellPart 39 = .ok (.getfield 62, 3) := by decide +kernel
theorem dX5_tellPart_42 : decode cX5_tellPart 42 = .ok (.iadd, 1) := by decide +kernel
theorem dX5_tellPart_43 : decode cX5_tellPart 43 = .ok (.putfield 31, 3) := by decide +kernel
theorem dX5_tellPart_46 : decode cX5_tellPart 46 = .ok (.return_, 1) := by decide +kernel
theorem dX6_init_0 : decode cX6_init 0 = .ok (.aload_n 0, 1) := by decide +kernel
theorem dX6_init_1 : decode cX6_init 1 = .ok (.invokespecial 3, 3) := by decide +kernel
theorem dX6_init_4 : decode cX6_init 4 = .ok (.aload_n 0, 1) := by decide +kernel
theorem dX6_init_5 : decode cX6_init 5 = .ok (.bipush 48, 2) := by decide +kernel
theorem dX6_init_7 : decode cX6_init 7 = .ok (.newarray .int, 2) := by decide +kernel
theorem dX6_init_9 : decode cX6_init 9 = .ok (.putfield 9, 3) := by decide +kernel
theorem dX6_init_12 : decode cX6_init 12 = .ok (.iconst 0, 1) := by decide +kernel
theorem dX6_init_13 : decode cX6_init 13 = .ok (.istore_n 1, 1) := by decide +kernel
theorem dX6_init_14 : decode cX6_init 14 = .ok (.iload_n 1, 1) := by decide +kernel
theorem dX6_init_15 : decode cX6_init 15 = .ok (.aload_n 0, 1) := by decide +kernel
theorem dX6_init_16 : decode cX6_init 16 = .ok (.getfield 9, 3) := by decide +kernel
theorem dX6_init_19 : decode cX6_init 19 = .ok (.arraylength, 1) := by decide +kernel
theorem dX6_init_20 : decode cX6_init 20 = .ok (.if_icmp .ge 17, 3) := by decide +kernel
theorem dX6_init_23 : decode cX6_init 23 = .ok (.aload_n 0, 1) := by decide +kernel
theorem dX6_init_24 : decode cX6_init 24 = .ok (.getfield 9, 3) := by decide +kernel
theorem dX6_init_27 : decode cX6_init 27 = .ok (.iload_n 1, 1) := by decide +kernel
theorem dX6_init_28 : decode cX6_init 28 = .ok (.bipush 30, 2) := by decide +kernel
theorem dX6_init_30 : decode cX6_init 30 = .ok (.iastore, 1) := by decide +kernel
theorem dX6_init_31 : decode cX6_init 31 = .ok (.iinc 1 1, 3) := by decide +kernel
theorem dX6_init_34 : decode cX6_init 34 = .ok (.goto (-20), 3) := by decide +kernel
theorem dX6_init_37 : decode cX6_init 37 = .ok (.return_, 1) := by decide +kernel
theorem dX6_at_0 : decode cX6_at 0 = .ok (.iload_n 1, 1) := by decide +kernel
theorem dX6_at_1 : decode cX6_at 1 = .ok (.bipush 16, 2) := by decide +kernel
theorem dX6_at_3 : decode cX6_at 3 = .ok (.imul, 1) := by decide +kernel
theorem dX6_at_4 : decode cX6_at 4 = .ok (.iload_n 2, 1) := by decide +kernel
theorem dX6_at_5 : decode cX6_at 5 = .ok (.iadd, 1) := by decide +kernel
theorem dX6_at_6 : decode cX6_at 6 = .ok (.istore_n 3, 1) := by decide +kernel
theorem dX6_at_7 : decode cX6_at 7 = .ok (.iload_n 3, 1) := by decide +kernel
theorem dX6_at_8 : decode cX6_at 8 = .ok (.ifCond .lt 21, 3) := by decide +kernel
theorem dX6_at_11 : decode cX6_at 11 = .ok (.iload_n 3, 1) := by decide +kernel
theorem dX6_at_12 : decode cX6_at 12 = .ok (.aload_n 0, 1) := by decide +kernel
theorem dX6_at_13 : decode cX6_at 13 = .ok (.getfield 9, 3) := by decide +kernel
theorem dX6_at_16 : decode cX6_at 16 = .ok (.arraylength, 1) := by decide +kernel
theorem dX6_at_17 : decode cX6_at 17 = .ok (.if_icmp .ge 12, 3) := by decide +kernel
theorem dX6_at_20 : decode cX6_at 20 = .ok (.aload_n 0, 1) := by decide +kernel
theorem dX6_at_21 : decode cX6_at 21 = .ok (.getfield 9, 3) := by decide +kernel
theorem dX6_at_24 : decode cX6_at 24 = .ok (.iload_n 3, 1) := by decide +kernel
theorem dX6_at_25 : decode cX6_at 25 = .ok (.iaload, 1) := by decide +kernel
theorem dX6_at_26 : decode cX6_at 26 = .ok (.goto 4, 3) := by decide +kernel
theorem dX6_at_29 : decode cX6_at 29 = .ok (.iconst 0, 1) := by decide +kernel
theorem dX6_at_30 : decode cX6_at 30 = .ok (.ireturn, 1) := by decide +kernel
theorem dX6_put_0 : decode cX6_put 0 = .ok (.iload_n 1, 1) := by decide +kernel
theorem dX6_put_1 : decode cX6_put 1 = .ok (.bipush 16, 2) := by decide +kernel
theorem dX6_put_3 : decode cX6_put 3 = .ok (.imul, 1) := by decide +kernel
theorem dX6_put_4 : decode cX6_put 4 = .ok (.iload_n 2, 1) := by decide +kernel
theorem dX6_put_5 : decode cX6_put 5 = .ok (.iadd, 1) := by decide +kernel
theorem dX6_put_6 : decode cX6_put 6 = .ok (.istore 4, 2) := by decide +kernel
theorem dX6_put_8 : decode cX6_put 8 = .ok (.iload 4, 2) := by decide +kernel
theorem dX6_put_10 : decode cX6_put 10 = .ok (.ifCond .lt 21, 3) := by decide +kernel
theorem dX6_put_13 : decode cX6_put 13 = .ok (.iload 4, 2) := by decide +kernel
theorem dX6_put_15 : decode cX6_put 15 = .ok (.aload_n 0, 1) := by decide +kernel
theorem dX6_put_16 : decode cX6_put 16 = .ok (.getfield 9, 3) := by decide +kernel
theorem dX6_put_19 : decode cX6_put 19 = .ok (.arraylength, 1) := by decide +kernel
theorem dX6_put_20 : decode cX6_put 20 = .ok (.if_icmp .ge 11, 3) := by decide +kernel
theorem dX6_put_23 : decode cX6_put 23 = .ok (.aload_n 0, 1) := by decide +kernel
theorem dX6_put_24 : decode cX6_put 24 = .ok (.getfield 9, 3) := by decide +kernel
theorem dX6_put_27 : decode cX6_put 27 = .ok (.iload 4, 2) := by decide +kernel
theorem dX6_put_29 : decode cX6_put 29 = .ok (.iload_n 3, 1) := by decide +kernel
theorem dX6_put_30 : decode cX6_put 30 = .ok (.iastore, 1) := by decide +kernel
theorem dX6_put_31 : decode cX6_put 31 = .ok (.return_, 1) := by decide +kernel
theorem dX6_chosenAt_0 : decode cX6_chosenAt 0 = .ok (.aload_n 0, 1) := by decide +kernel
theorem dX6_chosenAt_1 : decode cX6_chosenAt 1 = .ok (.aload_n 0, 1) := by decide +kernel
theorem dX6_chosenAt_2 : decode cX6_chosenAt 2 = .ok (.getfield 15, 3) := by decide +kernel
theorem dX6_chosenAt_5 : decode cX6_chosenAt 5 = .ok (.iload_n 1, 1) := by decide +kernel
theorem dX6_chosenAt_6 : decode cX6_chosenAt 6 = .ok (.invokevirtual 19, 3) := by decide +kernel
theorem dX6_chosenAt_9 : decode cX6_chosenAt 9 = .ok (.ireturn, 1) := by decide +kernel
theorem dX6_makeAlike_0 : decode cX6_makeAlike 0 = .ok (.iconst 0, 1) := by decide +kernel
theorem dX6_makeAlike_1 : decode cX6_makeAlike 1 = .ok (.istore_n 3, 1) := by decide +kernel
theorem dX6_makeAlike_2 : decode cX6_makeAlike 2 = .ok (.iconst 0, 1) := by decide +kernel
theorem dX6_makeAlike_3 : decode cX6_makeAlike 3 = .ok (.istore 4, 2) := by decide +kernel
theorem dX6_makeAlike_5 : decode cX6_makeAlike 5 = .ok (.iload 4, 2) := by decide +kernel
theorem dX6_makeAlike_7 : decode cX6_makeAlike 7 = .ok (.bipush 16, 2) := by decide +kernel
theorem dX6_makeAlike_9 : decode cX6_makeAlike 9 = .ok (.if_icmp .ge 43, 3) := by decide +kernel
theorem dX6_makeAlike_12 : decode cX6_makeAlike 12 = .ok (.aload_n 0, 1) := by decide +kernel
theorem dX6_makeAlike_13 : decode cX6_makeAlike 13 = .ok (.iload_n 1, 1) := by decide +kernel
theorem dX6_makeAlike_14 : decode cX6_makeAlike 14 = .ok (.iload 4, 2) := by decide +kernel
theorem dX6_makeAlike_16 : decode cX6_makeAlike 16 = .ok (.invokevirtual 19, 3) := by decide +kernel
theorem dX6_makeAlike_19 : decode cX6_makeAlike 19 = .ok (.aload_n 0, 1) := by decide +kernel
theorem dX6_makeAlike_20 : decode cX6_makeAlike 20 = .ok (.iload_n 2, 1) := by decide +kernel
theorem dX6_makeAlike_21 : decode cX6_makeAlike 21 = .ok (.iload 4, 2) := by decide +kernel
theorem dX6_makeAlike_23 : decode cX6_makeAlike 23 = .ok (.invokevirtual 19, 3) := by decide +kernel
theorem dX6_makeAlike_26 : decode cX6_makeAlike 26 = .ok (.if_icmp .eq 6, 3) := by decide +kernel
theorem dX6_makeAlike_29 : decode cX6_makeAlike 29 = .ok (.iinc 3 1, 3) := by decide +kernel
theorem dX6_makeAlike_32 : decode cX6_makeAlike 32 = .ok (.aload_n 0, 1) := by decide +kernel
theorem dX6_makeAlike_33 : decode cX6_makeAlike 33 = .ok (.iload_n 2, 1) := by decide +kernel
theorem dX6_makeAlike_34 : decode cX6_makeAlike 34 = .ok (.iload 4, 2) := by decide +kernel
theorem dX6_makeAlike_36 : decode cX6_makeAlike 36 = .ok (.aload_n 0, 1) := by decide +kernel
theorem dX6_makeAlike_37 : decode cX6_makeAlike 37 = .ok (.iload_n 1, 1) := by decide +kernel
theorem dX6_makeAlike_38 : decode cX6_makeAlike 38 = .ok (.iload 4, 2) := by decide +kernel
theorem dX6_makeAlike_40 : decode cX6_makeAlike 40 = .ok (.invokevirtual 19, 3) := by decide +kernel
theorem dX6_makeAlike_43 : decode cX6_makeAlike 43 = .ok (.invokevirtual 23, 3) := by decide +kernel
theorem dX6_makeAlike_46 : decode cX6_makeAlike 46 = .ok (.iinc 4 1, 3) := by decide +kernel
theorem dX6_makeAlike_49 : decode cX6_makeAlike 49 = .ok (.goto (-44), 3) := by decide +kernel
theorem dX6_makeAlike_52 : decode cX6_makeAlike 52 = .ok (.iload_n 3, 1) := by decide +kernel
theorem dX6_makeAlike_53 : decode cX6_makeAlike 53 = .ok (.ireturn, 1) := by decide +kernel
theorem dX6_turnRound_0 : decode cX6_turnRound 0 = .ok (.iconst 0, 1) := by decide +kernel
theorem dX6_turnRound_1 : decode cX6_turnRound 1 = .ok (.istore_n 2, 1) := by decide +kernel
theorem dX6_turnRound_2 : decode cX6_turnRound 2 = .ok (.iconst 0, 1) := by decide +kernel
theorem dX6_turnRound_3 : decode cX6_turnRound 3 = .ok (.istore_n 3, 1) := by decide +kernel
theorem dX6_turnRound_4 : decode cX6_turnRound 4 = .ok (.iload_n 3, 1) := by decide +kernel
theorem dX6_turnRound_5 : decode cX6_turnRound 5 = .ok (.bipush 8, 2) := by decide +kernel
theorem dX6_turnRound_7 : decode cX6_turnRound 7 = .ok (.if_icmp .ge 60, 3) := by decide +kernel
theorem dX6_turnRound_10 : decode cX6_turnRound 10 = .ok (.bipush 15, 2) := by decide +kernel
theorem dX6_turnRound_12 : decode cX6_turnRound 12 = .ok (.iload_n 3, 1) := by decide +kernel
theorem dX6_turnRound_13 : decode cX6_turnRound 13 = .ok (.isub, 1) := by decide +kernel
theorem dX6_turnRound_14 : decode cX6_turnRound 14 = .ok (.istore 4, 2) := by decide +kernel
theorem dX6_turnRound_16 : decode cX6_turnRound 16 = .ok (.aload_n 0, 1) := by decide +kernel
theorem dX6_turnRound_17 : decode cX6_turnRound 17 = .ok (.iload_n 1, 1) := by decide +kernel
theorem dX6_turnRound_18 : decode cX6_turnRound 18 = .ok (.iload_n 3, 1) := by decide +kernel
theorem dX6_turnRound_19 : decode cX6_turnRound 19 = .ok (.invokevirtual 19, 3) := by decide +kernel
theorem dX6_turnRound_22 : decode cX6_turnRound 22 = .ok (.istore 5, 2) := by decide +kernel
theorem dX6_turnRound_24 : decode cX6_turnRound 24 = .ok (.iload 5, 2) := by decide +kernel
theorem dX6_turnRound_26 : decode cX6_turnRound 26 = .ok (.aload_n 0, 1) := by decide +kernel
theorem dX6_turnRound_27 : decode cX6_turnRound 27 = .ok (.iload_n 1, 1) := by decide +kernel
theorem dX6_turnRound_28 : decode cX6_turnRound 28 = .ok (.iload 4, 2) := by decide +kernel
theorem dX6_turnRound_30 : decode cX6_turnRound 30 = .ok (.invokevirtual 19, 3) := by decide +kernel
theorem dX6_turnRound_33 : decode cX6_turnRound 33 = .ok (.if_icmp .eq 6, 3) := by decide +kernel
theorem dX6_turnRound_36 : decode cX6_turnRound 36 = .ok (.iinc 2 2, 3) := by decide +kernel
theorem dX6_turnRound_39 : decode cX6_turnRound 39 = .ok (.aload_n 0, 1) := by decide +kernel
theorem dX6_turnRound_40 : decode cX6_turnRound 40 = .ok (.iload_n 1, 1) := by decide +kernel
theorem dX6_turnRound_41 : decode cX6_turnRound 41 = .ok (.iload_n 3, 1) := by decide +kernel
theorem dX6_turnRound_42 : decode cX6_turnRound 42 = .ok (.aload_n 0, 1) := by decide +kernel
theorem dX6_turnRound_43 : decode cX6_turnRound 43 = .ok (.iload_n 1, 1) := by decide +kernel
theorem dX6_turnRound_44 : decode cX6_turnRound 44 = .ok (.iload 4, 2) := by decide +kernel
theorem dX6_turnRound_46 : decode cX6_turnRound 46 = .ok (.invokevirtual 19, 3) := by decide +kernel
theorem dX6_turnRound_49 : decode cX6_turnRound 49 = .ok (.invokevirtual 23, 3) := by decide +kernel
theorem dX6_turnRound_52 : decode cX6_turnRound 52 = .ok (.aload_n 0, 1) := by decide +kernel
theorem dX6_turnRound_53 : decode cX6_turnRound 53 = .ok (.iload_n 1, 1) := by decide +kernel
theorem dX6_turnRound_54 : decode cX6_turnRound 54 = .ok (.iload 4, 2) := by decide +kernel
theorem dX6_turnRound_56 : decode cX6_turnRound 56 = .ok (.iload 5, 2) := by decide +kernel
theorem dX6_turnRound_58 : decode cX6_turnRound 58 = .ok (.invokevirtual 23, 3) := by decide +kernel
theorem dX6_turnRound_61 : decode cX6_turnRound 61 = .ok (.iinc 3 1, 3) := by decide +kernel
theorem dX6_turnRound_64 : decode cX6_turnRound 64 = .ok (.goto (-60), 3) := by decide +kernel
theorem dX6_turnRound_67 : decode cX6_turnRound 67 = .ok (.iload_n 2, 1) := by decide +kernel
theorem dX6_turnRound_68 : decode cX6_turnRound 68 = .ok (.ireturn, 1) := by decide +kernel
theorem dX6_sumOf_0 : decode cX6_sumOf 0 = .ok (.iconst 0, 1) := by decide +kernel
theorem dX6_sumOf_1 : decode cX6_sumOf 1 = .ok (.istore_n 2, 1) := by decide +kernel
theorem dX6_sumOf_2 : decode cX6_sumOf 2 = .ok (.iconst 0, 1) := by decide +kernel
theorem dX6_sumOf_3 : decode cX6_sumOf 3 = .ok (.istore_n 3, 1) := by decide +kernel
theorem dX6_sumOf_4 : decode cX6_sumOf 4 = .ok (.iload_n 3, 1) := by decide +kernel
theorem dX6_sumOf_5 : decode cX6_sumOf 5 = .ok (.bipush 16, 2) := by decide +kernel
theorem dX6_sumOf_7 : decode cX6_sumOf 7 = .ok (.if_icmp .ge 18, 3) := by decide +kernel
theorem dX6_sumOf_10 : decode cX6_sumOf 10 = .ok (.iload_n 2, 1) := by decide +kernel
theorem dX6_sumOf_11 : decode cX6_sumOf 11 = .ok (.aload_n 0, 1) := by decide +kernel
theorem dX6_sumOf_12 : decode cX6_sumOf 12 = .ok (.iload_n 1, 1) := by decide +kernel
theorem dX6_sumOf_13 : decode cX6_sumOf 13 = .ok (.iload_n 3, 1) := by decide +kernel
theorem dX6_sumOf_14 : decode cX6_sumOf 14 = .ok (.invokevirtual 19, 3) := by decide +kernel
theorem dX6_sumOf_17 : decode cX6_sumOf 17 = .ok (.iadd, 1) := by decide +kernel
theorem dX6_sumOf_18 : decode cX6_sumOf 18 = .ok (.istore_n 2, 1) := by decide +kernel
theorem dX6_sumOf_19 : decode cX6_sumOf 19 = .ok (.iinc 3 1, 3) := by decide +kernel
theorem dX6_sumOf_22 : decode cX6_sumOf 22 = .ok (.goto (-18), 3) := by decide +kernel
theorem dX6_sumOf_25 : decode cX6_sumOf 25 = .ok (.iload_n 2, 1) := by decide +kernel
theorem dX6_sumOf_26 : decode cX6_sumOf 26 = .ok (.ireturn, 1) := by decide +kernel
theorem dX6_greatestOf_0 : decode cX6_greatestOf 0 = .ok (.iconst 0, 1) := by decide +kernel
theorem dX6_greatestOf_1 : decode cX6_greatestOf 1 = .ok (.istore_n 2, 1) := by decide +kernel
theorem dX6_greatestOf_2 : decode cX6_greatestOf 2 = .ok (.iconst 0, 1) := by decide +kernel
theorem dX6_greatestOf_3 : decode cX6_greatestOf 3 = .ok (.istore_n 3, 1) := by decide +kernel
theorem dX6_greatestOf_4 : decode cX6_greatestOf 4 = .ok (.iload_n 3, 1) := by decide +kernel
theorem dX6_greatestOf_5 : decode cX6_greatestOf 5 = .ok (.bipush 16, 2) := by decide +kernel
theorem dX6_greatestOf_7 : decode cX6_greatestOf 7 = .ok (.if_icmp .ge 20, 3) := by decide +kernel
theorem dX6_greatestOf_10 : decode cX6_greatestOf 10 = .ok (.iload_n 2, 1) := by decide +kernel
theorem dX6_greatestOf_11 : decode cX6_greatestOf 11 = .ok (.aload_n 0, 1) := by decide +kernel
theorem dX6_greatestOf_12 : decode cX6_greatestOf 12 = .ok (.iload_n 1, 1) := by decide +kernel
theorem dX6_greatestOf_13 : decode cX6_greatestOf 13 = .ok (.iload_n 3, 1) := by decide +kernel
theorem dX6_greatestOf_14 : decode cX6_greatestOf 14 = .ok (.invokevirtual 19, 3) := by decide +kernel
theorem dX6_greatestOf_17 : decode cX6_greatestOf 17 = .ok (.invokestatic 27, 3) := by decide +kernel
theorem dX6_greatestOf_20 : decode cX6_greatestOf 20 = .ok (.istore_n 2, 1) := by decide +kernel
theorem dX6_greatestOf_21 : decode cX6_greatestOf 21 = .ok (.iinc 3 1, 3) := by decide +kernel
theorem dX6_greatestOf_24 : decode cX6_greatestOf 24 = .ok (.goto (-20), 3) := by decide +kernel
theorem dX6_greatestOf_27 : decode cX6_greatestOf 27 = .ok (.iload_n 2, 1) := by decide +kernel
theorem dX6_greatestOf_28 : decode cX6_greatestOf 28 = .ok (.ireturn, 1) := by decide +kernel
theorem dX6_takeOver_0 : decode cX6_takeOver 0 = .ok (.iconst 0, 1) := by decide +kernel
theorem dX6_takeOver_1 : decode cX6_takeOver 1 = .ok (.istore_n 2, 1) := by decide +kernel
theorem dX6_takeOver_2 : decode cX6_takeOver 2 = .ok (.iload_n 2, 1) := by decide +kernel
theorem dX6_takeOver_3 : decode cX6_takeOver 3 = .ok (.iconst 3, 1) := by decide +kernel
theorem dX6_takeOver_4 : decode cX6_takeOver 4 = .ok (.if_icmp .ge 35, 3) := by decide +kernel
theorem dX6_takeOver_7 : decode cX6_takeOver 7 = .ok (.iconst 0, 1) := by decide +kernel
theorem dX6_takeOver_8 : decode cX6_takeOver 8 = .ok (.istore_n 3, 1) := by decide +kernel
theorem dX6_takeOver_9 : decode cX6_takeOver 9 = .ok (.iload_n 3, 1) := by decide +kernel
theorem dX6_takeOver_10 : decode cX6_takeOver 10 = .ok (.bipush 16, 2) := by decide +kernel
theorem dX6_takeOver_12 : decode cX6_takeOver 12 = .ok (.if_icmp .ge 21, 3) := by decide +kernel
theorem dX6_takeOver_15 : decode cX6_takeOver 15 = .ok (.aload_n 0, 1) := by decide +kernel
theorem dX6_takeOver_16 : decode cX6_takeOver 16 = .ok (.iload_n 2, 1) := by decide +kernel
theorem dX6_takeOver_17 : decode cX6_takeOver 17 = .ok (.iload_n 3, 1) := by decide +kernel
theorem dX6_takeOver_18 : decode cX6_takeOver 18 = .ok (.aload_n 1, 1) := by decide +kernel
theorem dX6_takeOver_19 : decode cX6_takeOver 19 = .ok (.iload_n 2, 1) := by decide +kernel
theorem dX6_takeOver_20 : decode cX6_takeOver 20 = .ok (.iload_n 3, 1) := by decide +kernel
theorem dX6_takeOver_21 : decode cX6_takeOver 21 = .ok (.invokevirtual 19, 3) := by decide +kernel
theorem dX6_takeOver_24 : decode cX6_takeOver 24 = .ok (.invokevirtual 23, 3) := by decide +kernel
theorem dX6_takeOver_27 : decode cX6_takeOver 27 = .ok (.iinc 3 1, 3) := by decide +kernel
theorem dX6_takeOver_30 : decode cX6_takeOver 30 = .ok (.goto (-21), 3) := by decide +kernel
theorem dX6_takeOver_33 : decode cX6_takeOver 33 = .ok (.iinc 2 1, 3) := by decide +kernel
theorem dX6_takeOver_36 : decode cX6_takeOver 36 = .ok (.goto (-34), 3) := by decide +kernel
theorem dX6_takeOver_39 : decode cX6_takeOver 39 = .ok (.aload_n 0, 1) := by decide +kernel
theorem dX6_takeOver_40 : decode cX6_takeOver 40 = .ok (.aload_n 1, 1) := by decide +kernel
theorem dX6_takeOver_41 : decode cX6_takeOver 41 = .ok (.getfield 15, 3) := by decide +kernel
theorem dX6_takeOver_44 : decode cX6_takeOver 44 = .ok (.putfield 15, 3) := by decide +kernel
theorem dX6_takeOver_47 : decode cX6_takeOver 47 = .ok (.return_, 1) := by decide +kernel
theorem dX7_init_0 : decode cX7_init 0 = .ok (.aload_n 0, 1) := by decide +kernel
theorem dX7_init_1 : decode cX7_init 1 = .ok (.invokespecial 3, 3) := by decide +kernel
theorem dX7_init_4 : decode cX7_init 4 = .ok (.aload_n 0, 1) := by decide +kernel
theorem dX7_init_5 : decode cX7_init 5 = .ok (.new 9, 3) := by decide +kernel
theorem dX7_init_8 : decode cX7_init 8 = .ok (.dup, 1) := by decide +kernel
theorem dX7_init_9 : decode cX7_init 9 = .ok (.bipush 80, 2) := by decide +kernel
theorem dX7_init_11 : decode cX7_init 11 = .ok (.invokespecial 11, 3) := by decide +kernel
theorem dX7_init_14 : decode cX7_init 14 = .ok (.putfield 14, 3) := by decide +kernel
theorem dX7_init_17 : decode cX7_init 17 = .ok (.aload_n 0, 1) := by decide +kernel
theorem dX7_init_18 : decode cX7_init 18 = .ok (.new 9, 3) := by decide +kernel
theorem dX7_init_21 : decode cX7_init 21 = .ok (.dup, 1) := by decide +kernel
theorem dX7_init_22 : decode cX7_init 22 = .ok (.iconst 5, 1) := by decide +kernel
theorem dX7_init_23 : decode cX7_init 23 = .ok (.invokespecial 11, 3) := by decide +kernel
theorem dX7_init_26 : decode cX7_init 26 = .ok (.putfield 20, 3) := by decide +kernel
theorem dX7_init_29 : decode cX7_init 29 = .ok (.aload_n 0, 1) := by decide +kernel
theorem dX7_init_30 : decode cX7_init 30 = .ok (.new 9, 3) := by decide +kernel
theorem dX7_init_33 : decode cX7_init 33 = .ok (.dup, 1) := by decide +kernel
theorem dX7_init_34 : decode cX7_init 34 = .ok (.iconst 5, 1) := by decide +kernel
theorem dX7_init_35 : decode cX7_init 35 = .ok (.invokespecial 11, 3) := by decide +kernel
theorem dX7_init_38 : decode cX7_init 38 = .ok (.putfield 23, 3) := by decide +kernel
theorem dX7_init_41 : decode cX7_init 41 = .ok (.aload_n 0, 1) := by decide +kernel
theorem dX7_init_42 : decode cX7_init 42 = .ok (.iconst (-1), 1) := by decide +kernel
theorem dX7_init_43 : decode cX7_init 43 = .ok (.putfield 26, 3) := by decide +kernel
theorem dX7_init_46 : decode cX7_init 46 = .ok (.return_, 1) := by decide +kernel
theorem dX7_isTurning_0 : decode cX7_isTurning 0 = .ok (.aload_n 0, 1) := by decide +kernel
theorem dX7_isTurning_1 : decode cX7_isTurning 1 = .ok (.getfield 26, 3) := by decide +kernel
theorem dX7_isTurning_4 : decode cX7_isTurning 4 = .ok (.iconst (-1), 1) := by decide +kernel
theorem dX7_isTurning_5 : decode cX7_isTurning 5 = .ok (.if_icmp .eq 7, 3) := by decide +kernel
theorem dX7_isTurning_8 : decode cX7_isTurning 8 = .ok (.iconst 1, 1) := by decide +kernel
theorem dX7_isTurning_9 : decode cX7_isTurning 9 = .ok (.goto 4, 3) := by decide +kernel
theorem dX7_isTurning_12 : decode cX7_isTurning 12 = .ok (.iconst 0, 1) := by decide +kernel
theorem dX7_isTurning_13 : decode cX7_isTurning 13 = .ok (.ireturn, 1) := by decide +kernel
theorem dX7_at_0 : decode cX7_at 0 = .ok (.aload_n 0, 1) := by decide +kernel
theorem dX7_at_1 : decode cX7_at 1 = .ok (.getfield 14, 3) := by decide +kernel
theorem dX7_at_4 : decode cX7_at 4 = .ok (.iload_n 1, 1) := by decide +kernel
theorem dX7_at_5 : decode cX7_at 5 = .ok (.bipush 16, 2) := by decide +kernel
theorem dX7_at_7 : decode cX7_at 7 = .ok (.imul, 1) := by decide +kernel
theorem dX7_at_8 : decode cX7_at 8 = .ok (.iload_n 2, 1) := by decide +kernel
theorem dX7_at_9 : decode cX7_at 9 = .ok (.iadd, 1) := by decide +kernel
theorem dX7_at_10 : decode cX7_at 10 = .ok (.invokevirtual 30, 3) := by decide +kernel
theorem dX7_at_13 : decode cX7_at 13 = .ok (.ireturn, 1) := by decide +kernel
theorem dX7_thin_0 : decode cX7_thin 0 = .ok (.aload_n 0, 1) := by decide +kernel
theorem dX7_thin_1 : decode cX7_thin 1 = .ok (.getfield 14, 3) := by decide +kernel
theorem dX7_thin_4 : decode cX7_thin 4 = .ok (.iload_n 1, 1) := by decide +kernel
theorem dX7_thin_5 : decode cX7_thin 5 = .ok (.bipush 16, 2) := by decide +kernel
theorem dX7_thin_7 : decode cX7_thin 7 = .ok (.imul, 1) := by decide +kernel
theorem dX7_thin_8 : decode cX7_thin 8 = .ok (.iload_n 2, 1) := by decide +kernel
theorem dX7_thin_9 : decode cX7_thin 9 = .ok (.iadd, 1) := by decide +kernel
theorem dX7_thin_10 : decode cX7_thin 10 = .ok (.iload_n 3, 1) := by decide +kernel
theorem dX7_thin_11 : decode cX7_thin 11 = .ok (.ineg, 1) := by decide +kernel
theorem dX7_thin_12 : decode cX7_thin 12 = .ok (.invokevirtual 34, 3) := by decide +kernel
theorem dX7_thin_15 : decode cX7_thin 15 = .ok (.return_, 1) := by decide +kernel
theorem dX7_sumOf_0 : decode cX7_sumOf 0 = .ok (.iconst 0, 1) := by decide +kernel
theorem dX7_sumOf_1 : decode cX7_sumOf 1 = .ok (.istore_n 2, 1) := by decide +kernel
theorem dX7_sumOf_2 : decode cX7_sumOf 2 = .ok (.iconst 0, 1) := by decide +kernel
theorem dX7_sumOf_3 : decode cX7_sumOf 3 = .ok (.istore_n 3, 1) := by decide +kernel
theorem dX7_sumOf_4 : decode cX7_sumOf 4 = .ok (.iload_n 3, 1) := by decide +kernel
theorem dX7_sumOf_5 : decode cX7_sumOf 5 = .ok (.bipush 16, 2) := by decide +kernel
theorem dX7_sumOf_7 : decode cX7_sumOf 7 = .ok (.if_icmp .ge 18, 3) := by decide +kernel
theorem dX7_sumOf_10 : decode cX7_sumOf 10 = .ok (.iload_n 2, 1) := by decide +kernel
theorem dX7_sumOf_11 : decode cX7_sumOf 11 = .ok (.aload_n 0, 1) := by decide +kernel
theorem dX7_sumOf_12 : decode cX7_sumOf 12 = .ok (.iload_n 1, 1) := by decide +kernel
theorem dX7_sumOf_13 : decode cX7_sumOf 13 = .ok (.iload_n 3, 1) := by decide +kernel
theorem dX7_sumOf_14 : decode cX7_sumOf 14 = .ok (.invokevirtual 38, 3) := by decide +kernel
theorem dX7_sumOf_17 : decode cX7_sumOf 17 = .ok (.iadd, 1) := by decide +kernel
theorem dX7_sumOf_18 : decode cX7_sumOf 18 = .ok (.istore_n 2, 1) := by decide +kernel
theorem dX7_sumOf_19 : decode cX7_sumOf 19 = .ok (.iinc 3 1, 3) := by decide +kernel
theorem dX7_sumOf_22 : decode cX7_sumOf 22 = .ok (.goto (-18), 3) := by decide +kernel
theorem dX7_sumOf_25 : decode cX7_sumOf 25 = .ok (.iload_n 2, 1) := by decide +kernel
theorem dX7_sumOf_26 : decode cX7_sumOf 26 = .ok (.ireturn, 1) := by decide +kernel
theorem dX7_price_0 : decode cX7_price 0 = .ok (.aload_n 0, 1) := by decide +kernel
theorem dX7_price_1 : decode cX7_price 1 = .ok (.getfield 20, 3) := by decide +kernel
theorem dX7_price_4 : decode cX7_price 4 = .ok (.iload_n 1, 1) := by decide +kernel
theorem dX7_price_5 : decode cX7_price 5 = .ok (.invokevirtual 30, 3) := by decide +kernel
theorem dX7_price_8 : decode cX7_price 8 = .ok (.istore_n 2, 1) := by decide +kernel
theorem dX7_price_9 : decode cX7_price 9 = .ok (.iload_n 2, 1) := by decide +kernel
theorem dX7_price_10 : decode cX7_price 10 = .ok (.ifCond .lt 19, 3) := by decide +kernel
theorem dX7_price_13 : decode cX7_price 13 = .ok (.iload_n 2, 1) := by decide +kernel
theorem dX7_price_14 : decode cX7_price 14 = .ok (.getstatic 41, 3) := by decide +kernel
theorem dX7_price_17 : decode cX7_price 17 = .ok (.arraylength, 1) := by decide +kernel
theorem dX7_price_18 : decode cX7_price 18 = .ok (.if_icmp .ge 11, 3) := by decide +kernel
theorem dX7_price_21 : decode cX7_price 21 = .ok (.getstatic 41, 3) := by decide +kernel
theorem dX7_price_24 : decode cX7_price 24 = .ok (.iload_n 2, 1) := by decide +kernel
theorem dX7_price_25 : decode cX7_price 25 = .ok (.iaload, 1) := by decide +kernel
theorem dX7_price_26 : decode cX7_price 26 = .ok (.goto 4, 3) := by decide +kernel
theorem dX7_price_29 : decode cX7_price 29 = .ok (.iconst 0, 1) := by decide +kernel
theorem dX7_price_30 : decode cX7_price 30 = .ok (.istore_n 3, 1) := by decide +kernel
theorem dX7_price_31 : decode cX7_price 31 = .ok (.aload_n 0, 1) := by decide +kernel
theorem dX7_price_32 : decode cX7_price 32 = .ok (.iload_n 1, 1) := by decide +kernel
theorem dX7_price_33 : decode cX7_price 33 = .ok (.invokevirtual 45, 3) := by decide +kernel
theorem dX7_price_36 : decode cX7_price 36 = .ok (.bipush 16, 2) := by decide +kernel
theorem dX7_price_38 : decode cX7_price 38 = .ok (.idiv, 1) := by decide +kernel
theorem dX7_price_39 : decode cX7_price 39 = .ok (.iload_n 3, 1) := by decide +kernel
theorem dX7_price_40 : decode cX7_price 40 = .ok (.imul, 1) := by decide +kernel
theorem dX7_price_41 : decode cX7_price 41 = .ok (.ireturn, 1) := by decide +kernel
theorem dX7_hardness_0 : decode cX7_hardness 0 = .ok (.aload_n 0, 1) := by decide +kernel
theorem dX7_hardness_1 : decode cX7_hardness 1 = .ok (.getfield 20, 3) := by decide +kernel
theorem dX7_hardness_4 : decode cX7_hardness 4 = .ok (.iload_n 1, 1) := by decide +kernel
theorem dX7_hardness_5 : decode cX7_hardness 5 = .ok (.invokevirtual 30, 3) := by decide +kernel
theorem dX7_hardness_8 : decode cX7_hardness 8 = .ok (.istore_n 2, 1) := by decide +kernel
theorem dX7_hardness_9 : decode cX7_hardness 9 = .ok (.iload_n 2, 1) := by decide +kernel
theorem dX7_hardness_10 : decode cX7_hardness 10 = .ok (.ifCond .lt 19, 3) := by decide +kernel
theorem dX7_hardness_13 : decode cX7_hardness 13 = .ok (.iload_n 2, 1) := by decide +kernel
theorem dX7_hardness_14 : decode cX7_hardness 14 = .ok (.getstatic 48, 3) := by decide +kernel
theorem dX7_hardness_17 : decode cX7_hardness 17 = .ok (.arraylength, 1) := by decide +kernel
theorem dX7_hardness_18 : decode cX7_hardness 18 = .ok (.if_icmp .ge 11, 3) := by decide +kernel
theorem dX7_hardness_21 : decode cX7_hardness 21 = .ok (.getstatic 48, 3) := by decide +kernel
theorem dX7_hardness_24 : decode cX7_hardness 24 = .ok (.iload_n 2, 1) := by decide +kernel
theorem dX7_hardness_25 : decode cX7_hardness 25 = .ok (.iaload, 1) := by decide +kernel
theorem dX7_hardness_26 : decode cX7_hardness 26 = .ok (.goto 4, 3) := by decide +kernel
theorem dX7_hardness_29 : decode cX7_hardness 29 = .ok (.iconst 0, 1) := by decide +kernel
theorem dX7_hardness_30 : decode cX7_hardness 30 = .ok (.ireturn, 1) := by decide +kernel
theorem dX7_add_0 : decode cX7_add 0 = .ok (.aload_n 0, 1) := by decide +kernel
theorem dX7_add_1 : decode cX7_add 1 = .ok (.getfield 51, 3) := by decide +kernel
theorem dX7_add_4 : decode cX7_add 4 = .ok (.istore_n 3, 1) := by decide +kernel
theorem dX7_add_5 : decode cX7_add 5 = .ok (.aload_n 0, 1) := by decide +kernel
theorem dX7_add_6 : decode cX7_add 6 = .ok (.getfield 20, 3) := by decide +kernel
theorem dX7_add_9 : decode cX7_add 9 = .ok (.iload_n 3, 1) := by decide +kernel
theorem dX7_add_10 : decode cX7_add 10 = .ok (.iload_n 1, 1) := by decide +kernel
theorem dX7_add_11 : decode cX7_add 11 = .ok (.invokevirtual 54, 3) := by decide +kernel
theorem dX7_add_14 : decode cX7_add 14 = .ok (.aload_n 0, 1) := by decide +kernel
theorem dX7_add_15 : decode cX7_add 15 = .ok (.getfield 23, 3) := by decide +kernel
theorem dX7_add_18 : decode cX7_add 18 = .ok (.iload_n 3, 1) := by decide +kernel
theorem dX7_add_19 : decode cX7_add 19 = .ok (.iconst 0, 1) := by decide +kernel
theorem dX7_add_20 : decode cX7_add 20 = .ok (.invokevirtual 54, 3) := by decide +kernel
theorem dX7_add_23 : decode cX7_add 23 = .ok (.iconst 0, 1) := by decide +kernel
theorem dX7_add_24 : decode cX7_add 24 = .ok (.istore 4, 2) := by decide +kernel
theorem dX7_add_26 : decode cX7_add 26 = .ok (.iload 4, 2) := by decide +kernel
theorem dX7_add_28 : decode cX7_add 28 = .ok (.bipush 16, 2) := by decide +kernel
theorem dX7_add_30 : decode cX7_add 30 = .ok (.if_icmp .ge 24, 3) := by decide +kernel
theorem dX7_add_33 : decode cX7_add 33 = .ok (.aload_n 0, 1) := by decide +kernel
theorem dX7_add_34 : decode cX7_add 34 = .ok (.getfield 14, 3) := by decide +kernel
theorem dX7_add_37 : decode cX7_add 37 = .ok (.iload_n 3, 1) := by decide +kernel
theorem dX7_add_38 : decode cX7_add 38 = .ok (.bipush 16, 2) := by decide +kernel
theorem dX7_add_40 : decode cX7_add 40 = .ok (.imul, 1) := by decide +kernel
theorem dX7_add_41 : decode cX7_add 41 = .ok (.iload 4, 2) := by decide +kernel
theorem dX7_add_43 : decode cX7_add 43 = .ok (.iadd, 1) := by decide +kernel
theorem dX7_add_44 : decode cX7_add 44 = .ok (.iload_n 2, 1) := by decide +kernel
theorem dX7_add_45 : decode cX7_add 45 = .ok (.invokevirtual 54, 3) := by decide +kernel
theorem dX7_add_48 : decode cX7_add 48 = .ok (.iinc 4 1, 3) := by decide +kernel
theorem dX7_add_51 : decode cX7_add 51 = .ok (.goto (-25), 3) := by decide +kernel
theorem dX7_add_54 : decode cX7_add 54 = .ok (.aload_n 0, 1) := by decide +kernel
theorem dX7_add_55 : decode cX7_add 55 = .ok (.dup, 1) := by decide +kernel
theorem dX7_add_56 : decode cX7_add 56 = .ok (.getfield 51, 3) := by decide +kernel
theorem dX7_add_59 : decode cX7_add 59 = .ok (.iconst 1, 1) := by decide +kernel
theorem dX7_add_60 : decode cX7_add 60 = .ok (.iadd, 1) := by decide +kernel
theorem dX7_add_61 : decode cX7_add 61 = .ok (.putfield 51, 3) := by decide +kernel
theorem dX7_add_64 : decode cX7_add 64 = .ok (.iload_n 3, 1) := by decide +kernel
theorem dX7_add_65 : decode cX7_add 65 = .ok (.ireturn, 1) := by decide +kernel
theorem dX7_drop_0 : decode cX7_drop 0 = .ok (.iload_n 1, 1) := by decide +kernel
theorem dX7_drop_1 : decode cX7_drop 1 = .ok (.iconst 1, 1) := by decide +kernel
theorem dX7_drop_2 : decode cX7_drop 2 = .ok (.iadd, 1) := by decide +kernel
theorem dX7_drop_3 : decode cX7_drop 3 = .ok (.istore_n 2, 1) := by decide +kernel
theorem dX7_drop_4 : decode cX7_drop 4 = .ok (.iload_n 2, 1) := by decide +kernel
theorem dX7_drop_5 : decode cX7_drop 5 = .ok (.aload_n 0, 1) := by decide +kernel
theorem dX7_drop_6 : decode cX7_drop 6 = .ok (.getfield 51, 3) := by decide +kernel
theorem dX7_drop_9 : decode cX7_drop 9 = .ok (.if_icmp .ge 14, 3) := by decide +kernel
theorem dX7_drop_12 : decode cX7_drop 12 = .ok (.aload_n 0, 1) := by decide +kernel
theorem dX7_drop_13 : decode cX7_drop 13 = .ok (.iload_n 2, 1) := by decide +kernel
theorem dX7_drop_14 : decode cX7_drop 14 = .ok (.invokevirtual 57, 3) := by decide +kernel
theorem dX7_drop_17 : decode cX7_drop 17 = .ok (.iinc 2 1, 3) := by decide +kernel
theorem dX7_drop_20 : decode cX7_drop 20 = .ok (.goto (-16), 3) := by decide +kernel
theorem dX7_drop_23 : decode cX7_drop 23 = .ok (.aload_n 0, 1) := by decide +kernel
theorem dX7_drop_24 : decode cX7_drop 24 = .ok (.dup, 1) := by decide +kernel
theorem dX7_drop_25 : decode cX7_drop 25 = .ok (.getfield 51, 3) := by decide +kernel
theorem dX7_drop_28 : decode cX7_drop 28 = .ok (.iconst 1, 1) := by decide +kernel
theorem dX7_drop_29 : decode cX7_drop 29 = .ok (.isub, 1) := by decide +kernel
theorem dX7_drop_30 : decode cX7_drop 30 = .ok (.putfield 51, 3) := by decide +kernel
theorem dX7_drop_33 : decode cX7_drop 33 = .ok (.aload_n 0, 1) := by decide +kernel
theorem dX7_drop_34 : decode cX7_drop 34 = .ok (.getfield 26, 3) := by decide +kernel
theorem dX7_drop_37 : decode cX7_drop 37 = .ok (.iload_n 1, 1) := by decide +kernel
theorem dX7_drop_38 : decode cX7_drop 38 = .ok (.if_icmp .le 13, 3) := by decide +kernel
theorem dX7_drop_41 : decode cX7_drop 41 = .ok (.aload_n 0, 1) := by decide +kernel
theorem dX7_drop_42 : decode cX7_drop 42 = .ok (.dup, 1) := by decide +kernel
theorem dX7_drop_43 : decode cX7_drop 43 = .ok (.getfield 26, 3) := by decide +kernel
theorem dX7_drop_46 : decode cX7_drop 46 = .ok (.iconst 1, 1) := by decide +kernel
theorem dX7_drop_47 : decode cX7_drop 47 = .ok (.isub, 1) := by decide +kernel
theorem dX7_drop_48 : decode cX7_drop 48 = .ok (.putfield 26, 3) := by decide +kernel
theorem dX7_drop_51 : decode cX7_drop 51 = .ok (.return_, 1) := by decide +kernel
theorem dX7_moveUp_0 : decode cX7_moveUp 0 = .ok (.aload_n 0, 1) := by decide +kernel
theorem dX7_moveUp_1 : decode cX7_moveUp 1 = .ok (.getfield 20, 3) := by decide +kernel
theorem dX7_moveUp_4 : decode cX7_moveUp 4 = .ok (.iload_n 1, 1) := by decide +kernel
theorem dX7_moveUp_5 : decode cX7_moveUp 5 = .ok (.iconst 1, 1) := by decide +kernel
theorem dX7_moveUp_6 : decode cX7_moveUp 6 = .ok (.isub, 1) := by decide +kernel
theorem dX7_moveUp_7 : decode cX7_moveUp 7 = .ok (.aload_n 0, 1) := by decide +kernel
theorem dX7_moveUp_8 : decode cX7_moveUp 8 = .ok (.getfield 20, 3) := by decide +kernel
theorem dX7_moveUp_11 : decode cX7_moveUp 11 = .ok (.iload_n 1, 1) := by decide +kernel
theorem dX7_moveUp_12 : decode cX7_moveUp 12 = .ok (.invokevirtual 30, 3) := by decide +kernel
theorem dX7_moveUp_15 : decode cX7_moveUp 15 = .ok (.invokevirtual 54, 3) := by decide +kernel
theorem dX7_moveUp_18 : decode cX7_moveUp 18 = .ok (.aload_n 0, 1) := by decide +kernel
theorem dX7_moveUp_19 : decode cX7_moveUp 19 = .ok (.getfield 23, 3) := by decide +kernel
theorem dX7_moveUp_22 : decode cX7_moveUp 22 = .ok (.iload_n 1, 1) := by decide +kernel
theorem dX7_moveUp_23 : decode cX7_moveUp 23 = .ok (.iconst 1, 1) := by decide +kernel
theorem dX7_moveUp_24 : decode cX7_moveUp 24 = .ok (.isub, 1) := by decide +kernel
theorem dX7_moveUp_25 : decode cX7_moveUp 25 = .ok (.aload_n 0, 1) := by decide +kernel
theorem dX7_moveUp_26 : decode cX7_moveUp 26 = .ok (.getfield 23, 3) := by decide +kernel
theorem dX7_moveUp_29 : decode cX7_moveUp 29 = .ok (.iload_n 1, 1) := by decide +kernel
theorem dX7_moveUp_30 : decode cX7_moveUp 30 = .ok (.invokevirtual 30, 3) := by decide +kernel
theorem dX7_moveUp_33 : decode cX7_moveUp 33 = .ok (.invokevirtual 54, 3) := by decide +kernel
theorem dX7_moveUp_36 : decode cX7_moveUp 36 = .ok (.iconst 0, 1) := by decide +kernel
theorem dX7_moveUp_37 : decode cX7_moveUp 37 = .ok (.istore_n 2, 1) := by decide +kernel
theorem dX7_moveUp_38 : decode cX7_moveUp 38 = .ok (.iload_n 2, 1) := by decide +kernel
theorem dX7_moveUp_39 : decode cX7_moveUp 39 = .ok (.bipush 16, 2) := by decide +kernel
theorem dX7_moveUp_41 : decode cX7_moveUp 41 = .ok (.if_icmp .ge 30, 3) := by decide +kernel
theorem dX7_moveUp_44 : decode cX7_moveUp 44 = .ok (.aload_n 0, 1) := by decide +kernel
theorem dX7_moveUp_45 : decode cX7_moveUp 45 = .ok (.getfield 14, 3) := by decide +kernel
theorem dX7_moveUp_48 : decode cX7_moveUp 48 = .ok (.iload_n 1, 1) := by decide +kernel
theorem dX7_moveUp_49 : decode cX7_moveUp 49 = .ok (.iconst 1, 1) := by decide +kernel
theorem dX7_moveUp_50 : decode cX7_moveUp 50 = .ok (.isub, 1) := by decide +kernel
theorem dX7_moveUp_51 : decode cX7_moveUp 51 = .ok (.bipush 16, 2) := by decide +kernel
theorem dX7_moveUp_53 : decode cX7_moveUp 53 = .ok (.imul, 1) := by decide +kernel
theorem dX7_moveUp_54 : decode cX7_moveUp 54 = .ok (.iload_n 2, 1) := by decide +kernel
theorem dX7_moveUp_55 : decode cX7_moveUp 55 = .ok (.iadd, 1) := by decide +kernel
theorem dX7_moveUp_56 : decode cX7_moveUp 56 = .ok (.aload_n 0, 1) := by decide +kernel
theorem dX7_moveUp_57 : decode cX7_moveUp 57 = .ok (.iload_n 1, 1) := by decide +kernel
theorem dX7_moveUp_58 : decode cX7_moveUp 58 = .ok (.iload_n 2, 1) := by decide +kernel
theorem dX7_moveUp_59 : decode cX7_moveUp 59 = .ok (.invokevirtual 38, 3) := by decide +kernel
theorem dX7_moveUp_62 : decode cX7_moveUp 62 = .ok (.invokevirtual 54, 3) := by decide +kernel
theorem dX7_moveUp_65 : decode cX7_moveUp 65 = .ok (.iinc 2 1, 3) := by decide +kernel
theorem dX7_moveUp_68 : decode cX7_moveUp 68 = .ok (.goto (-30), 3) := by decide +kernel
theorem dX7_moveUp_71 : decode cX7_moveUp 71 = .ok (.return_, 1) := by decide +kernel
theorem dX7_takeOver_0 : decode cX7_takeOver 0 = .ok (.aload_n 0, 1) := by decide +kernel
theorem dX7_takeOver_1 : decode cX7_takeOver 1 = .ok (.getfield 14, 3) := by decide +kernel
theorem dX7_takeOver_4 : decode cX7_takeOver 4 = .ok (.aload_n 1, 1) := by decide +kernel
theorem dX7_takeOver_5 : decode cX7_takeOver 5 = .ok (.getfield 14, 3) := by decide +kernel
theorem dX7_takeOver_8 : decode cX7_takeOver 8 = .ok (.invokevirtual 60, 3) := by decide +kernel
theorem dX7_takeOver_11 : decode cX7_takeOver 11 = .ok (.aload_n 0, 1) := by decide +kernel
theorem dX7_takeOver_12 : decode cX7_takeOver 12 = .ok (.getfield 20, 3) := by decide +kernel
theorem dX7_takeOver_15 : decode cX7_takeOver 15 = .ok (.aload_n 1, 1) := by decide +kernel
theorem dX7_takeOver_16 : decode cX7_takeOver 16 = .ok (.getfield 20, 3) := by decide +kernel
theorem dX7_takeOver_19 : decode cX7_takeOver 19 = .ok (.invokevirtual 60, 3) := by decide +kernel
theorem dX7_takeOver_22 : decode cX7_takeOver 22 = .ok (.aload_n 0, 1) := by decide +kernel
theorem dX7_takeOver_23 : decode cX7_takeOver 23 = .ok (.getfield 23, 3) := by decide +kernel
theorem dX7_takeOver_26 : decode cX7_takeOver 26 = .ok (.aload_n 1, 1) := by decide +kernel
theorem dX7_takeOver_27 : decode cX7_takeOver 27 = .ok (.getfield 23, 3) := by decide +kernel
theorem dX7_takeOver_30 : decode cX7_takeOver 30 = .ok (.invokevirtual 60, 3) := by decide +kernel
theorem dX7_takeOver_33 : decode cX7_takeOver 33 = .ok (.aload_n 0, 1) := by decide +kernel
theorem dX7_takeOver_34 : decode cX7_takeOver 34 = .ok (.aload_n 1, 1) := by decide +kernel
theorem dX7_takeOver_35 : decode cX7_takeOver 35 = .ok (.getfield 51, 3) := by decide +kernel
theorem dX7_takeOver_38 : decode cX7_takeOver 38 = .ok (.putfield 51, 3) := by decide +kernel
theorem dX7_takeOver_41 : decode cX7_takeOver 41 = .ok (.aload_n 0, 1) := by decide +kernel
theorem dX7_takeOver_42 : decode cX7_takeOver 42 = .ok (.aload_n 1, 1) := by decide +kernel
theorem dX7_takeOver_43 : decode cX7_takeOver 43 = .ok (.getfield 26, 3) := by decide +kernel
theorem dX7_takeOver_46 : decode cX7_takeOver 46 = .ok (.putfield 26, 3) := by decide +kernel
theorem dX7_takeOver_49 : decode cX7_takeOver 49 = .ok (.return_, 1) := by decide +kernel
theorem dX8_init_0 : decode cX8_init 0 = .ok (.aload_n 0, 1) := by decide +kernel
theorem dX8_init_1 : decode cX8_init 1 = .ok (.invokespecial 1, 3) := by decide +kernel
theorem dX8_init_4 : decode cX8_init 4 = .ok (.aload_n 0, 1) := by decide +kernel
theorem dX8_init_5 : decode cX8_init 5 = .ok (.iconst 0, 1) := by decide +kernel
theorem dX8_init_6 : decode cX8_init 6 = .ok (.iload_n 1, 1) := by decide +kernel
theorem dX8_init_7 : decode cX8_init 7 = .ok (.invokestatic 7, 3) := by decide +kernel
theorem dX8_init_10 : decode cX8_init 10 = .ok (.newarray .int, 2) := by decide +kernel
theorem dX8_init_12 : decode cX8_init 12 = .ok (.putfield 13, 3) := by decide +kernel
theorem dX8_init_15 : decode cX8_init 15 = .ok (.return_, 1) := by decide +kernel
theorem dX8_at_0 : decode cX8_at 0 = .ok (.iload_n 1, 1) := by decide +kernel
theorem dX8_at_1 : decode cX8_at 1 = .ok (.ifCond .lt 21, 3) := by decide +kernel
theorem dX8_at_4 : decode cX8_at 4 = .ok (.iload_n 1, 1) := by decide +kernel
theorem dX8_at_5 : decode cX8_at 5 = .ok (.aload_n 0, 1) := by decide +kernel
theorem dX8_at_6 : decode cX8_at 6 = .ok (.getfield 13, 3) := by decide +kernel
theorem dX8_at_9 : decode cX8_at 9 = .ok (.arraylength, 1) := by decide +kernel
theorem dX8_at_10 : decode cX8_at 10 = .ok (.if_icmp .ge 12, 3) := by decide +kernel
theorem dX8_at_13 : decode cX8_at 13 = .ok (.aload_n 0, 1) := by decide +kernel
theorem dX8_at_14 : decode cX8_at 14 = .ok (.getfield 13, 3) := by decide +kernel
theorem dX8_at_17 : decode cX8_at 17 = .ok (.iload_n 1, 1) := by decide +kernel
theorem dX8_at_18 : decode cX8_at 18 = .ok (.iaload, 1) := by decide +kernel
theorem dX8_at_19 : decode cX8_at 19 = .ok (.goto 4, 3) := by decide +kernel
theorem dX8_at_22 : decode cX8_at 22 = .ok (.iconst 0, 1) := by decide +kernel
theorem dX8_at_23 : decode cX8_at 23 = .ok (.ireturn, 1) := by decide +kernel
theorem dX8_put_0 : decode cX8_put 0 = .ok (.iload_n 1, 1) := by decide +kernel
theorem dX8_put_1 : decode cX8_put 1 = .ok (.ifCond .lt 19, 3) := by decide +kernel
theorem dX8_put_4 : decode cX8_put 4 = .ok (.iload_n 1, 1) := by decide +kernel
theorem dX8_put_5 : decode cX8_put 5 = .ok (.aload_n 0, 1) := by decide +kernel
theorem dX8_put_6 : decode cX8_put 6 = .ok (.getfield 13, 3) := by decide +kernel
theorem dX8_put_9 : decode cX8_put 9 = .ok (.arraylength, 1) := by decide +kernel
theorem dX8_put_10 : decode cX8_put 10 = .ok (.if_icmp .ge 10, 3) := by decide +kernel
theorem dX8_put_13 : decode cX8_put 13 = .ok (.aload_n 0, 1) := by decide +kernel
theorem dX8_put_14 : decode cX8_put 14 = .ok (.getfield 13, 3) := by decide +kernel
theorem dX8_put_17 : decode cX8_put 17 = .ok (.iload_n 1, 1) := by decide +kernel
theorem dX8_put_18 : decode cX8_put 18 = .ok (.iload_n 2, 1) := by decide +kernel
theorem dX8_put_19 : decode cX8_put 19 = .ok (.iastore, 1) := by decide +kernel
theorem dX8_put_20 : decode cX8_put 20 = .ok (.return_, 1) := by decide +kernel
theorem dX8_add_0 : decode cX8_add 0 = .ok (.aload_n 0, 1) := by decide +kernel
theorem dX8_add_1 : decode cX8_add 1 = .ok (.iload_n 1, 1) := by decide +kernel
theorem dX8_add_2 : decode cX8_add 2 = .ok (.aload_n 0, 1) := by decide +kernel
theorem dX8_add_3 : decode cX8_add 3 = .ok (.iload_n 1, 1) := by decide +kernel
theorem dX8_add_4 : decode cX8_add 4 = .ok (.invokevirtual 19, 3) := by decide +kernel
theorem dX8_add_7 : decode cX8_add 7 = .ok (.iload_n 2, 1) := by decide +kernel
theorem dX8_add_8 : decode cX8_add 8 = .ok (.iadd, 1) := by decide +kernel
theorem dX8_add_9 : decode cX8_add 9 = .ok (.invokevirtual 23, 3) := by decide +kernel
theorem dX8_add_12 : decode cX8_add 12 = .ok (.return_, 1) := by decide +kernel
theorem dX8_greatest_0 : decode cX8_greatest 0 = .ok (.iconst 0, 1) := by decide +kernel
theorem dX8_greatest_1 : decode cX8_greatest 1 = .ok (.istore_n 1, 1) := by decide +kernel
theorem dX8_greatest_2 : decode cX8_greatest 2 = .ok (.iconst 0, 1) := by decide +kernel
theorem dX8_greatest_3 : decode cX8_greatest 3 = .ok (.istore_n 2, 1) := by decide +kernel
theorem dX8_greatest_4 : decode cX8_greatest 4 = .ok (.iload_n 2, 1) := by decide +kernel
theorem dX8_greatest_5 : decode cX8_greatest 5 = .ok (.aload_n 0, 1) := by decide +kernel
theorem dX8_greatest_6 : decode cX8_greatest 6 = .ok (.getfield 13, 3) := by decide +kernel
theorem dX8_greatest_9 : decode cX8_greatest 9 = .ok (.arraylength, 1) := by decide +kernel
theorem dX8_greatest_10 : decode cX8_greatest 10 = .ok (.if_icmp .ge 20, 3) := by decide +kernel
theorem dX8_greatest_13 : decode cX8_greatest 13 = .ok (.iload_n 1, 1) := by decide +kernel
theorem dX8_greatest_14 : decode cX8_greatest 14 = .ok (.aload_n 0, 1) := by decide +kernel
theorem dX8_greatest_15 : decode cX8_greatest 15 = .ok (.getfield 13, 3) := by decide +kernel
theorem dX8_greatest_18 : decode cX8_greatest 18 = .ok (.iload_n 2, 1) := by decide +kernel
theorem dX8_greatest_19 : decode cX8_greatest 19 = .ok (.iaload, 1) := by decide +kernel
theorem dX8_greatest_20 : decode cX8_greatest 20 = .ok (.invokestatic 7, 3) := by decide +kernel
theorem dX8_greatest_23 : decode cX8_greatest 23 = .ok (.istore_n 1, 1) := by decide +kernel
theorem dX8_greatest_24 : decode cX8_greatest 24 = .ok (.iinc 2 1, 3) := by decide +kernel
theorem dX8_greatest_27 : decode cX8_greatest 27 = .ok (.goto (-23), 3) := by decide +kernel
theorem dX8_greatest_30 : decode cX8_greatest 30 = .ok (.iload_n 1, 1) := by decide +kernel
theorem dX8_greatest_31 : decode cX8_greatest 31 = .ok (.ireturn, 1) := by decide +kernel
theorem dX8_takeOver_0 : decode cX8_takeOver 0 = .ok (.iconst 0, 1) := by decide +kernel
theorem dX8_takeOver_1 : decode cX8_takeOver 1 = .ok (.istore_n 2, 1) := by decide +kernel
theorem dX8_takeOver_2 : decode cX8_takeOver 2 = .ok (.iload_n 2, 1) := by decide +kernel
theorem dX8_takeOver_3 : decode cX8_takeOver 3 = .ok (.aload_n 0, 1) := by decide +kernel
theorem dX8_takeOver_4 : decode cX8_takeOver 4 = .ok (.getfield 13, 3) := by decide +kernel
theorem dX8_takeOver_7 : decode cX8_takeOver 7 = .ok (.arraylength, 1) := by decide +kernel
theorem dX8_takeOver_8 : decode cX8_takeOver 8 = .ok (.if_icmp .ge 20, 3) := by decide +kernel
theorem dX8_takeOver_11 : decode cX8_takeOver 11 = .ok (.aload_n 0, 1) := by decide +kernel
theorem dX8_takeOver_12 : decode cX8_takeOver 12 = .ok (.getfield 13, 3) := by decide +kernel
theorem dX8_takeOver_15 : decode cX8_takeOver 15 = .ok (.iload_n 2, 1) := by decide +kernel
theorem dX8_takeOver_16 : decode cX8_takeOver 16 = .ok (.aload_n 1, 1) := by decide +kernel
theorem dX8_takeOver_17 : decode cX8_takeOver 17 = .ok (.iload_n 2, 1) := by decide +kernel
theorem dX8_takeOver_18 : decode cX8_takeOver 18 = .ok (.invokevirtual 19, 3) := by decide +kernel
theorem dX8_takeOver_21 : decode cX8_takeOver 21 = .ok (.iastore, 1) := by decide +kernel
theorem dX8_takeOver_22 : decode cX8_takeOver 22 = .ok (.iinc 2 1, 3) := by decide +kernel
theorem dX8_takeOver_25 : decode cX8_takeOver 25 = .ok (.goto (-23), 3) := by decide +kernel
theorem dX8_takeOver_28 : decode cX8_takeOver 28 = .ok (.return_, 1) := by decide +kernel
theorem dX9_init_0 : decode cX9_init 0 = .ok (.aload_n 0, 1) := by decide +kernel
theorem dX9_init_1 : decode cX9_init 1 = .ok (.invokespecial 1, 3) := by decide +kernel
theorem dX9_init_4 : decode cX9_init 4 = .ok (.aload_n 0, 1) := by decide +kernel
theorem dX9_init_5 : decode cX9_init 5 = .ok (.new 7, 3) := by decide +kernel
theorem dX9_init_8 : decode cX9_init 8 = .ok (.dup, 1) := by decide +kernel
theorem dX9_init_9 : decode cX9_init 9 = .ok (.invokespecial 9, 3) := by decide +kernel
theorem dX9_init_12 : decode cX9_init 12 = .ok (.putfield 10, 3) := by decide +kernel
theorem dX9_init_15 : decode cX9_init 15 = .ok (.aload_n 0, 1) := by decide +kernel
theorem dX9_init_16 : decode cX9_init 16 = .ok (.new 16, 3) := by decide +kernel
theorem dX9_init_19 : decode cX9_init 19 = .ok (.dup, 1) := by decide +kernel
theorem dX9_init_20 : decode cX9_init 20 = .ok (.invokespecial 18, 3) := by decide +kernel
theorem dX9_init_23 : decode cX9_init 23 = .ok (.putfield 19, 3) := by decide +kernel
theorem dX9_init_26 : decode cX9_init 26 = .ok (.aload_n 0, 1) := by decide +kernel
theorem dX9_init_27 : decode cX9_init 27 = .ok (.new 23, 3) := by decide +kernel
theorem dX9_init_30 : decode cX9_init 30 = .ok (.dup, 1) := by decide +kernel
theorem dX9_init_31 : decode cX9_init 31 = .ok (.invokespecial 25, 3) := by decide +kernel
theorem dX9_init_34 : decode cX9_init 34 = .ok (.putfield 26, 3) := by decide +kernel
theorem dX9_init_37 : decode cX9_init 37 = .ok (.aload_n 0, 1) := by decide +kernel
theorem dX9_init_38 : decode cX9_init 38 = .ok (.new 30, 3) := by decide +kernel
theorem dX9_init_41 : decode cX9_init 41 = .ok (.dup, 1) := by decide +kernel
theorem dX9_init_42 : decode cX9_init 42 = .ok (.bipush 16, 2) := by decide +kernel
theorem dX9_init_44 : decode cX9_init 44 = .ok (.invokespecial 32, 3) := by decide +kernel
theorem dX9_init_47 : decode cX9_init 47 = .ok (.putfield 35, 3) := by decide +kernel
theorem dX9_init_50 : decode cX9_init 50 = .ok (.aload_n 0, 1) := by decide +kernel
theorem dX9_init_51 : decode cX9_init 51 = .ok (.new 30, 3) := by decide +kernel
theorem dX9_init_54 : decode cX9_init 54 = .ok (.dup, 1) := by decide +kernel
theorem dX9_init_55 : decode cX9_init 55 = .ok (.bipush 16, 2) := by decide +kernel
theorem dX9_init_57 : decode cX9_init 57 = .ok (.invokespecial 32, 3) := by decide +kernel
theorem dX9_init_60 : decode cX9_init 60 = .ok (.putfield 39, 3) := by decide +kernel
theorem dX9_init_63 : decode cX9_init 63 = .ok (.return_, 1) := by decide +kernel
theorem dX9_carve_0 : decode cX9_carve 0 = .ok (.iload_n 1, 1) := by decide +kernel
theorem dX9_carve_1 : decode cX9_carve 1 = .ok (.invokestatic 42, 3) := by decide +kernel
theorem dX9_carve_4 : decode cX9_carve 4 = .ok (.iload_n 2, 1) := by decide +kernel
theorem dX9_carve_5 : decode cX9_carve 5 = .ok (.invokestatic 45, 3) := by decide +kernel
theorem dX9_carve_8 : decode cX9_carve 8 = .ok (.iload_n 3, 1) := by decide +kernel
theorem dX9_carve_9 : decode cX9_carve 9 = .ok (.iconst 5, 1) := by decide +kernel
theorem dX9_carve_10 : decode cX9_carve 10 = .ok (.bipush 99, 2) := by decide +kernel
theorem dX9_carve_12 : decode cX9_carve 12 = .ok (.invokestatic 48, 3) := by decide +kernel
theorem dX9_carve_15 : decode cX9_carve 15 = .ok (.aload_n 0, 1) := by decide +kernel
theorem dX9_carve_16 : decode cX9_carve 16 = .ok (.getfield 19, 3) := by decide +kernel
theorem dX9_carve_19 : decode cX9_carve 19 = .ok (.aload_n 0, 1) := by decide +kernel
theorem dX9_carve_20 : decode cX9_carve 20 = .ok (.getfield 10, 3) := by decide +kernel
theorem dX9_carve_23 : decode cX9_carve 23 = .ok (.invokevirtual 52, 3) := by decide +kernel
theorem dX9_carve_26 : decode cX9_carve 26 = .ok (.aload_n 0, 1) := by decide +kernel
theorem dX9_carve_27 : decode cX9_carve 27 = .ok (.getfield 10, 3) := by decide +kernel
theorem dX9_carve_30 : decode cX9_carve 30 = .ok (.getfield 56, 3) := by decide +kernel
theorem dX9_carve_33 : decode cX9_carve 33 = .ok (.iload_n 1, 1) := by decide +kernel
theorem dX9_carve_34 : decode cX9_carve 34 = .ok (.iload_n 2, 1) := by decide +kernel
theorem dX9_carve_35 : decode cX9_carve 35 = .ok (.invokevirtual 60, 3) := by decide +kernel
theorem dX9_carve_38 : decode cX9_carve 38 = .ok (.istore 4, 2) := by decide +kernel
theorem dX9_carve_40 : decode cX9_carve 40 = .ok (.aload_n 0, 1) := by decide +kernel
theorem dX9_carve_41 : decode cX9_carve 41 = .ok (.getfield 10, 3) := by decide +kernel
theorem dX9_carve_44 : decode cX9_carve 44 = .ok (.getfield 56, 3) := by decide +kernel
theorem dX9_carve_47 : decode cX9_carve 47 = .ok (.iload_n 1, 1) := by decide +kernel
theorem dX9_carve_48 : decode cX9_carve 48 = .ok (.iload_n 2, 1) := by decide +kernel
theorem dX9_carve_49 : decode cX9_carve 49 = .ok (.iload_n 3, 1) := by decide +kernel
theorem dX9_carve_50 : decode cX9_carve 50 = .ok (.invokevirtual 66, 3) := by decide +kernel
theorem dX9_carve_53 : decode cX9_carve 53 = .ok (.iload 4, 2) := by decide +kernel
theorem dX9_carve_55 : decode cX9_carve 55 = .ok (.ireturn, 1) := by decide +kernel
theorem dX9_copyMaster_0 : decode cX9_copyMaster 0 = .ok (.iload_n 1, 1) := by decide +kernel
theorem dX9_copyMaster_1 : decode cX9_copyMaster 1 = .ok (.invokestatic 42, 3) := by decide +kernel
theorem dX9_copyMaster_4 : decode cX9_copyMaster 4 = .ok (.iload_n 2, 1) := by decide +kernel
theorem dX9_copyMaster_5 : decode cX9_copyMaster 5 = .ok (.invokestatic 42, 3) := by decide +kernel
theorem dX9_copyMaster_8 : decode cX9_copyMaster 8 = .ok (.aload_n 0, 1) := by decide +kernel
theorem dX9_copyMaster_9 : decode cX9_copyMaster 9 = .ok (.getfield 19, 3) := by decide +kernel
theorem dX9_copyMaster_12 : decode cX9_copyMaster 12 = .ok (.aload_n 0, 1) := by decide +kernel
theorem dX9_copyMaster_13 : decode cX9_copyMaster 13 = .ok (.getfield 10, 3) := by decide +kernel
theorem dX9_copyMaster_16 : decode cX9_copyMaster 16 = .ok (.invokevirtual 52, 3) := by decide +kernel
theorem dX9_copyMaster_19 : decode cX9_copyMaster 19 = .ok (.aload_n 0, 1) := by decide +kernel
theorem dX9_copyMaster_20 : decode cX9_copyMaster 20 = .ok (.getfield 10, 3) := by decide +kernel
theorem dX9_copyMaster_23 : decode cX9_copyMaster 23 = .ok (.getfield 56, 3) := by decide +kernel
theorem dX9_copyMaster_26 : decode cX9_copyMaster 26 = .ok (.iload_n 1, 1) := by decide +kernel
theorem dX9_copyMaster_27 : decode cX9_copyMaster 27 = .ok (.iload_n 2, 1) := by decide +kernel
theorem dX9_copyMaster_28 : decode cX9_copyMaster 28 = .ok (.invokevirtual 69, 3) := by decide +kernel
theorem dX9_copyMaster_31 : decode cX9_copyMaster 31 = .ok (.ireturn, 1) := by decide +kernel
theorem dX9_mirrorMaster_0 : decode cX9_mirrorMaster 0 = .ok (.iload_n 1, 1) := by decide +kernel
theorem dX9_mirrorMaster_1 : decode cX9_mirrorMaster 1 = .ok (.invokestatic 42, 3) := by decide +kernel
theorem dX9_mirrorMaster_4 : decode cX9_mirrorMaster 4 = .ok (.aload_n 0, 1) := by decide +kernel
theorem dX9_mirrorMaster_5 : decode cX9_mirrorMaster 5 = .ok (.getfield 19, 3) := by decide +kernel
theorem dX9_mirrorMaster_8 : decode cX9_mirrorMaster 8 = .ok (.aload_n 0, 1) := by decide +kernel
theorem dX9_mirrorMaster_9 : decode cX9_mirrorMaster 9 = .ok (.getfield 10, 3) := by decide +kernel
theorem dX9_mirrorMaster_12 : decode cX9_mirrorMaster 12 = .ok (.invokevirtual 52, 3) := by decide +kernel
theorem dX9_mirrorMaster_15 : decode cX9_mirrorMaster 15 = .ok (.aload_n 0, 1) := by decide +kernel
theorem dX9_mirrorMaster_16 : decode cX9_mirrorMaster 16 = .ok (.getfield 10, 3) := by decide +kernel
theorem dX9_mirrorMaster_19 : decode cX9_mirrorMaster 19 = .ok (.getfield 56, 3) := by decide +kernel
theorem dX9_mirrorMaster_22 : decode cX9_mirrorMaster 22 = .ok (.iload_n 1, 1) := by decide +kernel
theorem dX9_mirrorMaster_23 : decode cX9_mirrorMaster 23 = .ok (.invokevirtual 72, 3) := by decide +kernel
theorem dX9_mirrorMaster_26 : decode cX9_mirrorMaster 26 = .ok (.ireturn, 1) := by decide +kernel
theorem dX9_chooseMaster_0 : decode cX9_chooseMaster 0 = .ok (.iload_n 1, 1) := by decide +kernel
theorem dX9_chooseMaster_1 : decode cX9_chooseMaster 1 = .ok (.invokestatic 42, 3) := by decide +kernel
theorem dX9_chooseMaster_4 : decode cX9_chooseMaster 4 = .ok (.aload_n 0, 1) := by decide +kernel
theorem dX9_chooseMaster_5 : decode cX9_chooseMaster 5 = .ok (.getfield 19, 3) := by decide +kernel
theorem dX9_chooseMaster_8 : decode cX9_chooseMaster 8 = .ok (.aload_n 0, 1) := by decide +kernel
theorem dX9_chooseMaster_9 : decode cX9_chooseMaster 9 = .ok (.getfield 10, 3) := by decide +kernel
theorem dX9_chooseMaster_12 : decode cX9_chooseMaster 12 = .ok (.invokevirtual 52, 3) := by decide +kernel
theorem dX9_chooseMaster_15 : decode cX9_chooseMaster 15 = .ok (.aload_n 0, 1) := by decide +kernel
theorem dX9_chooseMaster_16 : decode cX9_chooseMaster 16 = .ok (.getfield 10, 3) := by decide +kernel
theorem dX9_chooseMaster_19 : decode cX9_chooseMaster 19 = .ok (.getfield 56, 3) := by decide +kernel
theorem dX9_chooseMaster_22 : decode cX9_chooseMaster 22 = .ok (.getfield 76, 3) := by decide +kernel
theorem dX9_chooseMaster_25 : decode cX9_chooseMaster 25 = .ok (.istore_n 2, 1) := by decide +kernel
theorem dX9_chooseMaster_26 : decode cX9_chooseMaster 26 = .ok (.aload_n 0, 1) := by decide +kernel
theorem dX9_chooseMaster_27 : decode cX9_chooseMaster 27 = .ok (.getfield 10, 3) := by decide +kernel
theorem dX9_chooseMaster_30 : decode cX9_chooseMaster 30 = .ok (.getfield 56, 3) := by decide +kernel
theorem dX9_chooseMaster_33 : decode cX9_chooseMaster 33 = .ok (.iload_n 1, 1) := by decide +kernel
theorem dX9_chooseMaster_34 : decode cX9_chooseMaster 34 = .ok (.putfield 76, 3) := by decide +kernel
theorem dX9_chooseMaster_37 : decode cX9_chooseMaster 37 = .ok (.iload_n 2, 1) := by decide +kernel
theorem dX9_chooseMaster_38 : decode cX9_chooseMaster 38 = .ok (.ireturn, 1) := by decide +kernel
theorem dX9_fitFollower_0 : decode cX9_fitFollower 0 = .ok (.iload_n 1, 1) := by decide +kernel
theorem dX9_fitFollower_1 : decode cX9_fitFollower 1 = .ok (.iconst 0, 1) := by decide +kernel
theorem dX9_fitFollower_2 : decode cX9_fitFollower 2 = .ok (.iconst 3, 1) := by decide +kernel
theorem dX9_fitFollower_3 : decode cX9_fitFollower 3 = .ok (.invokestatic 48, 3) := by decide +kernel
theorem dX9_fitFollower_6 : decode cX9_fitFollower 6 = .ok (.aload_n 0, 1) := by decide +kernel
theorem dX9_fitFollower_7 : decode cX9_fitFollower 7 = .ok (.getfield 19, 3) := by decide +kernel
theorem dX9_fitFollower_10 : decode cX9_fitFollower 10 = .ok (.aload_n 0, 1) := by decide +kernel
theorem dX9_fitFollower_11 : decode cX9_fitFollower 11 = .ok (.getfield 10, 3) := by decide +kernel
theorem dX9_fitFollower_14 : decode cX9_fitFollower 14 = .ok (.invokevirtual 52, 3) := by decide +kernel
theorem dX9_fitFollower_17 : decode cX9_fitFollower 17 = .ok (.aload_n 0, 1) := by decide +kernel
theorem dX9_fitFollower_18 : decode cX9_fitFollower 18 = .ok (.getfield 10, 3) := by decide +kernel
theorem dX9_fitFollower_21 : decode cX9_fitFollower 21 = .ok (.getfield 80, 3) := by decide +kernel
theorem dX9_fitFollower_24 : decode cX9_fitFollower 24 = .ok (.getfield 84, 3) := by decide +kernel
theorem dX9_fitFollower_27 : decode cX9_fitFollower 27 = .ok (.istore_n 2, 1) := by decide +kernel
theorem dX9_fitFollower_28 : decode cX9_fitFollower 28 = .ok (.aload_n 0, 1) := by decide +kernel
theorem dX9_fitFollower_29 : decode cX9_fitFollower 29 = .ok (.getfield 10, 3) := by decide +kernel
theorem dX9_fitFollower_32 : decode cX9_fitFollower 32 = .ok (.getfield 80, 3) := by decide +kernel
theorem dX9_fitFollower_35 : decode cX9_fitFollower 35 = .ok (.iload_n 1, 1) := by decide +kernel
theorem dX9_fitFollower_36 : decode cX9_fitFollower 36 = .ok (.invokevirtual 89, 3) := by decide +kernel
theorem dX9_fitFollower_39 : decode cX9_fitFollower 39 = .ok (.iload_n 2, 1) := by decide +kernel
theorem dX9_fitFollower_40 : decode cX9_fitFollower 40 = .ok (.ireturn, 1) := by decide +kernel
theorem dX9_changeOffset_0 : decode cX9_changeOffset 0 = .ok (.iload_n 1, 1) := by decide +kernel
theorem dX9_changeOffset_1 : decode cX9_changeOffset 1 = .ok (.iconst 0, 1) := by decide +kernel
theorem dX9_changeOffset_2 : decode cX9_changeOffset 2 = .ok (.iconst 5, 1) := by decide +kernel
theorem dX9_changeOffset_3 : decode cX9_changeOffset 3 = .ok (.invokestatic 48, 3) := by decide +kernel
theorem dX9_changeOffset_6 : decode cX9_changeOffset 6 = .ok (.aload_n 0, 1) := by decide +kernel
theorem dX9_changeOffset_7 : decode cX9_changeOffset 7 = .ok (.getfield 19, 3) := by decide +kernel
theorem dX9_changeOffset_10 : decode cX9_changeOffset 10 = .ok (.aload_n 0, 1) := by decide +kernel
theorem dX9_changeOffset_11 : decode cX9_changeOffset 11 = .ok (.getfield 10, 3) := by decide +kernel
theorem dX9_changeOffset_14 : decode cX9_changeOffset 14 = .ok (.invokevirtual 52, 3) := by decide +kernel
theorem dX9_changeOffset_17 : decode cX9_changeOffset 17 = .ok (.aload_n 0, 1) := by decide +kernel
theorem dX9_changeOffset_18 : decode cX9_changeOffset 18 = .ok (.getfield 10, 3) := by decide +kernel
theorem dX9_changeOffset_21 : decode cX9_changeOffset 21 = .ok (.getfield 80, 3) := by decide +kernel
theorem dX9_changeOffset_24 : decode cX9_changeOffset 24 = .ok (.getfield 92, 3) := by decide +kernel
theorem dX9_changeOffset_27 : decode cX9_changeOffset 27 = .ok (.istore_n 2, 1) := by decide +kernel
theorem dX9_changeOffset_28 : decode cX9_changeOffset 28 = .ok (.aload_n 0, 1) := by decide +kernel
theorem dX9_changeOffset_29 : decode cX9_changeOffset 29 = .ok (.getfield 10, 3) := by decide +kernel
theorem dX9_changeOffset_32 : decode cX9_changeOffset 32 = .ok (.getfield 80, 3) := by decide +kernel
theorem dX9_changeOffset_35 : decode cX9_changeOffset 35 = .ok (.iload_n 1, 1) := by decide +kernel
theorem dX9_changeOffset_36 : decode cX9_changeOffset 36 = .ok (.putfield 92, 3) := by decide +kernel
theorem dX9_changeOffset_39 : decode cX9_changeOffset 39 = .ok (.iload_n 2, 1) := by decide +kernel
theorem dX9_changeOffset_40 : decode cX9_changeOffset 40 = .ok (.ireturn, 1) := by decide +kernel
theorem dX9_sharpen_0 : decode cX9_sharpen 0 = .ok (.aload_n 0, 1) := by decide +kernel
theorem dX9_sharpen_1 : decode cX9_sharpen 1 = .ok (.getfield 19, 3) := by decide +kernel
theorem dX9_sharpen_4 : decode cX9_sharpen 4 = .ok (.aload_n 0, 1) := by decide +kernel
theorem dX9_sharpen_5 : decode cX9_sharpen 5 = .ok (.getfield 10, 3) := by decide +kernel
theorem dX9_sharpen_8 : decode cX9_sharpen 8 = .ok (.invokevirtual 52, 3) := by decide +kernel
theorem dX9_sharpen_11 : decode cX9_sharpen 11 = .ok (.aload_n 0, 1) := by decide +kernel
theorem dX9_sharpen_12 : decode cX9_sharpen 12 = .ok (.getfield 10, 3) := by decide +kernel
theorem dX9_sharpen_15 : decode cX9_sharpen 15 = .ok (.getfield 95, 3) := by decide +kernel
theorem dX9_sharpen_18 : decode cX9_sharpen 18 = .ok (.getfield 99, 3) := by decide +kernel
theorem dX9_sharpen_21 : decode cX9_sharpen 21 = .ok (.istore_n 1, 1) := by decide +kernel
theorem dX9_sharpen_22 : decode cX9_sharpen 22 = .ok (.aload_n 0, 1) := by decide +kernel
theorem dX9_sharpen_23 : decode cX9_sharpen 23 = .ok (.getfield 10, 3) := by decide +kernel
theorem dX9_sharpen_26 : decode cX9_sharpen 26 = .ok (.getfield 95, 3) := by decide +kernel
theorem dX9_sharpen_29 : decode cX9_sharpen 29 = .ok (.bipush 100, 2) := by decide +kernel
theorem dX9_sharpen_31 : decode cX9_sharpen 31 = .ok (.putfield 99, 3) := by decide +kernel
theorem dX9_sharpen_34 : decode cX9_sharpen 34 = .ok (.aload_n 0, 1) := by decide +kernel
theorem dX9_sharpen_35 : decode cX9_sharpen 35 = .ok (.getfield 10, 3) := by decide +kernel
theorem dX9_sharpen_38 : decode cX9_sharpen 38 = .ok (.getfield 104, 3) := by decide +kernel
theorem dX9_sharpen_41 : decode cX9_sharpen 41 = .ok (.dup, 1) := by decide +kernel
theorem dX9_sharpen_42 : decode cX9_sharpen 42 = .ok (.getfield 108, 3) := by decide +kernel
theorem dX9_sharpen_45 : decode cX9_sharpen 45 = .ok (.iconst 1, 1) := by decide +kernel
theorem dX9_sharpen_46 : decode cX9_sharpen 46 = .ok (.iadd, 1) := by decide +kernel
theorem dX9_sharpen_47 : decode cX9_sharpen 47 = .ok (.putfield 108, 3) := by decide +kernel
theorem dX9_sharpen_50 : decode cX9_sharpen 50 = .ok (.iload_n 1, 1) := by decide +kernel
theorem dX9_sharpen_51 : decode cX9_sharpen 51 = .ok (.ireturn, 1) := by decide +kernel
theorem dX9_changeDepth_0 : decode cX9_changeDepth 0 = .ok (.iload_n 1, 1) := by decide +kernel
theorem dX9_changeDepth_1 : decode cX9_changeDepth 1 = .ok (.iconst 1, 1) := by decide +kernel
theorem dX9_changeDepth_2 : decode cX9_changeDepth 2 = .ok (.bipush 9, 2) := by decide +kernel
theorem dX9_changeDepth_4 : decode cX9_changeDepth 4 = .ok (.invokestatic 48, 3) := by decide +kernel
theorem dX9_changeDepth_7 : decode cX9_changeDepth 7 = .ok (.aload_n 0, 1) := by decide +kernel
theorem dX9_changeDepth_8 : decode cX9_changeDepth 8 = .ok (.getfield 19, 3) := by decide +kernel
theorem dX9_changeDepth_11 : decode cX9_changeDepth 11 = .ok (.aload_n 0, 1) := by decide +kernel
theorem dX9_changeDepth_12 : decode cX9_changeDepth 12 = .ok (.getfield 10, 3) := by decide +kernel
theorem dX9_changeDepth_15 : decode cX9_changeDepth 15 = .ok (.invokevirtual 52, 3) := by decide +kernel
theorem dX9_changeDepth_18 : decode cX9_changeDepth 18 = .ok (.aload_n 0, 1) := by decide +kernel
theorem dX9_changeDepth_19 : decode cX9_changeDepth 19 = .ok (.getfield 10, 3) := by decide +kernel
theorem dX9_changeDepth_22 : decode cX9_changeDepth 22 = .ok (.getfield 95, 3) := by decide +kernel
theorem dX9_changeDepth_25 : decode cX9_changeDepth 25 = .ok (.getfield 113, 3) := by decide +kernel
theorem dX9_changeDepth_28 : decode cX9_changeDepth 28 = .ok (.istore_n 2, 1) := by decide +kernel
theorem dX9_changeDepth_29 : decode cX9_changeDepth 29 = .ok (.aload_n 0, 1) := by decide +kernel
theorem dX9_changeDepth_30 : decode cX9_changeDepth 30 = .ok (.getfield 10, 3) := by decide +kernel
theorem dX9_changeDepth_33 : decode cX9_changeDepth 33 = .ok (.getfield 95, 3) := by decide +kernel
theorem dX9_changeDepth_36 : decode cX9_changeDepth 36 = .ok (.iload_n 1, 1) := by decide +kernel
theorem dX9_changeDepth_37 : decode cX9_changeDepth 37 = .ok (.putfield 113, 3) := by decide +kernel
theorem dX9_changeDepth_40 : decode cX9_changeDepth 40 = .ok (.iload_n 2, 1) := by decide +kernel
theorem dX9_changeDepth_41 : decode cX9_changeDepth 41 = .ok (.ireturn, 1) := by decide +kernel
theorem dX9_changeSpeed_0 : decode cX9_changeSpeed 0 = .ok (.iload_n 1, 1) := by decide +kernel
theorem dX9_changeSpeed_1 : decode cX9_changeSpeed 1 = .ok (.iconst 1, 1) := by decide +kernel
theorem dX9_changeSpeed_2 : decode cX9_changeSpeed 2 = .ok (.iconst 5, 1) := by decide +kernel
theorem dX9_changeSpeed_3 : decode cX9_changeSpeed 3 = .ok (.invokestatic 48, 3) := by decide +kernel
theorem dX9_changeSpeed_6 : decode cX9_changeSpeed 6 = .ok (.aload_n 0, 1) := by decide +kernel
theorem dX9_changeSpeed_7 : decode cX9_changeSpeed 7 = .ok (.getfield 19, 3) := by decide +kernel
theorem dX9_changeSpeed_10 : decode cX9_changeSpeed 10 = .ok (.aload_n 0, 1) := by decide +kernel
theorem dX9_changeSpeed_11 : decode cX9_changeSpeed 11 = .ok (.getfield 10, 3) := by decide +kernel
theorem dX9_changeSpeed_14 : decode cX9_changeSpeed 14 = .ok (.invokevirtual 52, 3) := by decide +kernel
theorem dX9_changeSpeed_17 : decode cX9_changeSpeed 17 = .ok (.aload_n 0, 1) := by decide +kernel
theorem dX9_changeSpeed_18 : decode cX9_changeSpeed 18 = .ok (.getfield 10, 3) := by decide +kernel
theorem dX9_changeSpeed_21 : decode cX9_changeSpeed 21 = .ok (.getfield 95, 3) := by decide +kernel
theorem dX9_changeSpeed_24 : decode cX9_changeSpeed 24 = .ok (.getfield 116, 3) := by decide +kernel
theorem dX9_changeSpeed_27 : decode cX9_changeSpeed 27 = .ok (.istore_n 2, 1) := by decide +kernel
theorem dX9_changeSpeed_28 : decode cX9_changeSpeed 28 = .ok (.aload_n 0, 1) := by decide +kernel
theorem dX9_changeSpeed_29 : decode cX9_changeSpeed 29 = .ok (.getfield 10, 3) := by decide +kernel
theorem dX9_changeSpeed_32 : decode cX9_changeSpeed 32 = .ok (.getfield 95, 3) := by decide +kernel
theorem dX9_changeSpeed_35 : decode cX9_changeSpeed 35 = .ok (.iload_n 1, 1) := by decide +kernel
theorem dX9_changeSpeed_36 : decode cX9_changeSpeed 36 = .ok (.putfield 116, 3) := by decide +kernel
theorem dX9_changeSpeed_39 : decode cX9_changeSpeed 39 = .ok (.iload_n 2, 1) := by decide +kernel
theorem dX9_changeSpeed_40 : decode cX9_changeSpeed 40 = .ok (.ireturn, 1) := by decide +kernel
theorem dX9_changeTolerance_0 : decode cX9_changeTolerance 0 = .ok (.iload_n 1, 1) := by decide +kernel
theorem dX9_changeTolerance_1 : decode cX9_changeTolerance 1 = .ok (.iconst 0, 1) := by decide +kernel
theorem dX9_changeTolerance_2 : decode cX9_changeTolerance 2 = .ok (.bipush 20, 2) := by decide +kernel
theorem dX9_changeTolerance_4 : decode cX9_changeTolerance 4 = .ok (.invokestatic 48, 3) := by decide +kernel
theorem dX9_changeTolerance_7 : decode cX9_changeTolerance 7 = .ok (.aload_n 0, 1) := by decide +kernel
theorem dX9_changeTolerance_8 : decode cX9_changeTolerance 8 = .ok (.getfield 19, 3) := by decide +kernel
theorem dX9_changeTolerance_11 : decode cX9_changeTolerance 11 = .ok (.aload_n 0, 1) := by decide +kernel
theorem dX9_changeTolerance_12 : decode cX9_changeTolerance 12 = .ok (.getfield 10, 3) := by decide +kernel
theorem dX9_changeTolerance_15 : decode cX9_changeTolerance 15 = .ok (.invokevirtual 52, 3) := by decide +kernel
theorem dX9_changeTolerance_18 : decode cX9_changeTolerance 18 = .ok (.aload_n 0, 1) := by decide +kernel
theorem dX9_changeTolerance_19 : decode cX9_changeTolerance 19 = .ok (.getfield 10, 3) := by decide +kernel
theorem dX9_changeTolerance_22 : decode cX9_changeTolerance 22 = .ok (.getfield 119, 3) := by decide +kernel
theorem dX9_changeTolerance_25 : decode cX9_changeTolerance 25 = .ok (.istore_n 2, 1) := by decide +kernel
theorem dX9_changeTolerance_26 : decode cX9_changeTolerance 26 = .ok (.aload_n 0, 1) := by decide +kernel
theorem dX9_changeTolerance_27 : decode cX9_changeTolerance 27 = .ok (.getfield 10, 3) := by decide +kernel
theorem dX9_changeTolerance_30 : decode cX9_changeTolerance 30 = .ok (.iload_n 1, 1) := by decide +kernel
theorem dX9_changeTolerance_31 : decode cX9_changeTolerance 31 = .ok (.putfield 119, 3) := by decide +kernel
theorem dX9_changeTolerance_34 : decode cX9_changeTolerance 34 = .ok (.iload_n 2, 1) := by decide +kernel
theorem dX9_changeTolerance_35 : decode cX9_changeTolerance 35 = .ok (.ireturn, 1) := by decide +kernel
theorem dX9_sweep_0 : decode cX9_sweep 0 = .ok (.aload_n 0, 1) := by decide +kernel
theorem dX9_sweep_1 : decode cX9_sweep 1 = .ok (.getfield 19, 3) := by decide +kernel
theorem dX9_sweep_4 : decode cX9_sweep 4 = .ok (.aload_n 0, 1) := by decide +kernel
theorem dX9_sweep_5 : decode cX9_sweep 5 = .ok (.getfield 10, 3) := by decide +kernel
theorem dX9_sweep_8 : decode cX9_sweep 8 = .ok (.invokevirtual 52, 3) := by decide +kernel
theorem dX9_sweep_11 : decode cX9_sweep 11 = .ok (.aload_n 0, 1) := by decide +kernel
theorem dX9_sweep_12 : decode cX9_sweep 12 = .ok (.getfield 10, 3) := by decide +kernel
theorem dX9_sweep_15 : decode cX9_sweep 15 = .ok (.getfield 122, 3) := by decide +kernel
theorem dX9_sweep_18 : decode cX9_sweep 18 = .ok (.istore_n 1, 1) := by decide +kernel
theorem dX9_sweep_19 : decode cX9_sweep 19 = .ok (.aload_n 0, 1) := by decide +kernel
theorem dX9_sweep_20 : decode cX9_sweep 20 = .ok (.getfield 10, 3) := by decide +kernel
theorem dX9_sweep_23 : decode cX9_sweep 23 = .ok (.iconst 0, 1) := by decide +kernel
theorem dX9_sweep_24 : decode cX9_sweep 24 = .ok (.putfield 122, 3) := by decide +kernel
theorem dX9_sweep_27 : decode cX9_sweep 27 = .ok (.aload_n 0, 1) := by decide +kernel
theorem dX9_sweep_28 : decode cX9_sweep 28 = .ok (.getfield 10, 3) := by decide +kernel
theorem dX9_sweep_31 : decode cX9_sweep 31 = .ok (.iconst 0, 1) := by decide +kernel
theorem dX9_sweep_32 : decode cX9_sweep 32 = .ok (.putfield 125, 3) := by decide +kernel
theorem dX9_sweep_35 : decode cX9_sweep 35 = .ok (.iload_n 1, 1) := by decide +kernel
theorem dX9_sweep_36 : decode cX9_sweep 36 = .ok (.ireturn, 1) := by decide +kernel
theorem dX9_addBlank_0 : decode cX9_addBlank 0 = .ok (.iload_n 1, 1) := by decide +kernel
theorem dX9_addBlank_1 : decode cX9_addBlank 1 = .ok (.iconst 3, 1) := by decide +kernel
theorem dX9_addBlank_2 : decode cX9_addBlank 2 = .ok (.invokestatic 129, 3) := by decide +kernel
theorem dX9_addBlank_5 : decode cX9_addBlank 5 = .ok (.iload_n 2, 1) := by decide +kernel
theorem dX9_addBlank_6 : decode cX9_addBlank 6 = .ok (.bipush 20, 2) := by decide +kernel
theorem dX9_addBlank_8 : decode cX9_addBlank 8 = .ok (.bipush 120, 2) := by decide +kernel
theorem dX9_addBlank_10 : decode cX9_addBlank 10 = .ok (.invokestatic 48, 3) := by decide +kernel
theorem dX9_addBlank_13 : decode cX9_addBlank 13 = .ok (.aload_n 0, 1) := by decide +kernel
theorem dX9_addBlank_14 : decode cX9_addBlank 14 = .ok (.getfield 10, 3) := by decide +kernel
theorem dX9_addBlank_17 : decode cX9_addBlank 17 = .ok (.getfield 133, 3) := by decide +kernel
theorem dX9_addBlank_20 : decode cX9_addBlank 20 = .ok (.getfield 137, 3) := by decide +kernel
theorem dX9_addBlank_23 : decode cX9_addBlank 23 = .ok (.iconst 5, 1) := by decide +kernel
theorem dX9_addBlank_24 : decode cX9_addBlank 24 = .ok (.if_icmp .ge 7, 3) := by decide +kernel
theorem dX9_addBlank_27 : decode cX9_addBlank 27 = .ok (.iconst 1, 1) := by decide +kernel
theorem dX9_addBlank_28 : decode cX9_addBlank 28 = .ok (.goto 4, 3) := by decide +kernel
theorem dX9_addBlank_31 : decode cX9_addBlank 31 = .ok (.iconst 0, 1) := by decide +kernel
theorem dX9_addBlank_32 : decode cX9_addBlank 32 = .ok (.invokestatic 142, 3) := by decide +kernel
theorem dX9_addBlank_35 : decode cX9_addBlank 35 = .ok (.aload_n 0, 1) := by decide +kernel
theorem dX9_addBlank_36 : decode cX9_addBlank 36 = .ok (.getfield 19, 3) := by decide +kernel
theorem dX9_addBlank_39 : decode cX9_addBlank 39 = .ok (.aload_n 0, 1) := by decide +kernel
theorem dX9_addBlank_40 : decode cX9_addBlank 40 = .ok (.getfield 10, 3) := by decide +kernel
theorem dX9_addBlank_43 : decode cX9_addBlank 43 = .ok (.invokevirtual 52, 3) := by decide +kernel
theorem dX9_addBlank_46 : decode cX9_addBlank 46 = .ok (.aload_n 0, 1) := by decide +kernel
theorem dX9_addBlank_47 : decode cX9_addBlank 47 = .ok (.getfield 10, 3) := by decide +kernel
theorem dX9_addBlank_50 : decode cX9_addBlank 50 = .ok (.getfield 133, 3) := by decide +kernel
theorem dX9_addBlank_53 : decode cX9_addBlank 53 = .ok (.iload_n 1, 1) := by decide +kernel
theorem dX9_addBlank_54 : decode cX9_addBlank 54 = .ok (.iload_n 2, 1) := by decide +kernel
theorem dX9_addBlank_55 : decode cX9_addBlank 55 = .ok (.invokevirtual 146, 3) := by decide +kernel
theorem dX9_addBlank_58 : decode cX9_addBlank 58 = .ok (.ireturn, 1) := by decide +kernel
theorem dX9_burn_0 : decode cX9_burn 0 = .ok (.aload_n 0, 1) := by decide +kernel
theorem dX9_burn_1 : decode cX9_burn 1 = .ok (.iload_n 1, 1) := by decide +kernel
theorem dX9_burn_2 : decode cX9_burn 2 = .ok (.invokevirtual 149, 3) := by decide +kernel
theorem dX9_burn_5 : decode cX9_burn 5 = .ok (.iload_n 1, 1) := by decide +kernel
theorem dX9_burn_6 : decode cX9_burn 6 = .ok (.aload_n 0, 1) := by decide +kernel
theorem dX9_burn_7 : decode cX9_burn 7 = .ok (.getfield 10, 3) := by decide +kernel
theorem dX9_burn_10 : decode cX9_burn 10 = .ok (.getfield 133, 3) := by decide +kernel
theorem dX9_burn_13 : decode cX9_burn 13 = .ok (.getfield 152, 3) := by decide +kernel
theorem dX9_burn_16 : decode cX9_burn 16 = .ok (.if_icmp .eq 7, 3) := by decide +kernel
theorem dX9_burn_19 : decode cX9_burn 19 = .ok (.iconst 1, 1) := by decide +kernel
theorem dX9_burn_20 : decode cX9_burn 20 = .ok (.goto 4, 3) := by decide +kernel
theorem dX9_burn_23 : decode cX9_burn 23 = .ok (.iconst 0, 1) := by decide +kernel
theorem dX9_burn_24 : decode cX9_burn 24 = .ok (.invokestatic 142, 3) := by decide +kernel
theorem dX9_burn_27 : decode cX9_burn 27 = .ok (.aload_n 0, 1) := by decide +kernel
theorem dX9_burn_28 : decode cX9_burn 28 = .ok (.getfield 19, 3) := by decide +kernel
theorem dX9_burn_31 : decode cX9_burn 31 = .ok (.aload_n 0, 1) := by decide +kernel
theorem dX9_burn_32 : decode cX9_burn 32 = .ok (.getfield 10, 3) := by decide +kernel
theorem dX9_burn_35 : decode cX9_burn 35 = .ok (.invokevirtual 52, 3) := by decide +kernel
theorem dX9_burn_38 : decode cX9_burn 38 = .ok (.aload_n 0, 1) := by decide +kernel
theorem dX9_burn_39 : decode cX9_burn 39 = .ok (.getfield 10, 3) := by decide +kernel
theorem dX9_burn_42 : decode cX9_burn 42 = .ok (.getfield 133, 3) := by decide +kernel
theorem dX9_burn_45 : decode cX9_burn 45 = .ok (.iload_n 1, 1) := by decide +kernel
theorem dX9_burn_46 : decode cX9_burn 46 = .ok (.invokevirtual 155, 3) := by decide +kernel
theorem dX9_burn_49 : decode cX9_burn 49 = .ok (.aload_n 0, 1) := by decide +kernel
theorem dX9_burn_50 : decode cX9_burn 50 = .ok (.getfield 10, 3) := by decide +kernel
theorem dX9_burn_53 : decode cX9_burn 53 = .ok (.getfield 104, 3) := by decide +kernel
theorem dX9_burn_56 : decode cX9_burn 56 = .ok (.dup, 1) := by decide +kernel
theorem dX9_burn_57 : decode cX9_burn 57 = .ok (.getfield 158, 3) := by decide +kernel
theorem dX9_burn_60 : decode cX9_burn 60 = .ok (.iconst 1, 1) := by decide +kernel
theorem dX9_burn_61 : decode cX9_burn 61 = .ok (.iadd, 1) := by decide +kernel
theorem dX9_burn_62 : decode cX9_burn 62 = .ok (.putfield 158, 3) := by decide +kernel
theorem dX9_burn_65 : decode cX9_burn 65 = .ok (.aload_n 0, 1) := by decide +kernel
theorem dX9_burn_66 : decode cX9_burn 66 = .ok (.getfield 10, 3) := by decide +kernel
theorem dX9_burn_69 : decode cX9_burn 69 = .ok (.getfield 133, 3) := by decide +kernel
theorem dX9_burn_72 : decode cX9_burn 72 = .ok (.getfield 137, 3) := by decide +kernel
theorem dX9_burn_75 : decode cX9_burn 75 = .ok (.ireturn, 1) := by decide +kernel
theorem dX9_mount_0 : decode cX9_mount 0 = .ok (.aload_n 0, 1) := by decide +kernel
theorem dX9_mount_1 : decode cX9_mount 1 = .ok (.iload_n 1, 1) := by decide +kernel
theorem dX9_mount_2 : decode cX9_mount 2 = .ok (.invokevirtual 149, 3) := by decide +kernel
theorem dX9_mount_5 : decode cX9_mount 5 = .ok (.aload_n 0, 1) := by decide +kernel
theorem dX9_mount_6 : decode cX9_mount 6 = .ok (.getfield 10, 3) := by decide +kernel
theorem dX9_mount_9 : decode cX9_mount 9 = .ok (.getfield 133, 3) := by decide +kernel
theorem dX9_mount_12 : decode cX9_mount 12 = .ok (.invokevirtual 161, 3) := by decide +kernel
theorem dX9_mount_15 : decode cX9_mount 15 = .ok (.ifCond .ne 7, 3) := by decide +kernel
theorem dX9_mount_18 : decode cX9_mount 18 = .ok (.iconst 1, 1) := by decide +kernel
theorem dX9_mount_19 : decode cX9_mount 19 = .ok (.goto 4, 3) := by decide +kernel
theorem dX9_mount_22 : decode cX9_mount 22 = .ok (.iconst 0, 1) := by decide +kernel
theorem dX9_mount_23 : decode cX9_mount 23 = .ok (.invokestatic 142, 3) := by decide +kernel
theorem dX9_mount_26 : decode cX9_mount 26 = .ok (.aload_n 0, 1) := by decide +kernel
theorem dX9_mount_27 : decode cX9_mount 27 = .ok (.getfield 19, 3) := by decide +kernel
theorem dX9_mount_30 : decode cX9_mount 30 = .ok (.aload_n 0, 1) := by decide +kernel
theorem dX9_mount_31 : decode cX9_mount 31 = .ok (.getfield 10, 3) := by decide +kernel
theorem dX9_mount_34 : decode cX9_mount 34 = .ok (.invokevirtual 52, 3) := by decide +kernel
theorem dX9_mount_37 : decode cX9_mount 37 = .ok (.aload_n 0, 1) := by decide +kernel
theorem dX9_mount_38 : decode cX9_mount 38 = .ok (.getfield 10, 3) := by decide +kernel
theorem dX9_mount_41 : decode cX9_mount 41 = .ok (.getfield 133, 3) := by decide +kernel
theorem dX9_mount_44 : decode cX9_mount 44 = .ok (.iload_n 1, 1) := by decide +kernel
theorem dX9_mount_45 : decode cX9_mount 45 = .ok (.putfield 152, 3) := by decide +kernel
theorem dX9_mount_48 : decode cX9_mount 48 = .ok (.return_, 1) := by decide +kernel
theorem dX9_takeOut_0 : decode cX9_takeOut 0 = .ok (.aload_n 0, 1) := by decide +kernel
theorem dX9_takeOut_1 : decode cX9_takeOut 1 = .ok (.invokevirtual 165, 3) := by decide +kernel
theorem dX9_takeOut_4 : decode cX9_takeOut 4 = .ok (.aload_n 0, 1) := by decide +kernel
theorem dX9_takeOut_5 : decode cX9_takeOut 5 = .ok (.getfield 19, 3) := by decide +kernel
theorem dX9_takeOut_8 : decode cX9_takeOut 8 = .ok (.aload_n 0, 1) := by decide +kernel
theorem dX9_takeOut_9 : decode cX9_takeOut 9 = .ok (.getfield 10, 3) := by decide +kernel
theorem dX9_takeOut_12 : decode cX9_takeOut 12 = .ok (.invokevirtual 52, 3) := by decide +kernel
theorem dX9_takeOut_15 : decode cX9_takeOut 15 = .ok (.aload_n 0, 1) := by decide +kernel
theorem dX9_takeOut_16 : decode cX9_takeOut 16 = .ok (.getfield 10, 3) := by decide +kernel
theorem dX9_takeOut_19 : decode cX9_takeOut 19 = .ok (.getfield 133, 3) := by decide +kernel
theorem dX9_takeOut_22 : decode cX9_takeOut 22 = .ok (.getfield 152, 3) := by decide +kernel
theorem dX9_takeOut_25 : decode cX9_takeOut 25 = .ok (.istore_n 1, 1) := by decide +kernel
theorem dX9_takeOut_26 : decode cX9_takeOut 26 = .ok (.aload_n 0, 1) := by decide +kernel
theorem dX9_takeOut_27 : decode cX9_takeOut 27 = .ok (.getfield 10, 3) := by decide +kernel
theorem dX9_takeOut_30 : decode cX9_takeOut 30 = .ok (.getfield 133, 3) := by decide +kernel
theorem dX9_takeOut_33 : decode cX9_takeOut 33 = .ok (.iconst (-1), 1) := by decide +kernel
theorem dX9_takeOut_34 : decode cX9_takeOut 34 = .ok (.putfield 152, 3) := by decide +kernel
theorem dX9_takeOut_37 : decode cX9_takeOut 37 = .ok (.iload_n 1, 1) := by decide +kernel
theorem dX9_takeOut_38 : decode cX9_takeOut 38 = .ok (.ireturn, 1) := by decide +kernel
theorem dX9_pass_0 : decode cX9_pass 0 = .ok (.aload_n 0, 1) := by decide +kernel
theorem dX9_pass_1 : decode cX9_pass 1 = .ok (.invokevirtual 168, 3) := by decide +kernel
theorem dX9_pass_4 : decode cX9_pass 4 = .ok (.aload_n 0, 1) := by decide +kernel
theorem dX9_pass_5 : decode cX9_pass 5 = .ok (.getfield 19, 3) := by decide +kernel
theorem dX9_pass_8 : decode cX9_pass 8 = .ok (.aload_n 0, 1) := by decide +kernel
theorem dX9_pass_9 : decode cX9_pass 9 = .ok (.getfield 10, 3) := by decide +kernel
theorem dX9_pass_12 : decode cX9_pass 12 = .ok (.invokevirtual 52, 3) := by decide +kernel
theorem dX9_pass_15 : decode cX9_pass 15 = .ok (.aload_n 0, 1) := by decide +kernel
theorem dX9_pass_16 : decode cX9_pass 16 = .ok (.getfield 10, 3) := by decide +kernel
theorem dX9_pass_19 : decode cX9_pass 19 = .ok (.invokevirtual 171, 3) := by decide +kernel
theorem dX9_pass_22 : decode cX9_pass 22 = .ok (.ireturn, 1) := by decide +kernel
theorem dX9_passUpTo_0 : decode cX9_passUpTo 0 = .ok (.iload_n 1, 1) := by decide +kernel
theorem dX9_passUpTo_1 : decode cX9_passUpTo 1 = .ok (.iconst 1, 1) := by decide +kernel
theorem dX9_passUpTo_2 : decode cX9_passUpTo 2 = .ok (.bipush 30, 2) := by decide +kernel
theorem dX9_passUpTo_4 : decode cX9_passUpTo 4 = .ok (.invokestatic 48, 3) := by decide +kernel
theorem dX9_passUpTo_7 : decode cX9_passUpTo 7 = .ok (.aload_n 0, 1) := by decide +kernel
theorem dX9_passUpTo_8 : decode cX9_passUpTo 8 = .ok (.invokevirtual 168, 3) := by decide +kernel
theorem dX9_passUpTo_11 : decode cX9_passUpTo 11 = .ok (.aload_n 0, 1) := by decide +kernel
theorem dX9_passUpTo_12 : decode cX9_passUpTo 12 = .ok (.getfield 19, 3) := by decide +kernel
theorem dX9_passUpTo_15 : decode cX9_passUpTo 15 = .ok (.aload_n 0, 1) := by decide +kernel
theorem dX9_passUpTo_16 : decode cX9_passUpTo 16 = .ok (.getfield 10, 3) := by decide +kernel
theorem dX9_passUpTo_19 : decode cX9_passUpTo 19 = .ok (.invokevirtual 52, 3) := by decide +kernel
theorem dX9_passUpTo_22 : decode cX9_passUpTo 22 = .ok (.iconst 0, 1) := by decide +kernel
theorem dX9_passUpTo_23 : decode cX9_passUpTo 23 = .ok (.istore_n 2, 1) := by decide +kernel
theorem dX9_passUpTo_24 : decode cX9_passUpTo 24 = .ok (.iload_n 2, 1) := by decide +kernel
theorem dX9_passUpTo_25 : decode cX9_passUpTo 25 = .ok (.iload_n 1, 1) := by decide +kernel
theorem dX9_passUpTo_26 : decode cX9_passUpTo 26 = .ok (.if_icmp .ge 47, 3) := by decide +kernel
theorem dX9_passUpTo_29 : decode cX9_passUpTo 29 = .ok (.aload_n 0, 1) := by decide +kernel
theorem dX9_passUpTo_30 : decode cX9_passUpTo 30 = .ok (.getfield 10, 3) := by decide +kernel
theorem dX9_passUpTo_33 : decode cX9_passUpTo 33 = .ok (.invokevirtual 175, 3) := by decide +kernel
theorem dX9_passUpTo_36 : decode cX9_passUpTo 36 = .ok (.ifCond .eq 37, 3) := by decide +kernel
theorem dX9_passUpTo_39 : decode cX9_passUpTo 39 = .ok (.aload_n 0, 1) := by decide +kernel
theorem dX9_passUpTo_40 : decode cX9_passUpTo 40 = .ok (.getfield 10, 3) := by decide +kernel
theorem dX9_passUpTo_43 : decode cX9_passUpTo 43 = .ok (.aload_n 0, 1) := by decide +kernel
theorem dX9_passUpTo_44 : decode cX9_passUpTo 44 = .ok (.getfield 10, 3) := by decide +kernel
theorem dX9_passUpTo_47 : decode cX9_passUpTo 47 = .ok (.getfield 133, 3) := by decide +kernel
theorem dX9_passUpTo_50 : decode cX9_passUpTo 50 = .ok (.getfield 152, 3) := by decide +kernel
theorem dX9_passUpTo_53 : decode cX9_passUpTo 53 = .ok (.invokevirtual 178, 3) := by decide +kernel
theorem dX9_passUpTo_56 : decode cX9_passUpTo 56 = .ok (.ifCond .le 17, 3) := by decide +kernel
theorem dX9_passUpTo_59 : decode cX9_passUpTo 59 = .ok (.aload_n 0, 1) := by decide +kernel
theorem dX9_passUpTo_60 : decode cX9_passUpTo 60 = .ok (.getfield 10, 3) := by decide +kernel
theorem dX9_passUpTo_63 : decode cX9_passUpTo 63 = .ok (.invokevirtual 171, 3) := by decide +kernel
theorem dX9_passUpTo_66 : decode cX9_passUpTo 66 = .ok (.pop, 1) := by decide +kernel
theorem dX9_passUpTo_67 : decode cX9_passUpTo 67 = .ok (.iinc 2 1, 3) := by decide +kernel
theorem dX9_passUpTo_70 : decode cX9_passUpTo 70 = .ok (.goto (-46), 3) := by decide +kernel
theorem dX9_passUpTo_73 : decode cX9_passUpTo 73 = .ok (.iload_n 2, 1) := by decide +kernel
theorem dX9_passUpTo_74 : decode cX9_passUpTo 74 = .ok (.ireturn, 1) := by decide +kernel
theorem dX9_sand_0 : decode cX9_sand 0 = .ok (.iload_n 1, 1) := by decide +kernel
theorem dX9_sand_1 : decode cX9_sand 1 = .ok (.iconst 1, 1) := by decide +kernel
theorem dX9_sand_2 : decode cX9_sand 2 = .ok (.iconst 3, 1) := by decide +kernel
theorem dX9_sand_3 : decode cX9_sand 3 = .ok (.invokestatic 48, 3) := by decide +kernel
theorem dX9_sand_6 : decode cX9_sand 6 = .ok (.aload_n 0, 1) := by decide +kernel
theorem dX9_sand_7 : decode cX9_sand 7 = .ok (.invokevirtual 165, 3) := by decide +kernel
theorem dX9_sand_10 : decode cX9_sand 10 = .ok (.aload_n 0, 1) := by decide +kernel
theorem dX9_sand_11 : decode cX9_sand 11 = .ok (.getfield 19, 3) := by decide +kernel
theorem dX9_sand_14 : decode cX9_sand 14 = .ok (.aload_n 0, 1) := by decide +kernel
theorem dX9_sand_15 : decode cX9_sand 15 = .ok (.getfield 10, 3) := by decide +kernel
theorem dX9_sand_18 : decode cX9_sand 18 = .ok (.invokevirtual 52, 3) := by decide +kernel
theorem dX9_sand_21 : decode cX9_sand 21 = .ok (.aload_n 0, 1) := by decide +kernel
theorem dX9_sand_22 : decode cX9_sand 22 = .ok (.getfield 10, 3) := by decide +kernel
theorem dX9_sand_25 : decode cX9_sand 25 = .ok (.iload_n 1, 1) := by decide +kernel
theorem dX9_sand_26 : decode cX9_sand 26 = .ok (.invokevirtual 181, 3) := by decide +kernel
theorem dX9_sand_29 : decode cX9_sand 29 = .ok (.ireturn, 1) := by decide +kernel
theorem dX9_append_0 : decode cX9_append 0 = .ok (.iload_n 1, 1) := by decide +kernel
theorem dX9_append_1 : decode cX9_append 1 = .ok (.bipush 33, 2) := by decide +kernel
theorem dX9_append_3 : decode cX9_append 3 = .ok (.bipush 126, 2) := by decide +kernel
theorem dX9_append_5 : decode cX9_append 5 = .ok (.invokestatic 48, 3) := by decide +kernel
theorem dX9_append_8 : decode cX9_append 8 = .ok (.aload_n 0, 1) := by decide +kernel
theorem dX9_append_9 : decode cX9_append 9 = .ok (.getfield 26, 3) := by decide +kernel
theorem dX9_append_12 : decode cX9_append 12 = .ok (.getfield 184, 3) := by decide +kernel
theorem dX9_append_15 : decode cX9_append 15 = .ok (.bipush 60, 2) := by decide +kernel
theorem dX9_append_17 : decode cX9_append 17 = .ok (.if_icmp .ge 7, 3) := by decide +kernel
theorem dX9_append_20 : decode cX9_append 20 = .ok (.iconst 1, 1) := by decide +kernel
theorem dX9_append_21 : decode cX9_append 21 = .ok (.goto 4, 3) := by decide +kernel
theorem dX9_append_24 : decode cX9_append 24 = .ok (.iconst 0, 1) := by decide +kernel
theorem dX9_append_25 : decode cX9_append 25 = .ok (.invokestatic 142, 3) := by decide +kernel
theorem dX9_append_28 : decode cX9_append 28 = .ok (.aload_n 0, 1) := by decide +kernel
theorem dX9_append_29 : decode cX9_append 29 = .ok (.getfield 26, 3) := by decide +kernel
theorem dX9_append_32 : decode cX9_append 32 = .ok (.iload_n 1, 1) := by decide +kernel
theorem dX9_append_33 : decode cX9_append 33 = .ok (.invokevirtual 187, 3) := by decide +kernel
theorem dX9_append_36 : decode cX9_append 36 = .ok (.ireturn, 1) := by decide +kernel
theorem dX9_clearBuffer_0 : decode cX9_clearBuffer 0 = .ok (.aload_n 0, 1) := by decide +kernel
theorem dX9_clearBuffer_1 : decode cX9_clearBuffer 1 = .ok (.getfield 26, 3) := by decide +kernel
theorem dX9_clearBuffer_4 : decode cX9_clearBuffer 4 = .ok (.invokevirtual 189, 3) := by decide +kernel
theorem dX9_clearBuffer_7 : decode cX9_clearBuffer 7 = .ok (.ireturn, 1) := by decide +kernel
theorem dX9_firstError_0 : decode cX9_firstError 0 = .ok (.aload_n 0, 1) := by decide +kernel
theorem dX9_firstError_1 : decode cX9_firstError 1 = .ok (.getfield 26, 3) := by decide +kernel
theorem dX9_firstError_4 : decode cX9_firstError 4 = .ok (.invokevirtual 192, 3) := by decide +kernel
theorem dX9_firstError_7 : decode cX9_firstError 7 = .ok (.ireturn, 1) := by decide +kernel
theorem dX9_loadMaster_0 : decode cX9_loadMaster 0 = .ok (.iload_n 1, 1) := by decide +kernel
theorem dX9_loadMaster_1 : decode cX9_loadMaster 1 = .ok (.invokestatic 42, 3) := by decide +kernel
theorem dX9_loadMaster_4 : decode cX9_loadMaster 4 = .ok (.aload_n 0, 1) := by decide +kernel
theorem dX9_loadMaster_5 : decode cX9_loadMaster 5 = .ok (.getfield 26, 3) := by decide +kernel
theorem dX9_loadMaster_8 : decode cX9_loadMaster 8 = .ok (.invokevirtual 195, 3) := by decide +kernel
theorem dX9_loadMaster_11 : decode cX9_loadMaster 11 = .ok (.invokestatic 198, 3) := by decide +kernel
theorem dX9_loadMaster_14 : decode cX9_loadMaster 14 = .ok (.aload_n 0, 1) := by decide +kernel
theorem dX9_loadMaster_15 : decode cX9_loadMaster 15 = .ok (.getfield 19, 3) := by decide +kernel
theorem dX9_loadMaster_18 : decode cX9_loadMaster 18 = .ok (.aload_n 0, 1) := by decide +kernel
theorem dX9_loadMaster_19 : decode cX9_loadMaster 19 = .ok (.getfield 10, 3) := by decide +kernel
theorem dX9_loadMaster_22 : decode cX9_loadMaster 22 = .ok (.invokevirtual 52, 3) := by decide +kernel
theorem dX9_loadMaster_25 : decode cX9_loadMaster 25 = .ok (.iconst 0, 1) := by decide +kernel
theorem dX9_loadMaster_26 : decode cX9_loadMaster 26 = .ok (.istore_n 2, 1) := by decide +kernel
theorem dX9_loadMaster_27 : decode cX9_loadMaster 27 = .ok (.iload_n 2, 1) := by decide +kernel
theorem dX9_loadMaster_28 : decode cX9_loadMaster 28 = .ok (.bipush 16, 2) := by decide +kernel
theorem dX9_loadMaster_30 : decode cX9_loadMaster 30 = .ok (.if_icmp .ge 32, 3) := by decide +kernel
theorem dX9_loadMaster_33 : decode cX9_loadMaster 33 = .ok (.aload_n 0, 1) := by decide +kernel
theorem dX9_loadMaster_34 : decode cX9_loadMaster 34 = .ok (.getfield 10, 3) := by decide +kernel
theorem dX9_loadMaster_37 : decode cX9_loadMaster 37 = .ok (.getfield 56, 3) := by decide +kernel
theorem dX9_loadMaster_40 : decode cX9_loadMaster 40 = .ok (.iload_n 1, 1) := by decide +kernel
theorem dX9_loadMaster_41 : decode cX9_loadMaster 41 = .ok (.iload_n 2, 1) := by decide +kernel
theorem dX9_loadMaster_42 : decode cX9_loadMaster 42 = .ok (.aload_n 0, 1) := by decide +kernel
theorem dX9_loadMaster_43 : decode cX9_loadMaster 43 = .ok (.getfield 26, 3) := by decide +kernel
theorem dX9_loadMaster_46 : decode cX9_loadMaster 46 = .ok (.getfield 201, 3) := by decide +kernel
theorem dX9_loadMaster_49 : decode cX9_loadMaster 49 = .ok (.iload_n 2, 1) := by decide +kernel
theorem dX9_loadMaster_50 : decode cX9_loadMaster 50 = .ok (.invokevirtual 204, 3) := by decide +kernel
theorem dX9_loadMaster_53 : decode cX9_loadMaster 53 = .ok (.invokevirtual 66, 3) := by decide +kernel
theorem dX9_loadMaster_56 : decode cX9_loadMaster 56 = .ok (.iinc 2 1, 3) := by decide +kernel
theorem dX9_loadMaster_59 : decode cX9_loadMaster 59 = .ok (.goto (-32), 3) := by decide +kernel
theorem dX9_loadMaster_62 : decode cX9_loadMaster 62 = .ok (.aload_n 0, 1) := by decide +kernel
theorem dX9_loadMaster_63 : decode cX9_loadMaster 63 = .ok (.getfield 26, 3) := by decide +kernel
theorem dX9_loadMaster_66 : decode cX9_loadMaster 66 = .ok (.invokevirtual 189, 3) := by decide +kernel
theorem dX9_loadMaster_69 : decode cX9_loadMaster 69 = .ok (.pop, 1) := by decide +kernel
theorem dX9_loadMaster_70 : decode cX9_loadMaster 70 = .ok (.aload_n 0, 1) := by decide +kernel
theorem dX9_loadMaster_71 : decode cX9_loadMaster 71 = .ok (.getfield 10, 3) := by decide +kernel
theorem dX9_loadMaster_74 : decode cX9_loadMaster 74 = .ok (.getfield 56, 3) := by decide +kernel
theorem dX9_loadMaster_77 : decode cX9_loadMaster 77 = .ok (.iload_n 1, 1) := by decide +kernel
theorem dX9_loadMaster_78 : decode cX9_loadMaster 78 = .ok (.invokevirtual 206, 3) := by decide +kernel
theorem dX9_loadMaster_81 : decode cX9_loadMaster 81 = .ok (.ireturn, 1) := by decide +kernel
theorem dX9_keep_0 : decode cX9_keep 0 = .ok (.iload_n 1, 1) := by decide +kernel
theorem dX9_keep_1 : decode cX9_keep 1 = .ok (.iconst 2, 1) := by decide +kernel
theorem dX9_keep_2 : decode cX9_keep 2 = .ok (.invokestatic 209, 3) := by decide +kernel
theorem dX9_keep_5 : decode cX9_keep 5 = .ok (.invokestatic 198, 3) := by decide +kernel
theorem dX9_keep_8 : decode cX9_keep 8 = .ok (.aload_n 0, 1) := by decide +kernel
theorem dX9_keep_9 : decode cX9_keep 9 = .ok (.getfield 19, 3) := by decide +kernel
theorem dX9_keep_12 : decode cX9_keep 12 = .ok (.iload_n 1, 1) := by decide +kernel
theorem dX9_keep_13 : decode cX9_keep 13 = .ok (.aload_n 0, 1) := by decide +kernel
theorem dX9_keep_14 : decode cX9_keep 14 = .ok (.getfield 10, 3) := by decide +kernel
theorem dX9_keep_17 : decode cX9_keep 17 = .ok (.invokevirtual 213, 3) := by decide +kernel
theorem dX9_keep_20 : decode cX9_keep 20 = .ok (.return_, 1) := by decide +kernel
theorem dX9_goBack_0 : decode cX9_goBack 0 = .ok (.iload_n 1, 1) := by decide +kernel
theorem dX9_goBack_1 : decode cX9_goBack 1 = .ok (.iconst 2, 1) := by decide +kernel
theorem dX9_goBack_2 : decode cX9_goBack 2 = .ok (.invokestatic 209, 3) := by decide +kernel
theorem dX9_goBack_5 : decode cX9_goBack 5 = .ok (.invokestatic 198, 3) := by decide +kernel
theorem dX9_goBack_8 : decode cX9_goBack 8 = .ok (.aload_n 0, 1) := by decide +kernel
theorem dX9_goBack_9 : decode cX9_goBack 9 = .ok (.getfield 19, 3) := by decide +kernel
theorem dX9_goBack_12 : decode cX9_goBack 12 = .ok (.iload_n 1, 1) := by decide +kernel
theorem dX9_goBack_13 : decode cX9_goBack 13 = .ok (.invokevirtual 217, 3) := by decide +kernel
theorem dX9_goBack_16 : decode cX9_goBack 16 = .ok (.invokestatic 142, 3) := by decide +kernel
theorem dX9_goBack_19 : decode cX9_goBack 19 = .ok (.aload_n 0, 1) := by decide +kernel
theorem dX9_goBack_20 : decode cX9_goBack 20 = .ok (.getfield 19, 3) := by decide +kernel
theorem dX9_goBack_23 : decode cX9_goBack 23 = .ok (.aload_n 0, 1) := by decide +kernel
theorem dX9_goBack_24 : decode cX9_goBack 24 = .ok (.getfield 10, 3) := by decide +kernel
theorem dX9_goBack_27 : decode cX9_goBack 27 = .ok (.invokevirtual 52, 3) := by decide +kernel
theorem dX9_goBack_30 : decode cX9_goBack 30 = .ok (.aload_n 0, 1) := by decide +kernel
theorem dX9_goBack_31 : decode cX9_goBack 31 = .ok (.getfield 19, 3) := by decide +kernel
theorem dX9_goBack_34 : decode cX9_goBack 34 = .ok (.iload_n 1, 1) := by decide +kernel
theorem dX9_goBack_35 : decode cX9_goBack 35 = .ok (.aload_n 0, 1) := by decide +kernel
theorem dX9_goBack_36 : decode cX9_goBack 36 = .ok (.getfield 10, 3) := by decide +kernel
theorem dX9_goBack_39 : decode cX9_goBack 39 = .ok (.invokevirtual 221, 3) := by decide +kernel
theorem dX9_goBack_42 : decode cX9_goBack 42 = .ok (.return_, 1) := by decide +kernel
theorem dX9_undo_0 : decode cX9_undo 0 = .ok (.aload_n 0, 1) := by decide +kernel
theorem dX9_undo_1 : decode cX9_undo 1 = .ok (.getfield 19, 3) := by decide +kernel
theorem dX9_undo_4 : decode cX9_undo 4 = .ok (.getfield 224, 3) := by decide +kernel
theorem dX9_undo_7 : decode cX9_undo 7 = .ok (.ifCond .le 7, 3) := by decide +kernel
theorem dX9_undo_10 : decode cX9_undo 10 = .ok (.iconst 1, 1) := by decide +kernel
theorem dX9_undo_11 : decode cX9_undo 11 = .ok (.goto 4, 3) := by decide +kernel
theorem dX9_undo_14 : decode cX9_undo 14 = .ok (.iconst 0, 1) := by decide +kernel
theorem dX9_undo_15 : decode cX9_undo 15 = .ok (.invokestatic 142, 3) := by decide +kernel
theorem dX9_undo_18 : decode cX9_undo 18 = .ok (.aload_n 0, 1) := by decide +kernel
theorem dX9_undo_19 : decode cX9_undo 19 = .ok (.getfield 19, 3) := by decide +kernel
theorem dX9_undo_22 : decode cX9_undo 22 = .ok (.aload_n 0, 1) := by decide +kernel
theorem dX9_undo_23 : decode cX9_undo 23 = .ok (.getfield 10, 3) := by decide +kernel
theorem dX9_undo_26 : decode cX9_undo 26 = .ok (.invokevirtual 225, 3) := by decide +kernel
theorem dX9_undo_29 : decode cX9_undo 29 = .ok (.return_, 1) := by decide +kernel
theorem dX9_savedStates_0 : decode cX9_savedStates 0 = .ok (.aload_n 0, 1) := by decide +kernel
theorem dX9_savedStates_1 : decode cX9_savedStates 1 = .ok (.getfield 19, 3) := by decide +kernel
theorem dX9_savedStates_4 : decode cX9_savedStates 4 = .ok (.getfield 224, 3) := by decide +kernel
theorem dX9_savedStates_7 : decode cX9_savedStates 7 = .ok (.ireturn, 1) := by decide +kernel
theorem dX9_masterAt_0 : decode cX9_masterAt 0 = .ok (.iload_n 1, 1) := by decide +kernel
theorem dX9_masterAt_1 : decode cX9_masterAt 1 = .ok (.invokestatic 42, 3) := by decide +kernel
theorem dX9_masterAt_4 : decode cX9_masterAt 4 = .ok (.iload_n 2, 1) := by decide +kernel
theorem dX9_masterAt_5 : decode cX9_masterAt 5 = .ok (.invokestatic 45, 3) := by decide +kernel
theorem dX9_masterAt_8 : decode cX9_masterAt 8 = .ok (.aload_n 0, 1) := by decide +kernel
theorem dX9_masterAt_9 : decode cX9_masterAt 9 = .ok (.getfield 10, 3) := by decide +kernel
theorem dX9_masterAt_12 : decode cX9_masterAt 12 = .ok (.getfield 56, 3) := by decide +kernel
theorem dX9_masterAt_15 : decode cX9_masterAt 15 = .ok (.iload_n 1, 1) := by decide +kernel
theorem dX9_masterAt_16 : decode cX9_masterAt 16 = .ok (.iload_n 2, 1) := by decide +kernel
theorem dX9_masterAt_17 : decode cX9_masterAt 17 = .ok (.invokevirtual 60, 3) := by decide +kernel
theorem dX9_masterAt_20 : decode cX9_masterAt 20 = .ok (.ireturn, 1) := by decide +kernel
theorem dX9_chosenMaster_0 : decode cX9_chosenMaster 0 = .ok (.aload_n 0, 1) := by decide +kernel
theorem dX9_chosenMaster_1 : decode cX9_chosenMaster 1 = .ok (.getfield 10, 3) := by decide +kernel
theorem dX9_chosenMaster_4 : decode cX9_chosenMaster 4 = .ok (.getfield 56, 3) := by decide +kernel
theorem dX9_chosenMaster_7 : decode cX9_chosenMaster 7 = .ok (.getfield 76, 3) := by decide +kernel
theorem dX9_chosenMaster_10 : decode cX9_chosenMaster 10 = .ok (.ireturn, 1) := by decide +kernel
theorem dX9_radius_0 : decode cX9_radius 0 = .ok (.aload_n 0, 1) := by decide +kernel
theorem dX9_radius_1 : decode cX9_radius 1 = .ok (.getfield 10, 3) := by decide +kernel
theorem dX9_radius_4 : decode cX9_radius 4 = .ok (.getfield 80, 3) := by decide +kernel
theorem dX9_radius_7 : decode cX9_radius 7 = .ok (.getfield 228, 3) := by decide +kernel
theorem dX9_radius_10 : decode cX9_radius 10 = .ok (.ireturn, 1) := by decide +kernel
theorem dX9_wear_0 : decode cX9_wear 0 = .ok (.aload_n 0, 1) := by decide +kernel
theorem dX9_wear_1 : decode cX9_wear 1 = .ok (.getfield 10, 3) := by decide +kernel
theorem dX9_wear_4 : decode cX9_wear 4 = .ok (.getfield 80, 3) := by decide +kernel
theorem dX9_wear_7 : decode cX9_wear 7 = .ok (.getfield 84, 3) := by decide +kernel
theorem dX9_wear_10 : decode cX9_wear 10 = .ok (.ireturn, 1) := by decide +kernel
theorem dX9_offset_0 : decode cX9_offset 0 = .ok (.aload_n 0, 1) := by decide +kernel
theorem dX9_offset_1 : decode cX9_offset 1 = .ok (.getfield 10, 3) := by decide +kernel
theorem dX9_offset_4 : decode cX9_offset 4 = .ok (.getfield 80, 3) := by decide +kernel
theorem dX9_offset_7 : decode cX9_offset 7 = .ok (.getfield 92, 3) := by decide +kernel
theorem dX9_offset_10 : decode cX9_offset 10 = .ok (.ireturn, 1) := by decide +kernel
theorem dX9_sharpness_0 : decode cX9_sharpness 0 = .ok (.aload_n 0, 1) := by decide +kernel
theorem dX9_sharpness_1 : decode cX9_sharpness 1 = .ok (.getfield 10, 3) := by decide +kernel
theorem dX9_sharpness_4 : decode cX9_sharpness 4 = .ok (.getfield 95, 3) := by decide +kernel
theorem dX9_sharpness_7 : decode cX9_sharpness 7 = .ok (.getfield 99, 3) := by decide +kernel
theorem dX9_sharpness_10 : decode cX9_sharpness 10 = .ok (.ireturn, 1) := by decide +kernel
theorem dX9_depth_0 : decode cX9_depth 0 = .ok (.aload_n 0, 1) := by decide +kernel
theorem dX9_depth_1 : decode cX9_depth 1 = .ok (.getfield 10, 3) := by decide +kernel
theorem dX9_depth_4 : decode cX9_depth 4 = .ok (.getfield 95, 3) := by decide +kernel
theorem dX9_depth_7 : decode cX9_depth 7 = .ok (.getfield 113, 3) := by decide +kernel
theorem dX9_depth_10 : decode cX9_depth 10 = .ok (.ireturn, 1) := by decide +kernel
theorem dX9_cutDepth_0 : decode cX9_cutDepth 0 = .ok (.aload_n 0, 1) := by decide +kernel
theorem dX9_cutDepth_1 : decode cX9_cutDepth 1 = .ok (.getfield 10, 3) := by decide +kernel
theorem dX9_cutDepth_4 : decode cX9_cutDepth 4 = .ok (.getfield 95, 3) := by decide +kernel
theorem dX9_cutDepth_7 : decode cX9_cutDepth 7 = .ok (.invokevirtual 231, 3) := by decide +kernel
theorem dX9_cutDepth_10 : decode cX9_cutDepth 10 = .ok (.ireturn, 1) := by decide +kernel
theorem dX9_speed_0 : decode cX9_speed 0 = .ok (.aload_n 0, 1) := by decide +kernel
theorem dX9_speed_1 : decode cX9_speed 1 = .ok (.getfield 10, 3) := by decide +kernel
theorem dX9_speed_4 : decode cX9_speed 4 = .ok (.getfield 95, 3) := by decide +kernel
theorem dX9_speed_7 : decode cX9_speed 7 = .ok (.getfield 116, 3) := by decide +kernel
theorem dX9_speed_10 : decode cX9_speed 10 = .ok (.ireturn, 1) := by decide +kernel
theorem dX9_tolerance_0 : decode cX9_tolerance 0 = .ok (.aload_n 0, 1) := by decide +kernel
theorem dX9_tolerance_1 : decode cX9_tolerance 1 = .ok (.getfield 10, 3) := by decide +kernel
theorem dX9_tolerance_4 : decode cX9_tolerance 4 = .ok (.getfield 119, 3) := by decide +kernel
theorem dX9_tolerance_7 : decode cX9_tolerance 7 = .ok (.ireturn, 1) := by decide +kernel
theorem dX9_chips_0 : decode cX9_chips 0 = .ok (.aload_n 0, 1) := by decide +kernel
theorem dX9_chips_1 : decode cX9_chips 1 = .ok (.getfield 10, 3) := by decide +kernel
theorem dX9_chips_4 : decode cX9_chips 4 = .ok (.getfield 122, 3) := by decide +kernel
theorem dX9_chips_7 : decode cX9_chips 7 = .ok (.ireturn, 1) := by decide +kernel
theorem dX9_roomForChips_0 : decode cX9_roomForChips 0 = .ok (.sipush 200, 3) := by decide +kernel
theorem dX9_roomForChips_3 : decode cX9_roomForChips 3 = .ok (.aload_n 0, 1) := by decide +kernel
theorem dX9_roomForChips_4 : decode cX9_roomForChips 4 = .ok (.getfield 10, 3) := by decide +kernel
theorem dX9_roomForChips_7 : decode cX9_roomForChips 7 = .ok (.getfield 122, 3) := by decide +kernel
theorem dX9_roomForChips_10 : decode cX9_roomForChips 10 = .ok (.isub, 1) := by decide +kernel
theorem dX9_roomForChips_11 : decode cX9_roomForChips 11 = .ok (.ireturn, 1) := by decide +kernel
theorem dX9_isJammed_0 : decode cX9_isJammed 0 = .ok (.aload_n 0, 1) := by decide +kernel
theorem dX9_isJammed_1 : decode cX9_isJammed 1 = .ok (.getfield 10, 3) := by decide +kernel
theorem dX9_isJammed_4 : decode cX9_isJammed 4 = .ok (.getfield 125, 3) := by decide +kernel
theorem dX9_isJammed_7 : decode cX9_isJammed 7 = .ok (.ireturn, 1) := by decide +kernel
theorem dX9_pieces_0 : decode cX9_pieces 0 = .ok (.aload_n 0, 1) := by decide +kernel
theorem dX9_pieces_1 : decode cX9_pieces 1 = .ok (.getfield 10, 3) := by decide +kernel
theorem dX9_pieces_4 : decode cX9_pieces 4 = .ok (.getfield 133, 3) := by decide +kernel
theorem dX9_pieces_7 : decode cX9_pieces 7 = .ok (.getfield 137, 3) := by decide +kernel
theorem dX9_pieces_10 : decode cX9_pieces 10 = .ok (.ireturn, 1) := by decide +kernel
theorem dX9_woodOf_0 : decode cX9_woodOf 0 = .ok (.aload_n 0, 1) := by decide +kernel
theorem dX9_woodOf_1 : decode cX9_woodOf 1 = .ok (.iload_n 1, 1) := by decide +kernel
theorem dX9_woodOf_2 : decode cX9_woodOf 2 = .ok (.invokevirtual 149, 3) := by decide +kernel
theorem dX9_woodOf_5 : decode cX9_woodOf 5 = .ok (.aload_n 0, 1) := by decide +kernel
theorem dX9_woodOf_6 : decode cX9_woodOf 6 = .ok (.getfield 10, 3) := by decide +kernel
theorem dX9_woodOf_9 : decode cX9_woodOf 9 = .ok (.getfield 133, 3) := by decide +kernel
theorem dX9_woodOf_12 : decode cX9_woodOf 12 = .ok (.getfield 234, 3) := by decide +kernel
theorem dX9_woodOf_15 : decode cX9_woodOf 15 = .ok (.iload_n 1, 1) := by decide +kernel
theorem dX9_woodOf_16 : decode cX9_woodOf 16 = .ok (.invokevirtual 204, 3) := by decide +kernel
theorem dX9_woodOf_19 : decode cX9_woodOf 19 = .ok (.ireturn, 1) := by decide +kernel
theorem dX9_diameterAt_0 : decode cX9_diameterAt 0 = .ok (.aload_n 0, 1) := by decide +kernel
theorem dX9_diameterAt_1 : decode cX9_diameterAt 1 = .ok (.iload_n 1, 1) := by decide +kernel
theorem dX9_diameterAt_2 : decode cX9_diameterAt 2 = .ok (.invokevirtual 149, 3) := by decide +kernel
theorem dX9_diameterAt_5 : decode cX9_diameterAt 5 = .ok (.iload_n 2, 1) := by decide +kernel
theorem dX9_diameterAt_6 : decode cX9_diameterAt 6 = .ok (.invokestatic 45, 3) := by decide +kernel
theorem dX9_diameterAt_9 : decode cX9_diameterAt 9 = .ok (.aload_n 0, 1) := by decide +kernel
theorem dX9_diameterAt_10 : decode cX9_diameterAt 10 = .ok (.getfield 10, 3) := by decide +kernel
theorem dX9_diameterAt_13 : decode cX9_diameterAt 13 = .ok (.getfield 133, 3) := by decide +kernel
theorem dX9_diameterAt_16 : decode cX9_diameterAt 16 = .ok (.iload_n 1, 1) := by decide +kernel
theorem dX9_diameterAt_17 : decode cX9_diameterAt 17 = .ok (.iload_n 2, 1) := by decide +kernel
theorem dX9_diameterAt_18 : decode cX9_diameterAt 18 = .ok (.invokevirtual 237, 3) := by decide +kernel
theorem dX9_diameterAt_21 : decode cX9_diameterAt 21 = .ok (.ireturn, 1) := by decide +kernel
theorem dX9_passesOn_0 : decode cX9_passesOn 0 = .ok (.aload_n 0, 1) := by decide +kernel
theorem dX9_passesOn_1 : decode cX9_passesOn 1 = .ok (.iload_n 1, 1) := by decide +kernel
theorem dX9_passesOn_2 : decode cX9_passesOn 2 = .ok (.invokevirtual 149, 3) := by decide +kernel
theorem dX9_passesOn_5 : decode cX9_passesOn 5 = .ok (.aload_n 0, 1) := by decide +kernel
theorem dX9_passesOn_6 : decode cX9_passesOn 6 = .ok (.getfield 10, 3) := by decide +kernel
theorem dX9_passesOn_9 : decode cX9_passesOn 9 = .ok (.getfield 133, 3) := by decide +kernel
theorem dX9_passesOn_12 : decode cX9_passesOn 12 = .ok (.getfield 238, 3) := by decide +kernel
theorem dX9_passesOn_15 : decode cX9_passesOn 15 = .ok (.iload_n 1, 1) := by decide +kernel
theorem dX9_passesOn_16 : decode cX9_passesOn 16 = .ok (.invokevirtual 204, 3) := by decide +kernel
theorem dX9_passesOn_19 : decode cX9_passesOn 19 = .ok (.ireturn, 1) := by decide +kernel
theorem dX9_hasMounted_0 : decode cX9_hasMounted 0 = .ok (.aload_n 0, 1) := by decide +kernel
theorem dX9_hasMounted_1 : decode cX9_hasMounted 1 = .ok (.getfield 10, 3) := by decide +kernel
theorem dX9_hasMounted_4 : decode cX9_hasMounted 4 = .ok (.getfield 133, 3) := by decide +kernel
theorem dX9_hasMounted_7 : decode cX9_hasMounted 7 = .ok (.invokevirtual 161, 3) := by decide +kernel
theorem dX9_hasMounted_10 : decode cX9_hasMounted 10 = .ok (.ireturn, 1) := by decide +kernel
theorem dX9_mounted_0 : decode cX9_mounted 0 = .ok (.aload_n 0, 1) := by decide +kernel
theorem dX9_mounted_1 : decode cX9_mounted 1 = .ok (.invokevirtual 165, 3) := by decide +kernel
theorem dX9_mounted_4 : decode cX9_mounted 4 = .ok (.aload_n 0, 1) := by decide +kernel
theorem dX9_mounted_5 : decode cX9_mounted 5 = .ok (.getfield 10, 3) := by decide +kernel
theorem dX9_mounted_8 : decode cX9_mounted 8 = .ok (.getfield 133, 3) := by decide +kernel
theorem dX9_mounted_11 : decode cX9_mounted 11 = .ok (.getfield 152, 3) := by decide +kernel
theorem dX9_mounted_14 : decode cX9_mounted 14 = .ok (.ireturn, 1) := by decide +kernel
theorem dX9_priceOf_0 : decode cX9_priceOf 0 = .ok (.aload_n 0, 1) := by decide +kernel
theorem dX9_priceOf_1 : decode cX9_priceOf 1 = .ok (.iload_n 1, 1) := by decide +kernel
theorem dX9_priceOf_2 : decode cX9_priceOf 2 = .ok (.invokevirtual 149, 3) := by decide +kernel
theorem dX9_priceOf_5 : decode cX9_priceOf 5 = .ok (.aload_n 0, 1) := by decide +kernel
theorem dX9_priceOf_6 : decode cX9_priceOf 6 = .ok (.getfield 10, 3) := by decide +kernel
theorem dX9_priceOf_9 : decode cX9_priceOf 9 = .ok (.getfield 133, 3) := by decide +kernel
theorem dX9_priceOf_12 : decode cX9_priceOf 12 = .ok (.iload_n 1, 1) := by decide +kernel
theorem dX9_priceOf_13 : decode cX9_priceOf 13 = .ok (.invokevirtual 241, 3) := by decide +kernel
theorem dX9_priceOf_16 : decode cX9_priceOf 16 = .ok (.ireturn, 1) := by decide +kernel
theorem dX9_passes_0 : decode cX9_passes 0 = .ok (.aload_n 0, 1) := by decide +kernel
theorem dX9_passes_1 : decode cX9_passes 1 = .ok (.getfield 10, 3) := by decide +kernel
theorem dX9_passes_4 : decode cX9_passes 4 = .ok (.getfield 104, 3) := by decide +kernel
theorem dX9_passes_7 : decode cX9_passes 7 = .ok (.getfield 244, 3) := by decide +kernel
theorem dX9_passes_10 : decode cX9_passes 10 = .ok (.ireturn, 1) := by decide +kernel
theorem dX9_woodTaken_0 : decode cX9_woodTaken 0 = .ok (.aload_n 0, 1) := by decide +kernel
theorem dX9_woodTaken_1 : decode cX9_woodTaken 1 = .ok (.getfield 10, 3) := by decide +kernel
theorem dX9_woodTaken_4 : decode cX9_woodTaken 4 = .ok (.getfield 104, 3) := by decide +kernel
theorem dX9_woodTaken_7 : decode cX9_woodTaken 7 = .ok (.getfield 247, 3) := by decide +kernel
theorem dX9_woodTaken_10 : decode cX9_woodTaken 10 = .ok (.ireturn, 1) := by decide +kernel
theorem dX9_sharpenings_0 : decode cX9_sharpenings 0 = .ok (.aload_n 0, 1) := by decide +kernel
theorem dX9_sharpenings_1 : decode cX9_sharpenings 1 = .ok (.getfield 10, 3) := by decide +kernel
theorem dX9_sharpenings_4 : decode cX9_sharpenings 4 = .ok (.getfield 104, 3) := by decide +kernel
theorem dX9_sharpenings_7 : decode cX9_sharpenings 7 = .ok (.getfield 108, 3) := by decide +kernel
theorem dX9_sharpenings_10 : decode cX9_sharpenings 10 = .ok (.ireturn, 1) := by decide +kernel
theorem dX9_jams_0 : decode cX9_jams 0 = .ok (.aload_n 0, 1) := by decide +kernel
theorem dX9_jams_1 : decode cX9_jams 1 = .ok (.getfield 10, 3) := by decide +kernel
theorem dX9_jams_4 : decode cX9_jams 4 = .ok (.getfield 104, 3) := by decide +kernel
theorem dX9_jams_7 : decode cX9_jams 7 = .ok (.getfield 250, 3) := by decide +kernel
theorem dX9_jams_10 : decode cX9_jams 10 = .ok (.ireturn, 1) := by decide +kernel
theorem dX9_burnt_0 : decode cX9_burnt 0 = .ok (.aload_n 0, 1) := by decide +kernel
theorem dX9_burnt_1 : decode cX9_burnt 1 = .ok (.getfield 10, 3) := by decide +kernel
theorem dX9_burnt_4 : decode cX9_burnt 4 = .ok (.getfield 104, 3) := by decide +kernel
theorem dX9_burnt_7 : decode cX9_burnt 7 = .ok (.getfield 158, 3) := by decide +kernel
theorem dX9_burnt_10 : decode cX9_burnt 10 = .ok (.ireturn, 1) := by decide +kernel
theorem dX9_readingByLooking_0 : decode cX9_readingByLooking 0 = .ok (.iload_n 1, 1) := by decide +kernel
theorem dX9_readingByLooking_1 : decode cX9_readingByLooking 1 = .ok (.invokestatic 45, 3) := by decide +kernel
theorem dX9_readingByLooking_4 : decode cX9_readingByLooking 4 = .ok (.aload_n 0, 1) := by decide +kernel
theorem dX9_readingByLooking_5 : decode cX9_readingByLooking 5 = .ok (.getfield 10, 3) := by decide +kernel
theorem dX9_readingByLooking_8 : decode cX9_readingByLooking 8 = .ok (.iload_n 1, 1) := by decide +kernel
theorem dX9_readingByLooking_9 : decode cX9_readingByLooking 9 = .ok (.invokevirtual 253, 3) := by decide +kernel
theorem dX9_readingByLooking_12 : decode cX9_readingByLooking 12 = .ok (.ireturn, 1) := by decide +kernel
theorem dX9_readingByQueue_0 : decode cX9_readingByQueue 0 = .ok (.iload_n 1, 1) := by decide +kernel
theorem dX9_readingByQueue_1 : decode cX9_readingByQueue 1 = .ok (.invokestatic 45, 3) := by decide +kernel
theorem dX9_readingByQueue_4 : decode cX9_readingByQueue 4 = .ok (.aload_n 0, 1) := by decide +kernel
theorem dX9_readingByQueue_5 : decode cX9_readingByQueue 5 = .ok (.iload_n 1, 1) := by decide +kernel
theorem dX9_readingByQueue_6 : decode cX9_readingByQueue 6 = .ok (.invokevirtual 256, 3) := by decide +kernel
theorem dX9_readingByQueue_9 : decode cX9_readingByQueue 9 = .ok (.ireturn, 1) := by decide +kernel
theorem dX9_targetAt_0 : decode cX9_targetAt 0 = .ok (.iload_n 1, 1) := by decide +kernel
theorem dX9_targetAt_1 : decode cX9_targetAt 1 = .ok (.invokestatic 45, 3) := by decide +kernel
theorem dX9_targetAt_4 : decode cX9_targetAt 4 = .ok (.aload_n 0, 1) := by decide +kernel
theorem dX9_targetAt_5 : decode cX9_targetAt 5 = .ok (.getfield 10, 3) := by decide +kernel
theorem dX9_targetAt_8 : decode cX9_targetAt 8 = .ok (.iload_n 1, 1) := by decide +kernel
theorem dX9_targetAt_9 : decode cX9_targetAt 9 = .ok (.invokevirtual 259, 3) := by decide +kernel
theorem dX9_targetAt_12 : decode cX9_targetAt 12 = .ok (.ireturn, 1) := by decide +kernel
theorem dX9_lostGrooves_0 : decode cX9_lostGrooves 0 = .ok (.iconst 0, 1) := by decide +kernel
theorem dX9_lostGrooves_1 : decode cX9_lostGrooves 1 = .ok (.istore_n 1, 1) := by decide +kernel
theorem dX9_lostGrooves_2 : decode cX9_lostGrooves 2 = .ok (.iconst 0, 1) := by decide +kernel
theorem dX9_lostGrooves_3 : decode cX9_lostGrooves 3 = .ok (.istore_n 2, 1) := by decide +kernel
theorem dX9_lostGrooves_4 : decode cX9_lostGrooves 4 = .ok (.iload_n 2, 1) := by decide +kernel
theorem dX9_lostGrooves_5 : decode cX9_lostGrooves 5 = .ok (.bipush 16, 2) := by decide +kernel
theorem dX9_lostGrooves_7 : decode cX9_lostGrooves 7 = .ok (.if_icmp .ge 34, 3) := by decide +kernel
theorem dX9_lostGrooves_10 : decode cX9_lostGrooves 10 = .ok (.aload_n 0, 1) := by decide +kernel
theorem dX9_lostGrooves_11 : decode cX9_lostGrooves 11 = .ok (.getfield 10, 3) := by decide +kernel
theorem dX9_lostGrooves_14 : decode cX9_lostGrooves 14 = .ok (.iload_n 2, 1) := by decide +kernel
theorem dX9_lostGrooves_15 : decode cX9_lostGrooves 15 = .ok (.invokevirtual 253, 3) := by decide +kernel
theorem dX9_lostGrooves_18 : decode cX9_lostGrooves 18 = .ok (.aload_n 0, 1) := by decide +kernel
theorem dX9_lostGrooves_19 : decode cX9_lostGrooves 19 = .ok (.getfield 10, 3) := by decide +kernel
theorem dX9_lostGrooves_22 : decode cX9_lostGrooves 22 = .ok (.getfield 56, 3) := by decide +kernel
theorem dX9_lostGrooves_25 : decode cX9_lostGrooves 25 = .ok (.iload_n 2, 1) := by decide +kernel
theorem dX9_lostGrooves_26 : decode cX9_lostGrooves 26 = .ok (.invokevirtual 262, 3) := by decide +kernel
theorem dX9_lostGrooves_29 : decode cX9_lostGrooves 29 = .ok (.if_icmp .le 6, 3) := by decide +kernel
theorem dX9_lostGrooves_32 : decode cX9_lostGrooves 32 = .ok (.iinc 1 1, 3) := by decide +kernel
theorem dX9_lostGrooves_35 : decode cX9_lostGrooves 35 = .ok (.iinc 2 1, 3) := by decide +kernel
theorem dX9_lostGrooves_38 : decode cX9_lostGrooves 38 = .ok (.goto (-34), 3) := by decide +kernel
theorem dX9_lostGrooves_41 : decode cX9_lostGrooves 41 = .ok (.iload_n 1, 1) := by decide +kernel
theorem dX9_lostGrooves_42 : decode cX9_lostGrooves 42 = .ok (.ireturn, 1) := by decide +kernel
theorem dX9_slimmestMaster_0 : decode cX9_slimmestMaster 0 = .ok (.iconst 0, 1) := by decide +kernel
theorem dX9_slimmestMaster_1 : decode cX9_slimmestMaster 1 = .ok (.istore_n 1, 1) := by decide +kernel
theorem dX9_slimmestMaster_2 : decode cX9_slimmestMaster 2 = .ok (.iconst 1, 1) := by decide +kernel
theorem dX9_slimmestMaster_3 : decode cX9_slimmestMaster 3 = .ok (.istore_n 2, 1) := by decide +kernel
theorem dX9_slimmestMaster_4 : decode cX9_slimmestMaster 4 = .ok (.iload_n 2, 1) := by decide +kernel
theorem dX9_slimmestMaster_5 : decode cX9_slimmestMaster 5 = .ok (.iconst 3, 1) := by decide +kernel
theorem dX9_slimmestMaster_6 : decode cX9_slimmestMaster 6 = .ok (.if_icmp .ge 36, 3) := by decide +kernel
theorem dX9_slimmestMaster_9 : decode cX9_slimmestMaster 9 = .ok (.aload_n 0, 1) := by decide +kernel
theorem dX9_slimmestMaster_10 : decode cX9_slimmestMaster 10 = .ok (.getfield 10, 3) := by decide +kernel
theorem dX9_slimmestMaster_13 : decode cX9_slimmestMaster 13 = .ok (.getfield 56, 3) := by decide +kernel
theorem dX9_slimmestMaster_16 : decode cX9_slimmestMaster 16 = .ok (.iload_n 2, 1) := by decide +kernel
theorem dX9_slimmestMaster_17 : decode cX9_slimmestMaster 17 = .ok (.invokevirtual 265, 3) := by decide +kernel
theorem dX9_slimmestMaster_20 : decode cX9_slimmestMaster 20 = .ok (.aload_n 0, 1) := by decide +kernel
theorem dX9_slimmestMaster_21 : decode cX9_slimmestMaster 21 = .ok (.getfield 10, 3) := by decide +kernel
theorem dX9_slimmestMaster_24 : decode cX9_slimmestMaster 24 = .ok (.getfield 56, 3) := by decide +kernel
theorem dX9_slimmestMaster_27 : decode cX9_slimmestMaster 27 = .ok (.iload_n 1, 1) := by decide +kernel
theorem dX9_slimmestMaster_28 : decode cX9_slimmestMaster 28 = .ok (.invokevirtual 265, 3) := by decide +kernel
theorem dX9_slimmestMaster_31 : decode cX9_slimmestMaster 31 = .ok (.if_icmp .ge 5, 3) := by decide +kernel
theorem dX9_slimmestMaster_34 : decode cX9_slimmestMaster 34 = .ok (.iload_n 2, 1) := by decide +kernel
theorem dX9_slimmestMaster_35 : decode cX9_slimmestMaster 35 = .ok (.istore_n 1, 1) := by decide +kernel
theorem dX9_slimmestMaster_36 : decode cX9_slimmestMaster 36 = .ok (.iinc 2 1, 3) := by decide +kernel
theorem dX9_slimmestMaster_39 : decode cX9_slimmestMaster 39 = .ok (.goto (-35), 3) := by decide +kernel
theorem dX9_slimmestMaster_42 : decode cX9_slimmestMaster 42 = .ok (.iload_n 1, 1) := by decide +kernel
theorem dX9_slimmestMaster_43 : decode cX9_slimmestMaster 43 = .ok (.ireturn, 1) := by decide +kernel
theorem dX9_tooThick_0 : decode cX9_tooThick 0 = .ok (.aload_n 0, 1) := by decide +kernel
theorem dX9_tooThick_1 : decode cX9_tooThick 1 = .ok (.iload_n 1, 1) := by decide +kernel
theorem dX9_tooThick_2 : decode cX9_tooThick 2 = .ok (.invokevirtual 149, 3) := by decide +kernel
theorem dX9_tooThick_5 : decode cX9_tooThick 5 = .ok (.iconst 0, 1) := by decide +kernel
theorem dX9_tooThick_6 : decode cX9_tooThick 6 = .ok (.istore_n 2, 1) := by decide +kernel
theorem dX9_tooThick_7 : decode cX9_tooThick 7 = .ok (.iconst 0, 1) := by decide +kernel
theorem dX9_tooThick_8 : decode cX9_tooThick 8 = .ok (.istore_n 3, 1) := by decide +kernel
theorem dX9_tooThick_9 : decode cX9_tooThick 9 = .ok (.iload_n 3, 1) := by decide +kernel
theorem dX9_tooThick_10 : decode cX9_tooThick 10 = .ok (.bipush 16, 2) := by decide +kernel
theorem dX9_tooThick_12 : decode cX9_tooThick 12 = .ok (.if_icmp .ge 33, 3) := by decide +kernel
theorem dX9_tooThick_15 : decode cX9_tooThick 15 = .ok (.iload_n 2, 1) := by decide +kernel
theorem dX9_tooThick_16 : decode cX9_tooThick 16 = .ok (.aload_n 0, 1) := by decide +kernel
theorem dX9_tooThick_17 : decode cX9_tooThick 17 = .ok (.getfield 10, 3) := by decide +kernel
theorem dX9_tooThick_20 : decode cX9_tooThick 20 = .ok (.iload_n 1, 1) := by decide +kernel
theorem dX9_tooThick_21 : decode cX9_tooThick 21 = .ok (.aload_n 0, 1) := by decide +kernel
theorem dX9_tooThick_22 : decode cX9_tooThick 22 = .ok (.getfield 10, 3) := by decide +kernel
theorem dX9_tooThick_25 : decode cX9_tooThick 25 = .ok (.getfield 56, 3) := by decide +kernel
theorem dX9_tooThick_28 : decode cX9_tooThick 28 = .ok (.getfield 76, 3) := by decide +kernel
theorem dX9_tooThick_31 : decode cX9_tooThick 31 = .ok (.iload_n 3, 1) := by decide +kernel
theorem dX9_tooThick_32 : decode cX9_tooThick 32 = .ok (.invokevirtual 268, 3) := by decide +kernel
theorem dX9_tooThick_35 : decode cX9_tooThick 35 = .ok (.invokestatic 272, 3) := by decide +kernel
theorem dX9_tooThick_38 : decode cX9_tooThick 38 = .ok (.istore_n 2, 1) := by decide +kernel
theorem dX9_tooThick_39 : decode cX9_tooThick 39 = .ok (.iinc 3 1, 3) := by decide +kernel
theorem dX9_tooThick_42 : decode cX9_tooThick 42 = .ok (.goto (-33), 3) := by decide +kernel
theorem dX9_tooThick_45 : decode cX9_tooThick 45 = .ok (.iload_n 2, 1) := by decide +kernel
theorem dX9_tooThick_46 : decode cX9_tooThick 46 = .ok (.ireturn, 1) := by decide +kernel
theorem dX9_tooThin_0 : decode cX9_tooThin 0 = .ok (.aload_n 0, 1) := by decide +kernel
theorem dX9_tooThin_1 : decode cX9_tooThin 1 = .ok (.iload_n 1, 1) := by decide +kernel
theorem dX9_tooThin_2 : decode cX9_tooThin 2 = .ok (.invokevirtual 149, 3) := by decide +kernel
theorem dX9_tooThin_5 : decode cX9_tooThin 5 = .ok (.iconst 0, 1) := by decide +kernel
theorem dX9_tooThin_6 : decode cX9_tooThin 6 = .ok (.istore_n 2, 1) := by decide +kernel
theorem dX9_tooThin_7 : decode cX9_tooThin 7 = .ok (.iconst 0, 1) := by decide +kernel
theorem dX9_tooThin_8 : decode cX9_tooThin 8 = .ok (.istore_n 3, 1) := by decide +kernel
theorem dX9_tooThin_9 : decode cX9_tooThin 9 = .ok (.iload_n 3, 1) := by decide +kernel
theorem dX9_tooThin_10 : decode cX9_tooThin 10 = .ok (.bipush 16, 2) := by decide +kernel
theorem dX9_tooThin_12 : decode cX9_tooThin 12 = .ok (.if_icmp .ge 34, 3) := by decide +kernel
theorem dX9_tooThin_15 : decode cX9_tooThin 15 = .ok (.iload_n 2, 1) := by decide +kernel
theorem dX9_tooThin_16 : decode cX9_tooThin 16 = .ok (.aload_n 0, 1) := by decide +kernel
theorem dX9_tooThin_17 : decode cX9_tooThin 17 = .ok (.getfield 10, 3) := by decide +kernel
theorem dX9_tooThin_20 : decode cX9_tooThin 20 = .ok (.iload_n 1, 1) := by decide +kernel
theorem dX9_tooThin_21 : decode cX9_tooThin 21 = .ok (.aload_n 0, 1) := by decide +kernel
theorem dX9_tooThin_22 : decode cX9_tooThin 22 = .ok (.getfield 10, 3) := by decide +kernel
theorem dX9_tooThin_25 : decode cX9_tooThin 25 = .ok (.getfield 56, 3) := by decide +kernel
theorem dX9_tooThin_28 : decode cX9_tooThin 28 = .ok (.getfield 76, 3) := by decide +kernel
theorem dX9_tooThin_31 : decode cX9_tooThin 31 = .ok (.iload_n 3, 1) := by decide +kernel
theorem dX9_tooThin_32 : decode cX9_tooThin 32 = .ok (.invokevirtual 268, 3) := by decide +kernel
theorem dX9_tooThin_35 : decode cX9_tooThin 35 = .ok (.ineg, 1) := by decide +kernel
theorem dX9_tooThin_36 : decode cX9_tooThin 36 = .ok (.invokestatic 272, 3) := by decide +kernel
theorem dX9_tooThin_39 : decode cX9_tooThin 39 = .ok (.istore_n 2, 1) := by decide +kernel
theorem dX9_tooThin_40 : decode cX9_tooThin 40 = .ok (.iinc 3 1, 3) := by decide +kernel
theorem dX9_tooThin_43 : decode cX9_tooThin 43 = .ok (.goto (-34), 3) := by decide +kernel
theorem dX9_tooThin_46 : decode cX9_tooThin 46 = .ok (.iload_n 2, 1) := by decide +kernel
theorem dX9_tooThin_47 : decode cX9_tooThin 47 = .ok (.ireturn, 1) := by decide +kernel
theorem dX9_faultsOf_0 : decode cX9_faultsOf 0 = .ok (.aload_n 0, 1) := by decide +kernel
theorem dX9_faultsOf_1 : decode cX9_faultsOf 1 = .ok (.iload_n 1, 1) := by decide +kernel
theorem dX9_faultsOf_2 : decode cX9_faultsOf 2 = .ok (.invokevirtual 149, 3) := by decide +kernel
theorem dX9_faultsOf_5 : decode cX9_faultsOf 5 = .ok (.aload_n 0, 1) := by decide +kernel
theorem dX9_faultsOf_6 : decode cX9_faultsOf 6 = .ok (.getfield 10, 3) := by decide +kernel
theorem dX9_faultsOf_9 : decode cX9_faultsOf 9 = .ok (.iload_n 1, 1) := by decide +kernel
theorem dX9_faultsOf_10 : decode cX9_faultsOf 10 = .ok (.invokevirtual 277, 3) := by decide +kernel
theorem dX9_faultsOf_13 : decode cX9_faultsOf 13 = .ok (.ireturn, 1) := by decide +kernel
theorem dX9_isGood_0 : decode cX9_isGood 0 = .ok (.aload_n 0, 1) := by decide +kernel
theorem dX9_isGood_1 : decode cX9_isGood 1 = .ok (.iload_n 1, 1) := by decide +kernel
theorem dX9_isGood_2 : decode cX9_isGood 2 = .ok (.invokevirtual 149, 3) := by decide +kernel
theorem dX9_isGood_5 : decode cX9_isGood 5 = .ok (.aload_n 0, 1) := by decide +kernel
theorem dX9_isGood_6 : decode cX9_isGood 6 = .ok (.getfield 10, 3) := by decide +kernel
theorem dX9_isGood_9 : decode cX9_isGood 9 = .ok (.iload_n 1, 1) := by decide +kernel
theorem dX9_isGood_10 : decode cX9_isGood 10 = .ok (.invokevirtual 277, 3) := by decide +kernel
theorem dX9_isGood_13 : decode cX9_isGood 13 = .ok (.ifCond .ne 7, 3) := by decide +kernel
theorem dX9_isGood_16 : decode cX9_isGood 16 = .ok (.iconst 1, 1) := by decide +kernel
theorem dX9_isGood_17 : decode cX9_isGood 17 = .ok (.goto 4, 3) := by decide +kernel
theorem dX9_isGood_20 : decode cX9_isGood 20 = .ok (.iconst 0, 1) := by decide +kernel
theorem dX9_isGood_21 : decode cX9_isGood 21 = .ok (.ireturn, 1) := by decide +kernel
theorem dX9_mostLike_0 : decode cX9_mostLike 0 = .ok (.aload_n 0, 1) := by decide +kernel
theorem dX9_mostLike_1 : decode cX9_mostLike 1 = .ok (.iload_n 1, 1) := by decide +kernel
theorem dX9_mostLike_2 : decode cX9_mostLike 2 = .ok (.invokevirtual 149, 3) := by decide +kernel
theorem dX9_mostLike_5 : decode cX9_mostLike 5 = .ok (.iconst 0, 1) := by decide +kernel
theorem dX9_mostLike_6 : decode cX9_mostLike 6 = .ok (.istore_n 2, 1) := by decide +kernel
theorem dX9_mostLike_7 : decode cX9_mostLike 7 = .ok (.iconst 1, 1) := by decide +kernel
theorem dX9_mostLike_8 : decode cX9_mostLike 8 = .ok (.istore_n 3, 1) := by decide +kernel
theorem dX9_mostLike_9 : decode cX9_mostLike 9 = .ok (.iload_n 3, 1) := by decide +kernel
theorem dX9_mostLike_10 : decode cX9_mostLike 10 = .ok (.iconst 3, 1) := by decide +kernel
theorem dX9_mostLike_11 : decode cX9_mostLike 11 = .ok (.if_icmp .ge 32, 3) := by decide +kernel
theorem dX9_mostLike_14 : decode cX9_mostLike 14 = .ok (.aload_n 0, 1) := by decide +kernel
theorem dX9_mostLike_15 : decode cX9_mostLike 15 = .ok (.getfield 10, 3) := by decide +kernel
theorem dX9_mostLike_18 : decode cX9_mostLike 18 = .ok (.iload_n 1, 1) := by decide +kernel
theorem dX9_mostLike_19 : decode cX9_mostLike 19 = .ok (.iload_n 3, 1) := by decide +kernel
theorem dX9_mostLike_20 : decode cX9_mostLike 20 = .ok (.invokevirtual 280, 3) := by decide +kernel
theorem dX9_mostLike_23 : decode cX9_mostLike 23 = .ok (.aload_n 0, 1) := by decide +kernel
theorem dX9_mostLike_24 : decode cX9_mostLike 24 = .ok (.getfield 10, 3) := by decide +kernel
theorem dX9_mostLike_27 : decode cX9_mostLike 27 = .ok (.iload_n 1, 1) := by decide +kernel
theorem dX9_mostLike_28 : decode cX9_mostLike 28 = .ok (.iload_n 2, 1) := by decide +kernel
theorem dX9_mostLike_29 : decode cX9_mostLike 29 = .ok (.invokevirtual 280, 3) := by decide +kernel
theorem dX9_mostLike_32 : decode cX9_mostLike 32 = .ok (.if_icmp .ge 5, 3) := by decide +kernel
theorem dX9_mostLike_35 : decode cX9_mostLike 35 = .ok (.iload_n 3, 1) := by decide +kernel
theorem dX9_mostLike_36 : decode cX9_mostLike 36 = .ok (.istore_n 2, 1) := by decide +kernel
theorem dX9_mostLike_37 : decode cX9_mostLike 37 = .ok (.iinc 3 1, 3) := by decide +kernel
theorem dX9_mostLike_40 : decode cX9_mostLike 40 = .ok (.goto (-31), 3) := by decide +kernel
theorem dX9_mostLike_43 : decode cX9_mostLike 43 = .ok (.iload_n 2, 1) := by decide +kernel
theorem dX9_mostLike_44 : decode cX9_mostLike 44 = .ok (.ireturn, 1) := by decide +kernel
theorem dX9_bestCopy_0 : decode cX9_bestCopy 0 = .ok (.aload_n 0, 1) := by decide +kernel
theorem dX9_bestCopy_1 : decode cX9_bestCopy 1 = .ok (.getfield 10, 3) := by decide +kernel
theorem dX9_bestCopy_4 : decode cX9_bestCopy 4 = .ok (.getfield 133, 3) := by decide +kernel
theorem dX9_bestCopy_7 : decode cX9_bestCopy 7 = .ok (.getfield 137, 3) := by decide +kernel
theorem dX9_bestCopy_10 : decode cX9_bestCopy 10 = .ok (.ifCond .le 7, 3) := by decide +kernel
theorem dX9_bestCopy_13 : decode cX9_bestCopy 13 = .ok (.iconst 1, 1) := by decide +kernel
theorem dX9_bestCopy_14 : decode cX9_bestCopy 14 = .ok (.goto 4, 3) := by decide +kernel
theorem dX9_bestCopy_17 : decode cX9_bestCopy 17 = .ok (.iconst 0, 1) := by decide +kernel
theorem dX9_bestCopy_18 : decode cX9_bestCopy 18 = .ok (.invokestatic 142, 3) := by decide +kernel
theorem dX9_bestCopy_21 : decode cX9_bestCopy 21 = .ok (.iconst 0, 1) := by decide +kernel
theorem dX9_bestCopy_22 : decode cX9_bestCopy 22 = .ok (.istore_n 1, 1) := by decide +kernel
theorem dX9_bestCopy_23 : decode cX9_bestCopy 23 = .ok (.iconst 1, 1) := by decide +kernel
theorem dX9_bestCopy_24 : decode cX9_bestCopy 24 = .ok (.istore_n 2, 1) := by decide +kernel
theorem dX9_bestCopy_25 : decode cX9_bestCopy 25 = .ok (.iload_n 2, 1) := by decide +kernel
theorem dX9_bestCopy_26 : decode cX9_bestCopy 26 = .ok (.aload_n 0, 1) := by decide +kernel
theorem dX9_bestCopy_27 : decode cX9_bestCopy 27 = .ok (.getfield 10, 3) := by decide +kernel
theorem dX9_bestCopy_30 : decode cX9_bestCopy 30 = .ok (.getfield 133, 3) := by decide +kernel
theorem dX9_bestCopy_33 : decode cX9_bestCopy 33 = .ok (.getfield 137, 3) := by decide +kernel
theorem dX9_bestCopy_36 : decode cX9_bestCopy 36 = .ok (.if_icmp .ge 23, 3) := by decide +kernel
theorem dX9_bestCopy_39 : decode cX9_bestCopy 39 = .ok (.aload_n 0, 1) := by decide +kernel
theorem dX9_bestCopy_40 : decode cX9_bestCopy 40 = .ok (.getfield 10, 3) := by decide +kernel
theorem dX9_bestCopy_43 : decode cX9_bestCopy 43 = .ok (.iload_n 2, 1) := by decide +kernel
theorem dX9_bestCopy_44 : decode cX9_bestCopy 44 = .ok (.iload_n 1, 1) := by decide +kernel
theorem dX9_bestCopy_45 : decode cX9_bestCopy 45 = .ok (.invokevirtual 283, 3) := by decide +kernel
theorem dX9_bestCopy_48 : decode cX9_bestCopy 48 = .ok (.ifCond .eq 5, 3) := by decide +kernel
theorem dX9_bestCopy_51 : decode cX9_bestCopy 51 = .ok (.iload_n 2, 1) := by decide +kernel
theorem dX9_bestCopy_52 : decode cX9_bestCopy 52 = .ok (.istore_n 1, 1) := by decide +kernel
theorem dX9_bestCopy_53 : decode cX9_bestCopy 53 = .ok (.iinc 2 1, 3) := by decide +kernel
theorem dX9_bestCopy_56 : decode cX9_bestCopy 56 = .ok (.goto (-31), 3) := by decide +kernel
theorem dX9_bestCopy_59 : decode cX9_bestCopy 59 = .ok (.iload_n 1, 1) := by decide +kernel
theorem dX9_bestCopy_60 : decode cX9_bestCopy 60 = .ok (.ireturn, 1) := by decide +kernel
theorem dX9_isFinished_0 : decode cX9_isFinished 0 = .ok (.aload_n 0, 1) := by decide +kernel
theorem dX9_isFinished_1 : decode cX9_isFinished 1 = .ok (.invokevirtual 165, 3) := by decide +kernel
theorem dX9_isFinished_4 : decode cX9_isFinished 4 = .ok (.aload_n 0, 1) := by decide +kernel
theorem dX9_isFinished_5 : decode cX9_isFinished 5 = .ok (.getfield 10, 3) := by decide +kernel
theorem dX9_isFinished_8 : decode cX9_isFinished 8 = .ok (.aload_n 0, 1) := by decide +kernel
theorem dX9_isFinished_9 : decode cX9_isFinished 9 = .ok (.getfield 10, 3) := by decide +kernel
theorem dX9_isFinished_12 : decode cX9_isFinished 12 = .ok (.getfield 133, 3) := by decide +kernel
theorem dX9_isFinished_15 : decode cX9_isFinished 15 = .ok (.getfield 152, 3) := by decide +kernel
theorem dX9_isFinished_18 : decode cX9_isFinished 18 = .ok (.invokevirtual 178, 3) := by decide +kernel
theorem dX9_isFinished_21 : decode cX9_isFinished 21 = .ok (.ifCond .ne 7, 3) := by decide +kernel
theorem dX9_isFinished_24 : decode cX9_isFinished 24 = .ok (.iconst 1, 1) := by decide +kernel
theorem dX9_isFinished_25 : decode cX9_isFinished 25 = .ok (.goto 4, 3) := by decide +kernel
theorem dX9_isFinished_28 : decode cX9_isFinished 28 = .ok (.iconst 0, 1) := by decide +kernel
theorem dX9_isFinished_29 : decode cX9_isFinished 29 = .ok (.ireturn, 1) := by decide +kernel
theorem dX9_ifPassed_0 : decode cX9_ifPassed 0 = .ok (.aload_n 0, 1) := by decide +kernel
theorem dX9_ifPassed_1 : decode cX9_ifPassed 1 = .ok (.invokevirtual 168, 3) := by decide +kernel
theorem dX9_ifPassed_4 : decode cX9_ifPassed 4 = .ok (.aload_n 0, 1) := by decide +kernel
theorem dX9_ifPassed_5 : decode cX9_ifPassed 5 = .ok (.getfield 10, 3) := by decide +kernel
theorem dX9_ifPassed_8 : decode cX9_ifPassed 8 = .ok (.invokevirtual 286, 3) := by decide +kernel
theorem dX9_ifPassed_11 : decode cX9_ifPassed 11 = .ok (.ireturn, 1) := by decide +kernel
theorem dX9_passesBySteps_0 : decode cX9_passesBySteps 0 = .ok (.aload_n 0, 1) := by decide +kernel
theorem dX9_passesBySteps_1 : decode cX9_passesBySteps 1 = .ok (.invokevirtual 165, 3) := by decide +kernel
theorem dX9_passesBySteps_4 : decode cX9_passesBySteps 4 = .ok (.aload_n 0, 1) := by decide +kernel
theorem dX9_passesBySteps_5 : decode cX9_passesBySteps 5 = .ok (.getfield 10, 3) := by decide +kernel
theorem dX9_passesBySteps_8 : decode cX9_passesBySteps 8 = .ok (.getfield 95, 3) := by decide +kernel
theorem dX9_passesBySteps_11 : decode cX9_passesBySteps 11 = .ok (.invokevirtual 289, 3) := by decide +kernel
theorem dX9_passesBySteps_14 : decode cX9_passesBySteps 14 = .ok (.invokestatic 142, 3) := by decide +kernel
theorem dX9_passesBySteps_17 : decode cX9_passesBySteps 17 = .ok (.aload_n 0, 1) := by decide +kernel
theorem dX9_passesBySteps_18 : decode cX9_passesBySteps 18 = .ok (.invokevirtual 292, 3) := by decide +kernel
theorem dX9_passesBySteps_21 : decode cX9_passesBySteps 21 = .ok (.ireturn, 1) := by decide +kernel
theorem dX9_passesByDivision_0 : decode cX9_passesByDivision 0 = .ok (.aload_n 0, 1) := by decide +kernel
theorem dX9_passesByDivision_1 : decode cX9_passesByDivision 1 = .ok (.invokevirtual 165, 3) := by decide +kernel
theorem dX9_passesByDivision_4 : decode cX9_passesByDivision 4 = .ok (.aload_n 0, 1) := by decide +kernel
theorem dX9_passesByDivision_5 : decode cX9_passesByDivision 5 = .ok (.getfield 10, 3) := by decide +kernel
theorem dX9_passesByDivision_8 : decode cX9_passesByDivision 8 = .ok (.getfield 95, 3) := by decide +kernel
theorem dX9_passesByDivision_11 : decode cX9_passesByDivision 11 = .ok (.invokevirtual 289, 3) := by decide +kernel
theorem dX9_passesByDivision_14 : decode cX9_passesByDivision 14 = .ok (.invokestatic 142, 3) := by decide +kernel
theorem dX9_passesByDivision_17 : decode cX9_passesByDivision 17 = .ok (.aload_n 0, 1) := by decide +kernel
theorem dX9_passesByDivision_18 : decode cX9_passesByDivision 18 = .ok (.getfield 10, 3) := by decide +kernel
theorem dX9_passesByDivision_21 : decode cX9_passesByDivision 21 = .ok (.aload_n 0, 1) := by decide +kernel
theorem dX9_passesByDivision_22 : decode cX9_passesByDivision 22 = .ok (.getfield 10, 3) := by decide +kernel
theorem dX9_passesByDivision_25 : decode cX9_passesByDivision 25 = .ok (.getfield 133, 3) := by decide +kernel
theorem dX9_passesByDivision_28 : decode cX9_passesByDivision 28 = .ok (.getfield 152, 3) := by decide +kernel
theorem dX9_passesByDivision_31 : decode cX9_passesByDivision 31 = .ok (.invokevirtual 178, 3) := by decide +kernel
theorem dX9_passesByDivision_34 : decode cX9_passesByDivision 34 = .ok (.aload_n 0, 1) := by decide +kernel
theorem dX9_passesByDivision_35 : decode cX9_passesByDivision 35 = .ok (.getfield 10, 3) := by decide +kernel
theorem dX9_passesByDivision_38 : decode cX9_passesByDivision 38 = .ok (.getfield 95, 3) := by decide +kernel
theorem dX9_passesByDivision_41 : decode cX9_passesByDivision 41 = .ok (.invokevirtual 231, 3) := by decide +kernel
theorem dX9_passesByDivision_44 : decode cX9_passesByDivision 44 = .ok (.invokestatic 295, 3) := by decide +kernel
theorem dX9_passesByDivision_47 : decode cX9_passesByDivision 47 = .ok (.ireturn, 1) := by decide +kernel
theorem dX9_passesUntilBlunt_0 : decode cX9_passesUntilBlunt 0 = .ok (.aload_n 0, 1) := by decide +kernel
theorem dX9_passesUntilBlunt_1 : decode cX9_passesUntilBlunt 1 = .ok (.invokevirtual 165, 3) := by decide +kernel
theorem dX9_passesUntilBlunt_4 : decode cX9_passesUntilBlunt 4 = .ok (.aload_n 0, 1) := by decide +kernel
theorem dX9_passesUntilBlunt_5 : decode cX9_passesUntilBlunt 5 = .ok (.getfield 10, 3) := by decide +kernel
theorem dX9_passesUntilBlunt_8 : decode cX9_passesUntilBlunt 8 = .ok (.getfield 95, 3) := by decide +kernel
theorem dX9_passesUntilBlunt_11 : decode cX9_passesUntilBlunt 11 = .ok (.getfield 99, 3) := by decide +kernel
theorem dX9_passesUntilBlunt_14 : decode cX9_passesUntilBlunt 14 = .ok (.aload_n 0, 1) := by decide +kernel
theorem dX9_passesUntilBlunt_15 : decode cX9_passesUntilBlunt 15 = .ok (.getfield 10, 3) := by decide +kernel
theorem dX9_passesUntilBlunt_18 : decode cX9_passesUntilBlunt 18 = .ok (.invokevirtual 298, 3) := by decide +kernel
theorem dX9_passesUntilBlunt_21 : decode cX9_passesUntilBlunt 21 = .ok (.invokestatic 295, 3) := by decide +kernel
theorem dX9_passesUntilBlunt_24 : decode cX9_passesUntilBlunt 24 = .ok (.ireturn, 1) := by decide +kernel
theorem dX9_chipsOf_0 : decode cX9_chipsOf 0 = .ok (.aload_n 0, 1) := by decide +kernel
theorem dX9_chipsOf_1 : decode cX9_chipsOf 1 = .ok (.iload_n 1, 1) := by decide +kernel
theorem dX9_chipsOf_2 : decode cX9_chipsOf 2 = .ok (.invokevirtual 149, 3) := by decide +kernel
theorem dX9_chipsOf_5 : decode cX9_chipsOf 5 = .ok (.aload_n 0, 1) := by decide +kernel
theorem dX9_chipsOf_6 : decode cX9_chipsOf 6 = .ok (.getfield 10, 3) := by decide +kernel
theorem dX9_chipsOf_9 : decode cX9_chipsOf 9 = .ok (.iload_n 1, 1) := by decide +kernel
theorem dX9_chipsOf_10 : decode cX9_chipsOf 10 = .ok (.invokevirtual 301, 3) := by decide +kernel
theorem dX9_chipsOf_13 : decode cX9_chipsOf 13 = .ok (.ireturn, 1) := by decide +kernel
theorem dX9_meanDiameter_0 : decode cX9_meanDiameter 0 = .ok (.aload_n 0, 1) := by decide +kernel
theorem dX9_meanDiameter_1 : decode cX9_meanDiameter 1 = .ok (.iload_n 1, 1) := by decide +kernel
theorem dX9_meanDiameter_2 : decode cX9_meanDiameter 2 = .ok (.invokevirtual 149, 3) := by decide +kernel
theorem dX9_meanDiameter_5 : decode cX9_meanDiameter 5 = .ok (.aload_n 0, 1) := by decide +kernel
theorem dX9_meanDiameter_6 : decode cX9_meanDiameter 6 = .ok (.getfield 10, 3) := by decide +kernel
theorem dX9_meanDiameter_9 : decode cX9_meanDiameter 9 = .ok (.getfield 133, 3) := by decide +kernel
theorem dX9_meanDiameter_12 : decode cX9_meanDiameter 12 = .ok (.iload_n 1, 1) := by decide +kernel
theorem dX9_meanDiameter_13 : decode cX9_meanDiameter 13 = .ok (.invokevirtual 304, 3) := by decide +kernel
theorem dX9_meanDiameter_16 : decode cX9_meanDiameter 16 = .ok (.i2d, 1) := by decide +kernel
theorem dX9_meanDiameter_17 : decode cX9_meanDiameter 17 = .ok (.ldc2_w 305, 3) := by decide +kernel
theorem dX9_meanDiameter_20 : decode cX9_meanDiameter 20 = .ok (.ddiv, 1) := by decide +kernel
theorem dX9_meanDiameter_21 : decode cX9_meanDiameter 21 = .ok (.dreturn, 1) := by decide +kernel
theorem dX9_digest_0 : decode cX9_digest 0 = .ok (.aload_n 0, 1) := by decide +kernel
theorem dX9_digest_1 : decode cX9_digest 1 = .ok (.ldc2_w 307, 3) := by decide +kernel
theorem dX9_digest_4 : decode cX9_digest 4 = .ok (.invokevirtual 309, 3) := by decide +kernel
theorem dX9_digest_7 : decode cX9_digest 7 = .ok (.lstore_n 1, 1) := by decide +kernel
theorem dX9_digest_8 : decode cX9_digest 8 = .ok (.aload_n 0, 1) := by decide +kernel
theorem dX9_digest_9 : decode cX9_digest 9 = .ok (.lload_n 1, 1) := by decide +kernel
theorem dX9_digest_10 : decode cX9_digest 10 = .ok (.invokevirtual 313, 3) := by decide +kernel
theorem dX9_digest_13 : decode cX9_digest 13 = .ok (.lstore_n 1, 1) := by decide +kernel
theorem dX9_digest_14 : decode cX9_digest 14 = .ok (.aload_n 0, 1) := by decide +kernel
theorem dX9_digest_15 : decode cX9_digest 15 = .ok (.lload_n 1, 1) := by decide +kernel
theorem dX9_digest_16 : decode cX9_digest 16 = .ok (.invokevirtual 316, 3) := by decide +kernel
theorem dX9_digest_19 : decode cX9_digest 19 = .ok (.lstore_n 1, 1) := by decide +kernel
theorem dX9_digest_20 : decode cX9_digest 20 = .ok (.lload_n 1, 1) := by decide +kernel
theorem dX9_digest_21 : decode cX9_digest 21 = .ok (.aload_n 0, 1) := by decide +kernel
theorem dX9_digest_22 : decode cX9_digest 22 = .ok (.getfield 10, 3) := by decide +kernel
theorem dX9_digest_25 : decode cX9_digest 25 = .ok (.getfield 133, 3) := by decide +kernel
theorem dX9_digest_28 : decode cX9_digest 28 = .ok (.getfield 137, 3) := by decide +kernel
theorem dX9_digest_31 : decode cX9_digest 31 = .ok (.i2l, 1) := by decide +kernel
theorem dX9_digest_32 : decode cX9_digest 32 = .ok (.invokestatic 319, 3) := by decide +kernel
theorem dX9_digest_35 : decode cX9_digest 35 = .ok (.lstore_n 1, 1) := by decide +kernel
theorem dX9_digest_36 : decode cX9_digest 36 = .ok (.iconst 0, 1) := by decide +kernel
theorem dX9_digest_37 : decode cX9_digest 37 = .ok (.istore_n 3, 1) := by decide +kernel
theorem dX9_digest_38 : decode cX9_digest 38 = .ok (.iload_n 3, 1) := by decide +kernel
theorem dX9_digest_39 : decode cX9_digest 39 = .ok (.aload_n 0, 1) := by decide +kernel
theorem dX9_digest_40 : decode cX9_digest 40 = .ok (.getfield 10, 3) := by decide +kernel
theorem dX9_digest_43 : decode cX9_digest 43 = .ok (.getfield 133, 3) := by decide +kernel
theorem dX9_digest_46 : decode cX9_digest 46 = .ok (.getfield 137, 3) := by decide +kernel
theorem dX9_digest_49 : decode cX9_digest 49 = .ok (.if_icmp .ge 16, 3) := by decide +kernel
theorem dX9_digest_52 : decode cX9_digest 52 = .ok (.aload_n 0, 1) := by decide +kernel
theorem dX9_digest_53 : decode cX9_digest 53 = .ok (.lload_n 1, 1) := by decide +kernel
theorem dX9_digest_54 : decode cX9_digest 54 = .ok (.iload_n 3, 1) := by decide +kernel
theorem dX9_digest_55 : decode cX9_digest 55 = .ok (.invokevirtual 323, 3) := by decide +kernel
theorem dX9_digest_58 : decode cX9_digest 58 = .ok (.lstore_n 1, 1) := by decide +kernel
theorem dX9_digest_59 : decode cX9_digest 59 = .ok (.iinc 3 1, 3) := by decide +kernel
theorem dX9_digest_62 : decode cX9_digest 62 = .ok (.goto (-24), 3) := by decide +kernel
theorem dX9_digest_65 : decode cX9_digest 65 = .ok (.lload_n 1, 1) := by decide +kernel
theorem dX9_digest_66 : decode cX9_digest 66 = .ok (.aload_n 0, 1) := by decide +kernel
theorem dX9_digest_67 : decode cX9_digest 67 = .ok (.getfield 10, 3) := by decide +kernel
theorem dX9_digest_70 : decode cX9_digest 70 = .ok (.getfield 133, 3) := by decide +kernel
theorem dX9_digest_73 : decode cX9_digest 73 = .ok (.getfield 152, 3) := by decide +kernel
theorem dX9_digest_76 : decode cX9_digest 76 = .ok (.iconst 1, 1) := by decide +kernel
theorem dX9_digest_77 : decode cX9_digest 77 = .ok (.iadd, 1) := by decide +kernel
theorem dX9_digest_78 : decode cX9_digest 78 = .ok (.i2l, 1) := by decide +kernel
theorem dX9_digest_79 : decode cX9_digest 79 = .ok (.invokestatic 319, 3) := by decide +kernel
theorem dX9_digest_82 : decode cX9_digest 82 = .ok (.lstore_n 1, 1) := by decide +kernel
theorem dX9_digest_83 : decode cX9_digest 83 = .ok (.aload_n 0, 1) := by decide +kernel
theorem dX9_digest_84 : decode cX9_digest 84 = .ok (.lload_n 1, 1) := by decide +kernel
theorem dX9_digest_85 : decode cX9_digest 85 = .ok (.invokevirtual 327, 3) := by decide +kernel
theorem dX9_digest_88 : decode cX9_digest 88 = .ok (.lstore_n 1, 1) := by decide +kernel
theorem dX9_digest_89 : decode cX9_digest 89 = .ok (.aload_n 0, 1) := by decide +kernel
theorem dX9_digest_90 : decode cX9_digest 90 = .ok (.getfield 10, 3) := by decide +kernel
theorem dX9_digest_93 : decode cX9_digest 93 = .ok (.getfield 133, 3) := by decide +kernel
theorem dX9_digest_96 : decode cX9_digest 96 = .ok (.invokevirtual 161, 3) := by decide +kernel
theorem dX9_digest_99 : decode cX9_digest 99 = .ok (.ifCond .eq 9, 3) := by decide +kernel
theorem dX9_digest_102 : decode cX9_digest 102 = .ok (.aload_n 0, 1) := by decide +kernel
theorem dX9_digest_103 : decode cX9_digest 103 = .ok (.lload_n 1, 1) := by decide +kernel
theorem dX9_digest_104 : decode cX9_digest 104 = .ok (.invokevirtual 330, 3) := by decide +kernel
theorem dX9_digest_107 : decode cX9_digest 107 = .ok (.lstore_n 1, 1) := by decide +kernel
theorem dX9_digest_108 : decode cX9_digest 108 = .ok (.iconst 0, 1) := by decide +kernel
theorem dX9_digest_109 : decode cX9_digest 109 = .ok (.istore_n 3, 1) := by decide +kernel
theorem dX9_digest_110 : decode cX9_digest 110 = .ok (.iload_n 3, 1) := by decide +kernel
theorem dX9_digest_111 : decode cX9_digest 111 = .ok (.iconst 2, 1) := by decide +kernel
theorem dX9_digest_112 : decode cX9_digest 112 = .ok (.if_icmp .ge 30, 3) := by decide +kernel
theorem dX9_digest_115 : decode cX9_digest 115 = .ok (.lload_n 1, 1) := by decide +kernel
theorem dX9_digest_116 : decode cX9_digest 116 = .ok (.aload_n 0, 1) := by decide +kernel
theorem dX9_digest_117 : decode cX9_digest 117 = .ok (.getfield 19, 3) := by decide +kernel
theorem dX9_digest_120 : decode cX9_digest 120 = .ok (.iload_n 3, 1) := by decide +kernel
theorem dX9_digest_121 : decode cX9_digest 121 = .ok (.invokevirtual 217, 3) := by decide +kernel
theorem dX9_digest_124 : decode cX9_digest 124 = .ok (.ifCond .eq 7, 3) := by decide +kernel
theorem dX9_digest_127 : decode cX9_digest 127 = .ok (.lconst 1, 1) := by decide +kernel
theorem dX9_digest_128 : decode cX9_digest 128 = .ok (.goto 4, 3) := by decide +kernel
theorem dX9_digest_131 : decode cX9_digest 131 = .ok (.lconst 0, 1) := by decide +kernel
theorem dX9_digest_132 : decode cX9_digest 132 = .ok (.invokestatic 319, 3) := by decide +kernel
theorem dX9_digest_135 : decode cX9_digest 135 = .ok (.lstore_n 1, 1) := by decide +kernel
theorem dX9_digest_136 : decode cX9_digest 136 = .ok (.iinc 3 1, 3) := by decide +kernel
theorem dX9_digest_139 : decode cX9_digest 139 = .ok (.goto (-29), 3) := by decide +kernel
theorem dX9_digest_142 : decode cX9_digest 142 = .ok (.lload_n 1, 1) := by decide +kernel
theorem dX9_digest_143 : decode cX9_digest 143 = .ok (.aload_n 0, 1) := by decide +kernel
theorem dX9_digest_144 : decode cX9_digest 144 = .ok (.getfield 26, 3) := by decide +kernel
theorem dX9_digest_147 : decode cX9_digest 147 = .ok (.getfield 184, 3) := by decide +kernel
theorem dX9_digest_150 : decode cX9_digest 150 = .ok (.i2l, 1) := by decide +kernel
theorem dX9_digest_151 : decode cX9_digest 151 = .ok (.invokestatic 319, 3) := by decide +kernel
theorem dX9_digest_154 : decode cX9_digest 154 = .ok (.lstore_n 1, 1) := by decide +kernel
theorem dX9_digest_155 : decode cX9_digest 155 = .ok (.iconst 0, 1) := by decide +kernel
theorem dX9_digest_156 : decode cX9_digest 156 = .ok (.istore_n 3, 1) := by decide +kernel
theorem dX9_digest_157 : decode cX9_digest 157 = .ok (.iload_n 3, 1) := by decide +kernel
theorem dX9_digest_158 : decode cX9_digest 158 = .ok (.aload_n 0, 1) := by decide +kernel
theorem dX9_digest_159 : decode cX9_digest 159 = .ok (.getfield 26, 3) := by decide +kernel
theorem dX9_digest_162 : decode cX9_digest 162 = .ok (.getfield 184, 3) := by decide +kernel
theorem dX9_digest_165 : decode cX9_digest 165 = .ok (.if_icmp .ge 26, 3) := by decide +kernel
theorem dX9_digest_168 : decode cX9_digest 168 = .ok (.lload_n 1, 1) := by decide +kernel
theorem dX9_digest_169 : decode cX9_digest 169 = .ok (.aload_n 0, 1) := by decide +kernel
theorem dX9_digest_170 : decode cX9_digest 170 = .ok (.getfield 26, 3) := by decide +kernel
theorem dX9_digest_173 : decode cX9_digest 173 = .ok (.getfield 333, 3) := by decide +kernel
theorem dX9_digest_176 : decode cX9_digest 176 = .ok (.iload_n 3, 1) := by decide +kernel
theorem dX9_digest_177 : decode cX9_digest 177 = .ok (.invokevirtual 204, 3) := by decide +kernel
theorem dX9_digest_180 : decode cX9_digest 180 = .ok (.i2l, 1) := by decide +kernel
theorem dX9_digest_181 : decode cX9_digest 181 = .ok (.invokestatic 319, 3) := by decide +kernel
theorem dX9_digest_184 : decode cX9_digest 184 = .ok (.lstore_n 1, 1) := by decide +kernel
theorem dX9_digest_185 : decode cX9_digest 185 = .ok (.iinc 3 1, 3) := by decide +kernel
theorem dX9_digest_188 : decode cX9_digest 188 = .ok (.goto (-31), 3) := by decide +kernel
theorem dX9_digest_191 : decode cX9_digest 191 = .ok (.lload_n 1, 1) := by decide +kernel
theorem dX9_digest_192 : decode cX9_digest 192 = .ok (.lreturn, 1) := by decide +kernel
theorem dX9_mixed_0 : decode cX9_mixed 0 = .ok (.ldc2_w 336, 3) := by decide +kernel
theorem dX9_mixed_3 : decode cX9_mixed 3 = .ok (.lload_n 0, 1) := by decide +kernel
theorem dX9_mixed_4 : decode cX9_mixed 4 = .ok (.lmul, 1) := by decide +kernel
theorem dX9_mixed_5 : decode cX9_mixed 5 = .ok (.lload_n 2, 1) := by decide +kernel
theorem dX9_mixed_6 : decode cX9_mixed 6 = .ok (.ladd, 1) := by decide +kernel
theorem dX9_mixed_7 : decode cX9_mixed 7 = .ok (.lreturn, 1) := by decide +kernel
theorem dX9_hashOfMasters_0 : decode cX9_hashOfMasters 0 = .ok (.lload_n 1, 1) := by decide +kernel
theorem dX9_hashOfMasters_1 : decode cX9_hashOfMasters 1 = .ok (.lstore_n 3, 1) := by decide +kernel
theorem dX9_hashOfMasters_2 : decode cX9_hashOfMasters 2 = .ok (.iconst 0, 1) := by decide +kernel
theorem dX9_hashOfMasters_3 : decode cX9_hashOfMasters 3 = .ok (.istore 5, 2) := by decide +kernel
theorem dX9_hashOfMasters_5 : decode cX9_hashOfMasters 5 = .ok (.iload 5, 2) := by decide +kernel
theorem dX9_hashOfMasters_7 : decode cX9_hashOfMasters 7 = .ok (.iconst 3, 1) := by decide +kernel
theorem dX9_hashOfMasters_8 : decode cX9_hashOfMasters 8 = .ok (.if_icmp .ge 45, 3) := by decide +kernel
theorem dX9_hashOfMasters_11 : decode cX9_hashOfMasters 11 = .ok (.iconst 0, 1) := by decide +kernel
theorem dX9_hashOfMasters_12 : decode cX9_hashOfMasters 12 = .ok (.istore 6, 2) := by decide +kernel
theorem dX9_hashOfMasters_14 : decode cX9_hashOfMasters 14 = .ok (.iload 6, 2) := by decide +kernel
theorem dX9_hashOfMasters_16 : decode cX9_hashOfMasters 16 = .ok (.bipush 16, 2) := by decide +kernel
theorem dX9_hashOfMasters_18 : decode cX9_hashOfMasters 18 = .ok (.if_icmp .ge 29, 3) := by decide +kernel
theorem dX9_hashOfMasters_21 : decode cX9_hashOfMasters 21 = .ok (.lload_n 3, 1) := by decide +kernel
theorem dX9_hashOfMasters_22 : decode cX9_hashOfMasters 22 = .ok (.aload_n 0, 1) := by decide +kernel
theorem dX9_hashOfMasters_23 : decode cX9_hashOfMasters 23 = .ok (.getfield 10, 3) := by decide +kernel
theorem dX9_hashOfMasters_26 : decode cX9_hashOfMasters 26 = .ok (.getfield 56, 3) := by decide +kernel
theorem dX9_hashOfMasters_29 : decode cX9_hashOfMasters 29 = .ok (.iload 5, 2) := by decide +kernel
theorem dX9_hashOfMasters_31 : decode cX9_hashOfMasters 31 = .ok (.iload 6, 2) := by decide +kernel
theorem dX9_hashOfMasters_33 : decode cX9_hashOfMasters 33 = .ok (.invokevirtual 60, 3) := by decide +kernel
theorem dX9_hashOfMasters_36 : decode cX9_hashOfMasters 36 = .ok (.i2l, 1) := by decide +kernel
theorem dX9_hashOfMasters_37 : decode cX9_hashOfMasters 37 = .ok (.invokestatic 319, 3) := by decide +kernel
theorem dX9_hashOfMasters_40 : decode cX9_hashOfMasters 40 = .ok (.lstore_n 3, 1) := by decide +kernel
theorem dX9_hashOfMasters_41 : decode cX9_hashOfMasters 41 = .ok (.iinc 6 1, 3) := by decide +kernel
theorem dX9_hashOfMasters_44 : decode cX9_hashOfMasters 44 = .ok (.goto (-30), 3) := by decide +kernel
theorem dX9_hashOfMasters_47 : decode cX9_hashOfMasters 47 = .ok (.iinc 5 1, 3) := by decide +kernel
theorem dX9_hashOfMasters_50 : decode cX9_hashOfMasters 50 = .ok (.goto (-45), 3) := by decide +kernel
theorem dX9_hashOfMasters_53 : decode cX9_hashOfMasters 53 = .ok (.lload_n 3, 1) := by decide +kernel
theorem dX9_hashOfMasters_54 : decode cX9_hashOfMasters 54 = .ok (.lreturn, 1) := by decide +kernel
theorem dX9_hashOfSettings_0 : decode cX9_hashOfSettings 0 = .ok (.lload_n 1, 1) := by decide +kernel
theorem dX9_hashOfSettings_1 : decode cX9_hashOfSettings 1 = .ok (.aload_n 0, 1) := by decide +kernel
theorem dX9_hashOfSettings_2 : decode cX9_hashOfSettings 2 = .ok (.getfield 10, 3) := by decide +kernel
theorem dX9_hashOfSettings_5 : decode cX9_hashOfSettings 5 = .ok (.getfield 56, 3) := by decide +kernel
theorem dX9_hashOfSettings_8 : decode cX9_hashOfSettings 8 = .ok (.getfield 76, 3) := by decide +kernel
theorem dX9_hashOfSettings_11 : decode cX9_hashOfSettings 11 = .ok (.i2l, 1) := by decide +kernel
theorem dX9_hashOfSettings_12 : decode cX9_hashOfSettings 12 = .ok (.invokestatic 319, 3) := by decide +kernel
theorem dX9_hashOfSettings_15 : decode cX9_hashOfSettings 15 = .ok (.lstore_n 3, 1) := by decide +kernel
theorem dX9_hashOfSettings_16 : decode cX9_hashOfSettings 16 = .ok (.lload_n 3, 1) := by decide +kernel
theorem dX9_hashOfSettings_17 : decode cX9_hashOfSettings 17 = .ok (.aload_n 0, 1) := by decide +kernel
theorem dX9_hashOfSettings_18 : decode cX9_hashOfSettings 18 = .ok (.getfield 10, 3) := by decide +kernel
theorem dX9_hashOfSettings_21 : decode cX9_hashOfSettings 21 = .ok (.getfield 80, 3) := by decide +kernel
theorem dX9_hashOfSettings_24 : decode cX9_hashOfSettings 24 = .ok (.getfield 228, 3) := by decide +kernel
theorem dX9_hashOfSettings_27 : decode cX9_hashOfSettings 27 = .ok (.i2l, 1) := by decide +kernel
theorem dX9_hashOfSettings_28 : decode cX9_hashOfSettings 28 = .ok (.invokestatic 319, 3) := by decide +kernel
theorem dX9_hashOfSettings_31 : decode cX9_hashOfSettings 31 = .ok (.lstore_n 3, 1) := by decide +kernel
theorem dX9_hashOfSettings_32 : decode cX9_hashOfSettings 32 = .ok (.lload_n 3, 1) := by decide +kernel
theorem dX9_hashOfSettings_33 : decode cX9_hashOfSettings 33 = .ok (.aload_n 0, 1) := by decide +kernel
theorem dX9_hashOfSettings_34 : decode cX9_hashOfSettings 34 = .ok (.getfield 10, 3) := by decide +kernel
theorem dX9_hashOfSettings_37 : decode cX9_hashOfSettings 37 = .ok (.getfield 80, 3) := by decide +kernel
theorem dX9_hashOfSettings_40 : decode cX9_hashOfSettings 40 = .ok (.getfield 84, 3) := by decide +kernel
theorem dX9_hashOfSettings_43 : decode cX9_hashOfSettings 43 = .ok (.i2l, 1) := by decide +kernel
theorem dX9_hashOfSettings_44 : decode cX9_hashOfSettings 44 = .ok (.invokestatic 319, 3) := by decide +kernel
theorem dX9_hashOfSettings_47 : decode cX9_hashOfSettings 47 = .ok (.lstore_n 3, 1) := by decide +kernel
theorem dX9_hashOfSettings_48 : decode cX9_hashOfSettings 48 = .ok (.lload_n 3, 1) := by decide +kernel
theorem dX9_hashOfSettings_49 : decode cX9_hashOfSettings 49 = .ok (.aload_n 0, 1) := by decide +kernel
theorem dX9_hashOfSettings_50 : decode cX9_hashOfSettings 50 = .ok (.getfield 10, 3) := by decide +kernel
theorem dX9_hashOfSettings_53 : decode cX9_hashOfSettings 53 = .ok (.getfield 80, 3) := by decide +kernel
theorem dX9_hashOfSettings_56 : decode cX9_hashOfSettings 56 = .ok (.getfield 92, 3) := by decide +kernel
theorem dX9_hashOfSettings_59 : decode cX9_hashOfSettings 59 = .ok (.i2l, 1) := by decide +kernel
theorem dX9_hashOfSettings_60 : decode cX9_hashOfSettings 60 = .ok (.invokestatic 319, 3) := by decide +kernel
theorem dX9_hashOfSettings_63 : decode cX9_hashOfSettings 63 = .ok (.lstore_n 3, 1) := by decide +kernel
theorem dX9_hashOfSettings_64 : decode cX9_hashOfSettings 64 = .ok (.lload_n 3, 1) := by decide +kernel
theorem dX9_hashOfSettings_65 : decode cX9_hashOfSettings 65 = .ok (.aload_n 0, 1) := by decide +kernel
theorem dX9_hashOfSettings_66 : decode cX9_hashOfSettings 66 = .ok (.getfield 10, 3) := by decide +kernel
theorem dX9_hashOfSettings_69 : decode cX9_hashOfSettings 69 = .ok (.getfield 95, 3) := by decide +kernel
theorem dX9_hashOfSettings_72 : decode cX9_hashOfSettings 72 = .ok (.getfield 99, 3) := by decide +kernel
theorem dX9_hashOfSettings_75 : decode cX9_hashOfSettings 75 = .ok (.i2l, 1) := by decide +kernel
theorem dX9_hashOfSettings_76 : decode cX9_hashOfSettings 76 = .ok (.invokestatic 319, 3) := by decide +kernel
theorem dX9_hashOfSettings_79 : decode cX9_hashOfSettings 79 = .ok (.lstore_n 3, 1) := by decide +kernel
theorem dX9_hashOfSettings_80 : decode cX9_hashOfSettings 80 = .ok (.lload_n 3, 1) := by decide +kernel
theorem dX9_hashOfSettings_81 : decode cX9_hashOfSettings 81 = .ok (.aload_n 0, 1) := by decide +kernel
theorem dX9_hashOfSettings_82 : decode cX9_hashOfSettings 82 = .ok (.getfield 10, 3) := by decide +kernel
theorem dX9_hashOfSettings_85 : decode cX9_hashOfSettings 85 = .ok (.getfield 95, 3) := by decide +kernel
theorem dX9_hashOfSettings_88 : decode cX9_hashOfSettings 88 = .ok (.getfield 113, 3) := by decide +kernel
theorem dX9_hashOfSettings_91 : decode cX9_hashOfSettings 91 = .ok (.i2l, 1) := by decide +kernel
theorem dX9_hashOfSettings_92 : decode cX9_hashOfSettings 92 = .ok (.invokestatic 319, 3) := by decide +kernel
theorem dX9_hashOfSettings_95 : decode cX9_hashOfSettings 95 = .ok (.lstore_n 3, 1) := by decide +kernel
theorem dX9_hashOfSettings_96 : decode cX9_hashOfSettings 96 = .ok (.lload_n 3, 1) := by decide +kernel
theorem dX9_hashOfSettings_97 : decode cX9_hashOfSettings 97 = .ok (.aload_n 0, 1) := by decide +kernel
theorem dX9_hashOfSettings_98 : decode cX9_hashOfSettings 98 = .ok (.getfield 10, 3) := by decide +kernel
theorem dX9_hashOfSettings_101 : decode cX9_hashOfSettings 101 = .ok (.getfield 95, 3) := by decide +kernel
theorem dX9_hashOfSettings_104 : decode cX9_hashOfSettings 104 = .ok (.invokevirtual 231, 3) := by decide +kernel
theorem dX9_hashOfSettings_107 : decode cX9_hashOfSettings 107 = .ok (.i2l, 1) := by decide +kernel
theorem dX9_hashOfSettings_108 : decode cX9_hashOfSettings 108 = .ok (.invokestatic 319, 3) := by decide +kernel
theorem dX9_hashOfSettings_111 : decode cX9_hashOfSettings 111 = .ok (.lstore_n 3, 1) := by decide +kernel
theorem dX9_hashOfSettings_112 : decode cX9_hashOfSettings 112 = .ok (.lload_n 3, 1) := by decide +kernel
theorem dX9_hashOfSettings_113 : decode cX9_hashOfSettings 113 = .ok (.aload_n 0, 1) := by decide +kernel
theorem dX9_hashOfSettings_114 : decode cX9_hashOfSettings 114 = .ok (.getfield 10, 3) := by decide +kernel
theorem dX9_hashOfSettings_117 : decode cX9_hashOfSettings 117 = .ok (.getfield 95, 3) := by decide +kernel
theorem dX9_hashOfSettings_120 : decode cX9_hashOfSettings 120 = .ok (.getfield 116, 3) := by decide +kernel
theorem dX9_hashOfSettings_123 : decode cX9_hashOfSettings 123 = .ok (.i2l, 1) := by decide +kernel
theorem dX9_hashOfSettings_124 : decode cX9_hashOfSettings 124 = .ok (.invokestatic 319, 3) := by decide +kernel
theorem dX9_hashOfSettings_127 : decode cX9_hashOfSettings 127 = .ok (.lstore_n 3, 1) := by decide +kernel
theorem dX9_hashOfSettings_128 : decode cX9_hashOfSettings 128 = .ok (.lload_n 3, 1) := by decide +kernel
theorem dX9_hashOfSettings_129 : decode cX9_hashOfSettings 129 = .ok (.aload_n 0, 1) := by decide +kernel
theorem dX9_hashOfSettings_130 : decode cX9_hashOfSettings 130 = .ok (.getfield 10, 3) := by decide +kernel
theorem dX9_hashOfSettings_133 : decode cX9_hashOfSettings 133 = .ok (.getfield 119, 3) := by decide +kernel
theorem dX9_hashOfSettings_136 : decode cX9_hashOfSettings 136 = .ok (.i2l, 1) := by decide +kernel
theorem dX9_hashOfSettings_137 : decode cX9_hashOfSettings 137 = .ok (.invokestatic 319, 3) := by decide +kernel
theorem dX9_hashOfSettings_140 : decode cX9_hashOfSettings 140 = .ok (.lstore_n 3, 1) := by decide +kernel
theorem dX9_hashOfSettings_141 : decode cX9_hashOfSettings 141 = .ok (.lload_n 3, 1) := by decide +kernel
theorem dX9_hashOfSettings_142 : decode cX9_hashOfSettings 142 = .ok (.aload_n 0, 1) := by decide +kernel
theorem dX9_hashOfSettings_143 : decode cX9_hashOfSettings 143 = .ok (.getfield 10, 3) := by decide +kernel
theorem dX9_hashOfSettings_146 : decode cX9_hashOfSettings 146 = .ok (.getfield 122, 3) := by decide +kernel
theorem dX9_hashOfSettings_149 : decode cX9_hashOfSettings 149 = .ok (.i2l, 1) := by decide +kernel
theorem dX9_hashOfSettings_150 : decode cX9_hashOfSettings 150 = .ok (.invokestatic 319, 3) := by decide +kernel
theorem dX9_hashOfSettings_153 : decode cX9_hashOfSettings 153 = .ok (.lstore_n 3, 1) := by decide +kernel
theorem dX9_hashOfSettings_154 : decode cX9_hashOfSettings 154 = .ok (.lload_n 3, 1) := by decide +kernel
theorem dX9_hashOfSettings_155 : decode cX9_hashOfSettings 155 = .ok (.aload_n 0, 1) := by decide +kernel
theorem dX9_hashOfSettings_156 : decode cX9_hashOfSettings 156 = .ok (.getfield 10, 3) := by decide +kernel
theorem dX9_hashOfSettings_159 : decode cX9_hashOfSettings 159 = .ok (.getfield 125, 3) := by decide +kernel
theorem dX9_hashOfSettings_162 : decode cX9_hashOfSettings 162 = .ok (.ifCond .eq 7, 3) := by decide +kernel
theorem dX9_hashOfSettings_165 : decode cX9_hashOfSettings 165 = .ok (.lconst 1, 1) := by decide +kernel
theorem dX9_hashOfSettings_166 : decode cX9_hashOfSettings 166 = .ok (.goto 4, 3) := by decide +kernel
theorem dX9_hashOfSettings_169 : decode cX9_hashOfSettings 169 = .ok (.lconst 0, 1) := by decide +kernel
theorem dX9_hashOfSettings_170 : decode cX9_hashOfSettings 170 = .ok (.invokestatic 319, 3) := by decide +kernel
theorem dX9_hashOfSettings_173 : decode cX9_hashOfSettings 173 = .ok (.lreturn, 1) := by decide +kernel
theorem dX9_hashOfReadings_0 : decode cX9_hashOfReadings 0 = .ok (.lload_n 1, 1) := by decide +kernel
theorem dX9_hashOfReadings_1 : decode cX9_hashOfReadings 1 = .ok (.lstore_n 3, 1) := by decide +kernel
theorem dX9_hashOfReadings_2 : decode cX9_hashOfReadings 2 = .ok (.iconst 0, 1) := by decide +kernel
theorem dX9_hashOfReadings_3 : decode cX9_hashOfReadings 3 = .ok (.istore 5, 2) := by decide +kernel
theorem dX9_hashOfReadings_5 : decode cX9_hashOfReadings 5 = .ok (.iload 5, 2) := by decide +kernel
theorem dX9_hashOfReadings_7 : decode cX9_hashOfReadings 7 = .ok (.bipush 16, 2) := by decide +kernel
theorem dX9_hashOfReadings_9 : decode cX9_hashOfReadings 9 = .ok (.if_icmp .ge 51, 3) := by decide +kernel
theorem dX9_hashOfReadings_12 : decode cX9_hashOfReadings 12 = .ok (.lload_n 3, 1) := by decide +kernel
theorem dX9_hashOfReadings_13 : decode cX9_hashOfReadings 13 = .ok (.aload_n 0, 1) := by decide +kernel
theorem dX9_hashOfReadings_14 : decode cX9_hashOfReadings 14 = .ok (.getfield 10, 3) := by decide +kernel
theorem dX9_hashOfReadings_17 : decode cX9_hashOfReadings 17 = .ok (.iload 5, 2) := by decide +kernel
theorem dX9_hashOfReadings_19 : decode cX9_hashOfReadings 19 = .ok (.invokevirtual 253, 3) := by decide +kernel
theorem dX9_hashOfReadings_22 : decode cX9_hashOfReadings 22 = .ok (.i2l, 1) := by decide +kernel
theorem dX9_hashOfReadings_23 : decode cX9_hashOfReadings 23 = .ok (.invokestatic 319, 3) := by decide +kernel
theorem dX9_hashOfReadings_26 : decode cX9_hashOfReadings 26 = .ok (.lstore_n 3, 1) := by decide +kernel
theorem dX9_hashOfReadings_27 : decode cX9_hashOfReadings 27 = .ok (.lload_n 3, 1) := by decide +kernel
theorem dX9_hashOfReadings_28 : decode cX9_hashOfReadings 28 = .ok (.aload_n 0, 1) := by decide +kernel
theorem dX9_hashOfReadings_29 : decode cX9_hashOfReadings 29 = .ok (.iload 5, 2) := by decide +kernel
theorem dX9_hashOfReadings_31 : decode cX9_hashOfReadings 31 = .ok (.invokevirtual 256, 3) := by decide +kernel
theorem dX9_hashOfReadings_34 : decode cX9_hashOfReadings 34 = .ok (.i2l, 1) := by decide +kernel
theorem dX9_hashOfReadings_35 : decode cX9_hashOfReadings 35 = .ok (.invokestatic 319, 3) := by decide +kernel
theorem dX9_hashOfReadings_38 : decode cX9_hashOfReadings 38 = .ok (.lstore_n 3, 1) := by decide +kernel
theorem dX9_hashOfReadings_39 : decode cX9_hashOfReadings 39 = .ok (.lload_n 3, 1) := by decide +kernel
theorem dX9_hashOfReadings_40 : decode cX9_hashOfReadings 40 = .ok (.aload_n 0, 1) := by decide +kernel
theorem dX9_hashOfReadings_41 : decode cX9_hashOfReadings 41 = .ok (.getfield 10, 3) := by decide +kernel
theorem dX9_hashOfReadings_44 : decode cX9_hashOfReadings 44 = .ok (.iload 5, 2) := by decide +kernel
theorem dX9_hashOfReadings_46 : decode cX9_hashOfReadings 46 = .ok (.invokevirtual 259, 3) := by decide +kernel
theorem dX9_hashOfReadings_49 : decode cX9_hashOfReadings 49 = .ok (.i2l, 1) := by decide +kernel
theorem dX9_hashOfReadings_50 : decode cX9_hashOfReadings 50 = .ok (.invokestatic 319, 3) := by decide +kernel
theorem dX9_hashOfReadings_53 : decode cX9_hashOfReadings 53 = .ok (.lstore_n 3, 1) := by decide +kernel
theorem dX9_hashOfReadings_54 : decode cX9_hashOfReadings 54 = .ok (.iinc 5 1, 3) := by decide +kernel
theorem dX9_hashOfReadings_57 : decode cX9_hashOfReadings 57 = .ok (.goto (-52), 3) := by decide +kernel
theorem dX9_hashOfReadings_60 : decode cX9_hashOfReadings 60 = .ok (.lload_n 3, 1) := by decide +kernel
theorem dX9_hashOfReadings_61 : decode cX9_hashOfReadings 61 = .ok (.aload_n 0, 1) := by decide +kernel
theorem dX9_hashOfReadings_62 : decode cX9_hashOfReadings 62 = .ok (.invokevirtual 338, 3) := by decide +kernel
theorem dX9_hashOfReadings_65 : decode cX9_hashOfReadings 65 = .ok (.i2l, 1) := by decide +kernel
theorem dX9_hashOfReadings_66 : decode cX9_hashOfReadings 66 = .ok (.invokestatic 319, 3) := by decide +kernel
theorem dX9_hashOfReadings_69 : decode cX9_hashOfReadings 69 = .ok (.lreturn, 1) := by decide +kernel
theorem dX9_hashOfPiece_0 : decode cX9_hashOfPiece 0 = .ok (.lload_n 1, 1) := by decide +kernel
theorem dX9_hashOfPiece_1 : decode cX9_hashOfPiece 1 = .ok (.aload_n 0, 1) := by decide +kernel
theorem dX9_hashOfPiece_2 : decode cX9_hashOfPiece 2 = .ok (.getfield 10, 3) := by decide +kernel
theorem dX9_hashOfPiece_5 : decode cX9_hashOfPiece 5 = .ok (.getfield 133, 3) := by decide +kernel
theorem dX9_hashOfPiece_8 : decode cX9_hashOfPiece 8 = .ok (.getfield 234, 3) := by decide +kernel
theorem dX9_hashOfPiece_11 : decode cX9_hashOfPiece 11 = .ok (.iload_n 3, 1) := by decide +kernel
theorem dX9_hashOfPiece_12 : decode cX9_hashOfPiece 12 = .ok (.invokevirtual 204, 3) := by decide +kernel
theorem dX9_hashOfPiece_15 : decode cX9_hashOfPiece 15 = .ok (.i2l, 1) := by decide +kernel
theorem dX9_hashOfPiece_16 : decode cX9_hashOfPiece 16 = .ok (.invokestatic 319, 3) := by decide +kernel
theorem dX9_hashOfPiece_19 : decode cX9_hashOfPiece 19 = .ok (.lstore 4, 2) := by decide +kernel
theorem dX9_hashOfPiece_21 : decode cX9_hashOfPiece 21 = .ok (.iconst 0, 1) := by decide +kernel
theorem dX9_hashOfPiece_22 : decode cX9_hashOfPiece 22 = .ok (.istore 6, 2) := by decide +kernel
theorem dX9_hashOfPiece_24 : decode cX9_hashOfPiece 24 = .ok (.iload 6, 2) := by decide +kernel
theorem dX9_hashOfPiece_26 : decode cX9_hashOfPiece 26 = .ok (.bipush 16, 2) := by decide +kernel
theorem dX9_hashOfPiece_28 : decode cX9_hashOfPiece 28 = .ok (.if_icmp .ge 30, 3) := by decide +kernel
theorem dX9_hashOfPiece_31 : decode cX9_hashOfPiece 31 = .ok (.lload 4, 2) := by decide +kernel
theorem dX9_hashOfPiece_33 : decode cX9_hashOfPiece 33 = .ok (.aload_n 0, 1) := by decide +kernel
theorem dX9_hashOfPiece_34 : decode cX9_hashOfPiece 34 = .ok (.getfield 10, 3) := by decide +kernel
theorem dX9_hashOfPiece_37 : decode cX9_hashOfPiece 37 = .ok (.getfield 133, 3) := by decide +kernel
theorem dX9_hashOfPiece_40 : decode cX9_hashOfPiece 40 = .ok (.iload_n 3, 1) := by decide +kernel
theorem dX9_hashOfPiece_41 : decode cX9_hashOfPiece 41 = .ok (.iload 6, 2) := by decide +kernel
theorem dX9_hashOfPiece_43 : decode cX9_hashOfPiece 43 = .ok (.invokevirtual 237, 3) := by decide +kernel
theorem dX9_hashOfPiece_46 : decode cX9_hashOfPiece 46 = .ok (.i2l, 1) := by decide +kernel
theorem dX9_hashOfPiece_47 : decode cX9_hashOfPiece 47 = .ok (.invokestatic 319, 3) := by decide +kernel
theorem dX9_hashOfPiece_50 : decode cX9_hashOfPiece 50 = .ok (.lstore 4, 2) := by decide +kernel
theorem dX9_hashOfPiece_52 : decode cX9_hashOfPiece 52 = .ok (.iinc 6 1, 3) := by decide +kernel
theorem dX9_hashOfPiece_55 : decode cX9_hashOfPiece 55 = .ok (.goto (-31), 3) := by decide +kernel
theorem dX9_hashOfPiece_58 : decode cX9_hashOfPiece 58 = .ok (.lload 4, 2) := by decide +kernel
theorem dX9_hashOfPiece_60 : decode cX9_hashOfPiece 60 = .ok (.aload_n 0, 1) := by decide +kernel
theorem dX9_hashOfPiece_61 : decode cX9_hashOfPiece 61 = .ok (.getfield 10, 3) := by decide +kernel
theorem dX9_hashOfPiece_64 : decode cX9_hashOfPiece 64 = .ok (.getfield 133, 3) := by decide +kernel
theorem dX9_hashOfPiece_67 : decode cX9_hashOfPiece 67 = .ok (.getfield 238, 3) := by decide +kernel
theorem dX9_hashOfPiece_70 : decode cX9_hashOfPiece 70 = .ok (.iload_n 3, 1) := by decide +kernel
theorem dX9_hashOfPiece_71 : decode cX9_hashOfPiece 71 = .ok (.invokevirtual 204, 3) := by decide +kernel
theorem dX9_hashOfPiece_74 : decode cX9_hashOfPiece 74 = .ok (.i2l, 1) := by decide +kernel
theorem dX9_hashOfPiece_75 : decode cX9_hashOfPiece 75 = .ok (.invokestatic 319, 3) := by decide +kernel
theorem dX9_hashOfPiece_78 : decode cX9_hashOfPiece 78 = .ok (.lstore 4, 2) := by decide +kernel
theorem dX9_hashOfPiece_80 : decode cX9_hashOfPiece 80 = .ok (.lload 4, 2) := by decide +kernel
theorem dX9_hashOfPiece_82 : decode cX9_hashOfPiece 82 = .ok (.aload_n 0, 1) := by decide +kernel
theorem dX9_hashOfPiece_83 : decode cX9_hashOfPiece 83 = .ok (.getfield 10, 3) := by decide +kernel
theorem dX9_hashOfPiece_86 : decode cX9_hashOfPiece 86 = .ok (.getfield 133, 3) := by decide +kernel
theorem dX9_hashOfPiece_89 : decode cX9_hashOfPiece 89 = .ok (.iload_n 3, 1) := by decide +kernel
theorem dX9_hashOfPiece_90 : decode cX9_hashOfPiece 90 = .ok (.invokevirtual 241, 3) := by decide +kernel
theorem dX9_hashOfPiece_93 : decode cX9_hashOfPiece 93 = .ok (.i2l, 1) := by decide +kernel
theorem dX9_hashOfPiece_94 : decode cX9_hashOfPiece 94 = .ok (.invokestatic 319, 3) := by decide +kernel
theorem dX9_hashOfPiece_97 : decode cX9_hashOfPiece 97 = .ok (.lstore 4, 2) := by decide +kernel
theorem dX9_hashOfPiece_99 : decode cX9_hashOfPiece 99 = .ok (.lload 4, 2) := by decide +kernel
theorem dX9_hashOfPiece_101 : decode cX9_hashOfPiece 101 = .ok (.aload_n 0, 1) := by decide +kernel
theorem dX9_hashOfPiece_102 : decode cX9_hashOfPiece 102 = .ok (.iload_n 3, 1) := by decide +kernel
theorem dX9_hashOfPiece_103 : decode cX9_hashOfPiece 103 = .ok (.invokevirtual 341, 3) := by decide +kernel
theorem dX9_hashOfPiece_106 : decode cX9_hashOfPiece 106 = .ok (.i2l, 1) := by decide +kernel
theorem dX9_hashOfPiece_107 : decode cX9_hashOfPiece 107 = .ok (.invokestatic 319, 3) := by decide +kernel
theorem dX9_hashOfPiece_110 : decode cX9_hashOfPiece 110 = .ok (.lstore 4, 2) := by decide +kernel
theorem dX9_hashOfPiece_112 : decode cX9_hashOfPiece 112 = .ok (.lload 4, 2) := by decide +kernel
theorem dX9_hashOfPiece_114 : decode cX9_hashOfPiece 114 = .ok (.aload_n 0, 1) := by decide +kernel
theorem dX9_hashOfPiece_115 : decode cX9_hashOfPiece 115 = .ok (.iload_n 3, 1) := by decide +kernel
theorem dX9_hashOfPiece_116 : decode cX9_hashOfPiece 116 = .ok (.invokevirtual 344, 3) := by decide +kernel
theorem dX9_hashOfPiece_119 : decode cX9_hashOfPiece 119 = .ok (.i2l, 1) := by decide +kernel
theorem dX9_hashOfPiece_120 : decode cX9_hashOfPiece 120 = .ok (.invokestatic 319, 3) := by decide +kernel
theorem dX9_hashOfPiece_123 : decode cX9_hashOfPiece 123 = .ok (.lstore 4, 2) := by decide +kernel
theorem dX9_hashOfPiece_125 : decode cX9_hashOfPiece 125 = .ok (.lload 4, 2) := by decide +kernel
theorem dX9_hashOfPiece_127 : decode cX9_hashOfPiece 127 = .ok (.aload_n 0, 1) := by decide +kernel
theorem dX9_hashOfPiece_128 : decode cX9_hashOfPiece 128 = .ok (.getfield 10, 3) := by decide +kernel
theorem dX9_hashOfPiece_131 : decode cX9_hashOfPiece 131 = .ok (.iload_n 3, 1) := by decide +kernel
theorem dX9_hashOfPiece_132 : decode cX9_hashOfPiece 132 = .ok (.invokevirtual 277, 3) := by decide +kernel
theorem dX9_hashOfPiece_135 : decode cX9_hashOfPiece 135 = .ok (.i2l, 1) := by decide +kernel
theorem dX9_hashOfPiece_136 : decode cX9_hashOfPiece 136 = .ok (.invokestatic 319, 3) := by decide +kernel
theorem dX9_hashOfPiece_139 : decode cX9_hashOfPiece 139 = .ok (.lstore 4, 2) := by decide +kernel
theorem dX9_hashOfPiece_141 : decode cX9_hashOfPiece 141 = .ok (.lload 4, 2) := by decide +kernel
theorem dX9_hashOfPiece_143 : decode cX9_hashOfPiece 143 = .ok (.aload_n 0, 1) := by decide +kernel
theorem dX9_hashOfPiece_144 : decode cX9_hashOfPiece 144 = .ok (.iload_n 3, 1) := by decide +kernel
theorem dX9_hashOfPiece_145 : decode cX9_hashOfPiece 145 = .ok (.invokevirtual 347, 3) := by decide +kernel
theorem dX9_hashOfPiece_148 : decode cX9_hashOfPiece 148 = .ok (.i2l, 1) := by decide +kernel
theorem dX9_hashOfPiece_149 : decode cX9_hashOfPiece 149 = .ok (.invokestatic 319, 3) := by decide +kernel
theorem dX9_hashOfPiece_152 : decode cX9_hashOfPiece 152 = .ok (.lstore 4, 2) := by decide +kernel
theorem dX9_hashOfPiece_154 : decode cX9_hashOfPiece 154 = .ok (.lload 4, 2) := by decide +kernel
theorem dX9_hashOfPiece_156 : decode cX9_hashOfPiece 156 = .ok (.aload_n 0, 1) := by decide +kernel
theorem dX9_hashOfPiece_157 : decode cX9_hashOfPiece 157 = .ok (.getfield 10, 3) := by decide +kernel
theorem dX9_hashOfPiece_160 : decode cX9_hashOfPiece 160 = .ok (.iload_n 3, 1) := by decide +kernel
theorem dX9_hashOfPiece_161 : decode cX9_hashOfPiece 161 = .ok (.invokevirtual 301, 3) := by decide +kernel
theorem dX9_hashOfPiece_164 : decode cX9_hashOfPiece 164 = .ok (.i2l, 1) := by decide +kernel
theorem dX9_hashOfPiece_165 : decode cX9_hashOfPiece 165 = .ok (.invokestatic 319, 3) := by decide +kernel
theorem dX9_hashOfPiece_168 : decode cX9_hashOfPiece 168 = .ok (.lstore 4, 2) := by decide +kernel
theorem dX9_hashOfPiece_170 : decode cX9_hashOfPiece 170 = .ok (.lload 4, 2) := by decide +kernel
theorem dX9_hashOfPiece_172 : decode cX9_hashOfPiece 172 = .ok (.aload_n 0, 1) := by decide +kernel
theorem dX9_hashOfPiece_173 : decode cX9_hashOfPiece 173 = .ok (.getfield 10, 3) := by decide +kernel
theorem dX9_hashOfPiece_176 : decode cX9_hashOfPiece 176 = .ok (.getfield 133, 3) := by decide +kernel
theorem dX9_hashOfPiece_179 : decode cX9_hashOfPiece 179 = .ok (.iload_n 3, 1) := by decide +kernel
theorem dX9_hashOfPiece_180 : decode cX9_hashOfPiece 180 = .ok (.invokevirtual 304, 3) := by decide +kernel
theorem dX9_hashOfPiece_183 : decode cX9_hashOfPiece 183 = .ok (.invokestatic 350, 3) := by decide +kernel
theorem dX9_hashOfPiece_186 : decode cX9_hashOfPiece 186 = .ok (.invokestatic 319, 3) := by decide +kernel
theorem dX9_hashOfPiece_189 : decode cX9_hashOfPiece 189 = .ok (.lreturn, 1) := by decide +kernel
theorem dX9_hashOfAccounts_0 : decode cX9_hashOfAccounts 0 = .ok (.lload_n 1, 1) := by decide +kernel
theorem dX9_hashOfAccounts_1 : decode cX9_hashOfAccounts 1 = .ok (.aload_n 0, 1) := by decide +kernel
theorem dX9_hashOfAccounts_2 : decode cX9_hashOfAccounts 2 = .ok (.getfield 10, 3) := by decide +kernel
theorem dX9_hashOfAccounts_5 : decode cX9_hashOfAccounts 5 = .ok (.getfield 104, 3) := by decide +kernel
theorem dX9_hashOfAccounts_8 : decode cX9_hashOfAccounts 8 = .ok (.getfield 244, 3) := by decide +kernel
theorem dX9_hashOfAccounts_11 : decode cX9_hashOfAccounts 11 = .ok (.i2l, 1) := by decide +kernel
theorem dX9_hashOfAccounts_12 : decode cX9_hashOfAccounts 12 = .ok (.invokestatic 319, 3) := by decide +kernel
theorem dX9_hashOfAccounts_15 : decode cX9_hashOfAccounts 15 = .ok (.lstore_n 3, 1) := by decide +kernel
theorem dX9_hashOfAccounts_16 : decode cX9_hashOfAccounts 16 = .ok (.lload_n 3, 1) := by decide +kernel
theorem dX9_hashOfAccounts_17 : decode cX9_hashOfAccounts 17 = .ok (.aload_n 0, 1) := by decide +kernel
theorem dX9_hashOfAccounts_18 : decode cX9_hashOfAccounts 18 = .ok (.getfield 10, 3) := by decide +kernel
theorem dX9_hashOfAccounts_21 : decode cX9_hashOfAccounts 21 = .ok (.getfield 104, 3) := by decide +kernel
theorem dX9_hashOfAccounts_24 : decode cX9_hashOfAccounts 24 = .ok (.getfield 247, 3) := by decide +kernel
theorem dX9_hashOfAccounts_27 : decode cX9_hashOfAccounts 27 = .ok (.i2l, 1) := by decide +kernel
theorem dX9_hashOfAccounts_28 : decode cX9_hashOfAccounts 28 = .ok (.invokestatic 319, 3) := by decide +kernel
theorem dX9_hashOfAccounts_31 : decode cX9_hashOfAccounts 31 = .ok (.lstore_n 3, 1) := by decide +kernel
theorem dX9_hashOfAccounts_32 : decode cX9_hashOfAccounts 32 = .ok (.lload_n 3, 1) := by decide +kernel
theorem dX9_hashOfAccounts_33 : decode cX9_hashOfAccounts 33 = .ok (.aload_n 0, 1) := by decide +kernel
theorem dX9_hashOfAccounts_34 : decode cX9_hashOfAccounts 34 = .ok (.getfield 10, 3) := by decide +kernel
theorem dX9_hashOfAccounts_37 : decode cX9_hashOfAccounts 37 = .ok (.getfield 104, 3) := by decide +kernel
theorem dX9_hashOfAccounts_40 : decode cX9_hashOfAccounts 40 = .ok (.getfield 108, 3) := by decide +kernel
theorem dX9_hashOfAccounts_43 : decode cX9_hashOfAccounts 43 = .ok (.i2l, 1) := by decide +kernel
theorem dX9_hashOfAccounts_44 : decode cX9_hashOfAccounts 44 = .ok (.invokestatic 319, 3) := by decide +kernel
theorem dX9_hashOfAccounts_47 : decode cX9_hashOfAccounts 47 = .ok (.lstore_n 3, 1) := by decide +kernel
theorem dX9_hashOfAccounts_48 : decode cX9_hashOfAccounts 48 = .ok (.lload_n 3, 1) := by decide +kernel
theorem dX9_hashOfAccounts_49 : decode cX9_hashOfAccounts 49 = .ok (.aload_n 0, 1) := by decide +kernel
theorem dX9_hashOfAccounts_50 : decode cX9_hashOfAccounts 50 = .ok (.getfield 10, 3) := by decide +kernel
theorem dX9_hashOfAccounts_53 : decode cX9_hashOfAccounts 53 = .ok (.getfield 104, 3) := by decide +kernel
theorem dX9_hashOfAccounts_56 : decode cX9_hashOfAccounts 56 = .ok (.getfield 250, 3) := by decide +kernel
theorem dX9_hashOfAccounts_59 : decode cX9_hashOfAccounts 59 = .ok (.i2l, 1) := by decide +kernel
theorem dX9_hashOfAccounts_60 : decode cX9_hashOfAccounts 60 = .ok (.invokestatic 319, 3) := by decide +kernel
theorem dX9_hashOfAccounts_63 : decode cX9_hashOfAccounts 63 = .ok (.lstore_n 3, 1) := by decide +kernel
theorem dX9_hashOfAccounts_64 : decode cX9_hashOfAccounts 64 = .ok (.lload_n 3, 1) := by decide +kernel
theorem dX9_hashOfAccounts_65 : decode cX9_hashOfAccounts 65 = .ok (.aload_n 0, 1) := by decide +kernel
theorem dX9_hashOfAccounts_66 : decode cX9_hashOfAccounts 66 = .ok (.getfield 10, 3) := by decide +kernel
theorem dX9_hashOfAccounts_69 : decode cX9_hashOfAccounts 69 = .ok (.getfield 104, 3) := by decide +kernel
theorem dX9_hashOfAccounts_72 : decode cX9_hashOfAccounts 72 = .ok (.getfield 158, 3) := by decide +kernel
theorem dX9_hashOfAccounts_75 : decode cX9_hashOfAccounts 75 = .ok (.i2l, 1) := by decide +kernel
theorem dX9_hashOfAccounts_76 : decode cX9_hashOfAccounts 76 = .ok (.invokestatic 319, 3) := by decide +kernel
theorem dX9_hashOfAccounts_79 : decode cX9_hashOfAccounts 79 = .ok (.lstore_n 3, 1) := by decide +kernel
theorem dX9_hashOfAccounts_80 : decode cX9_hashOfAccounts 80 = .ok (.lload_n 3, 1) := by decide +kernel
theorem dX9_hashOfAccounts_81 : decode cX9_hashOfAccounts 81 = .ok (.aload_n 0, 1) := by decide +kernel
theorem dX9_hashOfAccounts_82 : decode cX9_hashOfAccounts 82 = .ok (.getfield 19, 3) := by decide +kernel
theorem dX9_hashOfAccounts_85 : decode cX9_hashOfAccounts 85 = .ok (.getfield 224, 3) := by decide +kernel
theorem dX9_hashOfAccounts_88 : decode cX9_hashOfAccounts 88 = .ok (.i2l, 1) := by decide +kernel
theorem dX9_hashOfAccounts_89 : decode cX9_hashOfAccounts 89 = .ok (.invokestatic 319, 3) := by decide +kernel
theorem dX9_hashOfAccounts_92 : decode cX9_hashOfAccounts 92 = .ok (.lreturn, 1) := by decide +kernel
theorem dX9_hashOfProspects_0 : decode cX9_hashOfProspects 0 = .ok (.aload_n 0, 1) := by decide +kernel
theorem dX9_hashOfProspects_1 : decode cX9_hashOfProspects 1 = .ok (.getfield 10, 3) := by decide +kernel
theorem dX9_hashOfProspects_4 : decode cX9_hashOfProspects 4 = .ok (.aload_n 0, 1) := by decide +kernel
theorem dX9_hashOfProspects_5 : decode cX9_hashOfProspects 5 = .ok (.getfield 10, 3) := by decide +kernel
theorem dX9_hashOfProspects_8 : decode cX9_hashOfProspects 8 = .ok (.getfield 133, 3) := by decide +kernel
theorem dX9_hashOfProspects_11 : decode cX9_hashOfProspects 11 = .ok (.getfield 152, 3) := by decide +kernel
theorem dX9_hashOfProspects_14 : decode cX9_hashOfProspects 14 = .ok (.invokevirtual 178, 3) := by decide +kernel
theorem dX9_hashOfProspects_17 : decode cX9_hashOfProspects 17 = .ok (.istore_n 3, 1) := by decide +kernel
theorem dX9_hashOfProspects_18 : decode cX9_hashOfProspects 18 = .ok (.lload_n 1, 1) := by decide +kernel
theorem dX9_hashOfProspects_19 : decode cX9_hashOfProspects 19 = .ok (.iload_n 3, 1) := by decide +kernel
theorem dX9_hashOfProspects_20 : decode cX9_hashOfProspects 20 = .ok (.ifCond .ne 7, 3) := by decide +kernel
theorem dX9_hashOfProspects_23 : decode cX9_hashOfProspects 23 = .ok (.lconst 1, 1) := by decide +kernel
theorem dX9_hashOfProspects_24 : decode cX9_hashOfProspects 24 = .ok (.goto 4, 3) := by decide +kernel
theorem dX9_hashOfProspects_27 : decode cX9_hashOfProspects 27 = .ok (.lconst 0, 1) := by decide +kernel
theorem dX9_hashOfProspects_28 : decode cX9_hashOfProspects 28 = .ok (.invokestatic 319, 3) := by decide +kernel
theorem dX9_hashOfProspects_31 : decode cX9_hashOfProspects 31 = .ok (.lstore 4, 2) := by decide +kernel
theorem dX9_hashOfProspects_33 : decode cX9_hashOfProspects 33 = .ok (.lload 4, 2) := by decide +kernel
theorem dX9_hashOfProspects_35 : decode cX9_hashOfProspects 35 = .ok (.aload_n 0, 1) := by decide +kernel
theorem dX9_hashOfProspects_36 : decode cX9_hashOfProspects 36 = .ok (.getfield 10, 3) := by decide +kernel
theorem dX9_hashOfProspects_39 : decode cX9_hashOfProspects 39 = .ok (.getfield 95, 3) := by decide +kernel
theorem dX9_hashOfProspects_42 : decode cX9_hashOfProspects 42 = .ok (.getfield 99, 3) := by decide +kernel
theorem dX9_hashOfProspects_45 : decode cX9_hashOfProspects 45 = .ok (.aload_n 0, 1) := by decide +kernel
theorem dX9_hashOfProspects_46 : decode cX9_hashOfProspects 46 = .ok (.getfield 10, 3) := by decide +kernel
theorem dX9_hashOfProspects_49 : decode cX9_hashOfProspects 49 = .ok (.invokevirtual 298, 3) := by decide +kernel
theorem dX9_hashOfProspects_52 : decode cX9_hashOfProspects 52 = .ok (.invokestatic 295, 3) := by decide +kernel
theorem dX9_hashOfProspects_55 : decode cX9_hashOfProspects 55 = .ok (.i2l, 1) := by decide +kernel
theorem dX9_hashOfProspects_56 : decode cX9_hashOfProspects 56 = .ok (.invokestatic 319, 3) := by decide +kernel
theorem dX9_hashOfProspects_59 : decode cX9_hashOfProspects 59 = .ok (.lstore 4, 2) := by decide +kernel
theorem dX9_hashOfProspects_61 : decode cX9_hashOfProspects 61 = .ok (.aload_n 0, 1) := by decide +kernel
theorem dX9_hashOfProspects_62 : decode cX9_hashOfProspects 62 = .ok (.getfield 10, 3) := by decide +kernel
theorem dX9_hashOfProspects_65 : decode cX9_hashOfProspects 65 = .ok (.getfield 95, 3) := by decide +kernel
theorem dX9_hashOfProspects_68 : decode cX9_hashOfProspects 68 = .ok (.invokevirtual 289, 3) := by decide +kernel
theorem dX9_hashOfProspects_71 : decode cX9_hashOfProspects 71 = .ok (.ifCond .eq 37, 3) := by decide +kernel
theorem dX9_hashOfProspects_74 : decode cX9_hashOfProspects 74 = .ok (.lload 4, 2) := by decide +kernel
theorem dX9_hashOfProspects_76 : decode cX9_hashOfProspects 76 = .ok (.aload_n 0, 1) := by decide +kernel
theorem dX9_hashOfProspects_77 : decode cX9_hashOfProspects 77 = .ok (.invokevirtual 292, 3) := by decide +kernel
theorem dX9_hashOfProspects_80 : decode cX9_hashOfProspects 80 = .ok (.i2l, 1) := by decide +kernel
theorem dX9_hashOfProspects_81 : decode cX9_hashOfProspects 81 = .ok (.invokestatic 319, 3) := by decide +kernel
theorem dX9_hashOfProspects_84 : decode cX9_hashOfProspects 84 = .ok (.lstore 4, 2) := by decide +kernel
theorem dX9_hashOfProspects_86 : decode cX9_hashOfProspects 86 = .ok (.lload 4, 2) := by decide +kernel
theorem dX9_hashOfProspects_88 : decode cX9_hashOfProspects 88 = .ok (.iload_n 3, 1) := by decide +kernel
theorem dX9_hashOfProspects_89 : decode cX9_hashOfProspects 89 = .ok (.aload_n 0, 1) := by decide +kernel
theorem dX9_hashOfProspects_90 : decode cX9_hashOfProspects 90 = .ok (.getfield 10, 3) := by decide +kernel
theorem dX9_hashOfProspects_93 : decode cX9_hashOfProspects 93 = .ok (.getfield 95, 3) := by decide +kernel
theorem dX9_hashOfProspects_96 : decode cX9_hashOfProspects 96 = .ok (.invokevirtual 231, 3) := by decide +kernel
theorem dX9_hashOfProspects_99 : decode cX9_hashOfProspects 99 = .ok (.invokestatic 295, 3) := by decide +kernel
theorem dX9_hashOfProspects_102 : decode cX9_hashOfProspects 102 = .ok (.i2l, 1) := by decide +kernel
theorem dX9_hashOfProspects_103 : decode cX9_hashOfProspects 103 = .ok (.invokestatic 319, 3) := by decide +kernel
theorem dX9_hashOfProspects_106 : decode cX9_hashOfProspects 106 = .ok (.lstore 4, 2) := by decide +kernel
theorem dX9_hashOfProspects_108 : decode cX9_hashOfProspects 108 = .ok (.lload 4, 2) := by decide +kernel
theorem dX9_hashOfProspects_110 : decode cX9_hashOfProspects 110 = .ok (.lreturn, 1) := by decide +kernel
theorem dX9_bitsOfMean_0 : decode cX9_bitsOfMean 0 = .ok (.iload_n 0, 1) := by decide +kernel
theorem dX9_bitsOfMean_1 : decode cX9_bitsOfMean 1 = .ok (.ifCond .gt 5, 3) := by decide +kernel
theorem dX9_bitsOfMean_4 : decode cX9_bitsOfMean 4 = .ok (.lconst 0, 1) := by decide +kernel
theorem dX9_bitsOfMean_5 : decode cX9_bitsOfMean 5 = .ok (.lreturn, 1) := by decide +kernel
theorem dX9_bitsOfMean_6 : decode cX9_bitsOfMean 6 = .ok (.iconst 0, 1) := by decide +kernel
theorem dX9_bitsOfMean_7 : decode cX9_bitsOfMean 7 = .ok (.istore_n 1, 1) := by decide +kernel
theorem dX9_bitsOfMean_8 : decode cX9_bitsOfMean 8 = .ok (.iload_n 1, 1) := by decide +kernel
theorem dX9_bitsOfMean_9 : decode cX9_bitsOfMean 9 = .ok (.bipush 30, 2) := by decide +kernel
theorem dX9_bitsOfMean_11 : decode cX9_bitsOfMean 11 = .ok (.if_icmp .ge 17, 3) := by decide +kernel
theorem dX9_bitsOfMean_14 : decode cX9_bitsOfMean 14 = .ok (.iload_n 0, 1) := by decide +kernel
theorem dX9_bitsOfMean_15 : decode cX9_bitsOfMean 15 = .ok (.iload_n 1, 1) := by decide +kernel
theorem dX9_bitsOfMean_16 : decode cX9_bitsOfMean 16 = .ok (.iconst 1, 1) := by decide +kernel
theorem dX9_bitsOfMean_17 : decode cX9_bitsOfMean 17 = .ok (.iadd, 1) := by decide +kernel
theorem dX9_bitsOfMean_18 : decode cX9_bitsOfMean 18 = .ok (.ishr, 1) := by decide +kernel
theorem dX9_bitsOfMean_19 : decode cX9_bitsOfMean 19 = .ok (.ifCond .le 9, 3) := by decide +kernel
theorem dX9_bitsOfMean_22 : decode cX9_bitsOfMean 22 = .ok (.iinc 1 1, 3) := by decide +kernel
theorem dX9_bitsOfMean_25 : decode cX9_bitsOfMean 25 = .ok (.goto (-17), 3) := by decide +kernel
theorem dX9_bitsOfMean_28 : decode cX9_bitsOfMean 28 = .ok (.sipush 1023, 3) := by decide +kernel
theorem dX9_bitsOfMean_31 : decode cX9_bitsOfMean 31 = .ok (.iload_n 1, 1) := by decide +kernel
theorem dX9_bitsOfMean_32 : decode cX9_bitsOfMean 32 = .ok (.iadd, 1) := by decide +kernel
theorem dX9_bitsOfMean_33 : decode cX9_bitsOfMean 33 = .ok (.iconst 4, 1) := by decide +kernel
theorem dX9_bitsOfMean_34 : decode cX9_bitsOfMean 34 = .ok (.isub, 1) := by decide +kernel
theorem dX9_bitsOfMean_35 : decode cX9_bitsOfMean 35 = .ok (.i2l, 1) := by decide +kernel
theorem dX9_bitsOfMean_36 : decode cX9_bitsOfMean 36 = .ok (.lstore_n 2, 1) := by decide +kernel
theorem dX9_bitsOfMean_37 : decode cX9_bitsOfMean 37 = .ok (.iload_n 0, 1) := by decide +kernel
theorem dX9_bitsOfMean_38 : decode cX9_bitsOfMean 38 = .ok (.i2l, 1) := by decide +kernel
theorem dX9_bitsOfMean_39 : decode cX9_bitsOfMean 39 = .ok (.lconst 1, 1) := by decide +kernel
theorem dX9_bitsOfMean_40 : decode cX9_bitsOfMean 40 = .ok (.iload_n 1, 1) := by decide +kernel
theorem dX9_bitsOfMean_41 : decode cX9_bitsOfMean 41 = .ok (.lshl, 1) := by decide +kernel
theorem dX9_bitsOfMean_42 : decode cX9_bitsOfMean 42 = .ok (.lsub, 1) := by decide +kernel
theorem dX9_bitsOfMean_43 : decode cX9_bitsOfMean 43 = .ok (.bipush 52, 2) := by decide +kernel
theorem dX9_bitsOfMean_45 : decode cX9_bitsOfMean 45 = .ok (.iload_n 1, 1) := by decide +kernel
theorem dX9_bitsOfMean_46 : decode cX9_bitsOfMean 46 = .ok (.isub, 1) := by decide +kernel
theorem dX9_bitsOfMean_47 : decode cX9_bitsOfMean 47 = .ok (.lshl, 1) := by decide +kernel
theorem dX9_bitsOfMean_48 : decode cX9_bitsOfMean 48 = .ok (.lstore 4, 2) := by decide +kernel
theorem dX9_bitsOfMean_50 : decode cX9_bitsOfMean 50 = .ok (.lload_n 2, 1) := by decide +kernel
theorem dX9_bitsOfMean_51 : decode cX9_bitsOfMean 51 = .ok (.bipush 52, 2) := by decide +kernel
theorem dX9_bitsOfMean_53 : decode cX9_bitsOfMean 53 = .ok (.lshl, 1) := by decide +kernel
theorem dX9_bitsOfMean_54 : decode cX9_bitsOfMean 54 = .ok (.lload 4, 2) := by decide +kernel
theorem dX9_bitsOfMean_56 : decode cX9_bitsOfMean 56 = .ok (.ladd, 1) := by decide +kernel
theorem dX9_bitsOfMean_57 : decode cX9_bitsOfMean 57 = .ok (.lreturn, 1) := by decide +kernel
theorem dX9_firstWaiting_0 : decode cX9_firstWaiting 0 = .ok (.aload_n 0, 1) := by decide +kernel
theorem dX9_firstWaiting_1 : decode cX9_firstWaiting 1 = .ok (.getfield 10, 3) := by decide +kernel
theorem dX9_firstWaiting_4 : decode cX9_firstWaiting 4 = .ok (.getfield 80, 3) := by decide +kernel
theorem dX9_firstWaiting_7 : decode cX9_firstWaiting 7 = .ok (.getfield 228, 3) := by decide +kernel
theorem dX9_firstWaiting_10 : decode cX9_firstWaiting 10 = .ok (.istore_n 2, 1) := by decide +kernel
theorem dX9_firstWaiting_11 : decode cX9_firstWaiting 11 = .ok (.iconst 0, 1) := by decide +kernel
theorem dX9_firstWaiting_12 : decode cX9_firstWaiting 12 = .ok (.istore_n 3, 1) := by decide +kernel
theorem dX9_firstWaiting_13 : decode cX9_firstWaiting 13 = .ok (.iconst 0, 1) := by decide +kernel
theorem dX9_firstWaiting_14 : decode cX9_firstWaiting 14 = .ok (.istore 4, 2) := by decide +kernel
theorem dX9_firstWaiting_16 : decode cX9_firstWaiting 16 = .ok (.iload_n 2, 1) := by decide +kernel
theorem dX9_firstWaiting_17 : decode cX9_firstWaiting 17 = .ok (.ineg, 1) := by decide +kernel
theorem dX9_firstWaiting_18 : decode cX9_firstWaiting 18 = .ok (.istore 5, 2) := by decide +kernel
theorem dX9_firstWaiting_20 : decode cX9_firstWaiting 20 = .ok (.iload 5, 2) := by decide +kernel
theorem dX9_firstWaiting_22 : decode cX9_firstWaiting 22 = .ok (.iload_n 1, 1) := by decide +kernel
theorem dX9_firstWaiting_23 : decode cX9_firstWaiting 23 = .ok (.if_icmp .gt 95, 3) := by decide +kernel
theorem dX9_firstWaiting_26 : decode cX9_firstWaiting 26 = .ok (.iload 5, 2) := by decide +kernel
theorem dX9_firstWaiting_28 : decode cX9_firstWaiting 28 = .ok (.iload_n 2, 1) := by decide +kernel
theorem dX9_firstWaiting_29 : decode cX9_firstWaiting 29 = .ok (.iadd, 1) := by decide +kernel
theorem dX9_firstWaiting_30 : decode cX9_firstWaiting 30 = .ok (.istore 6, 2) := by decide +kernel
theorem dX9_firstWaiting_32 : decode cX9_firstWaiting 32 = .ok (.iload 6, 2) := by decide +kernel
theorem dX9_firstWaiting_34 : decode cX9_firstWaiting 34 = .ok (.bipush 16, 2) := by decide +kernel
theorem dX9_firstWaiting_36 : decode cX9_firstWaiting 36 = .ok (.if_icmp .ge 49, 3) := by decide +kernel
theorem dX9_firstWaiting_39 : decode cX9_firstWaiting 39 = .ok (.iload 4, 2) := by decide +kernel
theorem dX9_firstWaiting_41 : decode cX9_firstWaiting 41 = .ok (.iload_n 3, 1) := by decide +kernel
theorem dX9_firstWaiting_42 : decode cX9_firstWaiting 42 = .ok (.if_icmp .le 29, 3) := by decide +kernel
theorem dX9_firstWaiting_45 : decode cX9_firstWaiting 45 = .ok (.aload_n 0, 1) := by decide +kernel
theorem dX9_firstWaiting_46 : decode cX9_firstWaiting 46 = .ok (.aload_n 0, 1) := by decide +kernel
theorem dX9_firstWaiting_47 : decode cX9_firstWaiting 47 = .ok (.getfield 35, 3) := by decide +kernel
theorem dX9_firstWaiting_50 : decode cX9_firstWaiting 50 = .ok (.iload 4, 2) := by decide +kernel
theorem dX9_firstWaiting_52 : decode cX9_firstWaiting 52 = .ok (.iconst 1, 1) := by decide +kernel
theorem dX9_firstWaiting_53 : decode cX9_firstWaiting 53 = .ok (.isub, 1) := by decide +kernel
theorem dX9_firstWaiting_54 : decode cX9_firstWaiting 54 = .ok (.invokevirtual 204, 3) := by decide +kernel
theorem dX9_firstWaiting_57 : decode cX9_firstWaiting 57 = .ok (.iload 6, 2) := by decide +kernel
theorem dX9_firstWaiting_59 : decode cX9_firstWaiting 59 = .ok (.invokevirtual 354, 3) := by decide +kernel
theorem dX9_firstWaiting_62 : decode cX9_firstWaiting 62 = .ok (.ifCond .eq 9, 3) := by decide +kernel
theorem dX9_firstWaiting_65 : decode cX9_firstWaiting 65 = .ok (.iinc 4 (-1), 3) := by decide +kernel
theorem dX9_firstWaiting_68 : decode cX9_firstWaiting 68 = .ok (.goto (-29), 3) := by decide +kernel
theorem dX9_firstWaiting_71 : decode cX9_firstWaiting 71 = .ok (.aload_n 0, 1) := by decide +kernel
theorem dX9_firstWaiting_72 : decode cX9_firstWaiting 72 = .ok (.getfield 35, 3) := by decide +kernel
theorem dX9_firstWaiting_75 : decode cX9_firstWaiting 75 = .ok (.iload 4, 2) := by decide +kernel
theorem dX9_firstWaiting_77 : decode cX9_firstWaiting 77 = .ok (.iload 6, 2) := by decide +kernel
theorem dX9_firstWaiting_79 : decode cX9_firstWaiting 79 = .ok (.invokevirtual 357, 3) := by decide +kernel
theorem dX9_firstWaiting_82 : decode cX9_firstWaiting 82 = .ok (.iinc 4 1, 3) := by decide +kernel
theorem dX9_firstWaiting_85 : decode cX9_firstWaiting 85 = .ok (.iload_n 3, 1) := by decide +kernel
theorem dX9_firstWaiting_86 : decode cX9_firstWaiting 86 = .ok (.iload 4, 2) := by decide +kernel
theorem dX9_firstWaiting_88 : decode cX9_firstWaiting 88 = .ok (.if_icmp .ge 24, 3) := by decide +kernel
theorem dX9_firstWaiting_91 : decode cX9_firstWaiting 91 = .ok (.aload_n 0, 1) := by decide +kernel
theorem dX9_firstWaiting_92 : decode cX9_firstWaiting 92 = .ok (.getfield 35, 3) := by decide +kernel
theorem dX9_firstWaiting_95 : decode cX9_firstWaiting 95 = .ok (.iload_n 3, 1) := by decide +kernel
theorem dX9_firstWaiting_96 : decode cX9_firstWaiting 96 = .ok (.invokevirtual 204, 3) := by decide +kernel
theorem dX9_firstWaiting_99 : decode cX9_firstWaiting 99 = .ok (.iload 5, 2) := by decide +kernel
theorem dX9_firstWaiting_101 : decode cX9_firstWaiting 101 = .ok (.iload_n 2, 1) := by decide +kernel
theorem dX9_firstWaiting_102 : decode cX9_firstWaiting 102 = .ok (.isub, 1) := by decide +kernel
theorem dX9_firstWaiting_103 : decode cX9_firstWaiting 103 = .ok (.if_icmp .ge 9, 3) := by decide +kernel
theorem dX9_firstWaiting_106 : decode cX9_firstWaiting 106 = .ok (.iinc 3 1, 3) := by decide +kernel
theorem dX9_firstWaiting_109 : decode cX9_firstWaiting 109 = .ok (.goto (-24), 3) := by decide +kernel
theorem dX9_firstWaiting_112 : decode cX9_firstWaiting 112 = .ok (.iinc 5 1, 3) := by decide +kernel
theorem dX9_firstWaiting_115 : decode cX9_firstWaiting 115 = .ok (.goto (-95), 3) := by decide +kernel
theorem dX9_firstWaiting_118 : decode cX9_firstWaiting 118 = .ok (.aload_n 0, 1) := by decide +kernel
theorem dX9_firstWaiting_119 : decode cX9_firstWaiting 119 = .ok (.getfield 10, 3) := by decide +kernel
theorem dX9_firstWaiting_122 : decode cX9_firstWaiting 122 = .ok (.getfield 56, 3) := by decide +kernel
theorem dX9_firstWaiting_125 : decode cX9_firstWaiting 125 = .ok (.aload_n 0, 1) := by decide +kernel
theorem dX9_firstWaiting_126 : decode cX9_firstWaiting 126 = .ok (.getfield 35, 3) := by decide +kernel
theorem dX9_firstWaiting_129 : decode cX9_firstWaiting 129 = .ok (.iload_n 3, 1) := by decide +kernel
theorem dX9_firstWaiting_130 : decode cX9_firstWaiting 130 = .ok (.invokevirtual 204, 3) := by decide +kernel
theorem dX9_firstWaiting_133 : decode cX9_firstWaiting 133 = .ok (.invokevirtual 262, 3) := by decide +kernel
theorem dX9_firstWaiting_136 : decode cX9_firstWaiting 136 = .ok (.ireturn, 1) := by decide +kernel
theorem dX9_isNotThicker_0 : decode cX9_isNotThicker 0 = .ok (.aload_n 0, 1) := by decide +kernel
theorem dX9_isNotThicker_1 : decode cX9_isNotThicker 1 = .ok (.getfield 10, 3) := by decide +kernel
theorem dX9_isNotThicker_4 : decode cX9_isNotThicker 4 = .ok (.getfield 56, 3) := by decide +kernel
theorem dX9_isNotThicker_7 : decode cX9_isNotThicker 7 = .ok (.iload_n 1, 1) := by decide +kernel
theorem dX9_isNotThicker_8 : decode cX9_isNotThicker 8 = .ok (.invokevirtual 262, 3) := by decide +kernel
theorem dX9_isNotThicker_11 : decode cX9_isNotThicker 11 = .ok (.aload_n 0, 1) := by decide +kernel
theorem dX9_isNotThicker_12 : decode cX9_isNotThicker 12 = .ok (.getfield 10, 3) := by decide +kernel
theorem dX9_isNotThicker_15 : decode cX9_isNotThicker 15 = .ok (.getfield 56, 3) := by decide +kernel
theorem dX9_isNotThicker_18 : decode cX9_isNotThicker 18 = .ok (.iload_n 2, 1) := by decide +kernel
theorem dX9_isNotThicker_19 : decode cX9_isNotThicker 19 = .ok (.invokevirtual 262, 3) := by decide +kernel
theorem dX9_isNotThicker_22 : decode cX9_isNotThicker 22 = .ok (.if_icmp .gt 7, 3) := by decide +kernel
theorem dX9_isNotThicker_25 : decode cX9_isNotThicker 25 = .ok (.iconst 1, 1) := by decide +kernel
theorem dX9_isNotThicker_26 : decode cX9_isNotThicker 26 = .ok (.goto 4, 3) := by decide +kernel
theorem dX9_isNotThicker_29 : decode cX9_isNotThicker 29 = .ok (.iconst 0, 1) := by decide +kernel
theorem dX9_isNotThicker_30 : decode cX9_isNotThicker 30 = .ok (.ireturn, 1) := by decide +kernel
theorem dX9_countPasses_0 : decode cX9_countPasses 0 = .ok (.iconst 0, 1) := by decide +kernel
theorem dX9_countPasses_1 : decode cX9_countPasses 1 = .ok (.istore_n 1, 1) := by decide +kernel
theorem dX9_countPasses_2 : decode cX9_countPasses 2 = .ok (.iload_n 1, 1) := by decide +kernel
theorem dX9_countPasses_3 : decode cX9_countPasses 3 = .ok (.bipush 16, 2) := by decide +kernel
theorem dX9_countPasses_5 : decode cX9_countPasses 5 = .ok (.if_icmp .ge 35, 3) := by decide +kernel
theorem dX9_countPasses_8 : decode cX9_countPasses 8 = .ok (.aload_n 0, 1) := by decide +kernel
theorem dX9_countPasses_9 : decode cX9_countPasses 9 = .ok (.getfield 39, 3) := by decide +kernel
theorem dX9_countPasses_12 : decode cX9_countPasses 12 = .ok (.iload_n 1, 1) := by decide +kernel
theorem dX9_countPasses_13 : decode cX9_countPasses 13 = .ok (.aload_n 0, 1) := by decide +kernel
theorem dX9_countPasses_14 : decode cX9_countPasses 14 = .ok (.getfield 10, 3) := by decide +kernel
theorem dX9_countPasses_17 : decode cX9_countPasses 17 = .ok (.aload_n 0, 1) := by decide +kernel
theorem dX9_countPasses_18 : decode cX9_countPasses 18 = .ok (.getfield 10, 3) := by decide +kernel
theorem dX9_countPasses_21 : decode cX9_countPasses 21 = .ok (.getfield 133, 3) := by decide +kernel
theorem dX9_countPasses_24 : decode cX9_countPasses 24 = .ok (.getfield 152, 3) := by decide +kernel
theorem dX9_countPasses_27 : decode cX9_countPasses 27 = .ok (.iload_n 1, 1) := by decide +kernel
theorem dX9_countPasses_28 : decode cX9_countPasses 28 = .ok (.invokevirtual 359, 3) := by decide +kernel
theorem dX9_countPasses_31 : decode cX9_countPasses 31 = .ok (.invokevirtual 357, 3) := by decide +kernel
theorem dX9_countPasses_34 : decode cX9_countPasses 34 = .ok (.iinc 1 1, 3) := by decide +kernel
theorem dX9_countPasses_37 : decode cX9_countPasses 37 = .ok (.goto (-35), 3) := by decide +kernel
theorem dX9_countPasses_40 : decode cX9_countPasses 40 = .ok (.iconst 0, 1) := by decide +kernel
theorem dX9_countPasses_41 : decode cX9_countPasses 41 = .ok (.istore_n 1, 1) := by decide +kernel
theorem dX9_countPasses_42 : decode cX9_countPasses 42 = .ok (.iload_n 1, 1) := by decide +kernel
theorem dX9_countPasses_43 : decode cX9_countPasses 43 = .ok (.sipush 1000, 3) := by decide +kernel
theorem dX9_countPasses_46 : decode cX9_countPasses 46 = .ok (.if_icmp .ge 64, 3) := by decide +kernel
theorem dX9_countPasses_49 : decode cX9_countPasses 49 = .ok (.aload_n 0, 1) := by decide +kernel
theorem dX9_countPasses_50 : decode cX9_countPasses 50 = .ok (.getfield 39, 3) := by decide +kernel
theorem dX9_countPasses_53 : decode cX9_countPasses 53 = .ok (.invokevirtual 362, 3) := by decide +kernel
theorem dX9_countPasses_56 : decode cX9_countPasses 56 = .ok (.ifCond .le 54, 3) := by decide +kernel
theorem dX9_countPasses_59 : decode cX9_countPasses 59 = .ok (.iconst 0, 1) := by decide +kernel
theorem dX9_countPasses_60 : decode cX9_countPasses 60 = .ok (.istore_n 2, 1) := by decide +kernel
theorem dX9_countPasses_61 : decode cX9_countPasses 61 = .ok (.iload_n 2, 1) := by decide +kernel
theorem dX9_countPasses_62 : decode cX9_countPasses 62 = .ok (.bipush 16, 2) := by decide +kernel
theorem dX9_countPasses_64 : decode cX9_countPasses 64 = .ok (.if_icmp .ge 40, 3) := by decide +kernel
theorem dX9_countPasses_67 : decode cX9_countPasses 67 = .ok (.aload_n 0, 1) := by decide +kernel
theorem dX9_countPasses_68 : decode cX9_countPasses 68 = .ok (.getfield 39, 3) := by decide +kernel
theorem dX9_countPasses_71 : decode cX9_countPasses 71 = .ok (.iload_n 2, 1) := by decide +kernel
theorem dX9_countPasses_72 : decode cX9_countPasses 72 = .ok (.iconst 0, 1) := by decide +kernel
theorem dX9_countPasses_73 : decode cX9_countPasses 73 = .ok (.aload_n 0, 1) := by decide +kernel
theorem dX9_countPasses_74 : decode cX9_countPasses 74 = .ok (.getfield 39, 3) := by decide +kernel
theorem dX9_countPasses_77 : decode cX9_countPasses 77 = .ok (.iload_n 2, 1) := by decide +kernel
theorem dX9_countPasses_78 : decode cX9_countPasses 78 = .ok (.invokevirtual 204, 3) := by decide +kernel
theorem dX9_countPasses_81 : decode cX9_countPasses 81 = .ok (.aload_n 0, 1) := by decide +kernel
theorem dX9_countPasses_82 : decode cX9_countPasses 82 = .ok (.getfield 10, 3) := by decide +kernel
theorem dX9_countPasses_85 : decode cX9_countPasses 85 = .ok (.getfield 95, 3) := by decide +kernel
theorem dX9_countPasses_88 : decode cX9_countPasses 88 = .ok (.invokevirtual 231, 3) := by decide +kernel
theorem dX9_countPasses_91 : decode cX9_countPasses 91 = .ok (.isub, 1) := by decide +kernel
theorem dX9_countPasses_92 : decode cX9_countPasses 92 = .ok (.invokestatic 272, 3) := by decide +kernel
theorem dX9_countPasses_95 : decode cX9_countPasses 95 = .ok (.invokevirtual 357, 3) := by decide +kernel
theorem dX9_countPasses_98 : decode cX9_countPasses 98 = .ok (.iinc 2 1, 3) := by decide +kernel
theorem dX9_countPasses_101 : decode cX9_countPasses 101 = .ok (.goto (-40), 3) := by decide +kernel
theorem dX9_countPasses_104 : decode cX9_countPasses 104 = .ok (.iinc 1 1, 3) := by decide +kernel
theorem dX9_countPasses_107 : decode cX9_countPasses 107 = .ok (.goto (-65), 3) := by decide +kernel
theorem dX9_countPasses_110 : decode cX9_countPasses 110 = .ok (.iload_n 1, 1) := by decide +kernel
theorem dX9_countPasses_111 : decode cX9_countPasses 111 = .ok (.ireturn, 1) := by decide +kernel
theorem dX9_dividedUp_0 : decode cX9_dividedUp 0 = .ok (.iload_n 1, 1) := by decide +kernel
theorem dX9_dividedUp_1 : decode cX9_dividedUp 1 = .ok (.ifCond .gt 7, 3) := by decide +kernel
theorem dX9_dividedUp_4 : decode cX9_dividedUp 4 = .ok (.iconst 0, 1) := by decide +kernel
theorem dX9_dividedUp_5 : decode cX9_dividedUp 5 = .ok (.goto 10, 3) := by decide +kernel
theorem dX9_dividedUp_8 : decode cX9_dividedUp 8 = .ok (.iload_n 0, 1) := by decide +kernel
theorem dX9_dividedUp_9 : decode cX9_dividedUp 9 = .ok (.iload_n 1, 1) := by decide +kernel
theorem dX9_dividedUp_10 : decode cX9_dividedUp 10 = .ok (.iadd, 1) := by decide +kernel
theorem dX9_dividedUp_11 : decode cX9_dividedUp 11 = .ok (.iconst 1, 1) := by decide +kernel
theorem dX9_dividedUp_12 : decode cX9_dividedUp 12 = .ok (.isub, 1) := by decide +kernel
theorem dX9_dividedUp_13 : decode cX9_dividedUp 13 = .ok (.iload_n 1, 1) := by decide +kernel
theorem dX9_dividedUp_14 : decode cX9_dividedUp 14 = .ok (.idiv, 1) := by decide +kernel
theorem dX9_dividedUp_15 : decode cX9_dividedUp 15 = .ok (.ireturn, 1) := by decide +kernel
theorem dX9_isIndex_0 : decode cX9_isIndex 0 = .ok (.iload_n 0, 1) := by decide +kernel
theorem dX9_isIndex_1 : decode cX9_isIndex 1 = .ok (.ifCond .lt 12, 3) := by decide +kernel
theorem dX9_isIndex_4 : decode cX9_isIndex 4 = .ok (.iload_n 0, 1) := by decide +kernel
theorem dX9_isIndex_5 : decode cX9_isIndex 5 = .ok (.iload_n 1, 1) := by decide +kernel
theorem dX9_isIndex_6 : decode cX9_isIndex 6 = .ok (.if_icmp .ge 7, 3) := by decide +kernel
theorem dX9_isIndex_9 : decode cX9_isIndex 9 = .ok (.iconst 1, 1) := by decide +kernel
theorem dX9_isIndex_10 : decode cX9_isIndex 10 = .ok (.goto 4, 3) := by decide +kernel
theorem dX9_isIndex_13 : decode cX9_isIndex 13 = .ok (.iconst 0, 1) := by decide +kernel
theorem dX9_isIndex_14 : decode cX9_isIndex 14 = .ok (.ireturn, 1) := by decide +kernel
theorem dX9_checkIndex_0 : decode cX9_checkIndex 0 = .ok (.iload_n 0, 1) := by decide +kernel
theorem dX9_checkIndex_1 : decode cX9_checkIndex 1 = .ok (.iload_n 1, 1) := by decide +kernel
theorem dX9_checkIndex_2 : decode cX9_checkIndex 2 = .ok (.invokestatic 209, 3) := by decide +kernel
theorem dX9_checkIndex_5 : decode cX9_checkIndex 5 = .ok (.ifCond .ne 11, 3) := by decide +kernel
theorem dX9_checkIndex_8 : decode cX9_checkIndex 8 = .ok (.new 365, 3) := by decide +kernel
theorem dX9_checkIndex_11 : decode cX9_checkIndex 11 = .ok (.dup, 1) := by decide +kernel
theorem dX9_checkIndex_12 : decode cX9_checkIndex 12 = .ok (.invokespecial 367, 3) := by decide +kernel
theorem dX9_checkIndex_15 : decode cX9_checkIndex 15 = .ok (.athrow, 1) := by decide +kernel
theorem dX9_checkIndex_16 : decode cX9_checkIndex 16 = .ok (.return_, 1) := by decide +kernel
theorem dX9_checkArgument_0 : decode cX9_checkArgument 0 = .ok (.iload_n 0, 1) := by decide +kernel
theorem dX9_checkArgument_1 : decode cX9_checkArgument 1 = .ok (.ifCond .ne 11, 3) := by decide +kernel
theorem dX9_checkArgument_4 : decode cX9_checkArgument 4 = .ok (.new 368, 3) := by decide +kernel
theorem dX9_checkArgument_7 : decode cX9_checkArgument 7 = .ok (.dup, 1) := by decide +kernel
theorem dX9_checkArgument_8 : decode cX9_checkArgument 8 = .ok (.invokespecial 370, 3) := by decide +kernel
theorem dX9_checkArgument_11 : decode cX9_checkArgument 11 = .ok (.athrow, 1) := by decide +kernel
theorem dX9_checkArgument_12 : decode cX9_checkArgument 12 = .ok (.return_, 1) := by decide +kernel
theorem dX9_checkState_0 : decode cX9_checkState 0 = .ok (.iload_n 0, 1) := by decide +kernel
theorem dX9_checkState_1 : decode cX9_checkState 1 = .ok (.ifCond .ne 11, 3) := by decide +kernel
theorem dX9_checkState_4 : decode cX9_checkState 4 = .ok (.new 371, 3) := by decide +kernel
theorem dX9_checkState_7 : decode cX9_checkState 7 = .ok (.dup, 1) := by decide +kernel
theorem dX9_checkState_8 : decode cX9_checkState 8 = .ok (.invokespecial 373, 3) := by decide +kernel
theorem dX9_checkState_11 : decode cX9_checkState 11 = .ok (.athrow, 1) := by decide +kernel
theorem dX9_checkState_12 : decode cX9_checkState 12 = .ok (.return_, 1) := by decide +kernel
theorem dX9_checkRange_0 : decode cX9_checkRange 0 = .ok (.iload_n 0, 1) := by decide +kernel
theorem dX9_checkRange_1 : decode cX9_checkRange 1 = .ok (.iload_n 1, 1) := by decide +kernel
theorem dX9_checkRange_2 : decode cX9_checkRange 2 = .ok (.if_icmp .lt 12, 3) := by decide +kernel
theorem dX9_checkRange_5 : decode cX9_checkRange 5 = .ok (.iload_n 0, 1) := by decide +kernel
theorem dX9_checkRange_6 : decode cX9_checkRange 6 = .ok (.iload_n 2, 1) := by decide +kernel
theorem dX9_checkRange_7 : decode cX9_checkRange 7 = .ok (.if_icmp .gt 7, 3) := by decide +kernel
theorem dX9_checkRange_10 : decode cX9_checkRange 10 = .ok (.iconst 1, 1) := by decide +kernel
theorem dX9_checkRange_11 : decode cX9_checkRange 11 = .ok (.goto 4, 3) := by decide +kernel
theorem dX9_checkRange_14 : decode cX9_checkRange 14 = .ok (.iconst 0, 1) := by decide +kernel
theorem dX9_checkRange_15 : decode cX9_checkRange 15 = .ok (.invokestatic 198, 3) := by decide +kernel
theorem dX9_checkRange_18 : decode cX9_checkRange 18 = .ok (.return_, 1) := by decide +kernel
theorem dX9_checkMaster_0 : decode cX9_checkMaster 0 = .ok (.iload_n 0, 1) := by decide +kernel
theorem dX9_checkMaster_1 : decode cX9_checkMaster 1 = .ok (.iconst 3, 1) := by decide +kernel
theorem dX9_checkMaster_2 : decode cX9_checkMaster 2 = .ok (.invokestatic 129, 3) := by decide +kernel
theorem dX9_checkMaster_5 : decode cX9_checkMaster 5 = .ok (.return_, 1) := by decide +kernel
theorem dX9_checkStep_0 : decode cX9_checkStep 0 = .ok (.iload_n 0, 1) := by decide +kernel
theorem dX9_checkStep_1 : decode cX9_checkStep 1 = .ok (.bipush 16, 2) := by decide +kernel
theorem dX9_checkStep_3 : decode cX9_checkStep 3 = .ok (.invokestatic 129, 3) := by decide +kernel
theorem dX9_checkStep_6 : decode cX9_checkStep 6 = .ok (.return_, 1) := by decide +kernel
theorem dX9_checkPiece_0 : decode cX9_checkPiece 0 = .ok (.iload_n 1, 1) := by decide +kernel
theorem dX9_checkPiece_1 : decode cX9_checkPiece 1 = .ok (.aload_n 0, 1) := by decide +kernel
theorem dX9_checkPiece_2 : decode cX9_checkPiece 2 = .ok (.getfield 10, 3) := by decide +kernel
theorem dX9_checkPiece_5 : decode cX9_checkPiece 5 = .ok (.getfield 133, 3) := by decide +kernel
theorem dX9_checkPiece_8 : decode cX9_checkPiece 8 = .ok (.getfield 137, 3) := by decide +kernel
theorem dX9_checkPiece_11 : decode cX9_checkPiece 11 = .ok (.invokestatic 129, 3) := by decide +kernel
theorem dX9_checkPiece_14 : decode cX9_checkPiece 14 = .ok (.return_, 1) := by decide +kernel
theorem dX9_checkMounted_0 : decode cX9_checkMounted 0 = .ok (.aload_n 0, 1) := by decide +kernel
theorem dX9_checkMounted_1 : decode cX9_checkMounted 1 = .ok (.getfield 10, 3) := by decide +kernel
theorem dX9_checkMounted_4 : decode cX9_checkMounted 4 = .ok (.getfield 133, 3) := by decide +kernel
theorem dX9_checkMounted_7 : decode cX9_checkMounted 7 = .ok (.invokevirtual 161, 3) := by decide +kernel
theorem dX9_checkMounted_10 : decode cX9_checkMounted 10 = .ok (.invokestatic 142, 3) := by decide +kernel
theorem dX9_checkMounted_13 : decode cX9_checkMounted 13 = .ok (.return_, 1) := by decide +kernel
theorem dX9_checkReady_0 : decode cX9_checkReady 0 = .ok (.aload_n 0, 1) := by decide +kernel
theorem dX9_checkReady_1 : decode cX9_checkReady 1 = .ok (.invokevirtual 165, 3) := by decide +kernel
theorem dX9_checkReady_4 : decode cX9_checkReady 4 = .ok (.aload_n 0, 1) := by decide +kernel
theorem dX9_checkReady_5 : decode cX9_checkReady 5 = .ok (.getfield 10, 3) := by decide +kernel
theorem dX9_checkReady_8 : decode cX9_checkReady 8 = .ok (.invokevirtual 175, 3) := by decide +kernel
theorem dX9_checkReady_11 : decode cX9_checkReady 11 = .ok (.invokestatic 142, 3) := by decide +kernel
theorem dX9_checkReady_14 : decode cX9_checkReady 14 = .ok (.return_, 1) := by decide +kernel
theorem dX10_init_0 : decode cX10_init 0 = .ok (.aload_n 0, 1) := by decide +kernel
theorem dX10_init_1 : decode cX10_init 1 = .ok (.invokespecial 1, 3) := by decide +kernel
theorem dX10_init_4 : decode cX10_init 4 = .ok (.aload_n 0, 1) := by decide +kernel
theorem dX10_init_5 : decode cX10_init 5 = .ok (.sipush 1560, 3) := by decide +kernel
theorem dX10_init_8 : decode cX10_init 8 = .ok (.newarray .int, 2) := by decide +kernel
theorem dX10_init_10 : decode cX10_init 10 = .ok (.putfield 7, 3) := by decide +kernel
theorem dX10_init_13 : decode cX10_init 13 = .ok (.aload_n 0, 1) := by decide +kernel
theorem dX10_init_14 : decode cX10_init 14 = .ok (.bipush 60, 2) := by decide +kernel
theorem dX10_init_16 : decode cX10_init 16 = .ok (.newarray .int, 2) := by decide +kernel
theorem dX10_init_18 : decode cX10_init 18 = .ok (.putfield 13, 3) := by decide +kernel
theorem dX10_init_21 : decode cX10_init 21 = .ok (.iconst 0, 1) := by decide +kernel
theorem dX10_init_22 : decode cX10_init 22 = .ok (.istore_n 1, 1) := by decide +kernel
theorem dX10_init_23 : decode cX10_init 23 = .ok (.iload_n 1, 1) := by decide +kernel
theorem dX10_init_24 : decode cX10_init 24 = .ok (.bipush 48, 2) := by decide +kernel
theorem dX10_init_26 : decode cX10_init 26 = .ok (.if_icmp .ge 17, 3) := by decide +kernel
theorem dX10_init_29 : decode cX10_init 29 = .ok (.aload_n 0, 1) := by decide +kernel
theorem dX10_init_30 : decode cX10_init 30 = .ok (.getfield 7, 3) := by decide +kernel
theorem dX10_init_33 : decode cX10_init 33 = .ok (.iload_n 1, 1) := by decide +kernel
theorem dX10_init_34 : decode cX10_init 34 = .ok (.bipush 30, 2) := by decide +kernel
theorem dX10_init_36 : decode cX10_init 36 = .ok (.iastore, 1) := by decide +kernel
theorem dX10_init_37 : decode cX10_init 37 = .ok (.iinc 1 1, 3) := by decide +kernel
theorem dX10_init_40 : decode cX10_init 40 = .ok (.goto (-17), 3) := by decide +kernel
theorem dX10_init_43 : decode cX10_init 43 = .ok (.aload_n 0, 1) := by decide +kernel
theorem dX10_init_44 : decode cX10_init 44 = .ok (.getfield 7, 3) := by decide +kernel
theorem dX10_init_47 : decode cX10_init 47 = .ok (.bipush 49, 2) := by decide +kernel
theorem dX10_init_49 : decode cX10_init 49 = .ok (.iconst 1, 1) := by decide +kernel
theorem dX10_init_50 : decode cX10_init 50 = .ok (.iastore, 1) := by decide +kernel
theorem dX10_init_51 : decode cX10_init 51 = .ok (.aload_n 0, 1) := by decide +kernel
theorem dX10_init_52 : decode cX10_init 52 = .ok (.getfield 7, 3) := by decide +kernel
theorem dX10_init_55 : decode cX10_init 55 = .ok (.bipush 53, 2) := by decide +kernel
theorem dX10_init_57 : decode cX10_init 57 = .ok (.bipush 100, 2) := by decide +kernel
theorem dX10_init_59 : decode cX10_init 59 = .ok (.iastore, 1) := by decide +kernel
theorem dX10_init_60 : decode cX10_init 60 = .ok (.aload_n 0, 1) := by decide +kernel
theorem dX10_init_61 : decode cX10_init 61 = .ok (.getfield 7, 3) := by decide +kernel
theorem dX10_init_64 : decode cX10_init 64 = .ok (.bipush 54, 2) := by decide +kernel
theorem dX10_init_66 : decode cX10_init 66 = .ok (.iconst 3, 1) := by decide +kernel
theorem dX10_init_67 : decode cX10_init 67 = .ok (.iastore, 1) := by decide +kernel
theorem dX10_init_68 : decode cX10_init 68 = .ok (.aload_n 0, 1) := by decide +kernel
theorem dX10_init_69 : decode cX10_init 69 = .ok (.getfield 7, 3) := by decide +kernel
theorem dX10_init_72 : decode cX10_init 72 = .ok (.bipush 55, 2) := by decide +kernel
theorem dX10_init_74 : decode cX10_init 74 = .ok (.iconst 2, 1) := by decide +kernel
theorem dX10_init_75 : decode cX10_init 75 = .ok (.iastore, 1) := by decide +kernel
theorem dX10_init_76 : decode cX10_init 76 = .ok (.aload_n 0, 1) := by decide +kernel
theorem dX10_init_77 : decode cX10_init 77 = .ok (.getfield 7, 3) := by decide +kernel
theorem dX10_init_80 : decode cX10_init 80 = .ok (.bipush 56, 2) := by decide +kernel
theorem dX10_init_82 : decode cX10_init 82 = .ok (.iconst 2, 1) := by decide +kernel
theorem dX10_init_83 : decode cX10_init 83 = .ok (.iastore, 1) := by decide +kernel
theorem dX10_init_84 : decode cX10_init 84 = .ok (.aload_n 0, 1) := by decide +kernel
theorem dX10_init_85 : decode cX10_init 85 = .ok (.getfield 7, 3) := by decide +kernel
theorem dX10_init_88 : decode cX10_init 88 = .ok (.bipush 60, 2) := by decide +kernel
theorem dX10_init_90 : decode cX10_init 90 = .ok (.iconst (-1), 1) := by decide +kernel
theorem dX10_init_91 : decode cX10_init 91 = .ok (.iastore, 1) := by decide +kernel
theorem dX10_init_92 : decode cX10_init 92 = .ok (.return_, 1) := by decide +kernel
theorem dX10_thrown_0 : decode cX10_thrown 0 = .ok (.aload_n 0, 1) := by decide +kernel
theorem dX10_thrown_1 : decode cX10_thrown 1 = .ok (.getfield 16, 3) := by decide +kernel
theorem dX10_thrown_4 : decode cX10_thrown 4 = .ok (.ireturn, 1) := by decide +kernel
theorem dX10_in_0 : decode cX10_in 0 = .ok (.iload_n 0, 1) := by decide +kernel
theorem dX10_in_1 : decode cX10_in 1 = .ok (.iload_n 1, 1) := by decide +kernel
theorem dX10_in_2 : decode cX10_in 2 = .ok (.if_icmp .lt 12, 3) := by decide +kernel
theorem dX10_in_5 : decode cX10_in 5 = .ok (.iload_n 0, 1) := by decide +kernel
theorem dX10_in_6 : decode cX10_in 6 = .ok (.iload_n 2, 1) := by decide +kernel
theorem dX10_in_7 : decode cX10_in 7 = .ok (.if_icmp .gt 7, 3) := by decide +kernel
theorem dX10_in_10 : decode cX10_in 10 = .ok (.iconst 1, 1) := by decide +kernel
theorem dX10_in_11 : decode cX10_in 11 = .ok (.goto 4, 3) := by decide +kernel
theorem dX10_in_14 : decode cX10_in 14 = .ok (.iconst 0, 1) := by decide +kernel
theorem dX10_in_15 : decode cX10_in 15 = .ok (.ireturn, 1) := by decide +kernel
theorem dX10_holds_0 : decode cX10_holds 0 = .ok (.aload_n 0, 1) := by decide +kernel
theorem dX10_holds_1 : decode cX10_holds 1 = .ok (.iload_n 1, 1) := by decide +kernel
theorem dX10_holds_2 : decode cX10_holds 2 = .ok (.putfield 16, 3) := by decide +kernel
theorem dX10_holds_5 : decode cX10_holds 5 = .ok (.iload_n 1, 1) := by decide +kernel
theorem dX10_holds_6 : decode cX10_holds 6 = .ok (.ifCond .ne 7, 3) := by decide +kernel
theorem dX10_holds_9 : decode cX10_holds 9 = .ok (.iconst 1, 1) := by decide +kernel
theorem dX10_holds_10 : decode cX10_holds 10 = .ok (.goto 4, 3) := by decide +kernel
theorem dX10_holds_13 : decode cX10_holds 13 = .ok (.iconst 0, 1) := by decide +kernel
theorem dX10_holds_14 : decode cX10_holds 14 = .ok (.ireturn, 1) := by decide +kernel
theorem dX10_isMaster_0 : decode cX10_isMaster 0 = .ok (.iload_n 0, 1) := by decide +kernel
theorem dX10_isMaster_1 : decode cX10_isMaster 1 = .ok (.iconst 0, 1) := by decide +kernel
theorem dX10_isMaster_2 : decode cX10_isMaster 2 = .ok (.iconst 2, 1) := by decide +kernel
theorem dX10_isMaster_3 : decode cX10_isMaster 3 = .ok (.invokestatic 20, 3) := by decide +kernel
theorem dX10_isMaster_6 : decode cX10_isMaster 6 = .ok (.ireturn, 1) := by decide +kernel
theorem dX10_isStep_0 : decode cX10_isStep 0 = .ok (.iload_n 0, 1) := by decide +kernel
theorem dX10_isStep_1 : decode cX10_isStep 1 = .ok (.iconst 0, 1) := by decide +kernel
theorem dX10_isStep_2 : decode cX10_isStep 2 = .ok (.bipush 15, 2) := by decide +kernel
theorem dX10_isStep_4 : decode cX10_isStep 4 = .ok (.invokestatic 20, 3) := by decide +kernel
theorem dX10_isStep_7 : decode cX10_isStep 7 = .ok (.ireturn, 1) := by decide +kernel
theorem dX10_isPiece_0 : decode cX10_isPiece 0 = .ok (.iload_n 1, 1) := by decide +kernel
theorem dX10_isPiece_1 : decode cX10_isPiece 1 = .ok (.iconst 0, 1) := by decide +kernel
theorem dX10_isPiece_2 : decode cX10_isPiece 2 = .ok (.aload_n 0, 1) := by decide +kernel
theorem dX10_isPiece_3 : decode cX10_isPiece 3 = .ok (.getfield 7, 3) := by decide +kernel
theorem dX10_isPiece_6 : decode cX10_isPiece 6 = .ok (.bipush 59, 2) := by decide +kernel
theorem dX10_isPiece_8 : decode cX10_isPiece 8 = .ok (.iaload, 1) := by decide +kernel
theorem dX10_isPiece_9 : decode cX10_isPiece 9 = .ok (.iconst 1, 1) := by decide +kernel
theorem dX10_isPiece_10 : decode cX10_isPiece 10 = .ok (.isub, 1) := by decide +kernel
theorem dX10_isPiece_11 : decode cX10_isPiece 11 = .ok (.invokestatic 20, 3) := by decide +kernel
theorem dX10_isPiece_14 : decode cX10_isPiece 14 = .ok (.ireturn, 1) := by decide +kernel
theorem dX10_of_0 : decode cX10_of 0 = .ok (.aload_n 0, 1) := by decide +kernel
theorem dX10_of_1 : decode cX10_of 1 = .ok (.getfield 7, 3) := by decide +kernel
theorem dX10_of_4 : decode cX10_of 4 = .ok (.iload_n 1, 1) := by decide +kernel
theorem dX10_of_5 : decode cX10_of 5 = .ok (.bipush 66, 2) := by decide +kernel
theorem dX10_of_7 : decode cX10_of 7 = .ok (.iadd, 1) := by decide +kernel
theorem dX10_of_8 : decode cX10_of 8 = .ok (.bipush 18, 2) := by decide +kernel
theorem dX10_of_10 : decode cX10_of 10 = .ok (.iload_n 2, 1) := by decide +kernel
theorem dX10_of_11 : decode cX10_of 11 = .ok (.imul, 1) := by decide +kernel
theorem dX10_of_12 : decode cX10_of 12 = .ok (.iadd, 1) := by decide +kernel
theorem dX10_of_13 : decode cX10_of 13 = .ok (.iload_n 3, 1) := by decide +kernel
theorem dX10_of_14 : decode cX10_of 14 = .ok (.iadd, 1) := by decide +kernel
theorem dX10_of_15 : decode cX10_of 15 = .ok (.iaload, 1) := by decide +kernel
theorem dX10_of_16 : decode cX10_of 16 = .ok (.ireturn, 1) := by decide +kernel
theorem dX10_lay_0 : decode cX10_lay 0 = .ok (.aload_n 0, 1) := by decide +kernel
theorem dX10_lay_1 : decode cX10_lay 1 = .ok (.getfield 7, 3) := by decide +kernel
theorem dX10_lay_4 : decode cX10_lay 4 = .ok (.iload_n 1, 1) := by decide +kernel
theorem dX10_lay_5 : decode cX10_lay 5 = .ok (.bipush 66, 2) := by decide +kernel
theorem dX10_lay_7 : decode cX10_lay 7 = .ok (.iadd, 1) := by decide +kernel
theorem dX10_lay_8 : decode cX10_lay 8 = .ok (.bipush 18, 2) := by decide +kernel
theorem dX10_lay_10 : decode cX10_lay 10 = .ok (.iload_n 2, 1) := by decide +kernel
theorem dX10_lay_11 : decode cX10_lay 11 = .ok (.imul, 1) := by decide +kernel
theorem dX10_lay_12 : decode cX10_lay 12 = .ok (.iadd, 1) := by decide +kernel
theorem dX10_lay_13 : decode cX10_lay 13 = .ok (.iload_n 3, 1) := by decide +kernel
theorem dX10_lay_14 : decode cX10_lay 14 = .ok (.iadd, 1) := by decide +kernel
theorem dX10_lay_15 : decode cX10_lay 15 = .ok (.iload 4, 2) := by decide +kernel
theorem dX10_lay_17 : decode cX10_lay 17 = .ok (.iastore, 1) := by decide +kernel
theorem dX10_lay_18 : decode cX10_lay 18 = .ok (.return_, 1) := by decide +kernel
theorem dX10_masterOf_0 : decode cX10_masterOf 0 = .ok (.aload_n 0, 1) := by decide +kernel
theorem dX10_masterOf_1 : decode cX10_masterOf 1 = .ok (.getfield 7, 3) := by decide +kernel
theorem dX10_masterOf_4 : decode cX10_masterOf 4 = .ok (.iload_n 1, 1) := by decide +kernel
theorem dX10_masterOf_5 : decode cX10_masterOf 5 = .ok (.bipush 16, 2) := by decide +kernel
theorem dX10_masterOf_7 : decode cX10_masterOf 7 = .ok (.aload_n 0, 1) := by decide +kernel
theorem dX10_masterOf_8 : decode cX10_masterOf 8 = .ok (.getfield 7, 3) := by decide +kernel
theorem dX10_masterOf_11 : decode cX10_masterOf 11 = .ok (.iload_n 1, 1) := by decide +kernel
theorem dX10_masterOf_12 : decode cX10_masterOf 12 = .ok (.bipush 48, 2) := by decide +kernel
theorem dX10_masterOf_14 : decode cX10_masterOf 14 = .ok (.iadd, 1) := by decide +kernel
theorem dX10_masterOf_15 : decode cX10_masterOf 15 = .ok (.iaload, 1) := by decide +kernel
theorem dX10_masterOf_16 : decode cX10_masterOf 16 = .ok (.imul, 1) := by decide +kernel
theorem dX10_masterOf_17 : decode cX10_masterOf 17 = .ok (.iadd, 1) := by decide +kernel
theorem dX10_masterOf_18 : decode cX10_masterOf 18 = .ok (.iload_n 2, 1) := by decide +kernel
theorem dX10_masterOf_19 : decode cX10_masterOf 19 = .ok (.iadd, 1) := by decide +kernel
theorem dX10_masterOf_20 : decode cX10_masterOf 20 = .ok (.iaload, 1) := by decide +kernel
theorem dX10_masterOf_21 : decode cX10_masterOf 21 = .ok (.ireturn, 1) := by decide +kernel
theorem dX10_reading_0 : decode cX10_reading 0 = .ok (.iconst 0, 1) := by decide +kernel
theorem dX10_reading_1 : decode cX10_reading 1 = .ok (.istore_n 3, 1) := by decide +kernel
theorem dX10_reading_2 : decode cX10_reading 2 = .ok (.iload_n 2, 1) := by decide +kernel
theorem dX10_reading_3 : decode cX10_reading 3 = .ok (.aload_n 0, 1) := by decide +kernel
theorem dX10_reading_4 : decode cX10_reading 4 = .ok (.getfield 7, 3) := by decide +kernel
theorem dX10_reading_7 : decode cX10_reading 7 = .ok (.iload_n 1, 1) := by decide +kernel
theorem dX10_reading_8 : decode cX10_reading 8 = .ok (.bipush 49, 2) := by decide +kernel
theorem dX10_reading_10 : decode cX10_reading 10 = .ok (.iadd, 1) := by decide +kernel
theorem dX10_reading_11 : decode cX10_reading 11 = .ok (.iaload, 1) := by decide +kernel
theorem dX10_reading_12 : decode cX10_reading 12 = .ok (.isub, 1) := by decide +kernel
theorem dX10_reading_13 : decode cX10_reading 13 = .ok (.istore 4, 2) := by decide +kernel
theorem dX10_reading_15 : decode cX10_reading 15 = .ok (.iload 4, 2) := by decide +kernel
theorem dX10_reading_17 : decode cX10_reading 17 = .ok (.iload_n 2, 1) := by decide +kernel
theorem dX10_reading_18 : decode cX10_reading 18 = .ok (.aload_n 0, 1) := by decide +kernel
theorem dX10_reading_19 : decode cX10_reading 19 = .ok (.getfield 7, 3) := by decide +kernel
theorem dX10_reading_22 : decode cX10_reading 22 = .ok (.iload_n 1, 1) := by decide +kernel
theorem dX10_reading_23 : decode cX10_reading 23 = .ok (.bipush 49, 2) := by decide +kernel
theorem dX10_reading_25 : decode cX10_reading 25 = .ok (.iadd, 1) := by decide +kernel
theorem dX10_reading_26 : decode cX10_reading 26 = .ok (.iaload, 1) := by decide +kernel
theorem dX10_reading_27 : decode cX10_reading 27 = .ok (.iadd, 1) := by decide +kernel
theorem dX10_reading_28 : decode cX10_reading 28 = .ok (.if_icmp .gt 40, 3) := by decide +kernel
theorem dX10_reading_31 : decode cX10_reading 31 = .ok (.iload 4, 2) := by decide +kernel
theorem dX10_reading_33 : decode cX10_reading 33 = .ok (.invokestatic 24, 3) := by decide +kernel
theorem dX10_reading_36 : decode cX10_reading 36 = .ok (.ifCond .eq 24, 3) := by decide +kernel
theorem dX10_reading_39 : decode cX10_reading 39 = .ok (.aload_n 0, 1) := by decide +kernel
theorem dX10_reading_40 : decode cX10_reading 40 = .ok (.iload_n 1, 1) := by decide +kernel
theorem dX10_reading_41 : decode cX10_reading 41 = .ok (.iload 4, 2) := by decide +kernel
theorem dX10_reading_43 : decode cX10_reading 43 = .ok (.invokevirtual 28, 3) := by decide +kernel
theorem dX10_reading_46 : decode cX10_reading 46 = .ok (.iload_n 3, 1) := by decide +kernel
theorem dX10_reading_47 : decode cX10_reading 47 = .ok (.if_icmp .le 13, 3) := by decide +kernel
theorem dX10_reading_50 : decode cX10_reading 50 = .ok (.aload_n 0, 1) := by decide +kernel
theorem dX10_reading_51 : decode cX10_reading 51 = .ok (.iload_n 1, 1) := by decide +kernel
theorem dX10_reading_52 : decode cX10_reading 52 = .ok (.iload 4, 2) := by decide +kernel
theorem dX10_reading_54 : decode cX10_reading 54 = .ok (.invokevirtual 28, 3) := by decide +kernel
theorem dX10_reading_57 : decode cX10_reading 57 = .ok (.goto 4, 3) := by decide +kernel
theorem dX10_reading_60 : decode cX10_reading 60 = .ok (.iload_n 3, 1) := by decide +kernel
theorem dX10_reading_61 : decode cX10_reading 61 = .ok (.istore_n 3, 1) := by decide +kernel
theorem dX10_reading_62 : decode cX10_reading 62 = .ok (.iinc 4 1, 3) := by decide +kernel
theorem dX10_reading_65 : decode cX10_reading 65 = .ok (.goto (-50), 3) := by decide +kernel
theorem dX10_reading_68 : decode cX10_reading 68 = .ok (.iload_n 3, 1) := by decide +kernel
theorem dX10_reading_69 : decode cX10_reading 69 = .ok (.ireturn, 1) := by decide +kernel
theorem dX10_target_0 : decode cX10_target 0 = .ok (.aload_n 0, 1) := by decide +kernel
theorem dX10_target_1 : decode cX10_target 1 = .ok (.iload_n 1, 1) := by decide +kernel
theorem dX10_target_2 : decode cX10_target 2 = .ok (.iload_n 2, 1) := by decide +kernel
theorem dX10_target_3 : decode cX10_target 3 = .ok (.invokevirtual 32, 3) := by decide +kernel
theorem dX10_target_6 : decode cX10_target 6 = .ok (.aload_n 0, 1) := by decide +kernel
theorem dX10_target_7 : decode cX10_target 7 = .ok (.getfield 7, 3) := by decide +kernel
theorem dX10_target_10 : decode cX10_target 10 = .ok (.iload_n 1, 1) := by decide +kernel
theorem dX10_target_11 : decode cX10_target 11 = .ok (.bipush 50, 2) := by decide +kernel
theorem dX10_target_13 : decode cX10_target 13 = .ok (.iadd, 1) := by decide +kernel
theorem dX10_target_14 : decode cX10_target 14 = .ok (.iaload, 1) := by decide +kernel
theorem dX10_target_15 : decode cX10_target 15 = .ok (.isub, 1) := by decide +kernel
theorem dX10_target_16 : decode cX10_target 16 = .ok (.aload_n 0, 1) := by decide +kernel
theorem dX10_target_17 : decode cX10_target 17 = .ok (.getfield 7, 3) := by decide +kernel
theorem dX10_target_20 : decode cX10_target 20 = .ok (.iload_n 1, 1) := by decide +kernel
theorem dX10_target_21 : decode cX10_target 21 = .ok (.bipush 52, 2) := by decide +kernel
theorem dX10_target_23 : decode cX10_target 23 = .ok (.iadd, 1) := by decide +kernel
theorem dX10_target_24 : decode cX10_target 24 = .ok (.iaload, 1) := by decide +kernel
theorem dX10_target_25 : decode cX10_target 25 = .ok (.iadd, 1) := by decide +kernel
theorem dX10_target_26 : decode cX10_target 26 = .ok (.istore_n 3, 1) := by decide +kernel
theorem dX10_target_27 : decode cX10_target 27 = .ok (.iload_n 3, 1) := by decide +kernel
theorem dX10_target_28 : decode cX10_target 28 = .ok (.iconst 1, 1) := by decide +kernel
theorem dX10_target_29 : decode cX10_target 29 = .ok (.if_icmp .ge 7, 3) := by decide +kernel
theorem dX10_target_32 : decode cX10_target 32 = .ok (.iconst 1, 1) := by decide +kernel
theorem dX10_target_33 : decode cX10_target 33 = .ok (.goto 4, 3) := by decide +kernel
theorem dX10_target_36 : decode cX10_target 36 = .ok (.iload_n 3, 1) := by decide +kernel
theorem dX10_target_37 : decode cX10_target 37 = .ok (.ireturn, 1) := by decide +kernel
theorem dX10_above_0 : decode cX10_above 0 = .ok (.aload_n 0, 1) := by decide +kernel
theorem dX10_above_1 : decode cX10_above 1 = .ok (.iload_n 1, 1) := by decide +kernel
theorem dX10_above_2 : decode cX10_above 2 = .ok (.iload_n 2, 1) := by decide +kernel
theorem dX10_above_3 : decode cX10_above 3 = .ok (.iconst 2, 1) := by decide +kernel
theorem dX10_above_4 : decode cX10_above 4 = .ok (.iload_n 3, 1) := by decide +kernel
theorem dX10_above_5 : decode cX10_above 5 = .ok (.iadd, 1) := by decide +kernel
theorem dX10_above_6 : decode cX10_above 6 = .ok (.invokevirtual 35, 3) := by decide +kernel
theorem dX10_above_9 : decode cX10_above 9 = .ok (.aload_n 0, 1) := by decide +kernel
theorem dX10_above_10 : decode cX10_above 10 = .ok (.iload_n 1, 1) := by decide +kernel
theorem dX10_above_11 : decode cX10_above 11 = .ok (.iload_n 3, 1) := by decide +kernel
theorem dX10_above_12 : decode cX10_above 12 = .ok (.invokevirtual 39, 3) := by decide +kernel
theorem dX10_above_15 : decode cX10_above 15 = .ok (.isub, 1) := by decide +kernel
theorem dX10_above_16 : decode cX10_above 16 = .ok (.istore 4, 2) := by decide +kernel
theorem dX10_above_18 : decode cX10_above 18 = .ok (.iload 4, 2) := by decide +kernel
theorem dX10_above_20 : decode cX10_above 20 = .ok (.ifCond .ge 7, 3) := by decide +kernel
theorem dX10_above_23 : decode cX10_above 23 = .ok (.iconst 0, 1) := by decide +kernel
theorem dX10_above_24 : decode cX10_above 24 = .ok (.goto 5, 3) := by decide +kernel
theorem dX10_above_27 : decode cX10_above 27 = .ok (.iload 4, 2) := by decide +kernel
theorem dX10_above_29 : decode cX10_above 29 = .ok (.ireturn, 1) := by decide +kernel
theorem dX10_mostAbove_0 : decode cX10_mostAbove 0 = .ok (.iconst 0, 1) := by decide +kernel
theorem dX10_mostAbove_1 : decode cX10_mostAbove 1 = .ok (.istore_n 3, 1) := by decide +kernel
theorem dX10_mostAbove_2 : decode cX10_mostAbove 2 = .ok (.iconst 0, 1) := by decide +kernel
theorem dX10_mostAbove_3 : decode cX10_mostAbove 3 = .ok (.istore 4, 2) := by decide +kernel
theorem dX10_mostAbove_5 : decode cX10_mostAbove 5 = .ok (.iload 4, 2) := by decide +kernel
theorem dX10_mostAbove_7 : decode cX10_mostAbove 7 = .ok (.bipush 16, 2) := by decide +kernel
theorem dX10_mostAbove_9 : decode cX10_mostAbove 9 = .ok (.if_icmp .ge 34, 3) := by decide +kernel
theorem dX10_mostAbove_12 : decode cX10_mostAbove 12 = .ok (.aload_n 0, 1) := by decide +kernel
theorem dX10_mostAbove_13 : decode cX10_mostAbove 13 = .ok (.iload_n 1, 1) := by decide +kernel
theorem dX10_mostAbove_14 : decode cX10_mostAbove 14 = .ok (.iload_n 2, 1) := by decide +kernel
theorem dX10_mostAbove_15 : decode cX10_mostAbove 15 = .ok (.iload 4, 2) := by decide +kernel
theorem dX10_mostAbove_17 : decode cX10_mostAbove 17 = .ok (.invokevirtual 42, 3) := by decide +kernel
theorem dX10_mostAbove_20 : decode cX10_mostAbove 20 = .ok (.iload_n 3, 1) := by decide +kernel
theorem dX10_mostAbove_21 : decode cX10_mostAbove 21 = .ok (.if_icmp .le 14, 3) := by decide +kernel
theorem dX10_mostAbove_24 : decode cX10_mostAbove 24 = .ok (.aload_n 0, 1) := by decide +kernel
theorem dX10_mostAbove_25 : decode cX10_mostAbove 25 = .ok (.iload_n 1, 1) := by decide +kernel
theorem dX10_mostAbove_26 : decode cX10_mostAbove 26 = .ok (.iload_n 2, 1) := by decide +kernel
theorem dX10_mostAbove_27 : decode cX10_mostAbove 27 = .ok (.iload 4, 2) := by decide +kernel
theorem dX10_mostAbove_29 : decode cX10_mostAbove 29 = .ok (.invokevirtual 42, 3) := by decide +kernel
theorem dX10_mostAbove_32 : decode cX10_mostAbove 32 = .ok (.goto 4, 3) := by decide +kernel
theorem dX10_mostAbove_35 : decode cX10_mostAbove 35 = .ok (.iload_n 3, 1) := by decide +kernel
theorem dX10_mostAbove_36 : decode cX10_mostAbove 36 = .ok (.istore_n 3, 1) := by decide +kernel
theorem dX10_mostAbove_37 : decode cX10_mostAbove 37 = .ok (.iinc 4 1, 3) := by decide +kernel
theorem dX10_mostAbove_40 : decode cX10_mostAbove 40 = .ok (.goto (-35), 3) := by decide +kernel
theorem dX10_mostAbove_43 : decode cX10_mostAbove 43 = .ok (.iload_n 3, 1) := by decide +kernel
theorem dX10_mostAbove_44 : decode cX10_mostAbove 44 = .ok (.ireturn, 1) := by decide +kernel
theorem dX10_hardness_0 : decode cX10_hardness 0 = .ok (.iconst 1, 1) := by decide +kernel
theorem dX10_hardness_1 : decode cX10_hardness 1 = .ok (.iload_n 0, 1) := by decide +kernel
theorem dX10_hardness_2 : decode cX10_hardness 2 = .ok (.ishl, 1) := by decide +kernel
theorem dX10_hardness_3 : decode cX10_hardness 3 = .ok (.ireturn, 1) := by decide +kernel
theorem dX10_priceFor_0 : decode cX10_priceFor 0 = .ok (.iload_n 0, 1) := by decide +kernel
theorem dX10_priceFor_1 : decode cX10_priceFor 1 = .ok (.ifCond .ne 7, 3) := by decide +kernel
theorem dX10_priceFor_4 : decode cX10_priceFor 4 = .ok (.iconst 2, 1) := by decide +kernel
theorem dX10_priceFor_5 : decode cX10_priceFor 5 = .ok (.goto 14, 3) := by decide +kernel
theorem dX10_priceFor_8 : decode cX10_priceFor 8 = .ok (.iload_n 0, 1) := by decide +kernel
theorem dX10_priceFor_9 : decode cX10_priceFor 9 = .ok (.iconst 1, 1) := by decide +kernel
theorem dX10_priceFor_10 : decode cX10_priceFor 10 = .ok (.if_icmp .ne 7, 3) := by decide +kernel
theorem dX10_priceFor_13 : decode cX10_priceFor 13 = .ok (.iconst 5, 1) := by decide +kernel
theorem dX10_priceFor_14 : decode cX10_priceFor 14 = .ok (.goto 5, 3) := by decide +kernel
theorem dX10_priceFor_17 : decode cX10_priceFor 17 = .ok (.bipush 9, 2) := by decide +kernel
theorem dX10_priceFor_19 : decode cX10_priceFor 19 = .ok (.ireturn, 1) := by decide +kernel
theorem dX10_cuts_0 : decode cX10_cuts 0 = .ok (.aload_n 0, 1) := by decide +kernel
theorem dX10_cuts_1 : decode cX10_cuts 1 = .ok (.getfield 7, 3) := by decide +kernel
theorem dX10_cuts_4 : decode cX10_cuts 4 = .ok (.iload_n 1, 1) := by decide +kernel
theorem dX10_cuts_5 : decode cX10_cuts 5 = .ok (.bipush 53, 2) := by decide +kernel
theorem dX10_cuts_7 : decode cX10_cuts 7 = .ok (.iadd, 1) := by decide +kernel
theorem dX10_cuts_8 : decode cX10_cuts 8 = .ok (.iaload, 1) := by decide +kernel
theorem dX10_cuts_9 : decode cX10_cuts 9 = .ok (.istore_n 2, 1) := by decide +kernel
theorem dX10_cuts_10 : decode cX10_cuts 10 = .ok (.iload_n 2, 1) := by decide +kernel
theorem dX10_cuts_11 : decode cX10_cuts 11 = .ok (.ifCond .ne 7, 3) := by decide +kernel
theorem dX10_cuts_14 : decode cX10_cuts 14 = .ok (.iconst 0, 1) := by decide +kernel
theorem dX10_cuts_15 : decode cX10_cuts 15 = .ok (.goto 34, 3) := by decide +kernel
theorem dX10_cuts_18 : decode cX10_cuts 18 = .ok (.iload_n 2, 1) := by decide +kernel
theorem dX10_cuts_19 : decode cX10_cuts 19 = .ok (.bipush 50, 2) := by decide +kernel
theorem dX10_cuts_21 : decode cX10_cuts 21 = .ok (.if_icmp .ge 19, 3) := by decide +kernel
theorem dX10_cuts_24 : decode cX10_cuts 24 = .ok (.aload_n 0, 1) := by decide +kernel
theorem dX10_cuts_25 : decode cX10_cuts 25 = .ok (.getfield 7, 3) := by decide +kernel
theorem dX10_cuts_28 : decode cX10_cuts 28 = .ok (.iload_n 1, 1) := by decide +kernel
theorem dX10_cuts_29 : decode cX10_cuts 29 = .ok (.bipush 54, 2) := by decide +kernel
theorem dX10_cuts_31 : decode cX10_cuts 31 = .ok (.iadd, 1) := by decide +kernel
theorem dX10_cuts_32 : decode cX10_cuts 32 = .ok (.iaload, 1) := by decide +kernel
theorem dX10_cuts_33 : decode cX10_cuts 33 = .ok (.iconst 1, 1) := by decide +kernel
theorem dX10_cuts_34 : decode cX10_cuts 34 = .ok (.iadd, 1) := by decide +kernel
theorem dX10_cuts_35 : decode cX10_cuts 35 = .ok (.iconst 2, 1) := by decide +kernel
theorem dX10_cuts_36 : decode cX10_cuts 36 = .ok (.idiv, 1) := by decide +kernel
theorem dX10_cuts_37 : decode cX10_cuts 37 = .ok (.goto 12, 3) := by decide +kernel
theorem dX10_cuts_40 : decode cX10_cuts 40 = .ok (.aload_n 0, 1) := by decide +kernel
theorem dX10_cuts_41 : decode cX10_cuts 41 = .ok (.getfield 7, 3) := by decide +kernel
theorem dX10_cuts_44 : decode cX10_cuts 44 = .ok (.iload_n 1, 1) := by decide +kernel
theorem dX10_cuts_45 : decode cX10_cuts 45 = .ok (.bipush 54, 2) := by decide +kernel
theorem dX10_cuts_47 : decode cX10_cuts 47 = .ok (.iadd, 1) := by decide +kernel
theorem dX10_cuts_48 : decode cX10_cuts 48 = .ok (.iaload, 1) := by decide +kernel
theorem dX10_cuts_49 : decode cX10_cuts 49 = .ok (.ireturn, 1) := by decide +kernel
theorem dX10_along_0 : decode cX10_along 0 = .ok (.aload_n 0, 1) := by decide +kernel
theorem dX10_along_1 : decode cX10_along 1 = .ok (.getfield 7, 3) := by decide +kernel
theorem dX10_along_4 : decode cX10_along 4 = .ok (.iload_n 1, 1) := by decide +kernel
theorem dX10_along_5 : decode cX10_along 5 = .ok (.bipush 60, 2) := by decide +kernel
theorem dX10_along_7 : decode cX10_along 7 = .ok (.iadd, 1) := by decide +kernel
theorem dX10_along_8 : decode cX10_along 8 = .ok (.iaload, 1) := by decide +kernel
theorem dX10_along_9 : decode cX10_along 9 = .ok (.istore_n 2, 1) := by decide +kernel
theorem dX10_along_10 : decode cX10_along 10 = .ok (.aload_n 0, 1) := by decide +kernel
theorem dX10_along_11 : decode cX10_along 11 = .ok (.iload_n 1, 1) := by decide +kernel
theorem dX10_along_12 : decode cX10_along 12 = .ok (.invokevirtual 45, 3) := by decide +kernel
theorem dX10_along_15 : decode cX10_along 15 = .ok (.istore_n 3, 1) := by decide +kernel
theorem dX10_along_16 : decode cX10_along 16 = .ok (.iconst 0, 1) := by decide +kernel
theorem dX10_along_17 : decode cX10_along 17 = .ok (.istore 4, 2) := by decide +kernel
theorem dX10_along_19 : decode cX10_along 19 = .ok (.iconst 0, 1) := by decide +kernel
theorem dX10_along_20 : decode cX10_along 20 = .ok (.istore 5, 2) := by decide +kernel
theorem dX10_along_22 : decode cX10_along 22 = .ok (.iload 5, 2) := by decide +kernel
theorem dX10_along_24 : decode cX10_along 24 = .ok (.bipush 16, 2) := by decide +kernel
theorem dX10_along_26 : decode cX10_along 26 = .ok (.if_icmp .ge 135, 3) := by decide +kernel
theorem dX10_along_29 : decode cX10_along 29 = .ok (.aload_n 0, 1) := by decide +kernel
theorem dX10_along_30 : decode cX10_along 30 = .ok (.getfield 7, 3) := by decide +kernel
theorem dX10_along_33 : decode cX10_along 33 = .ok (.iload_n 1, 1) := by decide +kernel
theorem dX10_along_34 : decode cX10_along 34 = .ok (.bipush 58, 2) := by decide +kernel
theorem dX10_along_36 : decode cX10_along 36 = .ok (.iadd, 1) := by decide +kernel
theorem dX10_along_37 : decode cX10_along 37 = .ok (.iaload, 1) := by decide +kernel
theorem dX10_along_38 : decode cX10_along 38 = .ok (.ifCond .ne 123, 3) := by decide +kernel
theorem dX10_along_41 : decode cX10_along 41 = .ok (.aload_n 0, 1) := by decide +kernel
theorem dX10_along_42 : decode cX10_along 42 = .ok (.iload_n 1, 1) := by decide +kernel
theorem dX10_along_43 : decode cX10_along 43 = .ok (.iload_n 2, 1) := by decide +kernel
theorem dX10_along_44 : decode cX10_along 44 = .ok (.iload 5, 2) := by decide +kernel
theorem dX10_along_46 : decode cX10_along 46 = .ok (.invokevirtual 42, 3) := by decide +kernel
theorem dX10_along_49 : decode cX10_along 49 = .ok (.iload_n 3, 1) := by decide +kernel
theorem dX10_along_50 : decode cX10_along 50 = .ok (.if_icmp .ge 14, 3) := by decide +kernel
theorem dX10_along_53 : decode cX10_along 53 = .ok (.aload_n 0, 1) := by decide +kernel
theorem dX10_along_54 : decode cX10_along 54 = .ok (.iload_n 1, 1) := by decide +kernel
theorem dX10_along_55 : decode cX10_along 55 = .ok (.iload_n 2, 1) := by decide +kernel
theorem dX10_along_56 : decode cX10_along 56 = .ok (.iload 5, 2) := by decide +kernel
theorem dX10_along_58 : decode cX10_along 58 = .ok (.invokevirtual 42, 3) := by decide +kernel
theorem dX10_along_61 : decode cX10_along 61 = .ok (.goto 4, 3) := by decide +kernel
theorem dX10_along_64 : decode cX10_along 64 = .ok (.iload_n 3, 1) := by decide +kernel
theorem dX10_along_65 : decode cX10_along 65 = .ok (.istore 6, 2) := by decide +kernel
theorem dX10_along_67 : decode cX10_along 67 = .ok (.aload_n 0, 1) := by decide +kernel
theorem dX10_along_68 : decode cX10_along 68 = .ok (.getfield 7, 3) := by decide +kernel
theorem dX10_along_71 : decode cX10_along 71 = .ok (.iload_n 1, 1) := by decide +kernel
theorem dX10_along_72 : decode cX10_along 72 = .ok (.bipush 57, 2) := by decide +kernel
theorem dX10_along_74 : decode cX10_along 74 = .ok (.iadd, 1) := by decide +kernel
theorem dX10_along_75 : decode cX10_along 75 = .ok (.iaload, 1) := by decide +kernel
theorem dX10_along_76 : decode cX10_along 76 = .ok (.iload 6, 2) := by decide +kernel
theorem dX10_along_78 : decode cX10_along 78 = .ok (.iadd, 1) := by decide +kernel
theorem dX10_along_79 : decode cX10_along 79 = .ok (.sipush 200, 3) := by decide +kernel
theorem dX10_along_82 : decode cX10_along 82 = .ok (.if_icmp .le 29, 3) := by decide +kernel
theorem dX10_along_85 : decode cX10_along 85 = .ok (.aload_n 0, 1) := by decide +kernel
theorem dX10_along_86 : decode cX10_along 86 = .ok (.getfield 7, 3) := by decide +kernel
theorem dX10_along_89 : decode cX10_along 89 = .ok (.iload_n 1, 1) := by decide +kernel
theorem dX10_along_90 : decode cX10_along 90 = .ok (.bipush 58, 2) := by decide +kernel
theorem dX10_along_92 : decode cX10_along 92 = .ok (.iadd, 1) := by decide +kernel
theorem dX10_along_93 : decode cX10_along 93 = .ok (.iconst 1, 1) := by decide +kernel
theorem dX10_along_94 : decode cX10_along 94 = .ok (.iastore, 1) := by decide +kernel
theorem dX10_along_95 : decode cX10_along 95 = .ok (.aload_n 0, 1) := by decide +kernel
theorem dX10_along_96 : decode cX10_along 96 = .ok (.getfield 7, 3) := by decide +kernel
theorem dX10_along_99 : decode cX10_along 99 = .ok (.iload_n 1, 1) := by decide +kernel
theorem dX10_along_100 : decode cX10_along 100 = .ok (.bipush 64, 2) := by decide +kernel
theorem dX10_along_102 : decode cX10_along 102 = .ok (.iadd, 1) := by decide +kernel
theorem dX10_along_103 : decode cX10_along 103 = .ok (.dup2, 1) := by decide +kernel
theorem dX10_along_104 : decode cX10_along 104 = .ok (.iaload, 1) := by decide +kernel
theorem dX10_along_105 : decode cX10_along 105 = .ok (.iconst 1, 1) := by decide +kernel
theorem dX10_along_106 : decode cX10_along 106 = .ok (.iadd, 1) := by decide +kernel
theorem dX10_along_107 : decode cX10_along 107 = .ok (.iastore, 1) := by decide +kernel
theorem dX10_along_108 : decode cX10_along 108 = .ok (.goto 47, 3) := by decide +kernel
theorem dX10_along_111 : decode cX10_along 111 = .ok (.aload_n 0, 1) := by decide +kernel
theorem dX10_along_112 : decode cX10_along 112 = .ok (.iload_n 1, 1) := by decide +kernel
theorem dX10_along_113 : decode cX10_along 113 = .ok (.iload_n 2, 1) := by decide +kernel
theorem dX10_along_114 : decode cX10_along 114 = .ok (.iconst 2, 1) := by decide +kernel
theorem dX10_along_115 : decode cX10_along 115 = .ok (.iload 5, 2) := by decide +kernel
theorem dX10_along_117 : decode cX10_along 117 = .ok (.iadd, 1) := by decide +kernel
theorem dX10_along_118 : decode cX10_along 118 = .ok (.aload_n 0, 1) := by decide +kernel
theorem dX10_along_119 : decode cX10_along 119 = .ok (.iload_n 1, 1) := by decide +kernel
theorem dX10_along_120 : decode cX10_along 120 = .ok (.iload_n 2, 1) := by decide +kernel
theorem dX10_along_121 : decode cX10_along 121 = .ok (.iconst 2, 1) := by decide +kernel
theorem dX10_along_122 : decode cX10_along 122 = .ok (.iload 5, 2) := by decide +kernel
theorem dX10_along_124 : decode cX10_along 124 = .ok (.iadd, 1) := by decide +kernel
theorem dX10_along_125 : decode cX10_along 125 = .ok (.invokevirtual 35, 3) := by decide +kernel
theorem dX10_along_128 : decode cX10_along 128 = .ok (.iload 6, 2) := by decide +kernel
theorem dX10_along_130 : decode cX10_along 130 = .ok (.isub, 1) := by decide +kernel
theorem dX10_along_131 : decode cX10_along 131 = .ok (.invokevirtual 49, 3) := by decide +kernel
theorem dX10_along_134 : decode cX10_along 134 = .ok (.aload_n 0, 1) := by decide +kernel
theorem dX10_along_135 : decode cX10_along 135 = .ok (.getfield 7, 3) := by decide +kernel
theorem dX10_along_138 : decode cX10_along 138 = .ok (.iload_n 1, 1) := by decide +kernel
theorem dX10_along_139 : decode cX10_along 139 = .ok (.bipush 57, 2) := by decide +kernel
theorem dX10_along_141 : decode cX10_along 141 = .ok (.iadd, 1) := by decide +kernel
theorem dX10_along_142 : decode cX10_along 142 = .ok (.dup2, 1) := by decide +kernel
theorem dX10_along_143 : decode cX10_along 143 = .ok (.iaload, 1) := by decide +kernel
theorem dX10_along_144 : decode cX10_along 144 = .ok (.iload 6, 2) := by decide +kernel
theorem dX10_along_146 : decode cX10_along 146 = .ok (.iadd, 1) := by decide +kernel
theorem dX10_along_147 : decode cX10_along 147 = .ok (.iastore, 1) := by decide +kernel
theorem dX10_along_148 : decode cX10_along 148 = .ok (.iload 4, 2) := by decide +kernel
theorem dX10_along_150 : decode cX10_along 150 = .ok (.iload 6, 2) := by decide +kernel
theorem dX10_along_152 : decode cX10_along 152 = .ok (.iadd, 1) := by decide +kernel
theorem dX10_along_153 : decode cX10_along 153 = .ok (.istore 4, 2) := by decide +kernel
theorem dX10_along_155 : decode cX10_along 155 = .ok (.iinc 5 1, 3) := by decide +kernel
theorem dX10_along_158 : decode cX10_along 158 = .ok (.goto (-136), 3) := by decide +kernel
theorem dX10_along_161 : decode cX10_along 161 = .ok (.iload 4, 2) := by decide +kernel
theorem dX10_along_163 : decode cX10_along 163 = .ok (.ireturn, 1) := by decide +kernel
theorem dX10_passesIn_0 : decode cX10_passesIn 0 = .ok (.aload_n 0, 1) := by decide +kernel
theorem dX10_passesIn_1 : decode cX10_passesIn 1 = .ok (.iload_n 1, 1) := by decide +kernel
theorem dX10_passesIn_2 : decode cX10_passesIn 2 = .ok (.invokevirtual 53, 3) := by decide +kernel
theorem dX10_passesIn_5 : decode cX10_passesIn 5 = .ok (.istore_n 2, 1) := by decide +kernel
theorem dX10_passesIn_6 : decode cX10_passesIn 6 = .ok (.aload_n 0, 1) := by decide +kernel
theorem dX10_passesIn_7 : decode cX10_passesIn 7 = .ok (.getfield 7, 3) := by decide +kernel
theorem dX10_passesIn_10 : decode cX10_passesIn 10 = .ok (.iload_n 1, 1) := by decide +kernel
theorem dX10_passesIn_11 : decode cX10_passesIn 11 = .ok (.bipush 60, 2) := by decide +kernel
theorem dX10_passesIn_13 : decode cX10_passesIn 13 = .ok (.iadd, 1) := by decide +kernel
theorem dX10_passesIn_14 : decode cX10_passesIn 14 = .ok (.iaload, 1) := by decide +kernel
theorem dX10_passesIn_15 : decode cX10_passesIn 15 = .ok (.istore_n 3, 1) := by decide +kernel
theorem dX10_passesIn_16 : decode cX10_passesIn 16 = .ok (.aload_n 0, 1) := by decide +kernel
theorem dX10_passesIn_17 : decode cX10_passesIn 17 = .ok (.getfield 7, 3) := by decide +kernel
theorem dX10_passesIn_20 : decode cX10_passesIn 20 = .ok (.iload_n 1, 1) := by decide +kernel
theorem dX10_passesIn_21 : decode cX10_passesIn 21 = .ok (.bipush 53, 2) := by decide +kernel
theorem dX10_passesIn_23 : decode cX10_passesIn 23 = .ok (.iadd, 1) := by decide +kernel
theorem dX10_passesIn_24 : decode cX10_passesIn 24 = .ok (.iaload, 1) := by decide +kernel
theorem dX10_passesIn_25 : decode cX10_passesIn 25 = .ok (.aload_n 0, 1) := by decide +kernel
theorem dX10_passesIn_26 : decode cX10_passesIn 26 = .ok (.iload_n 1, 1) := by decide +kernel
theorem dX10_passesIn_27 : decode cX10_passesIn 27 = .ok (.iload_n 3, 1) := by decide +kernel
theorem dX10_passesIn_28 : decode cX10_passesIn 28 = .ok (.iconst 0, 1) := by decide +kernel
theorem dX10_passesIn_29 : decode cX10_passesIn 29 = .ok (.invokevirtual 35, 3) := by decide +kernel
theorem dX10_passesIn_32 : decode cX10_passesIn 32 = .ok (.invokestatic 56, 3) := by decide +kernel
theorem dX10_passesIn_35 : decode cX10_passesIn 35 = .ok (.aload_n 0, 1) := by decide +kernel
theorem dX10_passesIn_36 : decode cX10_passesIn 36 = .ok (.getfield 7, 3) := by decide +kernel
theorem dX10_passesIn_39 : decode cX10_passesIn 39 = .ok (.iload_n 1, 1) := by decide +kernel
theorem dX10_passesIn_40 : decode cX10_passesIn 40 = .ok (.bipush 55, 2) := by decide +kernel
theorem dX10_passesIn_42 : decode cX10_passesIn 42 = .ok (.iadd, 1) := by decide +kernel
theorem dX10_passesIn_43 : decode cX10_passesIn 43 = .ok (.iaload, 1) := by decide +kernel
theorem dX10_passesIn_44 : decode cX10_passesIn 44 = .ok (.imul, 1) := by decide +kernel
theorem dX10_passesIn_45 : decode cX10_passesIn 45 = .ok (.isub, 1) := by decide +kernel
theorem dX10_passesIn_46 : decode cX10_passesIn 46 = .ok (.istore 4, 2) := by decide +kernel
theorem dX10_passesIn_48 : decode cX10_passesIn 48 = .ok (.aload_n 0, 1) := by decide +kernel
theorem dX10_passesIn_49 : decode cX10_passesIn 49 = .ok (.getfield 7, 3) := by decide +kernel
theorem dX10_passesIn_52 : decode cX10_passesIn 52 = .ok (.iload_n 1, 1) := by decide +kernel
theorem dX10_passesIn_53 : decode cX10_passesIn 53 = .ok (.bipush 53, 2) := by decide +kernel
theorem dX10_passesIn_55 : decode cX10_passesIn 55 = .ok (.iadd, 1) := by decide +kernel
theorem dX10_passesIn_56 : decode cX10_passesIn 56 = .ok (.iload 4, 2) := by decide +kernel
theorem dX10_passesIn_58 : decode cX10_passesIn 58 = .ok (.ifCond .ge 7, 3) := by decide +kernel
theorem dX10_passesIn_61 : decode cX10_passesIn 61 = .ok (.iconst 0, 1) := by decide +kernel
theorem dX10_passesIn_62 : decode cX10_passesIn 62 = .ok (.goto 5, 3) := by decide +kernel
theorem dX10_passesIn_65 : decode cX10_passesIn 65 = .ok (.iload 4, 2) := by decide +kernel
theorem dX10_passesIn_67 : decode cX10_passesIn 67 = .ok (.iastore, 1) := by decide +kernel
theorem dX10_passesIn_68 : decode cX10_passesIn 68 = .ok (.aload_n 0, 1) := by decide +kernel
theorem dX10_passesIn_69 : decode cX10_passesIn 69 = .ok (.getfield 7, 3) := by decide +kernel
theorem dX10_passesIn_72 : decode cX10_passesIn 72 = .ok (.iload_n 1, 1) := by decide +kernel
theorem dX10_passesIn_73 : decode cX10_passesIn 73 = .ok (.bipush 51, 2) := by decide +kernel
theorem dX10_passesIn_75 : decode cX10_passesIn 75 = .ok (.iadd, 1) := by decide +kernel
theorem dX10_passesIn_76 : decode cX10_passesIn 76 = .ok (.dup2, 1) := by decide +kernel
theorem dX10_passesIn_77 : decode cX10_passesIn 77 = .ok (.iaload, 1) := by decide +kernel
theorem dX10_passesIn_78 : decode cX10_passesIn 78 = .ok (.iconst 1, 1) := by decide +kernel
theorem dX10_passesIn_79 : decode cX10_passesIn 79 = .ok (.iadd, 1) := by decide +kernel
theorem dX10_passesIn_80 : decode cX10_passesIn 80 = .ok (.iastore, 1) := by decide +kernel
theorem dX10_passesIn_81 : decode cX10_passesIn 81 = .ok (.aload_n 0, 1) := by decide +kernel
theorem dX10_passesIn_82 : decode cX10_passesIn 82 = .ok (.getfield 7, 3) := by decide +kernel
theorem dX10_passesIn_85 : decode cX10_passesIn 85 = .ok (.iload_n 1, 1) := by decide +kernel
theorem dX10_passesIn_86 : decode cX10_passesIn 86 = .ok (.bipush 50, 2) := by decide +kernel
theorem dX10_passesIn_88 : decode cX10_passesIn 88 = .ok (.iadd, 1) := by decide +kernel
theorem dX10_passesIn_89 : decode cX10_passesIn 89 = .ok (.dup2, 1) := by decide +kernel
theorem dX10_passesIn_90 : decode cX10_passesIn 90 = .ok (.iaload, 1) := by decide +kernel
theorem dX10_passesIn_91 : decode cX10_passesIn 91 = .ok (.aload_n 0, 1) := by decide +kernel
theorem dX10_passesIn_92 : decode cX10_passesIn 92 = .ok (.getfield 7, 3) := by decide +kernel
theorem dX10_passesIn_95 : decode cX10_passesIn 95 = .ok (.iload_n 1, 1) := by decide +kernel
theorem dX10_passesIn_96 : decode cX10_passesIn 96 = .ok (.bipush 51, 2) := by decide +kernel
theorem dX10_passesIn_98 : decode cX10_passesIn 98 = .ok (.iadd, 1) := by decide +kernel
theorem dX10_passesIn_99 : decode cX10_passesIn 99 = .ok (.iaload, 1) := by decide +kernel
theorem dX10_passesIn_100 : decode cX10_passesIn 100 = .ok (.iconst 4, 1) := by decide +kernel
theorem dX10_passesIn_101 : decode cX10_passesIn 101 = .ok (.irem, 1) := by decide +kernel
theorem dX10_passesIn_102 : decode cX10_passesIn 102 = .ok (.ifCond .ne 21, 3) := by decide +kernel
theorem dX10_passesIn_105 : decode cX10_passesIn 105 = .ok (.aload_n 0, 1) := by decide +kernel
theorem dX10_passesIn_106 : decode cX10_passesIn 106 = .ok (.getfield 7, 3) := by decide +kernel
theorem dX10_passesIn_109 : decode cX10_passesIn 109 = .ok (.iload_n 1, 1) := by decide +kernel
theorem dX10_passesIn_110 : decode cX10_passesIn 110 = .ok (.bipush 50, 2) := by decide +kernel
theorem dX10_passesIn_112 : decode cX10_passesIn 112 = .ok (.iadd, 1) := by decide +kernel
theorem dX10_passesIn_113 : decode cX10_passesIn 113 = .ok (.iaload, 1) := by decide +kernel
theorem dX10_passesIn_114 : decode cX10_passesIn 114 = .ok (.bipush 30, 2) := by decide +kernel
theorem dX10_passesIn_116 : decode cX10_passesIn 116 = .ok (.if_icmp .ge 7, 3) := by decide +kernel
theorem dX10_passesIn_119 : decode cX10_passesIn 119 = .ok (.iconst 1, 1) := by decide +kernel
theorem dX10_passesIn_120 : decode cX10_passesIn 120 = .ok (.goto 4, 3) := by decide +kernel
theorem dX10_passesIn_123 : decode cX10_passesIn 123 = .ok (.iconst 0, 1) := by decide +kernel
theorem dX10_passesIn_124 : decode cX10_passesIn 124 = .ok (.iadd, 1) := by decide +kernel
theorem dX10_passesIn_125 : decode cX10_passesIn 125 = .ok (.iastore, 1) := by decide +kernel
theorem dX10_passesIn_126 : decode cX10_passesIn 126 = .ok (.aload_n 0, 1) := by decide +kernel
theorem dX10_passesIn_127 : decode cX10_passesIn 127 = .ok (.getfield 7, 3) := by decide +kernel
theorem dX10_passesIn_130 : decode cX10_passesIn 130 = .ok (.iload_n 1, 1) := by decide +kernel
theorem dX10_passesIn_131 : decode cX10_passesIn 131 = .ok (.bipush 61, 2) := by decide +kernel
theorem dX10_passesIn_133 : decode cX10_passesIn 133 = .ok (.iadd, 1) := by decide +kernel
theorem dX10_passesIn_134 : decode cX10_passesIn 134 = .ok (.dup2, 1) := by decide +kernel
theorem dX10_passesIn_135 : decode cX10_passesIn 135 = .ok (.iaload, 1) := by decide +kernel
theorem dX10_passesIn_136 : decode cX10_passesIn 136 = .ok (.iconst 1, 1) := by decide +kernel
theorem dX10_passesIn_137 : decode cX10_passesIn 137 = .ok (.iadd, 1) := by decide +kernel
theorem dX10_passesIn_138 : decode cX10_passesIn 138 = .ok (.iastore, 1) := by decide +kernel
theorem dX10_passesIn_139 : decode cX10_passesIn 139 = .ok (.aload_n 0, 1) := by decide +kernel
theorem dX10_passesIn_140 : decode cX10_passesIn 140 = .ok (.iload_n 1, 1) := by decide +kernel
theorem dX10_passesIn_141 : decode cX10_passesIn 141 = .ok (.iload_n 3, 1) := by decide +kernel
theorem dX10_passesIn_142 : decode cX10_passesIn 142 = .ok (.iconst 1, 1) := by decide +kernel
theorem dX10_passesIn_143 : decode cX10_passesIn 143 = .ok (.aload_n 0, 1) := by decide +kernel
theorem dX10_passesIn_144 : decode cX10_passesIn 144 = .ok (.iload_n 1, 1) := by decide +kernel
theorem dX10_passesIn_145 : decode cX10_passesIn 145 = .ok (.iload_n 3, 1) := by decide +kernel
theorem dX10_passesIn_146 : decode cX10_passesIn 146 = .ok (.iconst 1, 1) := by decide +kernel
theorem dX10_passesIn_147 : decode cX10_passesIn 147 = .ok (.invokevirtual 35, 3) := by decide +kernel
theorem dX10_passesIn_150 : decode cX10_passesIn 150 = .ok (.iconst 1, 1) := by decide +kernel
theorem dX10_passesIn_151 : decode cX10_passesIn 151 = .ok (.iadd, 1) := by decide +kernel
theorem dX10_passesIn_152 : decode cX10_passesIn 152 = .ok (.invokevirtual 49, 3) := by decide +kernel
theorem dX10_passesIn_155 : decode cX10_passesIn 155 = .ok (.aload_n 0, 1) := by decide +kernel
theorem dX10_passesIn_156 : decode cX10_passesIn 156 = .ok (.getfield 7, 3) := by decide +kernel
theorem dX10_passesIn_159 : decode cX10_passesIn 159 = .ok (.iload_n 1, 1) := by decide +kernel
theorem dX10_passesIn_160 : decode cX10_passesIn 160 = .ok (.bipush 62, 2) := by decide +kernel
theorem dX10_passesIn_162 : decode cX10_passesIn 162 = .ok (.iadd, 1) := by decide +kernel
theorem dX10_passesIn_163 : decode cX10_passesIn 163 = .ok (.dup2, 1) := by decide +kernel
theorem dX10_passesIn_164 : decode cX10_passesIn 164 = .ok (.iaload, 1) := by decide +kernel
theorem dX10_passesIn_165 : decode cX10_passesIn 165 = .ok (.iload_n 2, 1) := by decide +kernel
theorem dX10_passesIn_166 : decode cX10_passesIn 166 = .ok (.iadd, 1) := by decide +kernel
theorem dX10_passesIn_167 : decode cX10_passesIn 167 = .ok (.iastore, 1) := by decide +kernel
theorem dX10_passesIn_168 : decode cX10_passesIn 168 = .ok (.iload_n 2, 1) := by decide +kernel
theorem dX10_passesIn_169 : decode cX10_passesIn 169 = .ok (.ireturn, 1) := by decide +kernel
theorem dX10_canPass_0 : decode cX10_canPass 0 = .ok (.aload_n 0, 1) := by decide +kernel
theorem dX10_canPass_1 : decode cX10_canPass 1 = .ok (.getfield 7, 3) := by decide +kernel
theorem dX10_canPass_4 : decode cX10_canPass 4 = .ok (.bipush 60, 2) := by decide +kernel
theorem dX10_canPass_6 : decode cX10_canPass 6 = .ok (.iaload, 1) := by decide +kernel
theorem dX10_canPass_7 : decode cX10_canPass 7 = .ok (.iconst (-1), 1) := by decide +kernel
theorem dX10_canPass_8 : decode cX10_canPass 8 = .ok (.if_icmp .eq 27, 3) := by decide +kernel
theorem dX10_canPass_11 : decode cX10_canPass 11 = .ok (.aload_n 0, 1) := by decide +kernel
theorem dX10_canPass_12 : decode cX10_canPass 12 = .ok (.getfield 7, 3) := by decide +kernel
theorem dX10_canPass_15 : decode cX10_canPass 15 = .ok (.bipush 58, 2) := by decide +kernel
theorem dX10_canPass_17 : decode cX10_canPass 17 = .ok (.iaload, 1) := by decide +kernel
theorem dX10_canPass_18 : decode cX10_canPass 18 = .ok (.ifCond .ne 17, 3) := by decide +kernel
theorem dX10_canPass_21 : decode cX10_canPass 21 = .ok (.aload_n 0, 1) := by decide +kernel
theorem dX10_canPass_22 : decode cX10_canPass 22 = .ok (.getfield 7, 3) := by decide +kernel
theorem dX10_canPass_25 : decode cX10_canPass 25 = .ok (.bipush 53, 2) := by decide +kernel
theorem dX10_canPass_27 : decode cX10_canPass 27 = .ok (.iaload, 1) := by decide +kernel
theorem dX10_canPass_28 : decode cX10_canPass 28 = .ok (.ifCond .le 7, 3) := by decide +kernel
theorem dX10_canPass_31 : decode cX10_canPass 31 = .ok (.iconst 1, 1) := by decide +kernel
theorem dX10_canPass_32 : decode cX10_canPass 32 = .ok (.goto 4, 3) := by decide +kernel
theorem dX10_canPass_35 : decode cX10_canPass 35 = .ok (.iconst 0, 1) := by decide +kernel
theorem dX10_canPass_36 : decode cX10_canPass 36 = .ok (.ireturn, 1) := by decide +kernel
theorem dX10_copies_0 : decode cX10_copies 0 = .ok (.iconst 0, 1) := by decide +kernel
theorem dX10_copies_1 : decode cX10_copies 1 = .ok (.istore_n 3, 1) := by decide +kernel
theorem dX10_copies_2 : decode cX10_copies 2 = .ok (.iload_n 3, 1) := by decide +kernel
theorem dX10_copies_3 : decode cX10_copies 3 = .ok (.sipush 156, 3) := by decide +kernel
theorem dX10_copies_6 : decode cX10_copies 6 = .ok (.if_icmp .ge 33, 3) := by decide +kernel
theorem dX10_copies_9 : decode cX10_copies 9 = .ok (.aload_n 0, 1) := by decide +kernel
theorem dX10_copies_10 : decode cX10_copies 10 = .ok (.getfield 7, 3) := by decide +kernel
theorem dX10_copies_13 : decode cX10_copies 13 = .ok (.sipush 156, 3) := by decide +kernel
theorem dX10_copies_16 : decode cX10_copies 16 = .ok (.iload_n 2, 1) := by decide +kernel
theorem dX10_copies_17 : decode cX10_copies 17 = .ok (.imul, 1) := by decide +kernel
theorem dX10_copies_18 : decode cX10_copies 18 = .ok (.iload_n 3, 1) := by decide +kernel
theorem dX10_copies_19 : decode cX10_copies 19 = .ok (.iadd, 1) := by decide +kernel
theorem dX10_copies_20 : decode cX10_copies 20 = .ok (.aload_n 0, 1) := by decide +kernel
theorem dX10_copies_21 : decode cX10_copies 21 = .ok (.getfield 7, 3) := by decide +kernel
theorem dX10_copies_24 : decode cX10_copies 24 = .ok (.sipush 156, 3) := by decide +kernel
theorem dX10_copies_27 : decode cX10_copies 27 = .ok (.iload_n 1, 1) := by decide +kernel
theorem dX10_copies_28 : decode cX10_copies 28 = .ok (.imul, 1) := by decide +kernel
theorem dX10_copies_29 : decode cX10_copies 29 = .ok (.iload_n 3, 1) := by decide +kernel
theorem dX10_copies_30 : decode cX10_copies 30 = .ok (.iadd, 1) := by decide +kernel
theorem dX10_copies_31 : decode cX10_copies 31 = .ok (.iaload, 1) := by decide +kernel
theorem dX10_copies_32 : decode cX10_copies 32 = .ok (.iastore, 1) := by decide +kernel
theorem dX10_copies_33 : decode cX10_copies 33 = .ok (.iinc 3 1, 3) := by decide +kernel
theorem dX10_copies_36 : decode cX10_copies 36 = .ok (.goto (-34), 3) := by decide +kernel
theorem dX10_copies_39 : decode cX10_copies 39 = .ok (.return_, 1) := by decide +kernel
theorem dX10_save_0 : decode cX10_save 0 = .ok (.iconst 1, 1) := by decide +kernel
theorem dX10_save_1 : decode cX10_save 1 = .ok (.istore_n 1, 1) := by decide +kernel
theorem dX10_save_2 : decode cX10_save 2 = .ok (.iload_n 1, 1) := by decide +kernel
theorem dX10_save_3 : decode cX10_save 3 = .ok (.bipush 6, 2) := by decide +kernel
theorem dX10_save_5 : decode cX10_save 5 = .ok (.if_icmp .ge 26, 3) := by decide +kernel
theorem dX10_save_8 : decode cX10_save 8 = .ok (.aload_n 0, 1) := by decide +kernel
theorem dX10_save_9 : decode cX10_save 9 = .ok (.getfield 59, 3) := by decide +kernel
theorem dX10_save_12 : decode cX10_save 12 = .ok (.bipush 6, 2) := by decide +kernel
theorem dX10_save_14 : decode cX10_save 14 = .ok (.if_icmp .ne 17, 3) := by decide +kernel
theorem dX10_save_17 : decode cX10_save 17 = .ok (.aload_n 0, 1) := by decide +kernel
theorem dX10_save_18 : decode cX10_save 18 = .ok (.iload_n 1, 1) := by decide +kernel
theorem dX10_save_19 : decode cX10_save 19 = .ok (.iconst 1, 1) := by decide +kernel
theorem dX10_save_20 : decode cX10_save 20 = .ok (.iadd, 1) := by decide +kernel
theorem dX10_save_21 : decode cX10_save 21 = .ok (.iload_n 1, 1) := by decide +kernel
theorem dX10_save_22 : decode cX10_save 22 = .ok (.invokevirtual 62, 3) := by decide +kernel
theorem dX10_save_25 : decode cX10_save 25 = .ok (.iinc 1 1, 3) := by decide +kernel
theorem dX10_save_28 : decode cX10_save 28 = .ok (.goto (-26), 3) := by decide +kernel
theorem dX10_save_31 : decode cX10_save 31 = .ok (.aload_n 0, 1) := by decide +kernel
theorem dX10_save_32 : decode cX10_save 32 = .ok (.dup, 1) := by decide +kernel
theorem dX10_save_33 : decode cX10_save 33 = .ok (.getfield 59, 3) := by decide +kernel
theorem dX10_save_36 : decode cX10_save 36 = .ok (.aload_n 0, 1) := by decide +kernel
theorem dX10_save_37 : decode cX10_save 37 = .ok (.getfield 59, 3) := by decide +kernel
theorem dX10_save_40 : decode cX10_save 40 = .ok (.bipush 6, 2) := by decide +kernel
theorem dX10_save_42 : decode cX10_save 42 = .ok (.if_icmp .ge 7, 3) := by decide +kernel
theorem dX10_save_45 : decode cX10_save 45 = .ok (.iconst 1, 1) := by decide +kernel
theorem dX10_save_46 : decode cX10_save 46 = .ok (.goto 4, 3) := by decide +kernel
theorem dX10_save_49 : decode cX10_save 49 = .ok (.iconst 0, 1) := by decide +kernel
theorem dX10_save_50 : decode cX10_save 50 = .ok (.iadd, 1) := by decide +kernel
theorem dX10_save_51 : decode cX10_save 51 = .ok (.putfield 59, 3) := by decide +kernel
theorem dX10_save_54 : decode cX10_save 54 = .ok (.aload_n 0, 1) := by decide +kernel
theorem dX10_save_55 : decode cX10_save 55 = .ok (.iconst 0, 1) := by decide +kernel
theorem dX10_save_56 : decode cX10_save 56 = .ok (.aload_n 0, 1) := by decide +kernel
theorem dX10_save_57 : decode cX10_save 57 = .ok (.getfield 59, 3) := by decide +kernel
theorem dX10_save_60 : decode cX10_save 60 = .ok (.invokevirtual 62, 3) := by decide +kernel
theorem dX10_save_63 : decode cX10_save 63 = .ok (.return_, 1) := by decide +kernel
theorem dX10_changed_0 : decode cX10_changed 0 = .ok (.aload_n 0, 1) := by decide +kernel
theorem dX10_changed_1 : decode cX10_changed 1 = .ok (.invokevirtual 66, 3) := by decide +kernel
theorem dX10_changed_4 : decode cX10_changed 4 = .ok (.aload_n 0, 1) := by decide +kernel
theorem dX10_changed_5 : decode cX10_changed 5 = .ok (.getfield 7, 3) := by decide +kernel
theorem dX10_changed_8 : decode cX10_changed 8 = .ok (.iload_n 1, 1) := by decide +kernel
theorem dX10_changed_9 : decode cX10_changed 9 = .ok (.iaload, 1) := by decide +kernel
theorem dX10_changed_10 : decode cX10_changed 10 = .ok (.istore_n 3, 1) := by decide +kernel
theorem dX10_changed_11 : decode cX10_changed 11 = .ok (.aload_n 0, 1) := by decide +kernel
theorem dX10_changed_12 : decode cX10_changed 12 = .ok (.getfield 7, 3) := by decide +kernel
theorem dX10_changed_15 : decode cX10_changed 15 = .ok (.iload_n 1, 1) := by decide +kernel
theorem dX10_changed_16 : decode cX10_changed 16 = .ok (.iload_n 2, 1) := by decide +kernel
theorem dX10_changed_17 : decode cX10_changed 17 = .ok (.iastore, 1) := by decide +kernel
theorem dX10_changed_18 : decode cX10_changed 18 = .ok (.iload_n 3, 1) := by decide +kernel
theorem dX10_changed_19 : decode cX10_changed 19 = .ok (.ireturn, 1) := by decide +kernel
theorem dX10_carve_0 : decode cX10_carve 0 = .ok (.iload_n 1, 1) := by decide +kernel
theorem dX10_carve_1 : decode cX10_carve 1 = .ok (.invokestatic 69, 3) := by decide +kernel
theorem dX10_carve_4 : decode cX10_carve 4 = .ok (.ifCond .eq 14, 3) := by decide +kernel
theorem dX10_carve_7 : decode cX10_carve 7 = .ok (.iload_n 2, 1) := by decide +kernel
theorem dX10_carve_8 : decode cX10_carve 8 = .ok (.invokestatic 24, 3) := by decide +kernel
theorem dX10_carve_11 : decode cX10_carve 11 = .ok (.ifCond .eq 7, 3) := by decide +kernel
theorem dX10_carve_14 : decode cX10_carve 14 = .ok (.iconst 1, 1) := by decide +kernel
theorem dX10_carve_15 : decode cX10_carve 15 = .ok (.goto 4, 3) := by decide +kernel
theorem dX10_carve_18 : decode cX10_carve 18 = .ok (.iconst 0, 1) := by decide +kernel
theorem dX10_carve_19 : decode cX10_carve 19 = .ok (.istore 4, 2) := by decide +kernel
theorem dX10_carve_21 : decode cX10_carve 21 = .ok (.aload_n 0, 1) := by decide +kernel
theorem dX10_carve_22 : decode cX10_carve 22 = .ok (.iload 4, 2) := by decide +kernel
theorem dX10_carve_24 : decode cX10_carve 24 = .ok (.ifCond .ne 7, 3) := by decide +kernel
theorem dX10_carve_27 : decode cX10_carve 27 = .ok (.iconst 1, 1) := by decide +kernel
theorem dX10_carve_28 : decode cX10_carve 28 = .ok (.goto 18, 3) := by decide +kernel
theorem dX10_carve_31 : decode cX10_carve 31 = .ok (.iload_n 3, 1) := by decide +kernel
theorem dX10_carve_32 : decode cX10_carve 32 = .ok (.iconst 5, 1) := by decide +kernel
theorem dX10_carve_33 : decode cX10_carve 33 = .ok (.bipush 99, 2) := by decide +kernel
theorem dX10_carve_35 : decode cX10_carve 35 = .ok (.invokestatic 20, 3) := by decide +kernel
theorem dX10_carve_38 : decode cX10_carve 38 = .ok (.ifCond .ne 7, 3) := by decide +kernel
theorem dX10_carve_41 : decode cX10_carve 41 = .ok (.iconst 2, 1) := by decide +kernel
theorem dX10_carve_42 : decode cX10_carve 42 = .ok (.goto 4, 3) := by decide +kernel
theorem dX10_carve_45 : decode cX10_carve 45 = .ok (.iconst 0, 1) := by decide +kernel
theorem dX10_carve_46 : decode cX10_carve 46 = .ok (.invokevirtual 72, 3) := by decide +kernel
theorem dX10_carve_49 : decode cX10_carve 49 = .ok (.ifCond .eq 17, 3) := by decide +kernel
theorem dX10_carve_52 : decode cX10_carve 52 = .ok (.aload_n 0, 1) := by decide +kernel
theorem dX10_carve_53 : decode cX10_carve 53 = .ok (.bipush 16, 2) := by decide +kernel
theorem dX10_carve_55 : decode cX10_carve 55 = .ok (.iload_n 1, 1) := by decide +kernel
theorem dX10_carve_56 : decode cX10_carve 56 = .ok (.imul, 1) := by decide +kernel
theorem dX10_carve_57 : decode cX10_carve 57 = .ok (.iload_n 2, 1) := by decide +kernel
theorem dX10_carve_58 : decode cX10_carve 58 = .ok (.iadd, 1) := by decide +kernel
theorem dX10_carve_59 : decode cX10_carve 59 = .ok (.iload_n 3, 1) := by decide +kernel
theorem dX10_carve_60 : decode cX10_carve 60 = .ok (.invokevirtual 75, 3) := by decide +kernel
theorem dX10_carve_63 : decode cX10_carve 63 = .ok (.goto 4, 3) := by decide +kernel
theorem dX10_carve_66 : decode cX10_carve 66 = .ok (.iconst 0, 1) := by decide +kernel
theorem dX10_carve_67 : decode cX10_carve 67 = .ok (.ireturn, 1) := by decide +kernel
theorem dX10_copyMaster_0 : decode cX10_copyMaster 0 = .ok (.aload_n 0, 1) := by decide +kernel
theorem dX10_copyMaster_1 : decode cX10_copyMaster 1 = .ok (.iload_n 1, 1) := by decide +kernel
theorem dX10_copyMaster_2 : decode cX10_copyMaster 2 = .ok (.invokestatic 69, 3) := by decide +kernel
theorem dX10_copyMaster_5 : decode cX10_copyMaster 5 = .ok (.ifCond .eq 14, 3) := by decide +kernel
theorem dX10_copyMaster_8 : decode cX10_copyMaster 8 = .ok (.iload_n 2, 1) := by decide +kernel
theorem dX10_copyMaster_9 : decode cX10_copyMaster 9 = .ok (.invokestatic 69, 3) := by decide +kernel
theorem dX10_copyMaster_12 : decode cX10_copyMaster 12 = .ok (.ifCond .eq 7, 3) := by decide +kernel
theorem dX10_copyMaster_15 : decode cX10_copyMaster 15 = .ok (.iconst 0, 1) := by decide +kernel
theorem dX10_copyMaster_16 : decode cX10_copyMaster 16 = .ok (.goto 4, 3) := by decide +kernel
theorem dX10_copyMaster_19 : decode cX10_copyMaster 19 = .ok (.iconst 1, 1) := by decide +kernel
theorem dX10_copyMaster_20 : decode cX10_copyMaster 20 = .ok (.invokevirtual 72, 3) := by decide +kernel
theorem dX10_copyMaster_23 : decode cX10_copyMaster 23 = .ok (.ifCond .ne 5, 3) := by decide +kernel
theorem dX10_copyMaster_26 : decode cX10_copyMaster 26 = .ok (.iconst 0, 1) := by decide +kernel
theorem dX10_copyMaster_27 : decode cX10_copyMaster 27 = .ok (.ireturn, 1) := by decide +kernel
theorem dX10_copyMaster_28 : decode cX10_copyMaster 28 = .ok (.aload_n 0, 1) := by decide +kernel
theorem dX10_copyMaster_29 : decode cX10_copyMaster 29 = .ok (.invokevirtual 66, 3) := by decide +kernel
theorem dX10_copyMaster_32 : decode cX10_copyMaster 32 = .ok (.iconst 0, 1) := by decide +kernel
theorem dX10_copyMaster_33 : decode cX10_copyMaster 33 = .ok (.istore_n 3, 1) := by decide +kernel
theorem dX10_copyMaster_34 : decode cX10_copyMaster 34 = .ok (.iconst 0, 1) := by decide +kernel
theorem dX10_copyMaster_35 : decode cX10_copyMaster 35 = .ok (.istore 4, 2) := by decide +kernel
theorem dX10_copyMaster_37 : decode cX10_copyMaster 37 = .ok (.iload 4, 2) := by decide +kernel
theorem dX10_copyMaster_39 : decode cX10_copyMaster 39 = .ok (.bipush 16, 2) := by decide +kernel
theorem dX10_copyMaster_41 : decode cX10_copyMaster 41 = .ok (.if_icmp .ge 68, 3) := by decide +kernel
theorem dX10_copyMaster_44 : decode cX10_copyMaster 44 = .ok (.iload_n 3, 1) := by decide +kernel
theorem dX10_copyMaster_45 : decode cX10_copyMaster 45 = .ok (.aload_n 0, 1) := by decide +kernel
theorem dX10_copyMaster_46 : decode cX10_copyMaster 46 = .ok (.getfield 7, 3) := by decide +kernel
theorem dX10_copyMaster_49 : decode cX10_copyMaster 49 = .ok (.bipush 16, 2) := by decide +kernel
theorem dX10_copyMaster_51 : decode cX10_copyMaster 51 = .ok (.iload_n 1, 1) := by decide +kernel
theorem dX10_copyMaster_52 : decode cX10_copyMaster 52 = .ok (.imul, 1) := by decide +kernel
theorem dX10_copyMaster_53 : decode cX10_copyMaster 53 = .ok (.iload 4, 2) := by decide +kernel
theorem dX10_copyMaster_55 : decode cX10_copyMaster 55 = .ok (.iadd, 1) := by decide +kernel
theorem dX10_copyMaster_56 : decode cX10_copyMaster 56 = .ok (.iaload, 1) := by decide +kernel
theorem dX10_copyMaster_57 : decode cX10_copyMaster 57 = .ok (.aload_n 0, 1) := by decide +kernel
theorem dX10_copyMaster_58 : decode cX10_copyMaster 58 = .ok (.getfield 7, 3) := by decide +kernel
theorem dX10_copyMaster_61 : decode cX10_copyMaster 61 = .ok (.bipush 16, 2) := by decide +kernel
theorem dX10_copyMaster_63 : decode cX10_copyMaster 63 = .ok (.iload_n 2, 1) := by decide +kernel
theorem dX10_copyMaster_64 : decode cX10_copyMaster 64 = .ok (.imul, 1) := by decide +kernel
theorem dX10_copyMaster_65 : decode cX10_copyMaster 65 = .ok (.iload 4, 2) := by decide +kernel
theorem dX10_copyMaster_67 : decode cX10_copyMaster 67 = .ok (.iadd, 1) := by decide +kernel
theorem dX10_copyMaster_68 : decode cX10_copyMaster 68 = .ok (.iaload, 1) := by decide +kernel
theorem dX10_copyMaster_69 : decode cX10_copyMaster 69 = .ok (.if_icmp .eq 7, 3) := by decide +kernel
theorem dX10_copyMaster_72 : decode cX10_copyMaster 72 = .ok (.iconst 1, 1) := by decide +kernel
theorem dX10_copyMaster_73 : decode cX10_copyMaster 73 = .ok (.goto 4, 3) := by decide +kernel
theorem dX10_copyMaster_76 : decode cX10_copyMaster 76 = .ok (.iconst 0, 1) := by decide +kernel
theorem dX10_copyMaster_77 : decode cX10_copyMaster 77 = .ok (.iadd, 1) := by decide +kernel
theorem dX10_copyMaster_78 : decode cX10_copyMaster 78 = .ok (.istore_n 3, 1) := by decide +kernel
theorem dX10_copyMaster_79 : decode cX10_copyMaster 79 = .ok (.aload_n 0, 1) := by decide +kernel
theorem dX10_copyMaster_80 : decode cX10_copyMaster 80 = .ok (.getfield 7, 3) := by decide +kernel
theorem dX10_copyMaster_83 : decode cX10_copyMaster 83 = .ok (.bipush 16, 2) := by decide +kernel
theorem dX10_copyMaster_85 : decode cX10_copyMaster 85 = .ok (.iload_n 2, 1) := by decide +kernel
theorem dX10_copyMaster_86 : decode cX10_copyMaster 86 = .ok (.imul, 1) := by decide +kernel
theorem dX10_copyMaster_87 : decode cX10_copyMaster 87 = .ok (.iload 4, 2) := by decide +kernel
theorem dX10_copyMaster_89 : decode cX10_copyMaster 89 = .ok (.iadd, 1) := by decide +kernel
theorem dX10_copyMaster_90 : decode cX10_copyMaster 90 = .ok (.aload_n 0, 1) := by decide +kernel
theorem dX10_copyMaster_91 : decode cX10_copyMaster 91 = .ok (.getfield 7, 3) := by decide +kernel
theorem dX10_copyMaster_94 : decode cX10_copyMaster 94 = .ok (.bipush 16, 2) := by decide +kernel
theorem dX10_copyMaster_96 : decode cX10_copyMaster 96 = .ok (.iload_n 1, 1) := by decide +kernel
theorem dX10_copyMaster_97 : decode cX10_copyMaster 97 = .ok (.imul, 1) := by decide +kernel
theorem dX10_copyMaster_98 : decode cX10_copyMaster 98 = .ok (.iload 4, 2) := by decide +kernel
theorem dX10_copyMaster_100 : decode cX10_copyMaster 100 = .ok (.iadd, 1) := by decide +kernel
theorem dX10_copyMaster_101 : decode cX10_copyMaster 101 = .ok (.iaload, 1) := by decide +kernel
theorem dX10_copyMaster_102 : decode cX10_copyMaster 102 = .ok (.iastore, 1) := by decide +kernel
theorem dX10_copyMaster_103 : decode cX10_copyMaster 103 = .ok (.iinc 4 1, 3) := by decide +kernel
theorem dX10_copyMaster_106 : decode cX10_copyMaster 106 = .ok (.goto (-69), 3) := by decide +kernel
theorem dX10_copyMaster_109 : decode cX10_copyMaster 109 = .ok (.iload_n 3, 1) := by decide +kernel
theorem dX10_copyMaster_110 : decode cX10_copyMaster 110 = .ok (.ireturn, 1) := by decide +kernel
theorem dX10_mirrorMaster_0 : decode cX10_mirrorMaster 0 = .ok (.aload_n 0, 1) := by decide +kernel
theorem dX10_mirrorMaster_1 : decode cX10_mirrorMaster 1 = .ok (.iload_n 1, 1) := by decide +kernel
theorem dX10_mirrorMaster_2 : decode cX10_mirrorMaster 2 = .ok (.invokestatic 69, 3) := by decide +kernel
theorem dX10_mirrorMaster_5 : decode cX10_mirrorMaster 5 = .ok (.ifCond .eq 7, 3) := by decide +kernel
theorem dX10_mirrorMaster_8 : decode cX10_mirrorMaster 8 = .ok (.iconst 0, 1) := by decide +kernel
theorem dX10_mirrorMaster_9 : decode cX10_mirrorMaster 9 = .ok (.goto 4, 3) := by decide +kernel
theorem dX10_mirrorMaster_12 : decode cX10_mirrorMaster 12 = .ok (.iconst 1, 1) := by decide +kernel
theorem dX10_mirrorMaster_13 : decode cX10_mirrorMaster 13 = .ok (.invokevirtual 72, 3) := by decide +kernel
theorem dX10_mirrorMaster_16 : decode cX10_mirrorMaster 16 = .ok (.ifCond .ne 5, 3) := by decide +kernel
theorem dX10_mirrorMaster_19 : decode cX10_mirrorMaster 19 = .ok (.iconst 0, 1) := by decide +kernel
theorem dX10_mirrorMaster_20 : decode cX10_mirrorMaster 20 = .ok (.ireturn, 1) := by decide +kernel
theorem dX10_mirrorMaster_21 : decode cX10_mirrorMaster 21 = .ok (.aload_n 0, 1) := by decide +kernel
theorem dX10_mirrorMaster_22 : decode cX10_mirrorMaster 22 = .ok (.invokevirtual 66, 3) := by decide +kernel
theorem dX10_mirrorMaster_25 : decode cX10_mirrorMaster 25 = .ok (.iconst 0, 1) := by decide +kernel
theorem dX10_mirrorMaster_26 : decode cX10_mirrorMaster 26 = .ok (.istore_n 2, 1) := by decide +kernel
theorem dX10_mirrorMaster_27 : decode cX10_mirrorMaster 27 = .ok (.iconst 0, 1) := by decide +kernel
theorem dX10_mirrorMaster_28 : decode cX10_mirrorMaster 28 = .ok (.istore_n 3, 1) := by decide +kernel
theorem dX10_mirrorMaster_29 : decode cX10_mirrorMaster 29 = .ok (.iload_n 3, 1) := by decide +kernel
theorem dX10_mirrorMaster_30 : decode cX10_mirrorMaster 30 = .ok (.bipush 8, 2) := by decide +kernel
theorem dX10_mirrorMaster_32 : decode cX10_mirrorMaster 32 = .ok (.if_icmp .ge 86, 3) := by decide +kernel
theorem dX10_mirrorMaster_35 : decode cX10_mirrorMaster 35 = .ok (.aload_n 0, 1) := by decide +kernel
theorem dX10_mirrorMaster_36 : decode cX10_mirrorMaster 36 = .ok (.getfield 7, 3) := by decide +kernel
theorem dX10_mirrorMaster_39 : decode cX10_mirrorMaster 39 = .ok (.bipush 16, 2) := by decide +kernel
theorem dX10_mirrorMaster_41 : decode cX10_mirrorMaster 41 = .ok (.iload_n 1, 1) := by decide +kernel
theorem dX10_mirrorMaster_42 : decode cX10_mirrorMaster 42 = .ok (.imul, 1) := by decide +kernel
theorem dX10_mirrorMaster_43 : decode cX10_mirrorMaster 43 = .ok (.iload_n 3, 1) := by decide +kernel
theorem dX10_mirrorMaster_44 : decode cX10_mirrorMaster 44 = .ok (.iadd, 1) := by decide +kernel
theorem dX10_mirrorMaster_45 : decode cX10_mirrorMaster 45 = .ok (.iaload, 1) := by decide +kernel
theorem dX10_mirrorMaster_46 : decode cX10_mirrorMaster 46 = .ok (.istore 4, 2) := by decide +kernel
theorem dX10_mirrorMaster_48 : decode cX10_mirrorMaster 48 = .ok (.aload_n 0, 1) := by decide +kernel
theorem dX10_mirrorMaster_49 : decode cX10_mirrorMaster 49 = .ok (.getfield 7, 3) := by decide +kernel
theorem dX10_mirrorMaster_52 : decode cX10_mirrorMaster 52 = .ok (.bipush 16, 2) := by decide +kernel
theorem dX10_mirrorMaster_54 : decode cX10_mirrorMaster 54 = .ok (.iload_n 1, 1) := by decide +kernel
theorem dX10_mirrorMaster_55 : decode cX10_mirrorMaster 55 = .ok (.imul, 1) := by decide +kernel
theorem dX10_mirrorMaster_56 : decode cX10_mirrorMaster 56 = .ok (.bipush 16, 2) := by decide +kernel
theorem dX10_mirrorMaster_58 : decode cX10_mirrorMaster 58 = .ok (.iadd, 1) := by decide +kernel
theorem dX10_mirrorMaster_59 : decode cX10_mirrorMaster 59 = .ok (.iconst 1, 1) := by decide +kernel
theorem dX10_mirrorMaster_60 : decode cX10_mirrorMaster 60 = .ok (.isub, 1) := by decide +kernel
theorem dX10_mirrorMaster_61 : decode cX10_mirrorMaster 61 = .ok (.iload_n 3, 1) := by decide +kernel
theorem dX10_mirrorMaster_62 : decode cX10_mirrorMaster 62 = .ok (.isub, 1) := by decide +kernel
theorem dX10_mirrorMaster_63 : decode cX10_mirrorMaster 63 = .ok (.iaload, 1) := by decide +kernel
theorem dX10_mirrorMaster_64 : decode cX10_mirrorMaster 64 = .ok (.istore 5, 2) := by decide +kernel
theorem dX10_mirrorMaster_66 : decode cX10_mirrorMaster 66 = .ok (.iload_n 2, 1) := by decide +kernel
theorem dX10_mirrorMaster_67 : decode cX10_mirrorMaster 67 = .ok (.iload 4, 2) := by decide +kernel
theorem dX10_mirrorMaster_69 : decode cX10_mirrorMaster 69 = .ok (.iload 5, 2) := by decide +kernel
theorem dX10_mirrorMaster_71 : decode cX10_mirrorMaster 71 = .ok (.if_icmp .eq 7, 3) := by decide +kernel
theorem dX10_mirrorMaster_74 : decode cX10_mirrorMaster 74 = .ok (.iconst 2, 1) := by decide +kernel
theorem dX10_mirrorMaster_75 : decode cX10_mirrorMaster 75 = .ok (.goto 4, 3) := by decide +kernel
theorem dX10_mirrorMaster_78 : decode cX10_mirrorMaster 78 = .ok (.iconst 0, 1) := by decide +kernel
theorem dX10_mirrorMaster_79 : decode cX10_mirrorMaster 79 = .ok (.iadd, 1) := by decide +kernel
theorem dX10_mirrorMaster_80 : decode cX10_mirrorMaster 80 = .ok (.istore_n 2, 1) := by decide +kernel
theorem dX10_mirrorMaster_81 : decode cX10_mirrorMaster 81 = .ok (.aload_n 0, 1) := by decide +kernel
theorem dX10_mirrorMaster_82 : decode cX10_mirrorMaster 82 = .ok (.getfield 7, 3) := by decide +kernel
theorem dX10_mirrorMaster_85 : decode cX10_mirrorMaster 85 = .ok (.bipush 16, 2) := by decide +kernel
theorem dX10_mirrorMaster_87 : decode cX10_mirrorMaster 87 = .ok (.iload_n 1, 1) := by decide +kernel
theorem dX10_mirrorMaster_88 : decode cX10_mirrorMaster 88 = .ok (.imul, 1) := by decide +kernel
theorem dX10_mirrorMaster_89 : decode cX10_mirrorMaster 89 = .ok (.iload_n 3, 1) := by decide +kernel
theorem dX10_mirrorMaster_90 : decode cX10_mirrorMaster 90 = .ok (.iadd, 1) := by decide +kernel
theorem dX10_mirrorMaster_91 : decode cX10_mirrorMaster 91 = .ok (.iload 5, 2) := by decide +kernel
theorem dX10_mirrorMaster_93 : decode cX10_mirrorMaster 93 = .ok (.iastore, 1) := by decide +kernel
theorem dX10_mirrorMaster_94 : decode cX10_mirrorMaster 94 = .ok (.aload_n 0, 1) := by decide +kernel
theorem dX10_mirrorMaster_95 : decode cX10_mirrorMaster 95 = .ok (.getfield 7, 3) := by decide +kernel
theorem dX10_mirrorMaster_98 : decode cX10_mirrorMaster 98 = .ok (.bipush 16, 2) := by decide +kernel
theorem dX10_mirrorMaster_100 : decode cX10_mirrorMaster 100 = .ok (.iload_n 1, 1) := by decide +kernel
theorem dX10_mirrorMaster_101 : decode cX10_mirrorMaster 101 = .ok (.imul, 1) := by decide +kernel
theorem dX10_mirrorMaster_102 : decode cX10_mirrorMaster 102 = .ok (.bipush 16, 2) := by decide +kernel
theorem dX10_mirrorMaster_104 : decode cX10_mirrorMaster 104 = .ok (.iadd, 1) := by decide +kernel
theorem dX10_mirrorMaster_105 : decode cX10_mirrorMaster 105 = .ok (.iconst 1, 1) := by decide +kernel
theorem dX10_mirrorMaster_106 : decode cX10_mirrorMaster 106 = .ok (.isub, 1) := by decide +kernel
theorem dX10_mirrorMaster_107 : decode cX10_mirrorMaster 107 = .ok (.iload_n 3, 1) := by decide +kernel
theorem dX10_mirrorMaster_108 : decode cX10_mirrorMaster 108 = .ok (.isub, 1) := by decide +kernel
theorem dX10_mirrorMaster_109 : decode cX10_mirrorMaster 109 = .ok (.iload 4, 2) := by decide +kernel
theorem dX10_mirrorMaster_111 : decode cX10_mirrorMaster 111 = .ok (.iastore, 1) := by decide +kernel
theorem dX10_mirrorMaster_112 : decode cX10_mirrorMaster 112 = .ok (.iinc 3 1, 3) := by decide +kernel
theorem dX10_mirrorMaster_115 : decode cX10_mirrorMaster 115 = .ok (.goto (-86), 3) := by decide +kernel
theorem dX10_mirrorMaster_118 : decode cX10_mirrorMaster 118 = .ok (.iload_n 2, 1) := by decide +kernel
theorem dX10_mirrorMaster_119 : decode cX10_mirrorMaster 119 = .ok (.ireturn, 1) := by decide +kernel
theorem dX10_chooseMaster_0 : decode cX10_chooseMaster 0 = .ok (.aload_n 0, 1) := by decide +kernel
theorem dX10_chooseMaster_1 : decode cX10_chooseMaster 1 = .ok (.iload_n 1, 1) := by decide +kernel
theorem dX10_chooseMaster_2 : decode cX10_chooseMaster 2 = .ok (.invokestatic 69, 3) := by decide +kernel
theorem dX10_chooseMaster_5 : decode cX10_chooseMaster 5 = .ok (.ifCond .eq 7, 3) := by decide +kernel
theorem dX10_chooseMaster_8 : decode cX10_chooseMaster 8 = .ok (.iconst 0, 1) := by decide +kernel
theorem dX10_chooseMaster_9 : decode cX10_chooseMaster 9 = .ok (.goto 4, 3) := by decide +kernel
theorem dX10_chooseMaster_12 : decode cX10_chooseMaster 12 = .ok (.iconst 1, 1) := by decide +kernel
theorem dX10_chooseMaster_13 : decode cX10_chooseMaster 13 = .ok (.invokevirtual 72, 3) := by decide +kernel
theorem dX10_chooseMaster_16 : decode cX10_chooseMaster 16 = .ok (.ifCond .eq 13, 3) := by decide +kernel
theorem dX10_chooseMaster_19 : decode cX10_chooseMaster 19 = .ok (.aload_n 0, 1) := by decide +kernel
theorem dX10_chooseMaster_20 : decode cX10_chooseMaster 20 = .ok (.bipush 48, 2) := by decide +kernel
theorem dX10_chooseMaster_22 : decode cX10_chooseMaster 22 = .ok (.iload_n 1, 1) := by decide +kernel
theorem dX10_chooseMaster_23 : decode cX10_chooseMaster 23 = .ok (.invokevirtual 75, 3) := by decide +kernel
theorem dX10_chooseMaster_26 : decode cX10_chooseMaster 26 = .ok (.goto 4, 3) := by decide +kernel
theorem dX10_chooseMaster_29 : decode cX10_chooseMaster 29 = .ok (.iconst 0, 1) := by decide +kernel
theorem dX10_chooseMaster_30 : decode cX10_chooseMaster 30 = .ok (.ireturn, 1) := by decide +kernel
theorem dX10_fitFollower_0 : decode cX10_fitFollower 0 = .ok (.aload_n 0, 1) := by decide +kernel
theorem dX10_fitFollower_1 : decode cX10_fitFollower 1 = .ok (.iload_n 1, 1) := by decide +kernel
theorem dX10_fitFollower_2 : decode cX10_fitFollower 2 = .ok (.iconst 0, 1) := by decide +kernel
theorem dX10_fitFollower_3 : decode cX10_fitFollower 3 = .ok (.iconst 3, 1) := by decide +kernel
theorem dX10_fitFollower_4 : decode cX10_fitFollower 4 = .ok (.invokestatic 20, 3) := by decide +kernel
theorem dX10_fitFollower_7 : decode cX10_fitFollower 7 = .ok (.ifCond .eq 7, 3) := by decide +kernel
theorem dX10_fitFollower_10 : decode cX10_fitFollower 10 = .ok (.iconst 0, 1) := by decide +kernel
theorem dX10_fitFollower_11 : decode cX10_fitFollower 11 = .ok (.goto 4, 3) := by decide +kernel
theorem dX10_fitFollower_14 : decode cX10_fitFollower 14 = .ok (.iconst 1, 1) := by decide +kernel
theorem dX10_fitFollower_15 : decode cX10_fitFollower 15 = .ok (.invokevirtual 72, 3) := by decide +kernel
theorem dX10_fitFollower_18 : decode cX10_fitFollower 18 = .ok (.ifCond .ne 5, 3) := by decide +kernel
theorem dX10_fitFollower_21 : decode cX10_fitFollower 21 = .ok (.iconst 0, 1) := by decide +kernel
theorem dX10_fitFollower_22 : decode cX10_fitFollower 22 = .ok (.ireturn, 1) := by decide +kernel
theorem dX10_fitFollower_23 : decode cX10_fitFollower 23 = .ok (.aload_n 0, 1) := by decide +kernel
theorem dX10_fitFollower_24 : decode cX10_fitFollower 24 = .ok (.bipush 50, 2) := by decide +kernel
theorem dX10_fitFollower_26 : decode cX10_fitFollower 26 = .ok (.iconst 0, 1) := by decide +kernel
theorem dX10_fitFollower_27 : decode cX10_fitFollower 27 = .ok (.invokevirtual 75, 3) := by decide +kernel
theorem dX10_fitFollower_30 : decode cX10_fitFollower 30 = .ok (.istore_n 2, 1) := by decide +kernel
theorem dX10_fitFollower_31 : decode cX10_fitFollower 31 = .ok (.aload_n 0, 1) := by decide +kernel
theorem dX10_fitFollower_32 : decode cX10_fitFollower 32 = .ok (.getfield 7, 3) := by decide +kernel
theorem dX10_fitFollower_35 : decode cX10_fitFollower 35 = .ok (.bipush 49, 2) := by decide +kernel
theorem dX10_fitFollower_37 : decode cX10_fitFollower 37 = .ok (.iload_n 1, 1) := by decide +kernel
theorem dX10_fitFollower_38 : decode cX10_fitFollower 38 = .ok (.iastore, 1) := by decide +kernel
theorem dX10_fitFollower_39 : decode cX10_fitFollower 39 = .ok (.aload_n 0, 1) := by decide +kernel
theorem dX10_fitFollower_40 : decode cX10_fitFollower 40 = .ok (.getfield 7, 3) := by decide +kernel
theorem dX10_fitFollower_43 : decode cX10_fitFollower 43 = .ok (.bipush 51, 2) := by decide +kernel
theorem dX10_fitFollower_45 : decode cX10_fitFollower 45 = .ok (.iconst 0, 1) := by decide +kernel
theorem dX10_fitFollower_46 : decode cX10_fitFollower 46 = .ok (.iastore, 1) := by decide +kernel
theorem dX10_fitFollower_47 : decode cX10_fitFollower 47 = .ok (.iload_n 2, 1) := by decide +kernel
theorem dX10_fitFollower_48 : decode cX10_fitFollower 48 = .ok (.ireturn, 1) := by decide +kernel
theorem dX10_changeOffset_0 : decode cX10_changeOffset 0 = .ok (.aload_n 0, 1) := by decide +kernel
theorem dX10_changeOffset_1 : decode cX10_changeOffset 1 = .ok (.iload_n 1, 1) := by decide +kernel
theorem dX10_changeOffset_2 : decode cX10_changeOffset 2 = .ok (.iconst 0, 1) := by decide +kernel
theorem dX10_changeOffset_3 : decode cX10_changeOffset 3 = .ok (.iconst 5, 1) := by decide +kernel
theorem dX10_changeOffset_4 : decode cX10_changeOffset 4 = .ok (.invokestatic 20, 3) := by decide +kernel
theorem dX10_changeOffset_7 : decode cX10_changeOffset 7 = .ok (.ifCond .eq 7, 3) := by decide +kernel
theorem dX10_changeOffset_10 : decode cX10_changeOffset 10 = .ok (.iconst 0, 1) := by decide +kernel
theorem dX10_changeOffset_11 : decode cX10_changeOffset 11 = .ok (.goto 4, 3) := by decide +kernel
theorem dX10_changeOffset_14 : decode cX10_changeOffset 14 = .ok (.iconst 1, 1) := by decide +kernel
theorem dX10_changeOffset_15 : decode cX10_changeOffset 15 = .ok (.invokevirtual 72, 3) := by decide +kernel
theorem dX10_changeOffset_18 : decode cX10_changeOffset 18 = .ok (.ifCond .eq 13, 3) := by decide +kernel
theorem dX10_changeOffset_21 : decode cX10_changeOffset 21 = .ok (.aload_n 0, 1) := by decide +kernel
theorem dX10_changeOffset_22 : decode cX10_changeOffset 22 = .ok (.bipush 52, 2) := by decide +kernel
theorem dX10_changeOffset_24 : decode cX10_changeOffset 24 = .ok (.iload_n 1, 1) := by decide +kernel
theorem dX10_changeOffset_25 : decode cX10_changeOffset 25 = .ok (.invokevirtual 75, 3) := by decide +kernel
theorem dX10_changeOffset_28 : decode cX10_changeOffset 28 = .ok (.goto 4, 3) := by decide +kernel
theorem dX10_changeOffset_31 : decode cX10_changeOffset 31 = .ok (.iconst 0, 1) := by decide +kernel
theorem dX10_changeOffset_32 : decode cX10_changeOffset 32 = .ok (.ireturn, 1) := by decide +kernel
theorem dX10_sharpen_0 : decode cX10_sharpen 0 = .ok (.aload_n 0, 1) := by decide +kernel
theorem dX10_sharpen_1 : decode cX10_sharpen 1 = .ok (.iconst 0, 1) := by decide +kernel
theorem dX10_sharpen_2 : decode cX10_sharpen 2 = .ok (.putfield 16, 3) := by decide +kernel
theorem dX10_sharpen_5 : decode cX10_sharpen 5 = .ok (.aload_n 0, 1) := by decide +kernel
theorem dX10_sharpen_6 : decode cX10_sharpen 6 = .ok (.bipush 53, 2) := by decide +kernel
theorem dX10_sharpen_8 : decode cX10_sharpen 8 = .ok (.bipush 100, 2) := by decide +kernel
theorem dX10_sharpen_10 : decode cX10_sharpen 10 = .ok (.invokevirtual 75, 3) := by decide +kernel
theorem dX10_sharpen_13 : decode cX10_sharpen 13 = .ok (.istore_n 1, 1) := by decide +kernel
theorem dX10_sharpen_14 : decode cX10_sharpen 14 = .ok (.aload_n 0, 1) := by decide +kernel
theorem dX10_sharpen_15 : decode cX10_sharpen 15 = .ok (.getfield 7, 3) := by decide +kernel
theorem dX10_sharpen_18 : decode cX10_sharpen 18 = .ok (.bipush 63, 2) := by decide +kernel
theorem dX10_sharpen_20 : decode cX10_sharpen 20 = .ok (.dup2, 1) := by decide +kernel
theorem dX10_sharpen_21 : decode cX10_sharpen 21 = .ok (.iaload, 1) := by decide +kernel
theorem dX10_sharpen_22 : decode cX10_sharpen 22 = .ok (.iconst 1, 1) := by decide +kernel
theorem dX10_sharpen_23 : decode cX10_sharpen 23 = .ok (.iadd, 1) := by decide +kernel
theorem dX10_sharpen_24 : decode cX10_sharpen 24 = .ok (.iastore, 1) := by decide +kernel
theorem dX10_sharpen_25 : decode cX10_sharpen 25 = .ok (.iload_n 1, 1) := by decide +kernel
theorem dX10_sharpen_26 : decode cX10_sharpen 26 = .ok (.ireturn, 1) := by decide +kernel
theorem dX10_changeDepth_0 : decode cX10_changeDepth 0 = .ok (.aload_n 0, 1) := by decide +kernel
theorem dX10_changeDepth_1 : decode cX10_changeDepth 1 = .ok (.iload_n 1, 1) := by decide +kernel
theorem dX10_changeDepth_2 : decode cX10_changeDepth 2 = .ok (.iconst 1, 1) := by decide +kernel
theorem dX10_changeDepth_3 : decode cX10_changeDepth 3 = .ok (.bipush 9, 2) := by decide +kernel
theorem dX10_changeDepth_5 : decode cX10_changeDepth 5 = .ok (.invokestatic 20, 3) := by decide +kernel
theorem dX10_changeDepth_8 : decode cX10_changeDepth 8 = .ok (.ifCond .eq 7, 3) := by decide +kernel
theorem dX10_changeDepth_11 : decode cX10_changeDepth 11 = .ok (.iconst 0, 1) := by decide +kernel
theorem dX10_changeDepth_12 : decode cX10_changeDepth 12 = .ok (.goto 4, 3) := by decide +kernel
theorem dX10_changeDepth_15 : decode cX10_changeDepth 15 = .ok (.iconst 1, 1) := by decide +kernel
theorem dX10_changeDepth_16 : decode cX10_changeDepth 16 = .ok (.invokevirtual 72, 3) := by decide +kernel
theorem dX10_changeDepth_19 : decode cX10_changeDepth 19 = .ok (.ifCond .eq 13, 3) := by decide +kernel
theorem dX10_changeDepth_22 : decode cX10_changeDepth 22 = .ok (.aload_n 0, 1) := by decide +kernel
theorem dX10_changeDepth_23 : decode cX10_changeDepth 23 = .ok (.bipush 54, 2) := by decide +kernel
theorem dX10_changeDepth_25 : decode cX10_changeDepth 25 = .ok (.iload_n 1, 1) := by decide +kernel
theorem dX10_changeDepth_26 : decode cX10_changeDepth 26 = .ok (.invokevirtual 75, 3) := by decide +kernel
theorem dX10_changeDepth_29 : decode cX10_changeDepth 29 = .ok (.goto 4, 3) := by decide +kernel
theorem dX10_changeDepth_32 : decode cX10_changeDepth 32 = .ok (.iconst 0, 1) := by decide +kernel
theorem dX10_changeDepth_33 : decode cX10_changeDepth 33 = .ok (.ireturn, 1) := by decide +kernel
theorem dX10_changeSpeed_0 : decode cX10_changeSpeed 0 = .ok (.aload_n 0, 1) := by decide +kernel
theorem dX10_changeSpeed_1 : decode cX10_changeSpeed 1 = .ok (.iload_n 1, 1) := by decide +kernel
theorem dX10_changeSpeed_2 : decode cX10_changeSpeed 2 = .ok (.iconst 1, 1) := by decide +kernel
theorem dX10_changeSpeed_3 : decode cX10_changeSpeed 3 = .ok (.iconst 5, 1) := by decide +kernel
theorem dX10_changeSpeed_4 : decode cX10_changeSpeed 4 = .ok (.invokestatic 20, 3) := by decide +kernel
theorem dX10_changeSpeed_7 : decode cX10_changeSpeed 7 = .ok (.ifCond .eq 7, 3) := by decide +kernel
theorem dX10_changeSpeed_10 : decode cX10_changeSpeed 10 = .ok (.iconst 0, 1) := by decide +kernel
theorem dX10_changeSpeed_11 : decode cX10_changeSpeed 11 = .ok (.goto 4, 3) := by decide +kernel
theorem dX10_changeSpeed_14 : decode cX10_changeSpeed 14 = .ok (.iconst 1, 1) := by decide +kernel
theorem dX10_changeSpeed_15 : decode cX10_changeSpeed 15 = .ok (.invokevirtual 72, 3) := by decide +kernel
theorem dX10_changeSpeed_18 : decode cX10_changeSpeed 18 = .ok (.ifCond .eq 13, 3) := by decide +kernel
theorem dX10_changeSpeed_21 : decode cX10_changeSpeed 21 = .ok (.aload_n 0, 1) := by decide +kernel
theorem dX10_changeSpeed_22 : decode cX10_changeSpeed 22 = .ok (.bipush 55, 2) := by decide +kernel
theorem dX10_changeSpeed_24 : decode cX10_changeSpeed 24 = .ok (.iload_n 1, 1) := by decide +kernel
theorem dX10_changeSpeed_25 : decode cX10_changeSpeed 25 = .ok (.invokevirtual 75, 3) := by decide +kernel
theorem dX10_changeSpeed_28 : decode cX10_changeSpeed 28 = .ok (.goto 4, 3) := by decide +kernel
theorem dX10_changeSpeed_31 : decode cX10_changeSpeed 31 = .ok (.iconst 0, 1) := by decide +kernel
theorem dX10_changeSpeed_32 : decode cX10_changeSpeed 32 = .ok (.ireturn, 1) := by decide +kernel
theorem dX10_changeTolerance_0 : decode cX10_changeTolerance 0 = .ok (.aload_n 0, 1) := by decide +kernel
theorem dX10_changeTolerance_1 : decode cX10_changeTolerance 1 = .ok (.iload_n 1, 1) := by decide +kernel
theorem dX10_changeTolerance_2 : decode cX10_changeTolerance 2 = .ok (.iconst 0, 1) := by decide +kernel
theorem dX10_changeTolerance_3 : decode cX10_changeTolerance 3 = .ok (.bipush 20, 2) := by decide +kernel
theorem dX10_changeTolerance_5 : decode cX10_changeTolerance 5 = .ok (.invokestatic 20, 3) := by decide +kernel
theorem dX10_changeTolerance_8 : decode cX10_changeTolerance 8 = .ok (.ifCond .eq 7, 3) := by decide +kernel
theorem dX10_changeTolerance_11 : decode cX10_changeTolerance 11 = .ok (.iconst 0, 1) := by decide +kernel
theorem dX10_changeTolerance_12 : decode cX10_changeTolerance 12 = .ok (.goto 4, 3) := by decide +kernel
theorem dX10_changeTolerance_15 : decode cX10_changeTolerance 15 = .ok (.iconst 1, 1) := by decide +kernel
theorem dX10_changeTolerance_16 : decode cX10_changeTolerance 16 = .ok (.invokevirtual 72, 3) := by decide +kernel
theorem dX10_changeTolerance_19 : decode cX10_changeTolerance 19 = .ok (.ifCond .eq 13, 3) := by decide +kernel
theorem dX10_changeTolerance_22 : decode cX10_changeTolerance 22 = .ok (.aload_n 0, 1) := by decide +kernel
theorem dX10_changeTolerance_23 : decode cX10_changeTolerance 23 = .ok (.bipush 56, 2) := by decide +kernel
theorem dX10_changeTolerance_25 : decode cX10_changeTolerance 25 = .ok (.iload_n 1, 1) := by decide +kernel
theorem dX10_changeTolerance_26 : decode cX10_changeTolerance 26 = .ok (.invokevirtual 75, 3) := by decide +kernel
theorem dX10_changeTolerance_29 : decode cX10_changeTolerance 29 = .ok (.goto 4, 3) := by decide +kernel
theorem dX10_changeTolerance_32 : decode cX10_changeTolerance 32 = .ok (.iconst 0, 1) := by decide +kernel
theorem dX10_changeTolerance_33 : decode cX10_changeTolerance 33 = .ok (.ireturn, 1) := by decide +kernel
theorem dX10_sweep_0 : decode cX10_sweep 0 = .ok (.aload_n 0, 1) := by decide +kernel
theorem dX10_sweep_1 : decode cX10_sweep 1 = .ok (.iconst 0, 1) := by decide +kernel
theorem dX10_sweep_2 : decode cX10_sweep 2 = .ok (.putfield 16, 3) := by decide +kernel
theorem dX10_sweep_5 : decode cX10_sweep 5 = .ok (.aload_n 0, 1) := by decide +kernel
theorem dX10_sweep_6 : decode cX10_sweep 6 = .ok (.bipush 57, 2) := by decide +kernel
theorem dX10_sweep_8 : decode cX10_sweep 8 = .ok (.iconst 0, 1) := by decide +kernel
theorem dX10_sweep_9 : decode cX10_sweep 9 = .ok (.invokevirtual 75, 3) := by decide +kernel
theorem dX10_sweep_12 : decode cX10_sweep 12 = .ok (.istore_n 1, 1) := by decide +kernel
theorem dX10_sweep_13 : decode cX10_sweep 13 = .ok (.aload_n 0, 1) := by decide +kernel
theorem dX10_sweep_14 : decode cX10_sweep 14 = .ok (.getfield 7, 3) := by decide +kernel
theorem dX10_sweep_17 : decode cX10_sweep 17 = .ok (.bipush 58, 2) := by decide +kernel
theorem dX10_sweep_19 : decode cX10_sweep 19 = .ok (.iconst 0, 1) := by decide +kernel
theorem dX10_sweep_20 : decode cX10_sweep 20 = .ok (.iastore, 1) := by decide +kernel
theorem dX10_sweep_21 : decode cX10_sweep 21 = .ok (.iload_n 1, 1) := by decide +kernel
theorem dX10_sweep_22 : decode cX10_sweep 22 = .ok (.ireturn, 1) := by decide +kernel
theorem dX10_addBlank_0 : decode cX10_addBlank 0 = .ok (.aload_n 0, 1) := by decide +kernel
theorem dX10_addBlank_1 : decode cX10_addBlank 1 = .ok (.iload_n 1, 1) := by decide +kernel
theorem dX10_addBlank_2 : decode cX10_addBlank 2 = .ok (.iconst 0, 1) := by decide +kernel
theorem dX10_addBlank_3 : decode cX10_addBlank 3 = .ok (.iconst 2, 1) := by decide +kernel
theorem dX10_addBlank_4 : decode cX10_addBlank 4 = .ok (.invokestatic 20, 3) := by decide +kernel
theorem dX10_addBlank_7 : decode cX10_addBlank 7 = .ok (.ifCond .ne 7, 3) := by decide +kernel
theorem dX10_addBlank_10 : decode cX10_addBlank 10 = .ok (.iconst 1, 1) := by decide +kernel
theorem dX10_addBlank_11 : decode cX10_addBlank 11 = .ok (.goto 34, 3) := by decide +kernel
theorem dX10_addBlank_14 : decode cX10_addBlank 14 = .ok (.iload_n 2, 1) := by decide +kernel
theorem dX10_addBlank_15 : decode cX10_addBlank 15 = .ok (.bipush 20, 2) := by decide +kernel
theorem dX10_addBlank_17 : decode cX10_addBlank 17 = .ok (.bipush 120, 2) := by decide +kernel
theorem dX10_addBlank_19 : decode cX10_addBlank 19 = .ok (.invokestatic 20, 3) := by decide +kernel
theorem dX10_addBlank_22 : decode cX10_addBlank 22 = .ok (.ifCond .ne 7, 3) := by decide +kernel
theorem dX10_addBlank_25 : decode cX10_addBlank 25 = .ok (.iconst 2, 1) := by decide +kernel
theorem dX10_addBlank_26 : decode cX10_addBlank 26 = .ok (.goto 19, 3) := by decide +kernel
theorem dX10_addBlank_29 : decode cX10_addBlank 29 = .ok (.aload_n 0, 1) := by decide +kernel
theorem dX10_addBlank_30 : decode cX10_addBlank 30 = .ok (.getfield 7, 3) := by decide +kernel
theorem dX10_addBlank_33 : decode cX10_addBlank 33 = .ok (.bipush 59, 2) := by decide +kernel
theorem dX10_addBlank_35 : decode cX10_addBlank 35 = .ok (.iaload, 1) := by decide +kernel
theorem dX10_addBlank_36 : decode cX10_addBlank 36 = .ok (.iconst 5, 1) := by decide +kernel
theorem dX10_addBlank_37 : decode cX10_addBlank 37 = .ok (.if_icmp .ne 7, 3) := by decide +kernel
theorem dX10_addBlank_40 : decode cX10_addBlank 40 = .ok (.iconst 3, 1) := by decide +kernel
theorem dX10_addBlank_41 : decode cX10_addBlank 41 = .ok (.goto 4, 3) := by decide +kernel
theorem dX10_addBlank_44 : decode cX10_addBlank 44 = .ok (.iconst 0, 1) := by decide +kernel
theorem dX10_addBlank_45 : decode cX10_addBlank 45 = .ok (.invokevirtual 72, 3) := by decide +kernel
theorem dX10_addBlank_48 : decode cX10_addBlank 48 = .ok (.ifCond .ne 5, 3) := by decide +kernel
theorem dX10_addBlank_51 : decode cX10_addBlank 51 = .ok (.iconst 0, 1) := by decide +kernel
theorem dX10_addBlank_52 : decode cX10_addBlank 52 = .ok (.ireturn, 1) := by decide +kernel
theorem dX10_addBlank_53 : decode cX10_addBlank 53 = .ok (.aload_n 0, 1) := by decide +kernel
theorem dX10_addBlank_54 : decode cX10_addBlank 54 = .ok (.invokevirtual 66, 3) := by decide +kernel
theorem dX10_addBlank_57 : decode cX10_addBlank 57 = .ok (.aload_n 0, 1) := by decide +kernel
theorem dX10_addBlank_58 : decode cX10_addBlank 58 = .ok (.getfield 7, 3) := by decide +kernel
theorem dX10_addBlank_61 : decode cX10_addBlank 61 = .ok (.bipush 59, 2) := by decide +kernel
theorem dX10_addBlank_63 : decode cX10_addBlank 63 = .ok (.iaload, 1) := by decide +kernel
theorem dX10_addBlank_64 : decode cX10_addBlank 64 = .ok (.istore_n 3, 1) := by decide +kernel
theorem dX10_addBlank_65 : decode cX10_addBlank 65 = .ok (.aload_n 0, 1) := by decide +kernel
theorem dX10_addBlank_66 : decode cX10_addBlank 66 = .ok (.iconst 0, 1) := by decide +kernel
theorem dX10_addBlank_67 : decode cX10_addBlank 67 = .ok (.iload_n 3, 1) := by decide +kernel
theorem dX10_addBlank_68 : decode cX10_addBlank 68 = .ok (.iconst 0, 1) := by decide +kernel
theorem dX10_addBlank_69 : decode cX10_addBlank 69 = .ok (.iload_n 1, 1) := by decide +kernel
theorem dX10_addBlank_70 : decode cX10_addBlank 70 = .ok (.invokevirtual 49, 3) := by decide +kernel
theorem dX10_addBlank_73 : decode cX10_addBlank 73 = .ok (.aload_n 0, 1) := by decide +kernel
theorem dX10_addBlank_74 : decode cX10_addBlank 74 = .ok (.iconst 0, 1) := by decide +kernel
theorem dX10_addBlank_75 : decode cX10_addBlank 75 = .ok (.iload_n 3, 1) := by decide +kernel
theorem dX10_addBlank_76 : decode cX10_addBlank 76 = .ok (.iconst 1, 1) := by decide +kernel
theorem dX10_addBlank_77 : decode cX10_addBlank 77 = .ok (.iconst 0, 1) := by decide +kernel
theorem dX10_addBlank_78 : decode cX10_addBlank 78 = .ok (.invokevirtual 49, 3) := by decide +kernel
theorem dX10_addBlank_81 : decode cX10_addBlank 81 = .ok (.iconst 0, 1) := by decide +kernel
theorem dX10_addBlank_82 : decode cX10_addBlank 82 = .ok (.istore 4, 2) := by decide +kernel
theorem dX10_addBlank_84 : decode cX10_addBlank 84 = .ok (.iload 4, 2) := by decide +kernel
theorem dX10_addBlank_86 : decode cX10_addBlank 86 = .ok (.bipush 16, 2) := by decide +kernel
theorem dX10_addBlank_88 : decode cX10_addBlank 88 = .ok (.if_icmp .ge 20, 3) := by decide +kernel
theorem dX10_addBlank_91 : decode cX10_addBlank 91 = .ok (.aload_n 0, 1) := by decide +kernel
theorem dX10_addBlank_92 : decode cX10_addBlank 92 = .ok (.iconst 0, 1) := by decide +kernel
theorem dX10_addBlank_93 : decode cX10_addBlank 93 = .ok (.iload_n 3, 1) := by decide +kernel
theorem dX10_addBlank_94 : decode cX10_addBlank 94 = .ok (.iconst 2, 1) := by decide +kernel
theorem dX10_addBlank_95 : decode cX10_addBlank 95 = .ok (.iload 4, 2) := by decide +kernel
theorem dX10_addBlank_97 : decode cX10_addBlank 97 = .ok (.iadd, 1) := by decide +kernel
theorem dX10_addBlank_98 : decode cX10_addBlank 98 = .ok (.iload_n 2, 1) := by decide +kernel
theorem dX10_addBlank_99 : decode cX10_addBlank 99 = .ok (.invokevirtual 49, 3) := by decide +kernel
theorem dX10_addBlank_102 : decode cX10_addBlank 102 = .ok (.iinc 4 1, 3) := by decide +kernel
theorem dX10_addBlank_105 : decode cX10_addBlank 105 = .ok (.goto (-21), 3) := by decide +kernel
theorem dX10_addBlank_108 : decode cX10_addBlank 108 = .ok (.aload_n 0, 1) := by decide +kernel
theorem dX10_addBlank_109 : decode cX10_addBlank 109 = .ok (.getfield 7, 3) := by decide +kernel
theorem dX10_addBlank_112 : decode cX10_addBlank 112 = .ok (.bipush 59, 2) := by decide +kernel
theorem dX10_addBlank_114 : decode cX10_addBlank 114 = .ok (.dup2, 1) := by decide +kernel
theorem dX10_addBlank_115 : decode cX10_addBlank 115 = .ok (.iaload, 1) := by decide +kernel
theorem dX10_addBlank_116 : decode cX10_addBlank 116 = .ok (.iconst 1, 1) := by decide +kernel
theorem dX10_addBlank_117 : decode cX10_addBlank 117 = .ok (.iadd, 1) := by decide +kernel
theorem dX10_addBlank_118 : decode cX10_addBlank 118 = .ok (.iastore, 1) := by decide +kernel
theorem dX10_addBlank_119 : decode cX10_addBlank 119 = .ok (.iload_n 3, 1) := by decide +kernel
theorem dX10_addBlank_120 : decode cX10_addBlank 120 = .ok (.ireturn, 1) := by decide +kernel
theorem dX10_burn_0 : decode cX10_burn 0 = .ok (.aload_n 0, 1) := by decide +kernel
theorem dX10_burn_1 : decode cX10_burn 1 = .ok (.iload_n 1, 1) := by decide +kernel
theorem dX10_burn_2 : decode cX10_burn 2 = .ok (.invokevirtual 78, 3) := by decide +kernel
theorem dX10_burn_5 : decode cX10_burn 5 = .ok (.istore_n 2, 1) := by decide +kernel
theorem dX10_burn_6 : decode cX10_burn 6 = .ok (.aload_n 0, 1) := by decide +kernel
theorem dX10_burn_7 : decode cX10_burn 7 = .ok (.iload_n 2, 1) := by decide +kernel
theorem dX10_burn_8 : decode cX10_burn 8 = .ok (.ifCond .ne 7, 3) := by decide +kernel
theorem dX10_burn_11 : decode cX10_burn 11 = .ok (.iconst 1, 1) := by decide +kernel
theorem dX10_burn_12 : decode cX10_burn 12 = .ok (.goto 19, 3) := by decide +kernel
theorem dX10_burn_15 : decode cX10_burn 15 = .ok (.aload_n 0, 1) := by decide +kernel
theorem dX10_burn_16 : decode cX10_burn 16 = .ok (.getfield 7, 3) := by decide +kernel
theorem dX10_burn_19 : decode cX10_burn 19 = .ok (.bipush 60, 2) := by decide +kernel
theorem dX10_burn_21 : decode cX10_burn 21 = .ok (.iaload, 1) := by decide +kernel
theorem dX10_burn_22 : decode cX10_burn 22 = .ok (.iload_n 1, 1) := by decide +kernel
theorem dX10_burn_23 : decode cX10_burn 23 = .ok (.if_icmp .ne 7, 3) := by decide +kernel
theorem dX10_burn_26 : decode cX10_burn 26 = .ok (.iconst 2, 1) := by decide +kernel
theorem dX10_burn_27 : decode cX10_burn 27 = .ok (.goto 4, 3) := by decide +kernel
theorem dX10_burn_30 : decode cX10_burn 30 = .ok (.iconst 0, 1) := by decide +kernel
theorem dX10_burn_31 : decode cX10_burn 31 = .ok (.invokevirtual 72, 3) := by decide +kernel
theorem dX10_burn_34 : decode cX10_burn 34 = .ok (.ifCond .ne 5, 3) := by decide +kernel
theorem dX10_burn_37 : decode cX10_burn 37 = .ok (.iconst 0, 1) := by decide +kernel
theorem dX10_burn_38 : decode cX10_burn 38 = .ok (.ireturn, 1) := by decide +kernel
theorem dX10_burn_39 : decode cX10_burn 39 = .ok (.aload_n 0, 1) := by decide +kernel
theorem dX10_burn_40 : decode cX10_burn 40 = .ok (.invokevirtual 66, 3) := by decide +kernel
theorem dX10_burn_43 : decode cX10_burn 43 = .ok (.aload_n 0, 1) := by decide +kernel
theorem dX10_burn_44 : decode cX10_burn 44 = .ok (.getfield 7, 3) := by decide +kernel
theorem dX10_burn_47 : decode cX10_burn 47 = .ok (.bipush 59, 2) := by decide +kernel
theorem dX10_burn_49 : decode cX10_burn 49 = .ok (.dup2, 1) := by decide +kernel
theorem dX10_burn_50 : decode cX10_burn 50 = .ok (.iaload, 1) := by decide +kernel
theorem dX10_burn_51 : decode cX10_burn 51 = .ok (.iconst 1, 1) := by decide +kernel
theorem dX10_burn_52 : decode cX10_burn 52 = .ok (.isub, 1) := by decide +kernel
theorem dX10_burn_53 : decode cX10_burn 53 = .ok (.iastore, 1) := by decide +kernel
theorem dX10_burn_54 : decode cX10_burn 54 = .ok (.bipush 18, 2) := by decide +kernel
theorem dX10_burn_56 : decode cX10_burn 56 = .ok (.iload_n 1, 1) := by decide +kernel
theorem dX10_burn_57 : decode cX10_burn 57 = .ok (.imul, 1) := by decide +kernel
theorem dX10_burn_58 : decode cX10_burn 58 = .ok (.istore_n 3, 1) := by decide +kernel
theorem dX10_burn_59 : decode cX10_burn 59 = .ok (.iload_n 3, 1) := by decide +kernel
theorem dX10_burn_60 : decode cX10_burn 60 = .ok (.bipush 18, 2) := by decide +kernel
theorem dX10_burn_62 : decode cX10_burn 62 = .ok (.aload_n 0, 1) := by decide +kernel
theorem dX10_burn_63 : decode cX10_burn 63 = .ok (.getfield 7, 3) := by decide +kernel
theorem dX10_burn_66 : decode cX10_burn 66 = .ok (.bipush 59, 2) := by decide +kernel
theorem dX10_burn_68 : decode cX10_burn 68 = .ok (.iaload, 1) := by decide +kernel
theorem dX10_burn_69 : decode cX10_burn 69 = .ok (.imul, 1) := by decide +kernel
theorem dX10_burn_70 : decode cX10_burn 70 = .ok (.if_icmp .ge 30, 3) := by decide +kernel
theorem dX10_burn_73 : decode cX10_burn 73 = .ok (.aload_n 0, 1) := by decide +kernel
theorem dX10_burn_74 : decode cX10_burn 74 = .ok (.getfield 7, 3) := by decide +kernel
theorem dX10_burn_77 : decode cX10_burn 77 = .ok (.bipush 66, 2) := by decide +kernel
theorem dX10_burn_79 : decode cX10_burn 79 = .ok (.iload_n 3, 1) := by decide +kernel
theorem dX10_burn_80 : decode cX10_burn 80 = .ok (.iadd, 1) := by decide +kernel
theorem dX10_burn_81 : decode cX10_burn 81 = .ok (.aload_n 0, 1) := by decide +kernel
theorem dX10_burn_82 : decode cX10_burn 82 = .ok (.getfield 7, 3) := by decide +kernel
theorem dX10_burn_85 : decode cX10_burn 85 = .ok (.bipush 66, 2) := by decide +kernel
theorem dX10_burn_87 : decode cX10_burn 87 = .ok (.iload_n 3, 1) := by decide +kernel
theorem dX10_burn_88 : decode cX10_burn 88 = .ok (.iadd, 1) := by decide +kernel
theorem dX10_burn_89 : decode cX10_burn 89 = .ok (.bipush 18, 2) := by decide +kernel
theorem dX10_burn_91 : decode cX10_burn 91 = .ok (.iadd, 1) := by decide +kernel
theorem dX10_burn_92 : decode cX10_burn 92 = .ok (.iaload, 1) := by decide +kernel
theorem dX10_burn_93 : decode cX10_burn 93 = .ok (.iastore, 1) := by decide +kernel
theorem dX10_burn_94 : decode cX10_burn 94 = .ok (.iinc 3 1, 3) := by decide +kernel
theorem dX10_burn_97 : decode cX10_burn 97 = .ok (.goto (-38), 3) := by decide +kernel
theorem dX10_burn_100 : decode cX10_burn 100 = .ok (.aload_n 0, 1) := by decide +kernel
theorem dX10_burn_101 : decode cX10_burn 101 = .ok (.getfield 7, 3) := by decide +kernel
theorem dX10_burn_104 : decode cX10_burn 104 = .ok (.bipush 60, 2) := by decide +kernel
theorem dX10_burn_106 : decode cX10_burn 106 = .ok (.dup2, 1) := by decide +kernel
theorem dX10_burn_107 : decode cX10_burn 107 = .ok (.iaload, 1) := by decide +kernel
theorem dX10_burn_108 : decode cX10_burn 108 = .ok (.aload_n 0, 1) := by decide +kernel
theorem dX10_burn_109 : decode cX10_burn 109 = .ok (.getfield 7, 3) := by decide +kernel
theorem dX10_burn_112 : decode cX10_burn 112 = .ok (.bipush 60, 2) := by decide +kernel
theorem dX10_burn_114 : decode cX10_burn 114 = .ok (.iaload, 1) := by decide +kernel
theorem dX10_burn_115 : decode cX10_burn 115 = .ok (.iload_n 1, 1) := by decide +kernel
theorem dX10_burn_116 : decode cX10_burn 116 = .ok (.if_icmp .le 7, 3) := by decide +kernel
theorem dX10_burn_119 : decode cX10_burn 119 = .ok (.iconst 1, 1) := by decide +kernel
theorem dX10_burn_120 : decode cX10_burn 120 = .ok (.goto 4, 3) := by decide +kernel
theorem dX10_burn_123 : decode cX10_burn 123 = .ok (.iconst 0, 1) := by decide +kernel
theorem dX10_burn_124 : decode cX10_burn 124 = .ok (.isub, 1) := by decide +kernel
theorem dX10_burn_125 : decode cX10_burn 125 = .ok (.iastore, 1) := by decide +kernel
theorem dX10_burn_126 : decode cX10_burn 126 = .ok (.aload_n 0, 1) := by decide +kernel
theorem dX10_burn_127 : decode cX10_burn 127 = .ok (.getfield 7, 3) := by decide +kernel
theorem dX10_burn_130 : decode cX10_burn 130 = .ok (.bipush 65, 2) := by decide +kernel
theorem dX10_burn_132 : decode cX10_burn 132 = .ok (.dup2, 1) := by decide +kernel
theorem dX10_burn_133 : decode cX10_burn 133 = .ok (.iaload, 1) := by decide +kernel
theorem dX10_burn_134 : decode cX10_burn 134 = .ok (.iconst 1, 1) := by decide +kernel
theorem dX10_burn_135 : decode cX10_burn 135 = .ok (.iadd, 1) := by decide +kernel
theorem dX10_burn_136 : decode cX10_burn 136 = .ok (.iastore, 1) := by decide +kernel
theorem dX10_burn_137 : decode cX10_burn 137 = .ok (.aload_n 0, 1) := by decide +kernel
theorem dX10_burn_138 : decode cX10_burn 138 = .ok (.getfield 7, 3) := by decide +kernel
theorem dX10_burn_141 : decode cX10_burn 141 = .ok (.bipush 59, 2) := by decide +kernel
theorem dX10_burn_143 : decode cX10_burn 143 = .ok (.iaload, 1) := by decide +kernel
theorem dX10_burn_144 : decode cX10_burn 144 = .ok (.ireturn, 1) := by decide +kernel
theorem dX10_mount_0 : decode cX10_mount 0 = .ok (.aload_n 0, 1) := by decide +kernel
theorem dX10_mount_1 : decode cX10_mount 1 = .ok (.iload_n 1, 1) := by decide +kernel
theorem dX10_mount_2 : decode cX10_mount 2 = .ok (.invokevirtual 78, 3) := by decide +kernel
theorem dX10_mount_5 : decode cX10_mount 5 = .ok (.istore_n 2, 1) := by decide +kernel
theorem dX10_mount_6 : decode cX10_mount 6 = .ok (.aload_n 0, 1) := by decide +kernel
theorem dX10_mount_7 : decode cX10_mount 7 = .ok (.iload_n 2, 1) := by decide +kernel
theorem dX10_mount_8 : decode cX10_mount 8 = .ok (.ifCond .ne 7, 3) := by decide +kernel
theorem dX10_mount_11 : decode cX10_mount 11 = .ok (.iconst 1, 1) := by decide +kernel
theorem dX10_mount_12 : decode cX10_mount 12 = .ok (.goto 19, 3) := by decide +kernel
theorem dX10_mount_15 : decode cX10_mount 15 = .ok (.aload_n 0, 1) := by decide +kernel
theorem dX10_mount_16 : decode cX10_mount 16 = .ok (.getfield 7, 3) := by decide +kernel
theorem dX10_mount_19 : decode cX10_mount 19 = .ok (.bipush 60, 2) := by decide +kernel
theorem dX10_mount_21 : decode cX10_mount 21 = .ok (.iaload, 1) := by decide +kernel
theorem dX10_mount_22 : decode cX10_mount 22 = .ok (.iconst (-1), 1) := by decide +kernel
theorem dX10_mount_23 : decode cX10_mount 23 = .ok (.if_icmp .eq 7, 3) := by decide +kernel
theorem dX10_mount_26 : decode cX10_mount 26 = .ok (.iconst 2, 1) := by decide +kernel
theorem dX10_mount_27 : decode cX10_mount 27 = .ok (.goto 4, 3) := by decide +kernel
theorem dX10_mount_30 : decode cX10_mount 30 = .ok (.iconst 0, 1) := by decide +kernel
theorem dX10_mount_31 : decode cX10_mount 31 = .ok (.invokevirtual 72, 3) := by decide +kernel
theorem dX10_mount_34 : decode cX10_mount 34 = .ok (.ifCond .eq 11, 3) := by decide +kernel
theorem dX10_mount_37 : decode cX10_mount 37 = .ok (.aload_n 0, 1) := by decide +kernel
theorem dX10_mount_38 : decode cX10_mount 38 = .ok (.bipush 60, 2) := by decide +kernel
theorem dX10_mount_40 : decode cX10_mount 40 = .ok (.iload_n 1, 1) := by decide +kernel
theorem dX10_mount_41 : decode cX10_mount 41 = .ok (.invokevirtual 75, 3) := by decide +kernel
theorem dX10_mount_44 : decode cX10_mount 44 = .ok (.pop, 1) := by decide +kernel
theorem dX10_mount_45 : decode cX10_mount 45 = .ok (.return_, 1) := by decide +kernel
theorem dX10_takeOut_0 : decode cX10_takeOut 0 = .ok (.aload_n 0, 1) := by decide +kernel
theorem dX10_takeOut_1 : decode cX10_takeOut 1 = .ok (.aload_n 0, 1) := by decide +kernel
theorem dX10_takeOut_2 : decode cX10_takeOut 2 = .ok (.getfield 7, 3) := by decide +kernel
theorem dX10_takeOut_5 : decode cX10_takeOut 5 = .ok (.bipush 60, 2) := by decide +kernel
theorem dX10_takeOut_7 : decode cX10_takeOut 7 = .ok (.iaload, 1) := by decide +kernel
theorem dX10_takeOut_8 : decode cX10_takeOut 8 = .ok (.iconst (-1), 1) := by decide +kernel
theorem dX10_takeOut_9 : decode cX10_takeOut 9 = .ok (.if_icmp .eq 7, 3) := by decide +kernel
theorem dX10_takeOut_12 : decode cX10_takeOut 12 = .ok (.iconst 0, 1) := by decide +kernel
theorem dX10_takeOut_13 : decode cX10_takeOut 13 = .ok (.goto 4, 3) := by decide +kernel
theorem dX10_takeOut_16 : decode cX10_takeOut 16 = .ok (.iconst 1, 1) := by decide +kernel
theorem dX10_takeOut_17 : decode cX10_takeOut 17 = .ok (.invokevirtual 72, 3) := by decide +kernel
theorem dX10_takeOut_20 : decode cX10_takeOut 20 = .ok (.ifCond .eq 13, 3) := by decide +kernel
theorem dX10_takeOut_23 : decode cX10_takeOut 23 = .ok (.aload_n 0, 1) := by decide +kernel
theorem dX10_takeOut_24 : decode cX10_takeOut 24 = .ok (.bipush 60, 2) := by decide +kernel
theorem dX10_takeOut_26 : decode cX10_takeOut 26 = .ok (.iconst (-1), 1) := by decide +kernel
theorem dX10_takeOut_27 : decode cX10_takeOut 27 = .ok (.invokevirtual 75, 3) := by decide +kernel
theorem dX10_takeOut_30 : decode cX10_takeOut 30 = .ok (.goto 4, 3) := by decide +kernel
theorem dX10_takeOut_33 : decode cX10_takeOut 33 = .ok (.iconst 0, 1) := by decide +kernel
theorem dX10_takeOut_34 : decode cX10_takeOut 34 = .ok (.ireturn, 1) := by decide +kernel
theorem dX10_pass_0 : decode cX10_pass 0 = .ok (.aload_n 0, 1) := by decide +kernel
theorem dX10_pass_1 : decode cX10_pass 1 = .ok (.aload_n 0, 1) := by decide +kernel
theorem dX10_pass_2 : decode cX10_pass 2 = .ok (.invokevirtual 81, 3) := by decide +kernel
theorem dX10_pass_5 : decode cX10_pass 5 = .ok (.ifCond .eq 7, 3) := by decide +kernel
theorem dX10_pass_8 : decode cX10_pass 8 = .ok (.iconst 0, 1) := by decide +kernel
theorem dX10_pass_9 : decode cX10_pass 9 = .ok (.goto 4, 3) := by decide +kernel
theorem dX10_pass_12 : decode cX10_pass 12 = .ok (.iconst 1, 1) := by decide +kernel
theorem dX10_pass_13 : decode cX10_pass 13 = .ok (.invokevirtual 72, 3) := by decide +kernel
theorem dX10_pass_16 : decode cX10_pass 16 = .ok (.ifCond .ne 5, 3) := by decide +kernel
theorem dX10_pass_19 : decode cX10_pass 19 = .ok (.iconst 0, 1) := by decide +kernel
theorem dX10_pass_20 : decode cX10_pass 20 = .ok (.ireturn, 1) := by decide +kernel
theorem dX10_pass_21 : decode cX10_pass 21 = .ok (.aload_n 0, 1) := by decide +kernel
theorem dX10_pass_22 : decode cX10_pass 22 = .ok (.invokevirtual 66, 3) := by decide +kernel
theorem dX10_pass_25 : decode cX10_pass 25 = .ok (.aload_n 0, 1) := by decide +kernel
theorem dX10_pass_26 : decode cX10_pass 26 = .ok (.iconst 0, 1) := by decide +kernel
theorem dX10_pass_27 : decode cX10_pass 27 = .ok (.invokevirtual 85, 3) := by decide +kernel
theorem dX10_pass_30 : decode cX10_pass 30 = .ok (.ireturn, 1) := by decide +kernel
theorem dX10_passUpTo_0 : decode cX10_passUpTo 0 = .ok (.aload_n 0, 1) := by decide +kernel
theorem dX10_passUpTo_1 : decode cX10_passUpTo 1 = .ok (.iload_n 1, 1) := by decide +kernel
theorem dX10_passUpTo_2 : decode cX10_passUpTo 2 = .ok (.iconst 1, 1) := by decide +kernel
theorem dX10_passUpTo_3 : decode cX10_passUpTo 3 = .ok (.bipush 30, 2) := by decide +kernel
theorem dX10_passUpTo_5 : decode cX10_passUpTo 5 = .ok (.invokestatic 20, 3) := by decide +kernel
theorem dX10_passUpTo_8 : decode cX10_passUpTo 8 = .ok (.ifCond .ne 7, 3) := by decide +kernel
theorem dX10_passUpTo_11 : decode cX10_passUpTo 11 = .ok (.iconst 1, 1) := by decide +kernel
theorem dX10_passUpTo_12 : decode cX10_passUpTo 12 = .ok (.goto 15, 3) := by decide +kernel
theorem dX10_passUpTo_15 : decode cX10_passUpTo 15 = .ok (.aload_n 0, 1) := by decide +kernel
theorem dX10_passUpTo_16 : decode cX10_passUpTo 16 = .ok (.invokevirtual 81, 3) := by decide +kernel
theorem dX10_passUpTo_19 : decode cX10_passUpTo 19 = .ok (.ifCond .ne 7, 3) := by decide +kernel
theorem dX10_passUpTo_22 : decode cX10_passUpTo 22 = .ok (.iconst 2, 1) := by decide +kernel
theorem dX10_passUpTo_23 : decode cX10_passUpTo 23 = .ok (.goto 4, 3) := by decide +kernel
theorem dX10_passUpTo_26 : decode cX10_passUpTo 26 = .ok (.iconst 0, 1) := by decide +kernel
theorem dX10_passUpTo_27 : decode cX10_passUpTo 27 = .ok (.invokevirtual 72, 3) := by decide +kernel
theorem dX10_passUpTo_30 : decode cX10_passUpTo 30 = .ok (.ifCond .ne 5, 3) := by decide +kernel
theorem dX10_passUpTo_33 : decode cX10_passUpTo 33 = .ok (.iconst 0, 1) := by decide +kernel
theorem dX10_passUpTo_34 : decode cX10_passUpTo 34 = .ok (.ireturn, 1) := by decide +kernel
theorem dX10_passUpTo_35 : decode cX10_passUpTo 35 = .ok (.aload_n 0, 1) := by decide +kernel
theorem dX10_passUpTo_36 : decode cX10_passUpTo 36 = .ok (.invokevirtual 66, 3) := by decide +kernel
theorem dX10_passUpTo_39 : decode cX10_passUpTo 39 = .ok (.iconst 0, 1) := by decide +kernel
theorem dX10_passUpTo_40 : decode cX10_passUpTo 40 = .ok (.istore_n 2, 1) := by decide +kernel
theorem dX10_passUpTo_41 : decode cX10_passUpTo 41 = .ok (.iload_n 2, 1) := by decide +kernel
theorem dX10_passUpTo_42 : decode cX10_passUpTo 42 = .ok (.iload_n 1, 1) := by decide +kernel
theorem dX10_passUpTo_43 : decode cX10_passUpTo 43 = .ok (.if_icmp .ge 37, 3) := by decide +kernel
theorem dX10_passUpTo_46 : decode cX10_passUpTo 46 = .ok (.aload_n 0, 1) := by decide +kernel
theorem dX10_passUpTo_47 : decode cX10_passUpTo 47 = .ok (.invokevirtual 81, 3) := by decide +kernel
theorem dX10_passUpTo_50 : decode cX10_passUpTo 50 = .ok (.ifCond .eq 30, 3) := by decide +kernel
theorem dX10_passUpTo_53 : decode cX10_passUpTo 53 = .ok (.aload_n 0, 1) := by decide +kernel
theorem dX10_passUpTo_54 : decode cX10_passUpTo 54 = .ok (.iconst 0, 1) := by decide +kernel
theorem dX10_passUpTo_55 : decode cX10_passUpTo 55 = .ok (.aload_n 0, 1) := by decide +kernel
theorem dX10_passUpTo_56 : decode cX10_passUpTo 56 = .ok (.getfield 7, 3) := by decide +kernel
theorem dX10_passUpTo_59 : decode cX10_passUpTo 59 = .ok (.bipush 60, 2) := by decide +kernel
theorem dX10_passUpTo_61 : decode cX10_passUpTo 61 = .ok (.iaload, 1) := by decide +kernel
theorem dX10_passUpTo_62 : decode cX10_passUpTo 62 = .ok (.invokevirtual 88, 3) := by decide +kernel
theorem dX10_passUpTo_65 : decode cX10_passUpTo 65 = .ok (.ifCond .le 15, 3) := by decide +kernel
theorem dX10_passUpTo_68 : decode cX10_passUpTo 68 = .ok (.aload_n 0, 1) := by decide +kernel
theorem dX10_passUpTo_69 : decode cX10_passUpTo 69 = .ok (.iconst 0, 1) := by decide +kernel
theorem dX10_passUpTo_70 : decode cX10_passUpTo 70 = .ok (.invokevirtual 85, 3) := by decide +kernel
theorem dX10_passUpTo_73 : decode cX10_passUpTo 73 = .ok (.pop, 1) := by decide +kernel
theorem dX10_passUpTo_74 : decode cX10_passUpTo 74 = .ok (.iinc 2 1, 3) := by decide +kernel
theorem dX10_passUpTo_77 : decode cX10_passUpTo 77 = .ok (.goto (-36), 3) := by decide +kernel
theorem dX10_passUpTo_80 : decode cX10_passUpTo 80 = .ok (.iload_n 2, 1) := by decide +kernel
theorem dX10_passUpTo_81 : decode cX10_passUpTo 81 = .ok (.ireturn, 1) := by decide +kernel
theorem dX10_sand_0 : decode cX10_sand 0 = .ok (.aload_n 0, 1) := by decide +kernel
theorem dX10_sand_1 : decode cX10_sand 1 = .ok (.iload_n 1, 1) := by decide +kernel
theorem dX10_sand_2 : decode cX10_sand 2 = .ok (.iconst 1, 1) := by decide +kernel
theorem dX10_sand_3 : decode cX10_sand 3 = .ok (.iconst 3, 1) := by decide +kernel
theorem dX10_sand_4 : decode cX10_sand 4 = .ok (.invokestatic 20, 3) := by decide +kernel
theorem dX10_sand_7 : decode cX10_sand 7 = .ok (.ifCond .ne 7, 3) := by decide +kernel
theorem dX10_sand_10 : decode cX10_sand 10 = .ok (.iconst 1, 1) := by decide +kernel
theorem dX10_sand_11 : decode cX10_sand 11 = .ok (.goto 19, 3) := by decide +kernel
theorem dX10_sand_14 : decode cX10_sand 14 = .ok (.aload_n 0, 1) := by decide +kernel
theorem dX10_sand_15 : decode cX10_sand 15 = .ok (.getfield 7, 3) := by decide +kernel
theorem dX10_sand_18 : decode cX10_sand 18 = .ok (.bipush 60, 2) := by decide +kernel
theorem dX10_sand_20 : decode cX10_sand 20 = .ok (.iaload, 1) := by decide +kernel
theorem dX10_sand_21 : decode cX10_sand 21 = .ok (.iconst (-1), 1) := by decide +kernel
theorem dX10_sand_22 : decode cX10_sand 22 = .ok (.if_icmp .ne 7, 3) := by decide +kernel
theorem dX10_sand_25 : decode cX10_sand 25 = .ok (.iconst 2, 1) := by decide +kernel
theorem dX10_sand_26 : decode cX10_sand 26 = .ok (.goto 4, 3) := by decide +kernel
theorem dX10_sand_29 : decode cX10_sand 29 = .ok (.iconst 0, 1) := by decide +kernel
theorem dX10_sand_30 : decode cX10_sand 30 = .ok (.invokevirtual 72, 3) := by decide +kernel
theorem dX10_sand_33 : decode cX10_sand 33 = .ok (.ifCond .ne 5, 3) := by decide +kernel
theorem dX10_sand_36 : decode cX10_sand 36 = .ok (.iconst 0, 1) := by decide +kernel
theorem dX10_sand_37 : decode cX10_sand 37 = .ok (.ireturn, 1) := by decide +kernel
theorem dX10_sand_38 : decode cX10_sand 38 = .ok (.aload_n 0, 1) := by decide +kernel
theorem dX10_sand_39 : decode cX10_sand 39 = .ok (.invokevirtual 66, 3) := by decide +kernel
theorem dX10_sand_42 : decode cX10_sand 42 = .ok (.aload_n 0, 1) := by decide +kernel
theorem dX10_sand_43 : decode cX10_sand 43 = .ok (.getfield 7, 3) := by decide +kernel
theorem dX10_sand_46 : decode cX10_sand 46 = .ok (.bipush 60, 2) := by decide +kernel
theorem dX10_sand_48 : decode cX10_sand 48 = .ok (.iaload, 1) := by decide +kernel
theorem dX10_sand_49 : decode cX10_sand 49 = .ok (.istore_n 2, 1) := by decide +kernel
theorem dX10_sand_50 : decode cX10_sand 50 = .ok (.iconst 0, 1) := by decide +kernel
theorem dX10_sand_51 : decode cX10_sand 51 = .ok (.istore_n 3, 1) := by decide +kernel
theorem dX10_sand_52 : decode cX10_sand 52 = .ok (.iconst 0, 1) := by decide +kernel
theorem dX10_sand_53 : decode cX10_sand 53 = .ok (.istore 4, 2) := by decide +kernel
theorem dX10_sand_55 : decode cX10_sand 55 = .ok (.iload 4, 2) := by decide +kernel
theorem dX10_sand_57 : decode cX10_sand 57 = .ok (.bipush 16, 2) := by decide +kernel
theorem dX10_sand_59 : decode cX10_sand 59 = .ok (.if_icmp .ge 63, 3) := by decide +kernel
theorem dX10_sand_62 : decode cX10_sand 62 = .ok (.aload_n 0, 1) := by decide +kernel
theorem dX10_sand_63 : decode cX10_sand 63 = .ok (.iconst 0, 1) := by decide +kernel
theorem dX10_sand_64 : decode cX10_sand 64 = .ok (.iload_n 2, 1) := by decide +kernel
theorem dX10_sand_65 : decode cX10_sand 65 = .ok (.iload 4, 2) := by decide +kernel
theorem dX10_sand_67 : decode cX10_sand 67 = .ok (.invokevirtual 42, 3) := by decide +kernel
theorem dX10_sand_70 : decode cX10_sand 70 = .ok (.iload_n 1, 1) := by decide +kernel
theorem dX10_sand_71 : decode cX10_sand 71 = .ok (.if_icmp .ge 14, 3) := by decide +kernel
theorem dX10_sand_74 : decode cX10_sand 74 = .ok (.aload_n 0, 1) := by decide +kernel
theorem dX10_sand_75 : decode cX10_sand 75 = .ok (.iconst 0, 1) := by decide +kernel
theorem dX10_sand_76 : decode cX10_sand 76 = .ok (.iload_n 2, 1) := by decide +kernel
theorem dX10_sand_77 : decode cX10_sand 77 = .ok (.iload 4, 2) := by decide +kernel
theorem dX10_sand_79 : decode cX10_sand 79 = .ok (.invokevirtual 42, 3) := by decide +kernel
theorem dX10_sand_82 : decode cX10_sand 82 = .ok (.goto 4, 3) := by decide +kernel
theorem dX10_sand_85 : decode cX10_sand 85 = .ok (.iload_n 1, 1) := by decide +kernel
theorem dX10_sand_86 : decode cX10_sand 86 = .ok (.istore 5, 2) := by decide +kernel
theorem dX10_sand_88 : decode cX10_sand 88 = .ok (.aload_n 0, 1) := by decide +kernel
theorem dX10_sand_89 : decode cX10_sand 89 = .ok (.iconst 0, 1) := by decide +kernel
theorem dX10_sand_90 : decode cX10_sand 90 = .ok (.iload_n 2, 1) := by decide +kernel
theorem dX10_sand_91 : decode cX10_sand 91 = .ok (.iconst 2, 1) := by decide +kernel
theorem dX10_sand_92 : decode cX10_sand 92 = .ok (.iload 4, 2) := by decide +kernel
theorem dX10_sand_94 : decode cX10_sand 94 = .ok (.iadd, 1) := by decide +kernel
theorem dX10_sand_95 : decode cX10_sand 95 = .ok (.aload_n 0, 1) := by decide +kernel
theorem dX10_sand_96 : decode cX10_sand 96 = .ok (.iconst 0, 1) := by decide +kernel
theorem dX10_sand_97 : decode cX10_sand 97 = .ok (.iload_n 2, 1) := by decide +kernel
theorem dX10_sand_98 : decode cX10_sand 98 = .ok (.iconst 2, 1) := by decide +kernel
theorem dX10_sand_99 : decode cX10_sand 99 = .ok (.iload 4, 2) := by decide +kernel
theorem dX10_sand_101 : decode cX10_sand 101 = .ok (.iadd, 1) := by decide +kernel
theorem dX10_sand_102 : decode cX10_sand 102 = .ok (.invokevirtual 35, 3) := by decide +kernel
theorem dX10_sand_105 : decode cX10_sand 105 = .ok (.iload 5, 2) := by decide +kernel
theorem dX10_sand_107 : decode cX10_sand 107 = .ok (.isub, 1) := by decide +kernel
theorem dX10_sand_108 : decode cX10_sand 108 = .ok (.invokevirtual 49, 3) := by decide +kernel
theorem dX10_sand_111 : decode cX10_sand 111 = .ok (.iload_n 3, 1) := by decide +kernel
theorem dX10_sand_112 : decode cX10_sand 112 = .ok (.iload 5, 2) := by decide +kernel
theorem dX10_sand_114 : decode cX10_sand 114 = .ok (.iadd, 1) := by decide +kernel
theorem dX10_sand_115 : decode cX10_sand 115 = .ok (.istore_n 3, 1) := by decide +kernel
theorem dX10_sand_116 : decode cX10_sand 116 = .ok (.iinc 4 1, 3) := by decide +kernel
theorem dX10_sand_119 : decode cX10_sand 119 = .ok (.goto (-64), 3) := by decide +kernel
theorem dX10_sand_122 : decode cX10_sand 122 = .ok (.aload_n 0, 1) := by decide +kernel
theorem dX10_sand_123 : decode cX10_sand 123 = .ok (.getfield 7, 3) := by decide +kernel
theorem dX10_sand_126 : decode cX10_sand 126 = .ok (.bipush 62, 2) := by decide +kernel
theorem dX10_sand_128 : decode cX10_sand 128 = .ok (.dup2, 1) := by decide +kernel
theorem dX10_sand_129 : decode cX10_sand 129 = .ok (.iaload, 1) := by decide +kernel
theorem dX10_sand_130 : decode cX10_sand 130 = .ok (.iload_n 3, 1) := by decide +kernel
theorem dX10_sand_131 : decode cX10_sand 131 = .ok (.iadd, 1) := by decide +kernel
theorem dX10_sand_132 : decode cX10_sand 132 = .ok (.iastore, 1) := by decide +kernel
theorem dX10_sand_133 : decode cX10_sand 133 = .ok (.iload_n 3, 1) := by decide +kernel
theorem dX10_sand_134 : decode cX10_sand 134 = .ok (.ireturn, 1) := by decide +kernel
theorem dX10_append_0 : decode cX10_append 0 = .ok (.aload_n 0, 1) := by decide +kernel
theorem dX10_append_1 : decode cX10_append 1 = .ok (.iload_n 1, 1) := by decide +kernel
theorem dX10_append_2 : decode cX10_append 2 = .ok (.bipush 33, 2) := by decide +kernel
theorem dX10_append_4 : decode cX10_append 4 = .ok (.bipush 126, 2) := by decide +kernel
theorem dX10_append_6 : decode cX10_append 6 = .ok (.invokestatic 20, 3) := by decide +kernel
theorem dX10_append_9 : decode cX10_append 9 = .ok (.ifCond .ne 7, 3) := by decide +kernel
theorem dX10_append_12 : decode cX10_append 12 = .ok (.iconst 1, 1) := by decide +kernel
theorem dX10_append_13 : decode cX10_append 13 = .ok (.goto 17, 3) := by decide +kernel
theorem dX10_append_16 : decode cX10_append 16 = .ok (.aload_n 0, 1) := by decide +kernel
theorem dX10_append_17 : decode cX10_append 17 = .ok (.getfield 91, 3) := by decide +kernel
theorem dX10_append_20 : decode cX10_append 20 = .ok (.bipush 60, 2) := by decide +kernel
theorem dX10_append_22 : decode cX10_append 22 = .ok (.if_icmp .ne 7, 3) := by decide +kernel
theorem dX10_append_25 : decode cX10_append 25 = .ok (.iconst 2, 1) := by decide +kernel
theorem dX10_append_26 : decode cX10_append 26 = .ok (.goto 4, 3) := by decide +kernel
theorem dX10_append_29 : decode cX10_append 29 = .ok (.iconst 0, 1) := by decide +kernel
theorem dX10_append_30 : decode cX10_append 30 = .ok (.invokevirtual 72, 3) := by decide +kernel
theorem dX10_append_33 : decode cX10_append 33 = .ok (.ifCond .ne 5, 3) := by decide +kernel
theorem dX10_append_36 : decode cX10_append 36 = .ok (.iconst 0, 1) := by decide +kernel
theorem dX10_append_37 : decode cX10_append 37 = .ok (.ireturn, 1) := by decide +kernel
theorem dX10_append_38 : decode cX10_append 38 = .ok (.aload_n 0, 1) := by decide +kernel
theorem dX10_append_39 : decode cX10_append 39 = .ok (.getfield 13, 3) := by decide +kernel
theorem dX10_append_42 : decode cX10_append 42 = .ok (.aload_n 0, 1) := by decide +kernel
theorem dX10_append_43 : decode cX10_append 43 = .ok (.getfield 91, 3) := by decide +kernel
theorem dX10_append_46 : decode cX10_append 46 = .ok (.iload_n 1, 1) := by decide +kernel
theorem dX10_append_47 : decode cX10_append 47 = .ok (.iastore, 1) := by decide +kernel
theorem dX10_append_48 : decode cX10_append 48 = .ok (.aload_n 0, 1) := by decide +kernel
theorem dX10_append_49 : decode cX10_append 49 = .ok (.dup, 1) := by decide +kernel
theorem dX10_append_50 : decode cX10_append 50 = .ok (.getfield 91, 3) := by decide +kernel
theorem dX10_append_53 : decode cX10_append 53 = .ok (.iconst 1, 1) := by decide +kernel
theorem dX10_append_54 : decode cX10_append 54 = .ok (.iadd, 1) := by decide +kernel
theorem dX10_append_55 : decode cX10_append 55 = .ok (.putfield 91, 3) := by decide +kernel
theorem dX10_append_58 : decode cX10_append 58 = .ok (.aload_n 0, 1) := by decide +kernel
theorem dX10_append_59 : decode cX10_append 59 = .ok (.getfield 91, 3) := by decide +kernel
theorem dX10_append_62 : decode cX10_append 62 = .ok (.ireturn, 1) := by decide +kernel
theorem dX10_clearBuffer_0 : decode cX10_clearBuffer 0 = .ok (.aload_n 0, 1) := by decide +kernel
theorem dX10_clearBuffer_1 : decode cX10_clearBuffer 1 = .ok (.iconst 0, 1) := by decide +kernel
theorem dX10_clearBuffer_2 : decode cX10_clearBuffer 2 = .ok (.putfield 16, 3) := by decide +kernel
theorem dX10_clearBuffer_5 : decode cX10_clearBuffer 5 = .ok (.aload_n 0, 1) := by decide +kernel
theorem dX10_clearBuffer_6 : decode cX10_clearBuffer 6 = .ok (.getfield 91, 3) := by decide +kernel
theorem dX10_clearBuffer_9 : decode cX10_clearBuffer 9 = .ok (.istore_n 1, 1) := by decide +kernel
theorem dX10_clearBuffer_10 : decode cX10_clearBuffer 10 = .ok (.aload_n 0, 1) := by decide +kernel
theorem dX10_clearBuffer_11 : decode cX10_clearBuffer 11 = .ok (.iconst 0, 1) := by decide +kernel
theorem dX10_clearBuffer_12 : decode cX10_clearBuffer 12 = .ok (.putfield 91, 3) := by decide +kernel
theorem dX10_clearBuffer_15 : decode cX10_clearBuffer 15 = .ok (.iload_n 1, 1) := by decide +kernel
theorem dX10_clearBuffer_16 : decode cX10_clearBuffer 16 = .ok (.ireturn, 1) := by decide +kernel
theorem dX10_sign_0 : decode cX10_sign 0 = .ok (.aload_n 0, 1) := by decide +kernel
theorem dX10_sign_1 : decode cX10_sign 1 = .ok (.getfield 94, 3) := by decide +kernel
theorem dX10_sign_4 : decode cX10_sign 4 = .ok (.aload_n 0, 1) := by decide +kernel
theorem dX10_sign_5 : decode cX10_sign 5 = .ok (.getfield 91, 3) := by decide +kernel
theorem dX10_sign_8 : decode cX10_sign 8 = .ok (.if_icmp .ge 15, 3) := by decide +kernel
theorem dX10_sign_11 : decode cX10_sign 11 = .ok (.aload_n 0, 1) := by decide +kernel
theorem dX10_sign_12 : decode cX10_sign 12 = .ok (.getfield 13, 3) := by decide +kernel
theorem dX10_sign_15 : decode cX10_sign 15 = .ok (.aload_n 0, 1) := by decide +kernel
theorem dX10_sign_16 : decode cX10_sign 16 = .ok (.getfield 94, 3) := by decide +kernel
theorem dX10_sign_19 : decode cX10_sign 19 = .ok (.iaload, 1) := by decide +kernel
theorem dX10_sign_20 : decode cX10_sign 20 = .ok (.goto 4, 3) := by decide +kernel
theorem dX10_sign_23 : decode cX10_sign 23 = .ok (.iconst 0, 1) := by decide +kernel
theorem dX10_sign_24 : decode cX10_sign 24 = .ok (.ireturn, 1) := by decide +kernel
theorem dX10_takes_0 : decode cX10_takes 0 = .ok (.aload_n 0, 1) := by decide +kernel
theorem dX10_takes_1 : decode cX10_takes 1 = .ok (.invokevirtual 97, 3) := by decide +kernel
theorem dX10_takes_4 : decode cX10_takes 4 = .ok (.iload_n 1, 1) := by decide +kernel
theorem dX10_takes_5 : decode cX10_takes 5 = .ok (.if_icmp .ne 7, 3) := by decide +kernel
theorem dX10_takes_8 : decode cX10_takes 8 = .ok (.iconst 1, 1) := by decide +kernel
theorem dX10_takes_9 : decode cX10_takes 9 = .ok (.goto 4, 3) := by decide +kernel
theorem dX10_takes_12 : decode cX10_takes 12 = .ok (.iconst 0, 1) := by decide +kernel
theorem dX10_takes_13 : decode cX10_takes 13 = .ok (.istore_n 2, 1) := by decide +kernel
theorem dX10_takes_14 : decode cX10_takes 14 = .ok (.aload_n 0, 1) := by decide +kernel
theorem dX10_takes_15 : decode cX10_takes 15 = .ok (.dup, 1) := by decide +kernel
theorem dX10_takes_16 : decode cX10_takes 16 = .ok (.getfield 94, 3) := by decide +kernel
theorem dX10_takes_19 : decode cX10_takes 19 = .ok (.iload_n 2, 1) := by decide +kernel
theorem dX10_takes_20 : decode cX10_takes 20 = .ok (.ifCond .eq 7, 3) := by decide +kernel
theorem dX10_takes_23 : decode cX10_takes 23 = .ok (.iconst 1, 1) := by decide +kernel
theorem dX10_takes_24 : decode cX10_takes 24 = .ok (.goto 4, 3) := by decide +kernel
theorem dX10_takes_27 : decode cX10_takes 27 = .ok (.iconst 0, 1) := by decide +kernel
theorem dX10_takes_28 : decode cX10_takes 28 = .ok (.iadd, 1) := by decide +kernel
theorem dX10_takes_29 : decode cX10_takes 29 = .ok (.putfield 94, 3) := by decide +kernel
theorem dX10_takes_32 : decode cX10_takes 32 = .ok (.iload_n 2, 1) := by decide +kernel
theorem dX10_takes_33 : decode cX10_takes 33 = .ok (.ireturn, 1) := by decide +kernel
theorem dX10_figure_0 : decode cX10_figure 0 = .ok (.aload_n 0, 1) := by decide +kernel
theorem dX10_figure_1 : decode cX10_figure 1 = .ok (.invokevirtual 97, 3) := by decide +kernel
theorem dX10_figure_4 : decode cX10_figure 4 = .ok (.bipush 48, 2) := by decide +kernel
theorem dX10_figure_6 : decode cX10_figure 6 = .ok (.iload_n 1, 1) := by decide +kernel
theorem dX10_figure_7 : decode cX10_figure 7 = .ok (.iadd, 1) := by decide +kernel
theorem dX10_figure_8 : decode cX10_figure 8 = .ok (.bipush 48, 2) := by decide +kernel
theorem dX10_figure_10 : decode cX10_figure 10 = .ok (.iload_n 2, 1) := by decide +kernel
theorem dX10_figure_11 : decode cX10_figure 11 = .ok (.iadd, 1) := by decide +kernel
theorem dX10_figure_12 : decode cX10_figure 12 = .ok (.invokestatic 20, 3) := by decide +kernel
theorem dX10_figure_15 : decode cX10_figure 15 = .ok (.ifCond .eq 13, 3) := by decide +kernel
theorem dX10_figure_18 : decode cX10_figure 18 = .ok (.aload_n 0, 1) := by decide +kernel
theorem dX10_figure_19 : decode cX10_figure 19 = .ok (.invokevirtual 97, 3) := by decide +kernel
theorem dX10_figure_22 : decode cX10_figure 22 = .ok (.bipush 48, 2) := by decide +kernel
theorem dX10_figure_24 : decode cX10_figure 24 = .ok (.isub, 1) := by decide +kernel
theorem dX10_figure_25 : decode cX10_figure 25 = .ok (.goto 4, 3) := by decide +kernel
theorem dX10_figure_28 : decode cX10_figure 28 = .ok (.iconst (-1), 1) := by decide +kernel
theorem dX10_figure_29 : decode cX10_figure 29 = .ok (.istore_n 3, 1) := by decide +kernel
theorem dX10_figure_30 : decode cX10_figure 30 = .ok (.aload_n 0, 1) := by decide +kernel
theorem dX10_figure_31 : decode cX10_figure 31 = .ok (.dup, 1) := by decide +kernel
theorem dX10_figure_32 : decode cX10_figure 32 = .ok (.getfield 94, 3) := by decide +kernel
theorem dX10_figure_35 : decode cX10_figure 35 = .ok (.iload_n 3, 1) := by decide +kernel
theorem dX10_figure_36 : decode cX10_figure 36 = .ok (.iconst (-1), 1) := by decide +kernel
theorem dX10_figure_37 : decode cX10_figure 37 = .ok (.if_icmp .ne 7, 3) := by decide +kernel
theorem dX10_figure_40 : decode cX10_figure 40 = .ok (.iconst 0, 1) := by decide +kernel
theorem dX10_figure_41 : decode cX10_figure 41 = .ok (.goto 4, 3) := by decide +kernel
theorem dX10_figure_44 : decode cX10_figure 44 = .ok (.iconst 1, 1) := by decide +kernel
theorem dX10_figure_45 : decode cX10_figure 45 = .ok (.iadd, 1) := by decide +kernel
theorem dX10_figure_46 : decode cX10_figure 46 = .ok (.putfield 94, 3) := by decide +kernel
theorem dX10_figure_49 : decode cX10_figure 49 = .ok (.iload_n 3, 1) := by decide +kernel
theorem dX10_figure_50 : decode cX10_figure 50 = .ok (.ireturn, 1) := by decide +kernel
theorem dX10_readsDiameter_0 : decode cX10_readsDiameter 0 = .ok (.aload_n 0, 1) := by decide +kernel
theorem dX10_readsDiameter_1 : decode cX10_readsDiameter 1 = .ok (.iconst 1, 1) := by decide +kernel
theorem dX10_readsDiameter_2 : decode cX10_readsDiameter 2 = .ok (.bipush 9, 2) := by decide +kernel
theorem dX10_readsDiameter_4 : decode cX10_readsDiameter 4 = .ok (.invokevirtual 101, 3) := by decide +kernel
theorem dX10_readsDiameter_7 : decode cX10_readsDiameter 7 = .ok (.istore_n 1, 1) := by decide +kernel
theorem dX10_readsDiameter_8 : decode cX10_readsDiameter 8 = .ok (.iload_n 1, 1) := by decide +kernel
theorem dX10_readsDiameter_9 : decode cX10_readsDiameter 9 = .ok (.iconst (-1), 1) := by decide +kernel
theorem dX10_readsDiameter_10 : decode cX10_readsDiameter 10 = .ok (.if_icmp .ne 7, 3) := by decide +kernel
theorem dX10_readsDiameter_13 : decode cX10_readsDiameter 13 = .ok (.iconst (-1), 1) := by decide +kernel
theorem dX10_readsDiameter_14 : decode cX10_readsDiameter 14 = .ok (.goto 10, 3) := by decide +kernel
theorem dX10_readsDiameter_17 : decode cX10_readsDiameter 17 = .ok (.aload_n 0, 1) := by decide +kernel
theorem dX10_readsDiameter_18 : decode cX10_readsDiameter 18 = .ok (.iconst 0, 1) := by decide +kernel
theorem dX10_readsDiameter_19 : decode cX10_readsDiameter 19 = .ok (.bipush 9, 2) := by decide +kernel
theorem dX10_readsDiameter_21 : decode cX10_readsDiameter 21 = .ok (.invokevirtual 101, 3) := by decide +kernel
theorem dX10_readsDiameter_24 : decode cX10_readsDiameter 24 = .ok (.istore_n 2, 1) := by decide +kernel
theorem dX10_readsDiameter_25 : decode cX10_readsDiameter 25 = .ok (.aload_n 0, 1) := by decide +kernel
theorem dX10_readsDiameter_26 : decode cX10_readsDiameter 26 = .ok (.iload_n 2, 1) := by decide +kernel
theorem dX10_readsDiameter_27 : decode cX10_readsDiameter 27 = .ok (.iconst (-1), 1) := by decide +kernel
theorem dX10_readsDiameter_28 : decode cX10_readsDiameter 28 = .ok (.if_icmp .ne 7, 3) := by decide +kernel
theorem dX10_readsDiameter_31 : decode cX10_readsDiameter 31 = .ok (.iload_n 1, 1) := by decide +kernel
theorem dX10_readsDiameter_32 : decode cX10_readsDiameter 32 = .ok (.goto 9, 3) := by decide +kernel
theorem dX10_readsDiameter_35 : decode cX10_readsDiameter 35 = .ok (.bipush 10, 2) := by decide +kernel
theorem dX10_readsDiameter_37 : decode cX10_readsDiameter 37 = .ok (.iload_n 1, 1) := by decide +kernel
theorem dX10_readsDiameter_38 : decode cX10_readsDiameter 38 = .ok (.imul, 1) := by decide +kernel
theorem dX10_readsDiameter_39 : decode cX10_readsDiameter 39 = .ok (.iload_n 2, 1) := by decide +kernel
theorem dX10_readsDiameter_40 : decode cX10_readsDiameter 40 = .ok (.iadd, 1) := by decide +kernel
theorem dX10_readsDiameter_41 : decode cX10_readsDiameter 41 = .ok (.putfield 104, 3) := by decide +kernel
theorem dX10_readsDiameter_44 : decode cX10_readsDiameter 44 = .ok (.aload_n 0, 1) := by decide +kernel
theorem dX10_readsDiameter_45 : decode cX10_readsDiameter 45 = .ok (.getfield 104, 3) := by decide +kernel
theorem dX10_readsDiameter_48 : decode cX10_readsDiameter 48 = .ok (.iconst 5, 1) := by decide +kernel
theorem dX10_readsDiameter_49 : decode cX10_readsDiameter 49 = .ok (.if_icmp .lt 7, 3) := by decide +kernel
theorem dX10_readsDiameter_52 : decode cX10_readsDiameter 52 = .ok (.iconst 1, 1) := by decide +kernel
theorem dX10_readsDiameter_53 : decode cX10_readsDiameter 53 = .ok (.goto 4, 3) := by decide +kernel
theorem dX10_readsDiameter_56 : decode cX10_readsDiameter 56 = .ok (.iconst 0, 1) := by decide +kernel
theorem dX10_readsDiameter_57 : decode cX10_readsDiameter 57 = .ok (.ireturn, 1) := by decide +kernel
theorem dX10_readsSteps_0 : decode cX10_readsSteps 0 = .ok (.aload_n 0, 1) := by decide +kernel
theorem dX10_readsSteps_1 : decode cX10_readsSteps 1 = .ok (.iconst 1, 1) := by decide +kernel
theorem dX10_readsSteps_2 : decode cX10_readsSteps 2 = .ok (.putfield 107, 3) := by decide +kernel
theorem dX10_readsSteps_5 : decode cX10_readsSteps 5 = .ok (.aload_n 0, 1) := by decide +kernel
theorem dX10_readsSteps_6 : decode cX10_readsSteps 6 = .ok (.bipush 120, 2) := by decide +kernel
theorem dX10_readsSteps_8 : decode cX10_readsSteps 8 = .ok (.invokevirtual 110, 3) := by decide +kernel
theorem dX10_readsSteps_11 : decode cX10_readsSteps 11 = .ok (.ifCond .ne 5, 3) := by decide +kernel
theorem dX10_readsSteps_14 : decode cX10_readsSteps 14 = .ok (.iconst 1, 1) := by decide +kernel
theorem dX10_readsSteps_15 : decode cX10_readsSteps 15 = .ok (.ireturn, 1) := by decide +kernel
theorem dX10_readsSteps_16 : decode cX10_readsSteps 16 = .ok (.aload_n 0, 1) := by decide +kernel
theorem dX10_readsSteps_17 : decode cX10_readsSteps 17 = .ok (.aload_n 0, 1) := by decide +kernel
theorem dX10_readsSteps_18 : decode cX10_readsSteps 18 = .ok (.iconst 1, 1) := by decide +kernel
theorem dX10_readsSteps_19 : decode cX10_readsSteps 19 = .ok (.iload_n 1, 1) := by decide +kernel
theorem dX10_readsSteps_20 : decode cX10_readsSteps 20 = .ok (.bipush 9, 2) := by decide +kernel
theorem dX10_readsSteps_22 : decode cX10_readsSteps 22 = .ok (.if_icmp .ge 7, 3) := by decide +kernel
theorem dX10_readsSteps_25 : decode cX10_readsSteps 25 = .ok (.iload_n 1, 1) := by decide +kernel
theorem dX10_readsSteps_26 : decode cX10_readsSteps 26 = .ok (.goto 5, 3) := by decide +kernel
theorem dX10_readsSteps_29 : decode cX10_readsSteps 29 = .ok (.bipush 9, 2) := by decide +kernel
theorem dX10_readsSteps_31 : decode cX10_readsSteps 31 = .ok (.invokevirtual 101, 3) := by decide +kernel
theorem dX10_readsSteps_34 : decode cX10_readsSteps 34 = .ok (.putfield 107, 3) := by decide +kernel
theorem dX10_readsSteps_37 : decode cX10_readsSteps 37 = .ok (.aload_n 0, 1) := by decide +kernel
theorem dX10_readsSteps_38 : decode cX10_readsSteps 38 = .ok (.getfield 107, 3) := by decide +kernel
theorem dX10_readsSteps_41 : decode cX10_readsSteps 41 = .ok (.iconst 1, 1) := by decide +kernel
theorem dX10_readsSteps_42 : decode cX10_readsSteps 42 = .ok (.if_icmp .ne 21, 3) := by decide +kernel
theorem dX10_readsSteps_45 : decode cX10_readsSteps 45 = .ok (.iload_n 1, 1) := by decide +kernel
theorem dX10_readsSteps_46 : decode cX10_readsSteps 46 = .ok (.bipush 9, 2) := by decide +kernel
theorem dX10_readsSteps_48 : decode cX10_readsSteps 48 = .ok (.if_icmp .le 15, 3) := by decide +kernel
theorem dX10_readsSteps_51 : decode cX10_readsSteps 51 = .ok (.aload_n 0, 1) := by decide +kernel
theorem dX10_readsSteps_52 : decode cX10_readsSteps 52 = .ok (.iconst 0, 1) := by decide +kernel
theorem dX10_readsSteps_53 : decode cX10_readsSteps 53 = .ok (.iload_n 1, 1) := by decide +kernel
theorem dX10_readsSteps_54 : decode cX10_readsSteps 54 = .ok (.bipush 10, 2) := by decide +kernel
theorem dX10_readsSteps_56 : decode cX10_readsSteps 56 = .ok (.isub, 1) := by decide +kernel
theorem dX10_readsSteps_57 : decode cX10_readsSteps 57 = .ok (.invokevirtual 101, 3) := by decide +kernel
theorem dX10_readsSteps_60 : decode cX10_readsSteps 60 = .ok (.goto 4, 3) := by decide +kernel
theorem dX10_readsSteps_63 : decode cX10_readsSteps 63 = .ok (.iconst (-1), 1) := by decide +kernel
theorem dX10_readsSteps_64 : decode cX10_readsSteps 64 = .ok (.istore_n 2, 1) := by decide +kernel
theorem dX10_readsSteps_65 : decode cX10_readsSteps 65 = .ok (.aload_n 0, 1) := by decide +kernel
theorem dX10_readsSteps_66 : decode cX10_readsSteps 66 = .ok (.iload_n 2, 1) := by decide +kernel
theorem dX10_readsSteps_67 : decode cX10_readsSteps 67 = .ok (.iconst (-1), 1) := by decide +kernel
theorem dX10_readsSteps_68 : decode cX10_readsSteps 68 = .ok (.if_icmp .ne 10, 3) := by decide +kernel
theorem dX10_readsSteps_71 : decode cX10_readsSteps 71 = .ok (.aload_n 0, 1) := by decide +kernel
theorem dX10_readsSteps_72 : decode cX10_readsSteps 72 = .ok (.getfield 107, 3) := by decide +kernel
theorem dX10_readsSteps_75 : decode cX10_readsSteps 75 = .ok (.goto 7, 3) := by decide +kernel
theorem dX10_readsSteps_78 : decode cX10_readsSteps 78 = .ok (.bipush 10, 2) := by decide +kernel
theorem dX10_readsSteps_80 : decode cX10_readsSteps 80 = .ok (.iload_n 2, 1) := by decide +kernel
theorem dX10_readsSteps_81 : decode cX10_readsSteps 81 = .ok (.iadd, 1) := by decide +kernel
theorem dX10_readsSteps_82 : decode cX10_readsSteps 82 = .ok (.putfield 107, 3) := by decide +kernel
theorem dX10_readsSteps_85 : decode cX10_readsSteps 85 = .ok (.aload_n 0, 1) := by decide +kernel
theorem dX10_readsSteps_86 : decode cX10_readsSteps 86 = .ok (.getfield 107, 3) := by decide +kernel
theorem dX10_readsSteps_89 : decode cX10_readsSteps 89 = .ok (.iconst (-1), 1) := by decide +kernel
theorem dX10_readsSteps_90 : decode cX10_readsSteps 90 = .ok (.if_icmp .eq 7, 3) := by decide +kernel
theorem dX10_readsSteps_93 : decode cX10_readsSteps 93 = .ok (.iconst 1, 1) := by decide +kernel
theorem dX10_readsSteps_94 : decode cX10_readsSteps 94 = .ok (.goto 4, 3) := by decide +kernel
theorem dX10_readsSteps_97 : decode cX10_readsSteps 97 = .ok (.iconst 0, 1) := by decide +kernel
theorem dX10_readsSteps_98 : decode cX10_readsSteps 98 = .ok (.ireturn, 1) := by decide +kernel
theorem dX10_isText_0 : decode cX10_isText 0 = .ok (.aload_n 0, 1) := by decide +kernel
theorem dX10_isText_1 : decode cX10_isText 1 = .ok (.iconst 0, 1) := by decide +kernel
theorem dX10_isText_2 : decode cX10_isText 2 = .ok (.putfield 94, 3) := by decide +kernel
theorem dX10_isText_5 : decode cX10_isText 5 = .ok (.aload_n 0, 1) := by decide +kernel
theorem dX10_isText_6 : decode cX10_isText 6 = .ok (.iconst 0, 1) := by decide +kernel
theorem dX10_isText_7 : decode cX10_isText 7 = .ok (.putfield 113, 3) := by decide +kernel
theorem dX10_isText_10 : decode cX10_isText 10 = .ok (.iconst 1, 1) := by decide +kernel
theorem dX10_isText_11 : decode cX10_isText 11 = .ok (.istore_n 1, 1) := by decide +kernel
theorem dX10_isText_12 : decode cX10_isText 12 = .ok (.iload_n 1, 1) := by decide +kernel
theorem dX10_isText_13 : decode cX10_isText 13 = .ok (.ifCond .eq 99, 3) := by decide +kernel
theorem dX10_isText_16 : decode cX10_isText 16 = .ok (.aload_n 0, 1) := by decide +kernel
theorem dX10_isText_17 : decode cX10_isText 17 = .ok (.invokevirtual 116, 3) := by decide +kernel
theorem dX10_isText_20 : decode cX10_isText 20 = .ok (.ifCond .eq 92, 3) := by decide +kernel
theorem dX10_isText_23 : decode cX10_isText 23 = .ok (.aload_n 0, 1) := by decide +kernel
theorem dX10_isText_24 : decode cX10_isText 24 = .ok (.bipush 16, 2) := by decide +kernel
theorem dX10_isText_26 : decode cX10_isText 26 = .ok (.aload_n 0, 1) := by decide +kernel
theorem dX10_isText_27 : decode cX10_isText 27 = .ok (.getfield 113, 3) := by decide +kernel
theorem dX10_isText_30 : decode cX10_isText 30 = .ok (.isub, 1) := by decide +kernel
theorem dX10_isText_31 : decode cX10_isText 31 = .ok (.invokevirtual 119, 3) := by decide +kernel
theorem dX10_isText_34 : decode cX10_isText 34 = .ok (.ifCond .eq 78, 3) := by decide +kernel
theorem dX10_isText_37 : decode cX10_isText 37 = .ok (.iconst 0, 1) := by decide +kernel
theorem dX10_isText_38 : decode cX10_isText 38 = .ok (.istore_n 2, 1) := by decide +kernel
theorem dX10_isText_39 : decode cX10_isText 39 = .ok (.iload_n 2, 1) := by decide +kernel
theorem dX10_isText_40 : decode cX10_isText 40 = .ok (.aload_n 0, 1) := by decide +kernel
theorem dX10_isText_41 : decode cX10_isText 41 = .ok (.getfield 107, 3) := by decide +kernel
theorem dX10_isText_44 : decode cX10_isText 44 = .ok (.if_icmp .ge 28, 3) := by decide +kernel
theorem dX10_isText_47 : decode cX10_isText 47 = .ok (.aload_n 0, 1) := by decide +kernel
theorem dX10_isText_48 : decode cX10_isText 48 = .ok (.getfield 7, 3) := by decide +kernel
theorem dX10_isText_51 : decode cX10_isText 51 = .ok (.sipush 1404, 3) := by decide +kernel
theorem dX10_isText_54 : decode cX10_isText 54 = .ok (.aload_n 0, 1) := by decide +kernel
theorem dX10_isText_55 : decode cX10_isText 55 = .ok (.getfield 113, 3) := by decide +kernel
theorem dX10_isText_58 : decode cX10_isText 58 = .ok (.iadd, 1) := by decide +kernel
theorem dX10_isText_59 : decode cX10_isText 59 = .ok (.iload_n 2, 1) := by decide +kernel
theorem dX10_isText_60 : decode cX10_isText 60 = .ok (.iadd, 1) := by decide +kernel
theorem dX10_isText_61 : decode cX10_isText 61 = .ok (.aload_n 0, 1) := by decide +kernel
theorem dX10_isText_62 : decode cX10_isText 62 = .ok (.getfield 104, 3) := by decide +kernel
theorem dX10_isText_65 : decode cX10_isText 65 = .ok (.iastore, 1) := by decide +kernel
theorem dX10_isText_66 : decode cX10_isText 66 = .ok (.iinc 2 1, 3) := by decide +kernel
theorem dX10_isText_69 : decode cX10_isText 69 = .ok (.goto (-30), 3) := by decide +kernel
theorem dX10_isText_72 : decode cX10_isText 72 = .ok (.aload_n 0, 1) := by decide +kernel
theorem dX10_isText_73 : decode cX10_isText 73 = .ok (.dup, 1) := by decide +kernel
theorem dX10_isText_74 : decode cX10_isText 74 = .ok (.getfield 113, 3) := by decide +kernel
theorem dX10_isText_77 : decode cX10_isText 77 = .ok (.aload_n 0, 1) := by decide +kernel
theorem dX10_isText_78 : decode cX10_isText 78 = .ok (.getfield 107, 3) := by decide +kernel
theorem dX10_isText_81 : decode cX10_isText 81 = .ok (.iadd, 1) := by decide +kernel
theorem dX10_isText_82 : decode cX10_isText 82 = .ok (.putfield 113, 3) := by decide +kernel
theorem dX10_isText_85 : decode cX10_isText 85 = .ok (.aload_n 0, 1) := by decide +kernel
theorem dX10_isText_86 : decode cX10_isText 86 = .ok (.getfield 113, 3) := by decide +kernel
theorem dX10_isText_89 : decode cX10_isText 89 = .ok (.bipush 16, 2) := by decide +kernel
theorem dX10_isText_91 : decode cX10_isText 91 = .ok (.if_icmp .ge 16, 3) := by decide +kernel
theorem dX10_isText_94 : decode cX10_isText 94 = .ok (.aload_n 0, 1) := by decide +kernel
theorem dX10_isText_95 : decode cX10_isText 95 = .ok (.bipush 44, 2) := by decide +kernel
theorem dX10_isText_97 : decode cX10_isText 97 = .ok (.invokevirtual 110, 3) := by decide +kernel
theorem dX10_isText_100 : decode cX10_isText 100 = .ok (.ifCond .eq 7, 3) := by decide +kernel
theorem dX10_isText_103 : decode cX10_isText 103 = .ok (.iconst 1, 1) := by decide +kernel
theorem dX10_isText_104 : decode cX10_isText 104 = .ok (.goto 4, 3) := by decide +kernel
theorem dX10_isText_107 : decode cX10_isText 107 = .ok (.iconst 0, 1) := by decide +kernel
theorem dX10_isText_108 : decode cX10_isText 108 = .ok (.istore_n 1, 1) := by decide +kernel
theorem dX10_isText_109 : decode cX10_isText 109 = .ok (.goto (-97), 3) := by decide +kernel
theorem dX10_isText_112 : decode cX10_isText 112 = .ok (.aload_n 0, 1) := by decide +kernel
theorem dX10_isText_113 : decode cX10_isText 113 = .ok (.getfield 113, 3) := by decide +kernel
theorem dX10_isText_116 : decode cX10_isText 116 = .ok (.bipush 16, 2) := by decide +kernel
theorem dX10_isText_118 : decode cX10_isText 118 = .ok (.if_icmp .ne 18, 3) := by decide +kernel
theorem dX10_isText_121 : decode cX10_isText 121 = .ok (.aload_n 0, 1) := by decide +kernel
theorem dX10_isText_122 : decode cX10_isText 122 = .ok (.getfield 94, 3) := by decide +kernel
theorem dX10_isText_125 : decode cX10_isText 125 = .ok (.aload_n 0, 1) := by decide +kernel
theorem dX10_isText_126 : decode cX10_isText 126 = .ok (.getfield 91, 3) := by decide +kernel
theorem dX10_isText_129 : decode cX10_isText 129 = .ok (.if_icmp .ne 7, 3) := by decide +kernel
theorem dX10_isText_132 : decode cX10_isText 132 = .ok (.iconst 1, 1) := by decide +kernel
theorem dX10_isText_133 : decode cX10_isText 133 = .ok (.goto 4, 3) := by decide +kernel
theorem dX10_isText_136 : decode cX10_isText 136 = .ok (.iconst 0, 1) := by decide +kernel
theorem dX10_isText_137 : decode cX10_isText 137 = .ok (.ireturn, 1) := by decide +kernel
theorem dX10_firstError_0 : decode cX10_firstError 0 = .ok (.aload_n 0, 1) := by decide +kernel
theorem dX10_firstError_1 : decode cX10_firstError 1 = .ok (.iconst 0, 1) := by decide +kernel
theorem dX10_firstError_2 : decode cX10_firstError 2 = .ok (.putfield 16, 3) := by decide +kernel
theorem dX10_firstError_5 : decode cX10_firstError 5 = .ok (.aload_n 0, 1) := by decide +kernel
theorem dX10_firstError_6 : decode cX10_firstError 6 = .ok (.invokevirtual 122, 3) := by decide +kernel
theorem dX10_firstError_9 : decode cX10_firstError 9 = .ok (.pop, 1) := by decide +kernel
theorem dX10_firstError_10 : decode cX10_firstError 10 = .ok (.aload_n 0, 1) := by decide +kernel
theorem dX10_firstError_11 : decode cX10_firstError 11 = .ok (.getfield 94, 3) := by decide +kernel
theorem dX10_firstError_14 : decode cX10_firstError 14 = .ok (.ireturn, 1) := by decide +kernel
theorem dX10_loadMaster_0 : decode cX10_loadMaster 0 = .ok (.iload_n 1, 1) := by decide +kernel
theorem dX10_loadMaster_1 : decode cX10_loadMaster 1 = .ok (.invokestatic 69, 3) := by decide +kernel
theorem dX10_loadMaster_4 : decode cX10_loadMaster 4 = .ok (.istore_n 2, 1) := by decide +kernel
theorem dX10_loadMaster_5 : decode cX10_loadMaster 5 = .ok (.aload_n 0, 1) := by decide +kernel
theorem dX10_loadMaster_6 : decode cX10_loadMaster 6 = .ok (.iload_n 2, 1) := by decide +kernel
theorem dX10_loadMaster_7 : decode cX10_loadMaster 7 = .ok (.ifCond .ne 7, 3) := by decide +kernel
theorem dX10_loadMaster_10 : decode cX10_loadMaster 10 = .ok (.iconst 1, 1) := by decide +kernel
theorem dX10_loadMaster_11 : decode cX10_loadMaster 11 = .ok (.goto 15, 3) := by decide +kernel
theorem dX10_loadMaster_14 : decode cX10_loadMaster 14 = .ok (.aload_n 0, 1) := by decide +kernel
theorem dX10_loadMaster_15 : decode cX10_loadMaster 15 = .ok (.invokevirtual 122, 3) := by decide +kernel
theorem dX10_loadMaster_18 : decode cX10_loadMaster 18 = .ok (.ifCond .ne 7, 3) := by decide +kernel
theorem dX10_loadMaster_21 : decode cX10_loadMaster 21 = .ok (.iconst 2, 1) := by decide +kernel
theorem dX10_loadMaster_22 : decode cX10_loadMaster 22 = .ok (.goto 4, 3) := by decide +kernel
theorem dX10_loadMaster_25 : decode cX10_loadMaster 25 = .ok (.iconst 0, 1) := by decide +kernel
theorem dX10_loadMaster_26 : decode cX10_loadMaster 26 = .ok (.invokevirtual 72, 3) := by decide +kernel
theorem dX10_loadMaster_29 : decode cX10_loadMaster 29 = .ok (.ifCond .ne 5, 3) := by decide +kernel
theorem dX10_loadMaster_32 : decode cX10_loadMaster 32 = .ok (.iconst 0, 1) := by decide +kernel
theorem dX10_loadMaster_33 : decode cX10_loadMaster 33 = .ok (.ireturn, 1) := by decide +kernel
theorem dX10_loadMaster_34 : decode cX10_loadMaster 34 = .ok (.aload_n 0, 1) := by decide +kernel
theorem dX10_loadMaster_35 : decode cX10_loadMaster 35 = .ok (.invokevirtual 66, 3) := by decide +kernel
theorem dX10_loadMaster_38 : decode cX10_loadMaster 38 = .ok (.iconst 0, 1) := by decide +kernel
theorem dX10_loadMaster_39 : decode cX10_loadMaster 39 = .ok (.istore_n 3, 1) := by decide +kernel
theorem dX10_loadMaster_40 : decode cX10_loadMaster 40 = .ok (.iconst 0, 1) := by decide +kernel
theorem dX10_loadMaster_41 : decode cX10_loadMaster 41 = .ok (.istore 4, 2) := by decide +kernel
theorem dX10_loadMaster_43 : decode cX10_loadMaster 43 = .ok (.iload 4, 2) := by decide +kernel
theorem dX10_loadMaster_45 : decode cX10_loadMaster 45 = .ok (.bipush 16, 2) := by decide +kernel
theorem dX10_loadMaster_47 : decode cX10_loadMaster 47 = .ok (.if_icmp .ge 63, 3) := by decide +kernel
theorem dX10_loadMaster_50 : decode cX10_loadMaster 50 = .ok (.aload_n 0, 1) := by decide +kernel
theorem dX10_loadMaster_51 : decode cX10_loadMaster 51 = .ok (.getfield 7, 3) := by decide +kernel
theorem dX10_loadMaster_54 : decode cX10_loadMaster 54 = .ok (.bipush 16, 2) := by decide +kernel
theorem dX10_loadMaster_56 : decode cX10_loadMaster 56 = .ok (.iload_n 1, 1) := by decide +kernel
theorem dX10_loadMaster_57 : decode cX10_loadMaster 57 = .ok (.imul, 1) := by decide +kernel
theorem dX10_loadMaster_58 : decode cX10_loadMaster 58 = .ok (.iload 4, 2) := by decide +kernel
theorem dX10_loadMaster_60 : decode cX10_loadMaster 60 = .ok (.iadd, 1) := by decide +kernel
theorem dX10_loadMaster_61 : decode cX10_loadMaster 61 = .ok (.aload_n 0, 1) := by decide +kernel
theorem dX10_loadMaster_62 : decode cX10_loadMaster 62 = .ok (.getfield 7, 3) := by decide +kernel
theorem dX10_loadMaster_65 : decode cX10_loadMaster 65 = .ok (.sipush 1404, 3) := by decide +kernel
theorem dX10_loadMaster_68 : decode cX10_loadMaster 68 = .ok (.iload 4, 2) := by decide +kernel
theorem dX10_loadMaster_70 : decode cX10_loadMaster 70 = .ok (.iadd, 1) := by decide +kernel
theorem dX10_loadMaster_71 : decode cX10_loadMaster 71 = .ok (.iaload, 1) := by decide +kernel
theorem dX10_loadMaster_72 : decode cX10_loadMaster 72 = .ok (.iastore, 1) := by decide +kernel
theorem dX10_loadMaster_73 : decode cX10_loadMaster 73 = .ok (.aload_n 0, 1) := by decide +kernel
theorem dX10_loadMaster_74 : decode cX10_loadMaster 74 = .ok (.getfield 7, 3) := by decide +kernel
theorem dX10_loadMaster_77 : decode cX10_loadMaster 77 = .ok (.sipush 1404, 3) := by decide +kernel
theorem dX10_loadMaster_80 : decode cX10_loadMaster 80 = .ok (.iload 4, 2) := by decide +kernel
theorem dX10_loadMaster_82 : decode cX10_loadMaster 82 = .ok (.iadd, 1) := by decide +kernel
theorem dX10_loadMaster_83 : decode cX10_loadMaster 83 = .ok (.iaload, 1) := by decide +kernel
theorem dX10_loadMaster_84 : decode cX10_loadMaster 84 = .ok (.iload_n 3, 1) := by decide +kernel
theorem dX10_loadMaster_85 : decode cX10_loadMaster 85 = .ok (.if_icmp .le 17, 3) := by decide +kernel
theorem dX10_loadMaster_88 : decode cX10_loadMaster 88 = .ok (.aload_n 0, 1) := by decide +kernel
theorem dX10_loadMaster_89 : decode cX10_loadMaster 89 = .ok (.getfield 7, 3) := by decide +kernel
theorem dX10_loadMaster_92 : decode cX10_loadMaster 92 = .ok (.sipush 1404, 3) := by decide +kernel
theorem dX10_loadMaster_95 : decode cX10_loadMaster 95 = .ok (.iload 4, 2) := by decide +kernel
theorem dX10_loadMaster_97 : decode cX10_loadMaster 97 = .ok (.iadd, 1) := by decide +kernel
theorem dX10_loadMaster_98 : decode cX10_loadMaster 98 = .ok (.iaload, 1) := by decide +kernel
theorem dX10_loadMaster_99 : decode cX10_loadMaster 99 = .ok (.goto 4, 3) := by decide +kernel
theorem dX10_loadMaster_102 : decode cX10_loadMaster 102 = .ok (.iload_n 3, 1) := by decide +kernel
theorem dX10_loadMaster_103 : decode cX10_loadMaster 103 = .ok (.istore_n 3, 1) := by decide +kernel
theorem dX10_loadMaster_104 : decode cX10_loadMaster 104 = .ok (.iinc 4 1, 3) := by decide +kernel
theorem dX10_loadMaster_107 : decode cX10_loadMaster 107 = .ok (.goto (-64), 3) := by decide +kernel
theorem dX10_loadMaster_110 : decode cX10_loadMaster 110 = .ok (.aload_n 0, 1) := by decide +kernel
theorem dX10_loadMaster_111 : decode cX10_loadMaster 111 = .ok (.iconst 0, 1) := by decide +kernel
theorem dX10_loadMaster_112 : decode cX10_loadMaster 112 = .ok (.putfield 91, 3) := by decide +kernel
theorem dX10_loadMaster_115 : decode cX10_loadMaster 115 = .ok (.iload_n 3, 1) := by decide +kernel
theorem dX10_loadMaster_116 : decode cX10_loadMaster 116 = .ok (.ireturn, 1) := by decide +kernel
theorem dX10_keep_0 : decode cX10_keep 0 = .ok (.aload_n 0, 1) := by decide +kernel
theorem dX10_keep_1 : decode cX10_keep 1 = .ok (.iload_n 1, 1) := by decide +kernel
theorem dX10_keep_2 : decode cX10_keep 2 = .ok (.iconst 0, 1) := by decide +kernel
theorem dX10_keep_3 : decode cX10_keep 3 = .ok (.iconst 1, 1) := by decide +kernel
theorem dX10_keep_4 : decode cX10_keep 4 = .ok (.invokestatic 20, 3) := by decide +kernel
theorem dX10_keep_7 : decode cX10_keep 7 = .ok (.ifCond .eq 7, 3) := by decide +kernel
theorem dX10_keep_10 : decode cX10_keep 10 = .ok (.iconst 0, 1) := by decide +kernel
theorem dX10_keep_11 : decode cX10_keep 11 = .ok (.goto 4, 3) := by decide +kernel
theorem dX10_keep_14 : decode cX10_keep 14 = .ok (.iconst 1, 1) := by decide +kernel
theorem dX10_keep_15 : decode cX10_keep 15 = .ok (.invokevirtual 72, 3) := by decide +kernel
theorem dX10_keep_18 : decode cX10_keep 18 = .ok (.ifCond .eq 53, 3) := by decide +kernel
theorem dX10_keep_21 : decode cX10_keep 21 = .ok (.aload_n 0, 1) := by decide +kernel
theorem dX10_keep_22 : decode cX10_keep 22 = .ok (.iconst 0, 1) := by decide +kernel
theorem dX10_keep_23 : decode cX10_keep 23 = .ok (.bipush 7, 2) := by decide +kernel
theorem dX10_keep_25 : decode cX10_keep 25 = .ok (.iload_n 1, 1) := by decide +kernel
theorem dX10_keep_26 : decode cX10_keep 26 = .ok (.iadd, 1) := by decide +kernel
theorem dX10_keep_27 : decode cX10_keep 27 = .ok (.invokevirtual 62, 3) := by decide +kernel
theorem dX10_keep_30 : decode cX10_keep 30 = .ok (.aload_n 0, 1) := by decide +kernel
theorem dX10_keep_31 : decode cX10_keep 31 = .ok (.aload_n 0, 1) := by decide +kernel
theorem dX10_keep_32 : decode cX10_keep 32 = .ok (.getfield 125, 3) := by decide +kernel
theorem dX10_keep_35 : decode cX10_keep 35 = .ok (.ifCond .ne 7, 3) := by decide +kernel
theorem dX10_keep_38 : decode cX10_keep 38 = .ok (.iload_n 1, 1) := by decide +kernel
theorem dX10_keep_39 : decode cX10_keep 39 = .ok (.ifCond .ne 7, 3) := by decide +kernel
theorem dX10_keep_42 : decode cX10_keep 42 = .ok (.iconst 1, 1) := by decide +kernel
theorem dX10_keep_43 : decode cX10_keep 43 = .ok (.goto 4, 3) := by decide +kernel
theorem dX10_keep_46 : decode cX10_keep 46 = .ok (.iconst 0, 1) := by decide +kernel
theorem dX10_keep_47 : decode cX10_keep 47 = .ok (.putfield 125, 3) := by decide +kernel
theorem dX10_keep_50 : decode cX10_keep 50 = .ok (.aload_n 0, 1) := by decide +kernel
theorem dX10_keep_51 : decode cX10_keep 51 = .ok (.aload_n 0, 1) := by decide +kernel
theorem dX10_keep_52 : decode cX10_keep 52 = .ok (.getfield 129, 3) := by decide +kernel
theorem dX10_keep_55 : decode cX10_keep 55 = .ok (.ifCond .ne 8, 3) := by decide +kernel
theorem dX10_keep_58 : decode cX10_keep 58 = .ok (.iload_n 1, 1) := by decide +kernel
theorem dX10_keep_59 : decode cX10_keep 59 = .ok (.iconst 1, 1) := by decide +kernel
theorem dX10_keep_60 : decode cX10_keep 60 = .ok (.if_icmp .ne 7, 3) := by decide +kernel
theorem dX10_keep_63 : decode cX10_keep 63 = .ok (.iconst 1, 1) := by decide +kernel
theorem dX10_keep_64 : decode cX10_keep 64 = .ok (.goto 4, 3) := by decide +kernel
theorem dX10_keep_67 : decode cX10_keep 67 = .ok (.iconst 0, 1) := by decide +kernel
theorem dX10_keep_68 : decode cX10_keep 68 = .ok (.putfield 129, 3) := by decide +kernel
theorem dX10_keep_71 : decode cX10_keep 71 = .ok (.return_, 1) := by decide +kernel
theorem dX10_goBack_0 : decode cX10_goBack 0 = .ok (.iload_n 1, 1) := by decide +kernel
theorem dX10_goBack_1 : decode cX10_goBack 1 = .ok (.ifCond .ne 10, 3) := by decide +kernel
theorem dX10_goBack_4 : decode cX10_goBack 4 = .ok (.aload_n 0, 1) := by decide +kernel
theorem dX10_goBack_5 : decode cX10_goBack 5 = .ok (.getfield 125, 3) := by decide +kernel
theorem dX10_goBack_8 : decode cX10_goBack 8 = .ok (.goto 7, 3) := by decide +kernel
theorem dX10_goBack_11 : decode cX10_goBack 11 = .ok (.aload_n 0, 1) := by decide +kernel
theorem dX10_goBack_12 : decode cX10_goBack 12 = .ok (.getfield 129, 3) := by decide +kernel
theorem dX10_goBack_15 : decode cX10_goBack 15 = .ok (.istore_n 2, 1) := by decide +kernel
theorem dX10_goBack_16 : decode cX10_goBack 16 = .ok (.aload_n 0, 1) := by decide +kernel
theorem dX10_goBack_17 : decode cX10_goBack 17 = .ok (.iload_n 1, 1) := by decide +kernel
theorem dX10_goBack_18 : decode cX10_goBack 18 = .ok (.iconst 0, 1) := by decide +kernel
theorem dX10_goBack_19 : decode cX10_goBack 19 = .ok (.iconst 1, 1) := by decide +kernel
theorem dX10_goBack_20 : decode cX10_goBack 20 = .ok (.invokestatic 20, 3) := by decide +kernel
theorem dX10_goBack_23 : decode cX10_goBack 23 = .ok (.ifCond .ne 7, 3) := by decide +kernel
theorem dX10_goBack_26 : decode cX10_goBack 26 = .ok (.iconst 1, 1) := by decide +kernel
theorem dX10_goBack_27 : decode cX10_goBack 27 = .ok (.goto 12, 3) := by decide +kernel
theorem dX10_goBack_30 : decode cX10_goBack 30 = .ok (.iload_n 2, 1) := by decide +kernel
theorem dX10_goBack_31 : decode cX10_goBack 31 = .ok (.ifCond .ne 7, 3) := by decide +kernel
theorem dX10_goBack_34 : decode cX10_goBack 34 = .ok (.iconst 2, 1) := by decide +kernel
theorem dX10_goBack_35 : decode cX10_goBack 35 = .ok (.goto 4, 3) := by decide +kernel
theorem dX10_goBack_38 : decode cX10_goBack 38 = .ok (.iconst 0, 1) := by decide +kernel
theorem dX10_goBack_39 : decode cX10_goBack 39 = .ok (.invokevirtual 72, 3) := by decide +kernel
theorem dX10_goBack_42 : decode cX10_goBack 42 = .ok (.ifCond .eq 16, 3) := by decide +kernel
theorem dX10_goBack_45 : decode cX10_goBack 45 = .ok (.aload_n 0, 1) := by decide +kernel
theorem dX10_goBack_46 : decode cX10_goBack 46 = .ok (.invokevirtual 66, 3) := by decide +kernel
theorem dX10_goBack_49 : decode cX10_goBack 49 = .ok (.aload_n 0, 1) := by decide +kernel
theorem dX10_goBack_50 : decode cX10_goBack 50 = .ok (.bipush 7, 2) := by decide +kernel
theorem dX10_goBack_52 : decode cX10_goBack 52 = .ok (.iload_n 1, 1) := by decide +kernel
theorem dX10_goBack_53 : decode cX10_goBack 53 = .ok (.iadd, 1) := by decide +kernel
theorem dX10_goBack_54 : decode cX10_goBack 54 = .ok (.iconst 0, 1) := by decide +kernel
theorem dX10_goBack_55 : decode cX10_goBack 55 = .ok (.invokevirtual 62, 3) := by decide +kernel
theorem dX10_goBack_58 : decode cX10_goBack 58 = .ok (.return_, 1) := by decide +kernel
theorem dX10_undo_0 : decode cX10_undo 0 = .ok (.aload_n 0, 1) := by decide +kernel
theorem dX10_undo_1 : decode cX10_undo 1 = .ok (.aload_n 0, 1) := by decide +kernel
theorem dX10_undo_2 : decode cX10_undo 2 = .ok (.getfield 59, 3) := by decide +kernel
theorem dX10_undo_5 : decode cX10_undo 5 = .ok (.ifCond .le 7, 3) := by decide +kernel
theorem dX10_undo_8 : decode cX10_undo 8 = .ok (.iconst 0, 1) := by decide +kernel
theorem dX10_undo_9 : decode cX10_undo 9 = .ok (.goto 4, 3) := by decide +kernel
theorem dX10_undo_12 : decode cX10_undo 12 = .ok (.iconst 1, 1) := by decide +kernel
theorem dX10_undo_13 : decode cX10_undo 13 = .ok (.invokevirtual 72, 3) := by decide +kernel
theorem dX10_undo_16 : decode cX10_undo 16 = .ok (.ifCond .eq 22, 3) := by decide +kernel
theorem dX10_undo_19 : decode cX10_undo 19 = .ok (.aload_n 0, 1) := by decide +kernel
theorem dX10_undo_20 : decode cX10_undo 20 = .ok (.aload_n 0, 1) := by decide +kernel
theorem dX10_undo_21 : decode cX10_undo 21 = .ok (.getfield 59, 3) := by decide +kernel
theorem dX10_undo_24 : decode cX10_undo 24 = .ok (.iconst 0, 1) := by decide +kernel
theorem dX10_undo_25 : decode cX10_undo 25 = .ok (.invokevirtual 62, 3) := by decide +kernel
theorem dX10_undo_28 : decode cX10_undo 28 = .ok (.aload_n 0, 1) := by decide +kernel
theorem dX10_undo_29 : decode cX10_undo 29 = .ok (.dup, 1) := by decide +kernel
theorem dX10_undo_30 : decode cX10_undo 30 = .ok (.getfield 59, 3) := by decide +kernel
theorem dX10_undo_33 : decode cX10_undo 33 = .ok (.iconst 1, 1) := by decide +kernel
theorem dX10_undo_34 : decode cX10_undo 34 = .ok (.isub, 1) := by decide +kernel
theorem dX10_undo_35 : decode cX10_undo 35 = .ok (.putfield 59, 3) := by decide +kernel
theorem dX10_undo_38 : decode cX10_undo 38 = .ok (.return_, 1) := by decide +kernel
theorem dX10_savedStates_0 : decode cX10_savedStates 0 = .ok (.aload_n 0, 1) := by decide +kernel
theorem dX10_savedStates_1 : decode cX10_savedStates 1 = .ok (.iconst 0, 1) := by decide +kernel
theorem dX10_savedStates_2 : decode cX10_savedStates 2 = .ok (.putfield 16, 3) := by decide +kernel
theorem dX10_savedStates_5 : decode cX10_savedStates 5 = .ok (.aload_n 0, 1) := by decide +kernel
theorem dX10_savedStates_6 : decode cX10_savedStates 6 = .ok (.getfield 59, 3) := by decide +kernel
theorem dX10_savedStates_9 : decode cX10_savedStates 9 = .ok (.ireturn, 1) := by decide +kernel
theorem dX10_counted_0 : decode cX10_counted 0 = .ok (.aload_n 0, 1) := by decide +kernel
theorem dX10_counted_1 : decode cX10_counted 1 = .ok (.iconst 0, 1) := by decide +kernel
theorem dX10_counted_2 : decode cX10_counted 2 = .ok (.putfield 16, 3) := by decide +kernel
theorem dX10_counted_5 : decode cX10_counted 5 = .ok (.aload_n 0, 1) := by decide +kernel
theorem dX10_counted_6 : decode cX10_counted 6 = .ok (.getfield 7, 3) := by decide +kernel
theorem dX10_counted_9 : decode cX10_counted 9 = .ok (.iload_n 1, 1) := by decide +kernel
theorem dX10_counted_10 : decode cX10_counted 10 = .ok (.iaload, 1) := by decide +kernel
theorem dX10_counted_11 : decode cX10_counted 11 = .ok (.ireturn, 1) := by decide +kernel
theorem dX10_masterAt_0 : decode cX10_masterAt 0 = .ok (.aload_n 0, 1) := by decide +kernel
theorem dX10_masterAt_1 : decode cX10_masterAt 1 = .ok (.iload_n 1, 1) := by decide +kernel
theorem dX10_masterAt_2 : decode cX10_masterAt 2 = .ok (.invokestatic 69, 3) := by decide +kernel
theorem dX10_masterAt_5 : decode cX10_masterAt 5 = .ok (.ifCond .eq 14, 3) := by decide +kernel
theorem dX10_masterAt_8 : decode cX10_masterAt 8 = .ok (.iload_n 2, 1) := by decide +kernel
theorem dX10_masterAt_9 : decode cX10_masterAt 9 = .ok (.invokestatic 24, 3) := by decide +kernel
theorem dX10_masterAt_12 : decode cX10_masterAt 12 = .ok (.ifCond .eq 7, 3) := by decide +kernel
theorem dX10_masterAt_15 : decode cX10_masterAt 15 = .ok (.iconst 0, 1) := by decide +kernel
theorem dX10_masterAt_16 : decode cX10_masterAt 16 = .ok (.goto 4, 3) := by decide +kernel
theorem dX10_masterAt_19 : decode cX10_masterAt 19 = .ok (.iconst 1, 1) := by decide +kernel
theorem dX10_masterAt_20 : decode cX10_masterAt 20 = .ok (.invokevirtual 72, 3) := by decide +kernel
theorem dX10_masterAt_23 : decode cX10_masterAt 23 = .ok (.ifCond .eq 17, 3) := by decide +kernel
theorem dX10_masterAt_26 : decode cX10_masterAt 26 = .ok (.aload_n 0, 1) := by decide +kernel
theorem dX10_masterAt_27 : decode cX10_masterAt 27 = .ok (.getfield 7, 3) := by decide +kernel
theorem dX10_masterAt_30 : decode cX10_masterAt 30 = .ok (.bipush 16, 2) := by decide +kernel
theorem dX10_masterAt_32 : decode cX10_masterAt 32 = .ok (.iload_n 1, 1) := by decide +kernel
theorem dX10_masterAt_33 : decode cX10_masterAt 33 = .ok (.imul, 1) := by decide +kernel
theorem dX10_masterAt_34 : decode cX10_masterAt 34 = .ok (.iload_n 2, 1) := by decide +kernel
theorem dX10_masterAt_35 : decode cX10_masterAt 35 = .ok (.iadd, 1) := by decide +kernel
theorem dX10_masterAt_36 : decode cX10_masterAt 36 = .ok (.iaload, 1) := by decide +kernel
theorem dX10_masterAt_37 : decode cX10_masterAt 37 = .ok (.goto 4, 3) := by decide +kernel
theorem dX10_masterAt_40 : decode cX10_masterAt 40 = .ok (.iconst 0, 1) := by decide +kernel
theorem dX10_masterAt_41 : decode cX10_masterAt 41 = .ok (.ireturn, 1) := by decide +kernel
theorem dX10_chosenMaster_0 : decode cX10_chosenMaster 0 = .ok (.aload_n 0, 1) := by decide +kernel
theorem dX10_chosenMaster_1 : decode cX10_chosenMaster 1 = .ok (.bipush 48, 2) := by decide +kernel
theorem dX10_chosenMaster_3 : decode cX10_chosenMaster 3 = .ok (.invokevirtual 132, 3) := by decide +kernel
theorem dX10_chosenMaster_6 : decode cX10_chosenMaster 6 = .ok (.ireturn, 1) := by decide +kernel
theorem dX10_radius_0 : decode cX10_radius 0 = .ok (.aload_n 0, 1) := by decide +kernel
theorem dX10_radius_1 : decode cX10_radius 1 = .ok (.bipush 49, 2) := by decide +kernel
theorem dX10_radius_3 : decode cX10_radius 3 = .ok (.invokevirtual 132, 3) := by decide +kernel
theorem dX10_radius_6 : decode cX10_radius 6 = .ok (.ireturn, 1) := by decide +kernel
theorem dX10_wear_0 : decode cX10_wear 0 = .ok (.aload_n 0, 1) := by decide +kernel
theorem dX10_wear_1 : decode cX10_wear 1 = .ok (.bipush 50, 2) := by decide +kernel
theorem dX10_wear_3 : decode cX10_wear 3 = .ok (.invokevirtual 132, 3) := by decide +kernel
theorem dX10_wear_6 : decode cX10_wear 6 = .ok (.ireturn, 1) := by decide +kernel
theorem dX10_offset_0 : decode cX10_offset 0 = .ok (.aload_n 0, 1) := by decide +kernel
theorem dX10_offset_1 : decode cX10_offset 1 = .ok (.bipush 52, 2) := by decide +kernel
theorem dX10_offset_3 : decode cX10_offset 3 = .ok (.invokevirtual 132, 3) := by decide +kernel
theorem dX10_offset_6 : decode cX10_offset 6 = .ok (.ireturn, 1) := by decide +kernel
theorem dX10_sharpness_0 : decode cX10_sharpness 0 = .ok (.aload_n 0, 1) := by decide +kernel
theorem dX10_sharpness_1 : decode cX10_sharpness 1 = .ok (.bipush 53, 2) := by decide +kernel
theorem dX10_sharpness_3 : decode cX10_sharpness 3 = .ok (.invokevirtual 132, 3) := by decide +kernel
theorem dX10_sharpness_6 : decode cX10_sharpness 6 = .ok (.ireturn, 1) := by decide +kernel
theorem dX10_depth_0 : decode cX10_depth 0 = .ok (.aload_n 0, 1) := by decide +kernel
theorem dX10_depth_1 : decode cX10_depth 1 = .ok (.bipush 54, 2) := by decide +kernel
theorem dX10_depth_3 : decode cX10_depth 3 = .ok (.invokevirtual 132, 3) := by decide +kernel
theorem dX10_depth_6 : decode cX10_depth 6 = .ok (.ireturn, 1) := by decide +kernel
theorem dX10_cutDepth_0 : decode cX10_cutDepth 0 = .ok (.aload_n 0, 1) := by decide +kernel
theorem dX10_cutDepth_1 : decode cX10_cutDepth 1 = .ok (.iconst 0, 1) := by decide +kernel
theorem dX10_cutDepth_2 : decode cX10_cutDepth 2 = .ok (.putfield 16, 3) := by decide +kernel
theorem dX10_cutDepth_5 : decode cX10_cutDepth 5 = .ok (.aload_n 0, 1) := by decide +kernel
theorem dX10_cutDepth_6 : decode cX10_cutDepth 6 = .ok (.iconst 0, 1) := by decide +kernel
theorem dX10_cutDepth_7 : decode cX10_cutDepth 7 = .ok (.invokevirtual 45, 3) := by decide +kernel
theorem dX10_cutDepth_10 : decode cX10_cutDepth 10 = .ok (.ireturn, 1) := by decide +kernel
theorem dX10_speed_0 : decode cX10_speed 0 = .ok (.aload_n 0, 1) := by decide +kernel
theorem dX10_speed_1 : decode cX10_speed 1 = .ok (.bipush 55, 2) := by decide +kernel
theorem dX10_speed_3 : decode cX10_speed 3 = .ok (.invokevirtual 132, 3) := by decide +kernel
theorem dX10_speed_6 : decode cX10_speed 6 = .ok (.ireturn, 1) := by decide +kernel
theorem dX10_tolerance_0 : decode cX10_tolerance 0 = .ok (.aload_n 0, 1) := by decide +kernel
theorem dX10_tolerance_1 : decode cX10_tolerance 1 = .ok (.bipush 56, 2) := by decide +kernel
theorem dX10_tolerance_3 : decode cX10_tolerance 3 = .ok (.invokevirtual 132, 3) := by decide +kernel
theorem dX10_tolerance_6 : decode cX10_tolerance 6 = .ok (.ireturn, 1) := by decide +kernel
theorem dX10_chips_0 : decode cX10_chips 0 = .ok (.aload_n 0, 1) := by decide +kernel
theorem dX10_chips_1 : decode cX10_chips 1 = .ok (.bipush 57, 2) := by decide +kernel
theorem dX10_chips_3 : decode cX10_chips 3 = .ok (.invokevirtual 132, 3) := by decide +kernel
theorem dX10_chips_6 : decode cX10_chips 6 = .ok (.ireturn, 1) := by decide +kernel
theorem dX10_roomForChips_0 : decode cX10_roomForChips 0 = .ok (.aload_n 0, 1) := by decide +kernel
theorem dX10_roomForChips_1 : decode cX10_roomForChips 1 = .ok (.iconst 0, 1) := by decide +kernel
theorem dX10_roomForChips_2 : decode cX10_roomForChips 2 = .ok (.putfield 16, 3) := by decide +kernel
theorem dX10_roomForChips_5 : decode cX10_roomForChips 5 = .ok (.sipush 200, 3) := by decide +kernel
theorem dX10_roomForChips_8 : decode cX10_roomForChips 8 = .ok (.aload_n 0, 1) := by decide +kernel
theorem dX10_roomForChips_9 : decode cX10_roomForChips 9 = .ok (.getfield 7, 3) := by decide +kernel
theorem dX10_roomForChips_12 : decode cX10_roomForChips 12 = .ok (.bipush 57, 2) := by decide +kernel
theorem dX10_roomForChips_14 : decode cX10_roomForChips 14 = .ok (.iaload, 1) := by decide +kernel
theorem dX10_roomForChips_15 : decode cX10_roomForChips 15 = .ok (.isub, 1) := by decide +kernel
theorem dX10_roomForChips_16 : decode cX10_roomForChips 16 = .ok (.ireturn, 1) := by decide +kernel
theorem dX10_isJammed_0 : decode cX10_isJammed 0 = .ok (.aload_n 0, 1) := by decide +kernel
theorem dX10_isJammed_1 : decode cX10_isJammed 1 = .ok (.iconst 0, 1) := by decide +kernel
theorem dX10_isJammed_2 : decode cX10_isJammed 2 = .ok (.putfield 16, 3) := by decide +kernel
theorem dX10_isJammed_5 : decode cX10_isJammed 5 = .ok (.aload_n 0, 1) := by decide +kernel
theorem dX10_isJammed_6 : decode cX10_isJammed 6 = .ok (.getfield 7, 3) := by decide +kernel
theorem dX10_isJammed_9 : decode cX10_isJammed 9 = .ok (.bipush 58, 2) := by decide +kernel
theorem dX10_isJammed_11 : decode cX10_isJammed 11 = .ok (.iaload, 1) := by decide +kernel
theorem dX10_isJammed_12 : decode cX10_isJammed 12 = .ok (.iconst 1, 1) := by decide +kernel
theorem dX10_isJammed_13 : decode cX10_isJammed 13 = .ok (.if_icmp .ne 7, 3) := by decide +kernel
theorem dX10_isJammed_16 : decode cX10_isJammed 16 = .ok (.iconst 1, 1) := by decide +kernel
theorem dX10_isJammed_17 : decode cX10_isJammed 17 = .ok (.goto 4, 3) := by decide +kernel
theorem dX10_isJammed_20 : decode cX10_isJammed 20 = .ok (.iconst 0, 1) := by decide +kernel
theorem dX10_isJammed_21 : decode cX10_isJammed 21 = .ok (.ireturn, 1) := by decide +kernel
theorem dX10_pieces_0 : decode cX10_pieces 0 = .ok (.aload_n 0, 1) := by decide +kernel
theorem dX10_pieces_1 : decode cX10_pieces 1 = .ok (.bipush 59, 2) := by decide +kernel
theorem dX10_pieces_3 : decode cX10_pieces 3 = .ok (.invokevirtual 132, 3) := by decide +kernel
theorem dX10_pieces_6 : decode cX10_pieces 6 = .ok (.ireturn, 1) := by decide +kernel
theorem dX10_woodOf_0 : decode cX10_woodOf 0 = .ok (.aload_n 0, 1) := by decide +kernel
theorem dX10_woodOf_1 : decode cX10_woodOf 1 = .ok (.aload_n 0, 1) := by decide +kernel
theorem dX10_woodOf_2 : decode cX10_woodOf 2 = .ok (.iload_n 1, 1) := by decide +kernel
theorem dX10_woodOf_3 : decode cX10_woodOf 3 = .ok (.invokevirtual 78, 3) := by decide +kernel
theorem dX10_woodOf_6 : decode cX10_woodOf 6 = .ok (.ifCond .eq 7, 3) := by decide +kernel
theorem dX10_woodOf_9 : decode cX10_woodOf 9 = .ok (.iconst 0, 1) := by decide +kernel
theorem dX10_woodOf_10 : decode cX10_woodOf 10 = .ok (.goto 4, 3) := by decide +kernel
theorem dX10_woodOf_13 : decode cX10_woodOf 13 = .ok (.iconst 1, 1) := by decide +kernel
theorem dX10_woodOf_14 : decode cX10_woodOf 14 = .ok (.invokevirtual 72, 3) := by decide +kernel
theorem dX10_woodOf_17 : decode cX10_woodOf 17 = .ok (.ifCond .eq 13, 3) := by decide +kernel
theorem dX10_woodOf_20 : decode cX10_woodOf 20 = .ok (.aload_n 0, 1) := by decide +kernel
theorem dX10_woodOf_21 : decode cX10_woodOf 21 = .ok (.iconst 0, 1) := by decide +kernel
theorem dX10_woodOf_22 : decode cX10_woodOf 22 = .ok (.iload_n 1, 1) := by decide +kernel
theorem dX10_woodOf_23 : decode cX10_woodOf 23 = .ok (.iconst 0, 1) := by decide +kernel
theorem dX10_woodOf_24 : decode cX10_woodOf 24 = .ok (.invokevirtual 35, 3) := by decide +kernel
theorem dX10_woodOf_27 : decode cX10_woodOf 27 = .ok (.goto 4, 3) := by decide +kernel
theorem dX10_woodOf_30 : decode cX10_woodOf 30 = .ok (.iconst 0, 1) := by decide +kernel
theorem dX10_woodOf_31 : decode cX10_woodOf 31 = .ok (.ireturn, 1) := by decide +kernel
theorem dX10_diameterAt_0 : decode cX10_diameterAt 0 = .ok (.aload_n 0, 1) := by decide +kernel
theorem dX10_diameterAt_1 : decode cX10_diameterAt 1 = .ok (.aload_n 0, 1) := by decide +kernel
theorem dX10_diameterAt_2 : decode cX10_diameterAt 2 = .ok (.iload_n 1, 1) := by decide +kernel
theorem dX10_diameterAt_3 : decode cX10_diameterAt 3 = .ok (.invokevirtual 78, 3) := by decide +kernel
theorem dX10_diameterAt_6 : decode cX10_diameterAt 6 = .ok (.ifCond .eq 14, 3) := by decide +kernel
theorem dX10_diameterAt_9 : decode cX10_diameterAt 9 = .ok (.iload_n 2, 1) := by decide +kernel
theorem dX10_diameterAt_10 : decode cX10_diameterAt 10 = .ok (.invokestatic 24, 3) := by decide +kernel
theorem dX10_diameterAt_13 : decode cX10_diameterAt 13 = .ok (.ifCond .eq 7, 3) := by decide +kernel
theorem dX10_diameterAt_16 : decode cX10_diameterAt 16 = .ok (.iconst 0, 1) := by decide +kernel
theorem dX10_diameterAt_17 : decode cX10_diameterAt 17 = .ok (.goto 4, 3) := by decide +kernel
theorem dX10_diameterAt_20 : decode cX10_diameterAt 20 = .ok (.iconst 1, 1) := by decide +kernel
theorem dX10_diameterAt_21 : decode cX10_diameterAt 21 = .ok (.invokevirtual 72, 3) := by decide +kernel
theorem dX10_diameterAt_24 : decode cX10_diameterAt 24 = .ok (.ifCond .eq 15, 3) := by decide +kernel
theorem dX10_diameterAt_27 : decode cX10_diameterAt 27 = .ok (.aload_n 0, 1) := by decide +kernel
theorem dX10_diameterAt_28 : decode cX10_diameterAt 28 = .ok (.iconst 0, 1) := by decide +kernel
theorem dX10_diameterAt_29 : decode cX10_diameterAt 29 = .ok (.iload_n 1, 1) := by decide +kernel
theorem dX10_diameterAt_30 : decode cX10_diameterAt 30 = .ok (.iconst 2, 1) := by decide +kernel
theorem dX10_diameterAt_31 : decode cX10_diameterAt 31 = .ok (.iload_n 2, 1) := by decide +kernel
theorem dX10_diameterAt_32 : decode cX10_diameterAt 32 = .ok (.iadd, 1) := by decide +kernel
theorem dX10_diameterAt_33 : decode cX10_diameterAt 33 = .ok (.invokevirtual 35, 3) := by decide +kernel
theorem dX10_diameterAt_36 : decode cX10_diameterAt 36 = .ok (.goto 4, 3) := by decide +kernel
theorem dX10_diameterAt_39 : decode cX10_diameterAt 39 = .ok (.iconst 0, 1) := by decide +kernel
theorem dX10_diameterAt_40 : decode cX10_diameterAt 40 = .ok (.ireturn, 1) := by decide +kernel
theorem dX10_passesOn_0 : decode cX10_passesOn 0 = .ok (.aload_n 0, 1) := by decide +kernel
theorem dX10_passesOn_1 : decode cX10_passesOn 1 = .ok (.aload_n 0, 1) := by decide +kernel
theorem dX10_passesOn_2 : decode cX10_passesOn 2 = .ok (.iload_n 1, 1) := by decide +kernel
theorem dX10_passesOn_3 : decode cX10_passesOn 3 = .ok (.invokevirtual 78, 3) := by decide +kernel
theorem dX10_passesOn_6 : decode cX10_passesOn 6 = .ok (.ifCond .eq 7, 3) := by decide +kernel
theorem dX10_passesOn_9 : decode cX10_passesOn 9 = .ok (.iconst 0, 1) := by decide +kernel
theorem dX10_passesOn_10 : decode cX10_passesOn 10 = .ok (.goto 4, 3) := by decide +kernel
theorem dX10_passesOn_13 : decode cX10_passesOn 13 = .ok (.iconst 1, 1) := by decide +kernel
theorem dX10_passesOn_14 : decode cX10_passesOn 14 = .ok (.invokevirtual 72, 3) := by decide +kernel
theorem dX10_passesOn_17 : decode cX10_passesOn 17 = .ok (.ifCond .eq 13, 3) := by decide +kernel
theorem dX10_passesOn_20 : decode cX10_passesOn 20 = .ok (.aload_n 0, 1) := by decide +kernel
theorem dX10_passesOn_21 : decode cX10_passesOn 21 = .ok (.iconst 0, 1) := by decide +kernel
theorem dX10_passesOn_22 : decode cX10_passesOn 22 = .ok (.iload_n 1, 1) := by decide +kernel
theorem dX10_passesOn_23 : decode cX10_passesOn 23 = .ok (.iconst 1, 1) := by decide +kernel
theorem dX10_passesOn_24 : decode cX10_passesOn 24 = .ok (.invokevirtual 35, 3) := by decide +kernel
theorem dX10_passesOn_27 : decode cX10_passesOn 27 = .ok (.goto 4, 3) := by decide +kernel
theorem dX10_passesOn_30 : decode cX10_passesOn 30 = .ok (.iconst 0, 1) := by decide +kernel
theorem dX10_passesOn_31 : decode cX10_passesOn 31 = .ok (.ireturn, 1) := by decide +kernel
theorem dX10_hasMounted_0 : decode cX10_hasMounted 0 = .ok (.aload_n 0, 1) := by decide +kernel
theorem dX10_hasMounted_1 : decode cX10_hasMounted 1 = .ok (.iconst 0, 1) := by decide +kernel
theorem dX10_hasMounted_2 : decode cX10_hasMounted 2 = .ok (.putfield 16, 3) := by decide +kernel
theorem dX10_hasMounted_5 : decode cX10_hasMounted 5 = .ok (.aload_n 0, 1) := by decide +kernel
theorem dX10_hasMounted_6 : decode cX10_hasMounted 6 = .ok (.getfield 7, 3) := by decide +kernel
theorem dX10_hasMounted_9 : decode cX10_hasMounted 9 = .ok (.bipush 60, 2) := by decide +kernel
theorem dX10_hasMounted_11 : decode cX10_hasMounted 11 = .ok (.iaload, 1) := by decide +kernel
theorem dX10_hasMounted_12 : decode cX10_hasMounted 12 = .ok (.iconst (-1), 1) := by decide +kernel
theorem dX10_hasMounted_13 : decode cX10_hasMounted 13 = .ok (.if_icmp .eq 7, 3) := by decide +kernel
theorem dX10_hasMounted_16 : decode cX10_hasMounted 16 = .ok (.iconst 1, 1) := by decide +kernel
theorem dX10_hasMounted_17 : decode cX10_hasMounted 17 = .ok (.goto 4, 3) := by decide +kernel
theorem dX10_hasMounted_20 : decode cX10_hasMounted 20 = .ok (.iconst 0, 1) := by decide +kernel
theorem dX10_hasMounted_21 : decode cX10_hasMounted 21 = .ok (.ireturn, 1) := by decide +kernel
theorem dX10_mounted_0 : decode cX10_mounted 0 = .ok (.aload_n 0, 1) := by decide +kernel
theorem dX10_mounted_1 : decode cX10_mounted 1 = .ok (.aload_n 0, 1) := by decide +kernel
theorem dX10_mounted_2 : decode cX10_mounted 2 = .ok (.getfield 7, 3) := by decide +kernel
theorem dX10_mounted_5 : decode cX10_mounted 5 = .ok (.bipush 60, 2) := by decide +kernel
theorem dX10_mounted_7 : decode cX10_mounted 7 = .ok (.iaload, 1) := by decide +kernel
theorem dX10_mounted_8 : decode cX10_mounted 8 = .ok (.iconst (-1), 1) := by decide +kernel
theorem dX10_mounted_9 : decode cX10_mounted 9 = .ok (.if_icmp .eq 7, 3) := by decide +kernel
theorem dX10_mounted_12 : decode cX10_mounted 12 = .ok (.iconst 0, 1) := by decide +kernel
theorem dX10_mounted_13 : decode cX10_mounted 13 = .ok (.goto 4, 3) := by decide +kernel
theorem dX10_mounted_16 : decode cX10_mounted 16 = .ok (.iconst 1, 1) := by decide +kernel
theorem dX10_mounted_17 : decode cX10_mounted 17 = .ok (.invokevirtual 72, 3) := by decide +kernel
theorem dX10_mounted_20 : decode cX10_mounted 20 = .ok (.ifCond .eq 13, 3) := by decide +kernel
theorem dX10_mounted_23 : decode cX10_mounted 23 = .ok (.aload_n 0, 1) := by decide +kernel
theorem dX10_mounted_24 : decode cX10_mounted 24 = .ok (.getfield 7, 3) := by decide +kernel
theorem dX10_mounted_27 : decode cX10_mounted 27 = .ok (.bipush 60, 2) := by decide +kernel
theorem dX10_mounted_29 : decode cX10_mounted 29 = .ok (.iaload, 1) := by decide +kernel
theorem dX10_mounted_30 : decode cX10_mounted 30 = .ok (.goto 4, 3) := by decide +kernel
theorem dX10_mounted_33 : decode cX10_mounted 33 = .ok (.iconst 0, 1) := by decide +kernel
theorem dX10_mounted_34 : decode cX10_mounted 34 = .ok (.ireturn, 1) := by decide +kernel
theorem dX10_sumOf_0 : decode cX10_sumOf 0 = .ok (.iconst 0, 1) := by decide +kernel
theorem dX10_sumOf_1 : decode cX10_sumOf 1 = .ok (.istore_n 2, 1) := by decide +kernel
theorem dX10_sumOf_2 : decode cX10_sumOf 2 = .ok (.iconst 0, 1) := by decide +kernel
theorem dX10_sumOf_3 : decode cX10_sumOf 3 = .ok (.istore_n 3, 1) := by decide +kernel
theorem dX10_sumOf_4 : decode cX10_sumOf 4 = .ok (.iload_n 3, 1) := by decide +kernel
theorem dX10_sumOf_5 : decode cX10_sumOf 5 = .ok (.bipush 16, 2) := by decide +kernel
theorem dX10_sumOf_7 : decode cX10_sumOf 7 = .ok (.if_icmp .ge 21, 3) := by decide +kernel
theorem dX10_sumOf_10 : decode cX10_sumOf 10 = .ok (.iload_n 2, 1) := by decide +kernel
theorem dX10_sumOf_11 : decode cX10_sumOf 11 = .ok (.aload_n 0, 1) := by decide +kernel
theorem dX10_sumOf_12 : decode cX10_sumOf 12 = .ok (.iconst 0, 1) := by decide +kernel
theorem dX10_sumOf_13 : decode cX10_sumOf 13 = .ok (.iload_n 1, 1) := by decide +kernel
theorem dX10_sumOf_14 : decode cX10_sumOf 14 = .ok (.iconst 2, 1) := by decide +kernel
theorem dX10_sumOf_15 : decode cX10_sumOf 15 = .ok (.iload_n 3, 1) := by decide +kernel
theorem dX10_sumOf_16 : decode cX10_sumOf 16 = .ok (.iadd, 1) := by decide +kernel
theorem dX10_sumOf_17 : decode cX10_sumOf 17 = .ok (.invokevirtual 35, 3) := by decide +kernel
theorem dX10_sumOf_20 : decode cX10_sumOf 20 = .ok (.iadd, 1) := by decide +kernel
theorem dX10_sumOf_21 : decode cX10_sumOf 21 = .ok (.istore_n 2, 1) := by decide +kernel
theorem dX10_sumOf_22 : decode cX10_sumOf 22 = .ok (.iinc 3 1, 3) := by decide +kernel
theorem dX10_sumOf_25 : decode cX10_sumOf 25 = .ok (.goto (-21), 3) := by decide +kernel
theorem dX10_sumOf_28 : decode cX10_sumOf 28 = .ok (.iload_n 2, 1) := by decide +kernel
theorem dX10_sumOf_29 : decode cX10_sumOf 29 = .ok (.ireturn, 1) := by decide +kernel
theorem dX10_price_0 : decode cX10_price 0 = .ok (.aload_n 0, 1) := by decide +kernel
theorem dX10_price_1 : decode cX10_price 1 = .ok (.iload_n 1, 1) := by decide +kernel
theorem dX10_price_2 : decode cX10_price 2 = .ok (.invokevirtual 135, 3) := by decide +kernel
theorem dX10_price_5 : decode cX10_price 5 = .ok (.bipush 16, 2) := by decide +kernel
theorem dX10_price_7 : decode cX10_price 7 = .ok (.idiv, 1) := by decide +kernel
theorem dX10_price_8 : decode cX10_price 8 = .ok (.aload_n 0, 1) := by decide +kernel
theorem dX10_price_9 : decode cX10_price 9 = .ok (.iconst 0, 1) := by decide +kernel
theorem dX10_price_10 : decode cX10_price 10 = .ok (.iload_n 1, 1) := by decide +kernel
theorem dX10_price_11 : decode cX10_price 11 = .ok (.iconst 0, 1) := by decide +kernel
theorem dX10_price_12 : decode cX10_price 12 = .ok (.invokevirtual 35, 3) := by decide +kernel
theorem dX10_price_15 : decode cX10_price 15 = .ok (.invokestatic 138, 3) := by decide +kernel
theorem dX10_price_18 : decode cX10_price 18 = .ok (.imul, 1) := by decide +kernel
theorem dX10_price_19 : decode cX10_price 19 = .ok (.ireturn, 1) := by decide +kernel
theorem dX10_priceOf_0 : decode cX10_priceOf 0 = .ok (.aload_n 0, 1) := by decide +kernel
theorem dX10_priceOf_1 : decode cX10_priceOf 1 = .ok (.aload_n 0, 1) := by decide +kernel
theorem dX10_priceOf_2 : decode cX10_priceOf 2 = .ok (.iload_n 1, 1) := by decide +kernel
theorem dX10_priceOf_3 : decode cX10_priceOf 3 = .ok (.invokevirtual 78, 3) := by decide +kernel
theorem dX10_priceOf_6 : decode cX10_priceOf 6 = .ok (.ifCond .eq 7, 3) := by decide +kernel
theorem dX10_priceOf_9 : decode cX10_priceOf 9 = .ok (.iconst 0, 1) := by decide +kernel
theorem dX10_priceOf_10 : decode cX10_priceOf 10 = .ok (.goto 4, 3) := by decide +kernel
theorem dX10_priceOf_13 : decode cX10_priceOf 13 = .ok (.iconst 1, 1) := by decide +kernel
theorem dX10_priceOf_14 : decode cX10_priceOf 14 = .ok (.invokevirtual 72, 3) := by decide +kernel
theorem dX10_priceOf_17 : decode cX10_priceOf 17 = .ok (.ifCond .eq 11, 3) := by decide +kernel
theorem dX10_priceOf_20 : decode cX10_priceOf 20 = .ok (.aload_n 0, 1) := by decide +kernel
theorem dX10_priceOf_21 : decode cX10_priceOf 21 = .ok (.iload_n 1, 1) := by decide +kernel
theorem dX10_priceOf_22 : decode cX10_priceOf 22 = .ok (.invokevirtual 141, 3) := by decide +kernel
theorem dX10_priceOf_25 : decode cX10_priceOf 25 = .ok (.goto 4, 3) := by decide +kernel
theorem dX10_priceOf_28 : decode cX10_priceOf 28 = .ok (.iconst 0, 1) := by decide +kernel
theorem dX10_priceOf_29 : decode cX10_priceOf 29 = .ok (.ireturn, 1) := by decide +kernel
theorem dX10_passes_0 : decode cX10_passes 0 = .ok (.aload_n 0, 1) := by decide +kernel
theorem dX10_passes_1 : decode cX10_passes 1 = .ok (.bipush 61, 2) := by decide +kernel
theorem dX10_passes_3 : decode cX10_passes 3 = .ok (.invokevirtual 132, 3) := by decide +kernel
theorem dX10_passes_6 : decode cX10_passes 6 = .ok (.ireturn, 1) := by decide +kernel
theorem dX10_woodTaken_0 : decode cX10_woodTaken 0 = .ok (.aload_n 0, 1) := by decide +kernel
theorem dX10_woodTaken_1 : decode cX10_woodTaken 1 = .ok (.bipush 62, 2) := by decide +kernel
theorem dX10_woodTaken_3 : decode cX10_woodTaken 3 = .ok (.invokevirtual 132, 3) := by decide +kernel
theorem dX10_woodTaken_6 : decode cX10_woodTaken 6 = .ok (.ireturn, 1) := by decide +kernel
theorem dX10_sharpenings_0 : decode cX10_sharpenings 0 = .ok (.aload_n 0, 1) := by decide +kernel
theorem dX10_sharpenings_1 : decode cX10_sharpenings 1 = .ok (.bipush 63, 2) := by decide +kernel
theorem dX10_sharpenings_3 : decode cX10_sharpenings 3 = .ok (.invokevirtual 132, 3) := by decide +kernel
theorem dX10_sharpenings_6 : decode cX10_sharpenings 6 = .ok (.ireturn, 1) := by decide +kernel
theorem dX10_jams_0 : decode cX10_jams 0 = .ok (.aload_n 0, 1) := by decide +kernel
theorem dX10_jams_1 : decode cX10_jams 1 = .ok (.bipush 64, 2) := by decide +kernel
theorem dX10_jams_3 : decode cX10_jams 3 = .ok (.invokevirtual 132, 3) := by decide +kernel
theorem dX10_jams_6 : decode cX10_jams 6 = .ok (.ireturn, 1) := by decide +kernel
theorem dX10_burnt_0 : decode cX10_burnt 0 = .ok (.aload_n 0, 1) := by decide +kernel
theorem dX10_burnt_1 : decode cX10_burnt 1 = .ok (.bipush 65, 2) := by decide +kernel
theorem dX10_burnt_3 : decode cX10_burnt 3 = .ok (.invokevirtual 132, 3) := by decide +kernel
theorem dX10_burnt_6 : decode cX10_burnt 6 = .ok (.ireturn, 1) := by decide +kernel
theorem dX10_readingByLooking_0 : decode cX10_readingByLooking 0 = .ok (.aload_n 0, 1) := by decide +kernel
theorem dX10_readingByLooking_1 : decode cX10_readingByLooking 1 = .ok (.iload_n 1, 1) := by decide +kernel
theorem dX10_readingByLooking_2 : decode cX10_readingByLooking 2 = .ok (.invokestatic 24, 3) := by decide +kernel
theorem dX10_readingByLooking_5 : decode cX10_readingByLooking 5 = .ok (.ifCond .eq 7, 3) := by decide +kernel
theorem dX10_readingByLooking_8 : decode cX10_readingByLooking 8 = .ok (.iconst 0, 1) := by decide +kernel
theorem dX10_readingByLooking_9 : decode cX10_readingByLooking 9 = .ok (.goto 4, 3) := by decide +kernel
theorem dX10_readingByLooking_12 : decode cX10_readingByLooking 12 = .ok (.iconst 1, 1) := by decide +kernel
theorem dX10_readingByLooking_13 : decode cX10_readingByLooking 13 = .ok (.invokevirtual 72, 3) := by decide +kernel
theorem dX10_readingByLooking_16 : decode cX10_readingByLooking 16 = .ok (.ifCond .eq 12, 3) := by decide +kernel
theorem dX10_readingByLooking_19 : decode cX10_readingByLooking 19 = .ok (.aload_n 0, 1) := by decide +kernel
theorem dX10_readingByLooking_20 : decode cX10_readingByLooking 20 = .ok (.iconst 0, 1) := by decide +kernel
theorem dX10_readingByLooking_21 : decode cX10_readingByLooking 21 = .ok (.iload_n 1, 1) := by decide +kernel
theorem dX10_readingByLooking_22 : decode cX10_readingByLooking 22 = .ok (.invokevirtual 32, 3) := by decide +kernel
theorem dX10_readingByLooking_25 : decode cX10_readingByLooking 25 = .ok (.goto 4, 3) := by decide +kernel
theorem dX10_readingByLooking_28 : decode cX10_readingByLooking 28 = .ok (.iconst 0, 1) := by decide +kernel
theorem dX10_readingByLooking_29 : decode cX10_readingByLooking 29 = .ok (.ireturn, 1) := by decide +kernel
theorem dX10_readingByQueue_0 : decode cX10_readingByQueue 0 = .ok (.aload_n 0, 1) := by decide +kernel
theorem dX10_readingByQueue_1 : decode cX10_readingByQueue 1 = .ok (.iload_n 1, 1) := by decide +kernel
theorem dX10_readingByQueue_2 : decode cX10_readingByQueue 2 = .ok (.invokestatic 24, 3) := by decide +kernel
theorem dX10_readingByQueue_5 : decode cX10_readingByQueue 5 = .ok (.ifCond .eq 7, 3) := by decide +kernel
theorem dX10_readingByQueue_8 : decode cX10_readingByQueue 8 = .ok (.iconst 0, 1) := by decide +kernel
theorem dX10_readingByQueue_9 : decode cX10_readingByQueue 9 = .ok (.goto 4, 3) := by decide +kernel
theorem dX10_readingByQueue_12 : decode cX10_readingByQueue 12 = .ok (.iconst 1, 1) := by decide +kernel
theorem dX10_readingByQueue_13 : decode cX10_readingByQueue 13 = .ok (.invokevirtual 72, 3) := by decide +kernel
theorem dX10_readingByQueue_16 : decode cX10_readingByQueue 16 = .ok (.ifCond .eq 12, 3) := by decide +kernel
theorem dX10_readingByQueue_19 : decode cX10_readingByQueue 19 = .ok (.aload_n 0, 1) := by decide +kernel
theorem dX10_readingByQueue_20 : decode cX10_readingByQueue 20 = .ok (.iconst 0, 1) := by decide +kernel
theorem dX10_readingByQueue_21 : decode cX10_readingByQueue 21 = .ok (.iload_n 1, 1) := by decide +kernel
theorem dX10_readingByQueue_22 : decode cX10_readingByQueue 22 = .ok (.invokevirtual 32, 3) := by decide +kernel
theorem dX10_readingByQueue_25 : decode cX10_readingByQueue 25 = .ok (.goto 4, 3) := by decide +kernel
theorem dX10_readingByQueue_28 : decode cX10_readingByQueue 28 = .ok (.iconst 0, 1) := by decide +kernel
theorem dX10_readingByQueue_29 : decode cX10_readingByQueue 29 = .ok (.ireturn, 1) := by decide +kernel
theorem dX10_targetAt_0 : decode cX10_targetAt 0 = .ok (.aload_n 0, 1) := by decide +kernel
theorem dX10_targetAt_1 : decode cX10_targetAt 1 = .ok (.iload_n 1, 1) := by decide +kernel
theorem dX10_targetAt_2 : decode cX10_targetAt 2 = .ok (.invokestatic 24, 3) := by decide +kernel
theorem dX10_targetAt_5 : decode cX10_targetAt 5 = .ok (.ifCond .eq 7, 3) := by decide +kernel
theorem dX10_targetAt_8 : decode cX10_targetAt 8 = .ok (.iconst 0, 1) := by decide +kernel
theorem dX10_targetAt_9 : decode cX10_targetAt 9 = .ok (.goto 4, 3) := by decide +kernel
theorem dX10_targetAt_12 : decode cX10_targetAt 12 = .ok (.iconst 1, 1) := by decide +kernel
theorem dX10_targetAt_13 : decode cX10_targetAt 13 = .ok (.invokevirtual 72, 3) := by decide +kernel
theorem dX10_targetAt_16 : decode cX10_targetAt 16 = .ok (.ifCond .eq 12, 3) := by decide +kernel
theorem dX10_targetAt_19 : decode cX10_targetAt 19 = .ok (.aload_n 0, 1) := by decide +kernel
theorem dX10_targetAt_20 : decode cX10_targetAt 20 = .ok (.iconst 0, 1) := by decide +kernel
theorem dX10_targetAt_21 : decode cX10_targetAt 21 = .ok (.iload_n 1, 1) := by decide +kernel
theorem dX10_targetAt_22 : decode cX10_targetAt 22 = .ok (.invokevirtual 39, 3) := by decide +kernel
theorem dX10_targetAt_25 : decode cX10_targetAt 25 = .ok (.goto 4, 3) := by decide +kernel
theorem dX10_targetAt_28 : decode cX10_targetAt 28 = .ok (.iconst 0, 1) := by decide +kernel
theorem dX10_targetAt_29 : decode cX10_targetAt 29 = .ok (.ireturn, 1) := by decide +kernel
theorem dX10_lost_0 : decode cX10_lost 0 = .ok (.iconst 0, 1) := by decide +kernel
theorem dX10_lost_1 : decode cX10_lost 1 = .ok (.istore_n 1, 1) := by decide +kernel
theorem dX10_lost_2 : decode cX10_lost 2 = .ok (.iconst 0, 1) := by decide +kernel
theorem dX10_lost_3 : decode cX10_lost 3 = .ok (.istore_n 2, 1) := by decide +kernel
theorem dX10_lost_4 : decode cX10_lost 4 = .ok (.iload_n 2, 1) := by decide +kernel
theorem dX10_lost_5 : decode cX10_lost 5 = .ok (.bipush 16, 2) := by decide +kernel
theorem dX10_lost_7 : decode cX10_lost 7 = .ok (.if_icmp .ge 32, 3) := by decide +kernel
theorem dX10_lost_10 : decode cX10_lost 10 = .ok (.iload_n 1, 1) := by decide +kernel
theorem dX10_lost_11 : decode cX10_lost 11 = .ok (.aload_n 0, 1) := by decide +kernel
theorem dX10_lost_12 : decode cX10_lost 12 = .ok (.iconst 0, 1) := by decide +kernel
theorem dX10_lost_13 : decode cX10_lost 13 = .ok (.iload_n 2, 1) := by decide +kernel
theorem dX10_lost_14 : decode cX10_lost 14 = .ok (.invokevirtual 32, 3) := by decide +kernel
theorem dX10_lost_17 : decode cX10_lost 17 = .ok (.aload_n 0, 1) := by decide +kernel
theorem dX10_lost_18 : decode cX10_lost 18 = .ok (.iconst 0, 1) := by decide +kernel
theorem dX10_lost_19 : decode cX10_lost 19 = .ok (.iload_n 2, 1) := by decide +kernel
theorem dX10_lost_20 : decode cX10_lost 20 = .ok (.invokevirtual 28, 3) := by decide +kernel
theorem dX10_lost_23 : decode cX10_lost 23 = .ok (.if_icmp .le 7, 3) := by decide +kernel
theorem dX10_lost_26 : decode cX10_lost 26 = .ok (.iconst 1, 1) := by decide +kernel
theorem dX10_lost_27 : decode cX10_lost 27 = .ok (.goto 4, 3) := by decide +kernel
theorem dX10_lost_30 : decode cX10_lost 30 = .ok (.iconst 0, 1) := by decide +kernel
theorem dX10_lost_31 : decode cX10_lost 31 = .ok (.iadd, 1) := by decide +kernel
theorem dX10_lost_32 : decode cX10_lost 32 = .ok (.istore_n 1, 1) := by decide +kernel
theorem dX10_lost_33 : decode cX10_lost 33 = .ok (.iinc 2 1, 3) := by decide +kernel
theorem dX10_lost_36 : decode cX10_lost 36 = .ok (.goto (-32), 3) := by decide +kernel
theorem dX10_lost_39 : decode cX10_lost 39 = .ok (.iload_n 1, 1) := by decide +kernel
theorem dX10_lost_40 : decode cX10_lost 40 = .ok (.ireturn, 1) := by decide +kernel
theorem dX10_lostGrooves_0 : decode cX10_lostGrooves 0 = .ok (.aload_n 0, 1) := by decide +kernel
theorem dX10_lostGrooves_1 : decode cX10_lostGrooves 1 = .ok (.iconst 0, 1) := by decide +kernel
theorem dX10_lostGrooves_2 : decode cX10_lostGrooves 2 = .ok (.putfield 16, 3) := by decide +kernel
theorem dX10_lostGrooves_5 : decode cX10_lostGrooves 5 = .ok (.aload_n 0, 1) := by decide +kernel
theorem dX10_lostGrooves_6 : decode cX10_lostGrooves 6 = .ok (.invokevirtual 144, 3) := by decide +kernel
theorem dX10_lostGrooves_9 : decode cX10_lostGrooves 9 = .ok (.ireturn, 1) := by decide +kernel
theorem dX10_sumOfMaster_0 : decode cX10_sumOfMaster 0 = .ok (.iconst 0, 1) := by decide +kernel
theorem dX10_sumOfMaster_1 : decode cX10_sumOfMaster 1 = .ok (.istore_n 2, 1) := by decide +kernel
theorem dX10_sumOfMaster_2 : decode cX10_sumOfMaster 2 = .ok (.iconst 0, 1) := by decide +kernel
theorem dX10_sumOfMaster_3 : decode cX10_sumOfMaster 3 = .ok (.istore_n 3, 1) := by decide +kernel
theorem dX10_sumOfMaster_4 : decode cX10_sumOfMaster 4 = .ok (.iload_n 3, 1) := by decide +kernel
theorem dX10_sumOfMaster_5 : decode cX10_sumOfMaster 5 = .ok (.bipush 16, 2) := by decide +kernel
theorem dX10_sumOfMaster_7 : decode cX10_sumOfMaster 7 = .ok (.if_icmp .ge 23, 3) := by decide +kernel
theorem dX10_sumOfMaster_10 : decode cX10_sumOfMaster 10 = .ok (.iload_n 2, 1) := by decide +kernel
theorem dX10_sumOfMaster_11 : decode cX10_sumOfMaster 11 = .ok (.aload_n 0, 1) := by decide +kernel
theorem dX10_sumOfMaster_12 : decode cX10_sumOfMaster 12 = .ok (.getfield 7, 3) := by decide +kernel
theorem dX10_sumOfMaster_15 : decode cX10_sumOfMaster 15 = .ok (.bipush 16, 2) := by decide +kernel
theorem dX10_sumOfMaster_17 : decode cX10_sumOfMaster 17 = .ok (.iload_n 1, 1) := by decide +kernel
theorem dX10_sumOfMaster_18 : decode cX10_sumOfMaster 18 = .ok (.imul, 1) := by decide +kernel
theorem dX10_sumOfMaster_19 : decode cX10_sumOfMaster 19 = .ok (.iload_n 3, 1) := by decide +kernel
theorem dX10_sumOfMaster_20 : decode cX10_sumOfMaster 20 = .ok (.iadd, 1) := by decide +kernel
theorem dX10_sumOfMaster_21 : decode cX10_sumOfMaster 21 = .ok (.iaload, 1) := by decide +kernel
theorem dX10_sumOfMaster_22 : decode cX10_sumOfMaster 22 = .ok (.iadd, 1) := by decide +kernel
theorem dX10_sumOfMaster_23 : decode cX10_sumOfMaster 23 = .ok (.istore_n 2, 1) := by decide +kernel
theorem dX10_sumOfMaster_24 : decode cX10_sumOfMaster 24 = .ok (.iinc 3 1, 3) := by decide +kernel
theorem dX10_sumOfMaster_27 : decode cX10_sumOfMaster 27 = .ok (.goto (-23), 3) := by decide +kernel
theorem dX10_sumOfMaster_30 : decode cX10_sumOfMaster 30 = .ok (.iload_n 2, 1) := by decide +kernel
theorem dX10_sumOfMaster_31 : decode cX10_sumOfMaster 31 = .ok (.ireturn, 1) := by decide +kernel
theorem dX10_slimmestMaster_0 : decode cX10_slimmestMaster 0 = .ok (.aload_n 0, 1) := by decide +kernel
theorem dX10_slimmestMaster_1 : decode cX10_slimmestMaster 1 = .ok (.iconst 0, 1) := by decide +kernel
theorem dX10_slimmestMaster_2 : decode cX10_slimmestMaster 2 = .ok (.putfield 16, 3) := by decide +kernel
theorem dX10_slimmestMaster_5 : decode cX10_slimmestMaster 5 = .ok (.iconst 0, 1) := by decide +kernel
theorem dX10_slimmestMaster_6 : decode cX10_slimmestMaster 6 = .ok (.istore_n 1, 1) := by decide +kernel
theorem dX10_slimmestMaster_7 : decode cX10_slimmestMaster 7 = .ok (.iconst 1, 1) := by decide +kernel
theorem dX10_slimmestMaster_8 : decode cX10_slimmestMaster 8 = .ok (.istore_n 2, 1) := by decide +kernel
theorem dX10_slimmestMaster_9 : decode cX10_slimmestMaster 9 = .ok (.iload_n 2, 1) := by decide +kernel
theorem dX10_slimmestMaster_10 : decode cX10_slimmestMaster 10 = .ok (.iconst 3, 1) := by decide +kernel
theorem dX10_slimmestMaster_11 : decode cX10_slimmestMaster 11 = .ok (.if_icmp .ge 28, 3) := by decide +kernel
theorem dX10_slimmestMaster_14 : decode cX10_slimmestMaster 14 = .ok (.aload_n 0, 1) := by decide +kernel
theorem dX10_slimmestMaster_15 : decode cX10_slimmestMaster 15 = .ok (.iload_n 2, 1) := by decide +kernel
theorem dX10_slimmestMaster_16 : decode cX10_slimmestMaster 16 = .ok (.invokevirtual 147, 3) := by decide +kernel
theorem dX10_slimmestMaster_19 : decode cX10_slimmestMaster 19 = .ok (.aload_n 0, 1) := by decide +kernel
theorem dX10_slimmestMaster_20 : decode cX10_slimmestMaster 20 = .ok (.iload_n 1, 1) := by decide +kernel
theorem dX10_slimmestMaster_21 : decode cX10_slimmestMaster 21 = .ok (.invokevirtual 147, 3) := by decide +kernel
theorem dX10_slimmestMaster_24 : decode cX10_slimmestMaster 24 = .ok (.if_icmp .ge 7, 3) := by decide +kernel
theorem dX10_slimmestMaster_27 : decode cX10_slimmestMaster 27 = .ok (.iload_n 2, 1) := by decide +kernel
theorem dX10_slimmestMaster_28 : decode cX10_slimmestMaster 28 = .ok (.goto 4, 3) := by decide +kernel
theorem dX10_slimmestMaster_31 : decode cX10_slimmestMaster 31 = .ok (.iload_n 1, 1) := by decide +kernel
theorem dX10_slimmestMaster_32 : decode cX10_slimmestMaster 32 = .ok (.istore_n 1, 1) := by decide +kernel
theorem dX10_slimmestMaster_33 : decode cX10_slimmestMaster 33 = .ok (.iinc 2 1, 3) := by decide +kernel
theorem dX10_slimmestMaster_36 : decode cX10_slimmestMaster 36 = .ok (.goto (-27), 3) := by decide +kernel
theorem dX10_slimmestMaster_39 : decode cX10_slimmestMaster 39 = .ok (.iload_n 1, 1) := by decide +kernel
theorem dX10_slimmestMaster_40 : decode cX10_slimmestMaster 40 = .ok (.ireturn, 1) := by decide +kernel
theorem dX10_worst_0 : decode cX10_worst 0 = .ok (.iconst 0, 1) := by decide +kernel
theorem dX10_worst_1 : decode cX10_worst 1 = .ok (.istore_n 3, 1) := by decide +kernel
theorem dX10_worst_2 : decode cX10_worst 2 = .ok (.iconst 0, 1) := by decide +kernel
theorem dX10_worst_3 : decode cX10_worst 3 = .ok (.istore 4, 2) := by decide +kernel
theorem dX10_worst_5 : decode cX10_worst 5 = .ok (.iload 4, 2) := by decide +kernel
theorem dX10_worst_7 : decode cX10_worst 7 = .ok (.bipush 16, 2) := by decide +kernel
theorem dX10_worst_9 : decode cX10_worst 9 = .ok (.if_icmp .ge 44, 3) := by decide +kernel
theorem dX10_worst_12 : decode cX10_worst 12 = .ok (.iload_n 2, 1) := by decide +kernel
theorem dX10_worst_13 : decode cX10_worst 13 = .ok (.aload_n 0, 1) := by decide +kernel
theorem dX10_worst_14 : decode cX10_worst 14 = .ok (.iconst 0, 1) := by decide +kernel
theorem dX10_worst_15 : decode cX10_worst 15 = .ok (.iload_n 1, 1) := by decide +kernel
theorem dX10_worst_16 : decode cX10_worst 16 = .ok (.iconst 2, 1) := by decide +kernel
theorem dX10_worst_17 : decode cX10_worst 17 = .ok (.iload 4, 2) := by decide +kernel
theorem dX10_worst_19 : decode cX10_worst 19 = .ok (.iadd, 1) := by decide +kernel
theorem dX10_worst_20 : decode cX10_worst 20 = .ok (.invokevirtual 35, 3) := by decide +kernel
theorem dX10_worst_23 : decode cX10_worst 23 = .ok (.aload_n 0, 1) := by decide +kernel
theorem dX10_worst_24 : decode cX10_worst 24 = .ok (.iconst 0, 1) := by decide +kernel
theorem dX10_worst_25 : decode cX10_worst 25 = .ok (.iload 4, 2) := by decide +kernel
theorem dX10_worst_27 : decode cX10_worst 27 = .ok (.invokevirtual 28, 3) := by decide +kernel
theorem dX10_worst_30 : decode cX10_worst 30 = .ok (.isub, 1) := by decide +kernel
theorem dX10_worst_31 : decode cX10_worst 31 = .ok (.imul, 1) := by decide +kernel
theorem dX10_worst_32 : decode cX10_worst 32 = .ok (.istore 5, 2) := by decide +kernel
theorem dX10_worst_34 : decode cX10_worst 34 = .ok (.iload 5, 2) := by decide +kernel
theorem dX10_worst_36 : decode cX10_worst 36 = .ok (.iload_n 3, 1) := by decide +kernel
theorem dX10_worst_37 : decode cX10_worst 37 = .ok (.if_icmp .le 8, 3) := by decide +kernel
theorem dX10_worst_40 : decode cX10_worst 40 = .ok (.iload 5, 2) := by decide +kernel
theorem dX10_worst_42 : decode cX10_worst 42 = .ok (.goto 4, 3) := by decide +kernel
theorem dX10_worst_45 : decode cX10_worst 45 = .ok (.iload_n 3, 1) := by decide +kernel
theorem dX10_worst_46 : decode cX10_worst 46 = .ok (.istore_n 3, 1) := by decide +kernel
theorem dX10_worst_47 : decode cX10_worst 47 = .ok (.iinc 4 1, 3) := by decide +kernel
theorem dX10_worst_50 : decode cX10_worst 50 = .ok (.goto (-45), 3) := by decide +kernel
theorem dX10_worst_53 : decode cX10_worst 53 = .ok (.iload_n 3, 1) := by decide +kernel
theorem dX10_worst_54 : decode cX10_worst 54 = .ok (.ireturn, 1) := by decide +kernel
theorem dX10_faults_0 : decode cX10_faults 0 = .ok (.iconst 0, 1) := by decide +kernel
theorem dX10_faults_1 : decode cX10_faults 1 = .ok (.istore_n 2, 1) := by decide +kernel
theorem dX10_faults_2 : decode cX10_faults 2 = .ok (.iconst 0, 1) := by decide +kernel
theorem dX10_faults_3 : decode cX10_faults 3 = .ok (.istore_n 3, 1) := by decide +kernel
theorem dX10_faults_4 : decode cX10_faults 4 = .ok (.iload_n 3, 1) := by decide +kernel
theorem dX10_faults_5 : decode cX10_faults 5 = .ok (.bipush 16, 2) := by decide +kernel
theorem dX10_faults_7 : decode cX10_faults 7 = .ok (.if_icmp .ge 60, 3) := by decide +kernel
theorem dX10_faults_10 : decode cX10_faults 10 = .ok (.aload_n 0, 1) := by decide +kernel
theorem dX10_faults_11 : decode cX10_faults 11 = .ok (.iconst 0, 1) := by decide +kernel
theorem dX10_faults_12 : decode cX10_faults 12 = .ok (.iload_n 1, 1) := by decide +kernel
theorem dX10_faults_13 : decode cX10_faults 13 = .ok (.iconst 2, 1) := by decide +kernel
theorem dX10_faults_14 : decode cX10_faults 14 = .ok (.iload_n 3, 1) := by decide +kernel
theorem dX10_faults_15 : decode cX10_faults 15 = .ok (.iadd, 1) := by decide +kernel
theorem dX10_faults_16 : decode cX10_faults 16 = .ok (.invokevirtual 35, 3) := by decide +kernel
theorem dX10_faults_19 : decode cX10_faults 19 = .ok (.aload_n 0, 1) := by decide +kernel
theorem dX10_faults_20 : decode cX10_faults 20 = .ok (.iconst 0, 1) := by decide +kernel
theorem dX10_faults_21 : decode cX10_faults 21 = .ok (.iload_n 3, 1) := by decide +kernel
theorem dX10_faults_22 : decode cX10_faults 22 = .ok (.invokevirtual 28, 3) := by decide +kernel
theorem dX10_faults_25 : decode cX10_faults 25 = .ok (.isub, 1) := by decide +kernel
theorem dX10_faults_26 : decode cX10_faults 26 = .ok (.istore 4, 2) := by decide +kernel
theorem dX10_faults_28 : decode cX10_faults 28 = .ok (.iload_n 2, 1) := by decide +kernel
theorem dX10_faults_29 : decode cX10_faults 29 = .ok (.iload 4, 2) := by decide +kernel
theorem dX10_faults_31 : decode cX10_faults 31 = .ok (.aload_n 0, 1) := by decide +kernel
theorem dX10_faults_32 : decode cX10_faults 32 = .ok (.getfield 7, 3) := by decide +kernel
theorem dX10_faults_35 : decode cX10_faults 35 = .ok (.bipush 56, 2) := by decide +kernel
theorem dX10_faults_37 : decode cX10_faults 37 = .ok (.iaload, 1) := by decide +kernel
theorem dX10_faults_38 : decode cX10_faults 38 = .ok (.if_icmp .gt 16, 3) := by decide +kernel
theorem dX10_faults_41 : decode cX10_faults 41 = .ok (.iload 4, 2) := by decide +kernel
theorem dX10_faults_43 : decode cX10_faults 43 = .ok (.ineg, 1) := by decide +kernel
theorem dX10_faults_44 : decode cX10_faults 44 = .ok (.aload_n 0, 1) := by decide +kernel
theorem dX10_faults_45 : decode cX10_faults 45 = .ok (.getfield 7, 3) := by decide +kernel
theorem dX10_faults_48 : decode cX10_faults 48 = .ok (.bipush 56, 2) := by decide +kernel
theorem dX10_faults_50 : decode cX10_faults 50 = .ok (.iaload, 1) := by decide +kernel
theorem dX10_faults_51 : decode cX10_faults 51 = .ok (.if_icmp .le 7, 3) := by decide +kernel
theorem dX10_faults_54 : decode cX10_faults 54 = .ok (.iconst 1, 1) := by decide +kernel
theorem dX10_faults_55 : decode cX10_faults 55 = .ok (.goto 4, 3) := by decide +kernel
theorem dX10_faults_58 : decode cX10_faults 58 = .ok (.iconst 0, 1) := by decide +kernel
theorem dX10_faults_59 : decode cX10_faults 59 = .ok (.iadd, 1) := by decide +kernel
theorem dX10_faults_60 : decode cX10_faults 60 = .ok (.istore_n 2, 1) := by decide +kernel
theorem dX10_faults_61 : decode cX10_faults 61 = .ok (.iinc 3 1, 3) := by decide +kernel
theorem dX10_faults_64 : decode cX10_faults 64 = .ok (.goto (-60), 3) := by decide +kernel
theorem dX10_faults_67 : decode cX10_faults 67 = .ok (.iload_n 2, 1) := by decide +kernel
theorem dX10_faults_68 : decode cX10_faults 68 = .ok (.ireturn, 1) := by decide +kernel
theorem dX10_unlike_0 : decode cX10_unlike 0 = .ok (.iconst 0, 1) := by decide +kernel
theorem dX10_unlike_1 : decode cX10_unlike 1 = .ok (.istore_n 3, 1) := by decide +kernel
theorem dX10_unlike_2 : decode cX10_unlike 2 = .ok (.iconst 0, 1) := by decide +kernel
theorem dX10_unlike_3 : decode cX10_unlike 3 = .ok (.istore 4, 2) := by decide +kernel
theorem dX10_unlike_5 : decode cX10_unlike 5 = .ok (.iload 4, 2) := by decide +kernel
theorem dX10_unlike_7 : decode cX10_unlike 7 = .ok (.bipush 16, 2) := by decide +kernel
theorem dX10_unlike_9 : decode cX10_unlike 9 = .ok (.if_icmp .ge 50, 3) := by decide +kernel
theorem dX10_unlike_12 : decode cX10_unlike 12 = .ok (.aload_n 0, 1) := by decide +kernel
theorem dX10_unlike_13 : decode cX10_unlike 13 = .ok (.iconst 0, 1) := by decide +kernel
theorem dX10_unlike_14 : decode cX10_unlike 14 = .ok (.iload_n 1, 1) := by decide +kernel
theorem dX10_unlike_15 : decode cX10_unlike 15 = .ok (.iconst 2, 1) := by decide +kernel
theorem dX10_unlike_16 : decode cX10_unlike 16 = .ok (.iload 4, 2) := by decide +kernel
theorem dX10_unlike_18 : decode cX10_unlike 18 = .ok (.iadd, 1) := by decide +kernel
theorem dX10_unlike_19 : decode cX10_unlike 19 = .ok (.invokevirtual 35, 3) := by decide +kernel
theorem dX10_unlike_22 : decode cX10_unlike 22 = .ok (.aload_n 0, 1) := by decide +kernel
theorem dX10_unlike_23 : decode cX10_unlike 23 = .ok (.getfield 7, 3) := by decide +kernel
theorem dX10_unlike_26 : decode cX10_unlike 26 = .ok (.bipush 16, 2) := by decide +kernel
theorem dX10_unlike_28 : decode cX10_unlike 28 = .ok (.iload_n 2, 1) := by decide +kernel
theorem dX10_unlike_29 : decode cX10_unlike 29 = .ok (.imul, 1) := by decide +kernel
theorem dX10_unlike_30 : decode cX10_unlike 30 = .ok (.iload 4, 2) := by decide +kernel
theorem dX10_unlike_32 : decode cX10_unlike 32 = .ok (.iadd, 1) := by decide +kernel
theorem dX10_unlike_33 : decode cX10_unlike 33 = .ok (.iaload, 1) := by decide +kernel
theorem dX10_unlike_34 : decode cX10_unlike 34 = .ok (.isub, 1) := by decide +kernel
theorem dX10_unlike_35 : decode cX10_unlike 35 = .ok (.istore 5, 2) := by decide +kernel
theorem dX10_unlike_37 : decode cX10_unlike 37 = .ok (.iload_n 3, 1) := by decide +kernel
theorem dX10_unlike_38 : decode cX10_unlike 38 = .ok (.iload 5, 2) := by decide +kernel
theorem dX10_unlike_40 : decode cX10_unlike 40 = .ok (.ifCond .ge 9, 3) := by decide +kernel
theorem dX10_unlike_43 : decode cX10_unlike 43 = .ok (.iload 5, 2) := by decide +kernel
theorem dX10_unlike_45 : decode cX10_unlike 45 = .ok (.ineg, 1) := by decide +kernel
theorem dX10_unlike_46 : decode cX10_unlike 46 = .ok (.goto 5, 3) := by decide +kernel
theorem dX10_unlike_49 : decode cX10_unlike 49 = .ok (.iload 5, 2) := by decide +kernel
theorem dX10_unlike_51 : decode cX10_unlike 51 = .ok (.iadd, 1) := by decide +kernel
theorem dX10_unlike_52 : decode cX10_unlike 52 = .ok (.istore_n 3, 1) := by decide +kernel
theorem dX10_unlike_53 : decode cX10_unlike 53 = .ok (.iinc 4 1, 3) := by decide +kernel
theorem dX10_unlike_56 : decode cX10_unlike 56 = .ok (.goto (-51), 3) := by decide +kernel
theorem dX10_unlike_59 : decode cX10_unlike 59 = .ok (.iload_n 3, 1) := by decide +kernel
theorem dX10_unlike_60 : decode cX10_unlike 60 = .ok (.ireturn, 1) := by decide +kernel
theorem dX10_most_0 : decode cX10_most 0 = .ok (.iconst 0, 1) := by decide +kernel
theorem dX10_most_1 : decode cX10_most 1 = .ok (.istore_n 2, 1) := by decide +kernel
theorem dX10_most_2 : decode cX10_most 2 = .ok (.iconst 1, 1) := by decide +kernel
theorem dX10_most_3 : decode cX10_most 3 = .ok (.istore_n 3, 1) := by decide +kernel
theorem dX10_most_4 : decode cX10_most 4 = .ok (.iload_n 3, 1) := by decide +kernel
theorem dX10_most_5 : decode cX10_most 5 = .ok (.iconst 3, 1) := by decide +kernel
theorem dX10_most_6 : decode cX10_most 6 = .ok (.if_icmp .ge 30, 3) := by decide +kernel
theorem dX10_most_9 : decode cX10_most 9 = .ok (.aload_n 0, 1) := by decide +kernel
theorem dX10_most_10 : decode cX10_most 10 = .ok (.iload_n 1, 1) := by decide +kernel
theorem dX10_most_11 : decode cX10_most 11 = .ok (.iload_n 3, 1) := by decide +kernel
theorem dX10_most_12 : decode cX10_most 12 = .ok (.invokevirtual 150, 3) := by decide +kernel
theorem dX10_most_15 : decode cX10_most 15 = .ok (.aload_n 0, 1) := by decide +kernel
theorem dX10_most_16 : decode cX10_most 16 = .ok (.iload_n 1, 1) := by decide +kernel
theorem dX10_most_17 : decode cX10_most 17 = .ok (.iload_n 2, 1) := by decide +kernel
theorem dX10_most_18 : decode cX10_most 18 = .ok (.invokevirtual 150, 3) := by decide +kernel
theorem dX10_most_21 : decode cX10_most 21 = .ok (.if_icmp .ge 7, 3) := by decide +kernel
theorem dX10_most_24 : decode cX10_most 24 = .ok (.iload_n 3, 1) := by decide +kernel
theorem dX10_most_25 : decode cX10_most 25 = .ok (.goto 4, 3) := by decide +kernel
theorem dX10_most_28 : decode cX10_most 28 = .ok (.iload_n 2, 1) := by decide +kernel
theorem dX10_most_29 : decode cX10_most 29 = .ok (.istore_n 2, 1) := by decide +kernel
theorem dX10_most_30 : decode cX10_most 30 = .ok (.iinc 3 1, 3) := by decide +kernel
theorem dX10_most_33 : decode cX10_most 33 = .ok (.goto (-29), 3) := by decide +kernel
theorem dX10_most_36 : decode cX10_most 36 = .ok (.iload_n 2, 1) := by decide +kernel
theorem dX10_most_37 : decode cX10_most 37 = .ok (.ireturn, 1) := by decide +kernel
theorem dX10_tooThick_0 : decode cX10_tooThick 0 = .ok (.aload_n 0, 1) := by decide +kernel
theorem dX10_tooThick_1 : decode cX10_tooThick 1 = .ok (.aload_n 0, 1) := by decide +kernel
theorem dX10_tooThick_2 : decode cX10_tooThick 2 = .ok (.iload_n 1, 1) := by decide +kernel
theorem dX10_tooThick_3 : decode cX10_tooThick 3 = .ok (.invokevirtual 78, 3) := by decide +kernel
theorem dX10_tooThick_6 : decode cX10_tooThick 6 = .ok (.ifCond .eq 7, 3) := by decide +kernel
theorem dX10_tooThick_9 : decode cX10_tooThick 9 = .ok (.iconst 0, 1) := by decide +kernel
theorem dX10_tooThick_10 : decode cX10_tooThick 10 = .ok (.goto 4, 3) := by decide +kernel
theorem dX10_tooThick_13 : decode cX10_tooThick 13 = .ok (.iconst 1, 1) := by decide +kernel
theorem dX10_tooThick_14 : decode cX10_tooThick 14 = .ok (.invokevirtual 72, 3) := by decide +kernel
theorem dX10_tooThick_17 : decode cX10_tooThick 17 = .ok (.ifCond .eq 12, 3) := by decide +kernel
theorem dX10_tooThick_20 : decode cX10_tooThick 20 = .ok (.aload_n 0, 1) := by decide +kernel
theorem dX10_tooThick_21 : decode cX10_tooThick 21 = .ok (.iload_n 1, 1) := by decide +kernel
theorem dX10_tooThick_22 : decode cX10_tooThick 22 = .ok (.iconst 1, 1) := by decide +kernel
theorem dX10_tooThick_23 : decode cX10_tooThick 23 = .ok (.invokevirtual 153, 3) := by decide +kernel
theorem dX10_tooThick_26 : decode cX10_tooThick 26 = .ok (.goto 4, 3) := by decide +kernel
theorem dX10_tooThick_29 : decode cX10_tooThick 29 = .ok (.iconst 0, 1) := by decide +kernel
theorem dX10_tooThick_30 : decode cX10_tooThick 30 = .ok (.ireturn, 1) := by decide +kernel
theorem dX10_tooThin_0 : decode cX10_tooThin 0 = .ok (.aload_n 0, 1) := by decide +kernel
theorem dX10_tooThin_1 : decode cX10_tooThin 1 = .ok (.aload_n 0, 1) := by decide +kernel
theorem dX10_tooThin_2 : decode cX10_tooThin 2 = .ok (.iload_n 1, 1) := by decide +kernel
theorem dX10_tooThin_3 : decode cX10_tooThin 3 = .ok (.invokevirtual 78, 3) := by decide +kernel
theorem dX10_tooThin_6 : decode cX10_tooThin 6 = .ok (.ifCond .eq 7, 3) := by decide +kernel
theorem dX10_tooThin_9 : decode cX10_tooThin 9 = .ok (.iconst 0, 1) := by decide +kernel
theorem dX10_tooThin_10 : decode cX10_tooThin 10 = .ok (.goto 4, 3) := by decide +kernel
theorem dX10_tooThin_13 : decode cX10_tooThin 13 = .ok (.iconst 1, 1) := by decide +kernel
theorem dX10_tooThin_14 : decode cX10_tooThin 14 = .ok (.invokevirtual 72, 3) := by decide +kernel
theorem dX10_tooThin_17 : decode cX10_tooThin 17 = .ok (.ifCond .eq 12, 3) := by decide +kernel
theorem dX10_tooThin_20 : decode cX10_tooThin 20 = .ok (.aload_n 0, 1) := by decide +kernel
theorem dX10_tooThin_21 : decode cX10_tooThin 21 = .ok (.iload_n 1, 1) := by decide +kernel
theorem dX10_tooThin_22 : decode cX10_tooThin 22 = .ok (.iconst (-1), 1) := by decide +kernel
theorem dX10_tooThin_23 : decode cX10_tooThin 23 = .ok (.invokevirtual 153, 3) := by decide +kernel
theorem dX10_tooThin_26 : decode cX10_tooThin 26 = .ok (.goto 4, 3) := by decide +kernel
theorem dX10_tooThin_29 : decode cX10_tooThin 29 = .ok (.iconst 0, 1) := by decide +kernel
theorem dX10_tooThin_30 : decode cX10_tooThin 30 = .ok (.ireturn, 1) := by decide +kernel
theorem dX10_faultsOf_0 : decode cX10_faultsOf 0 = .ok (.aload_n 0, 1) := by decide +kernel
theorem dX10_faultsOf_1 : decode cX10_faultsOf 1 = .ok (.aload_n 0, 1) := by decide +kernel
theorem dX10_faultsOf_2 : decode cX10_faultsOf 2 = .ok (.iload_n 1, 1) := by decide +kernel
theorem dX10_faultsOf_3 : decode cX10_faultsOf 3 = .ok (.invokevirtual 78, 3) := by decide +kernel
theorem dX10_faultsOf_6 : decode cX10_faultsOf 6 = .ok (.ifCond .eq 7, 3) := by decide +kernel
theorem dX10_faultsOf_9 : decode cX10_faultsOf 9 = .ok (.iconst 0, 1) := by decide +kernel
theorem dX10_faultsOf_10 : decode cX10_faultsOf 10 = .ok (.goto 4, 3) := by decide +kernel
theorem dX10_faultsOf_13 : decode cX10_faultsOf 13 = .ok (.iconst 1, 1) := by decide +kernel
theorem dX10_faultsOf_14 : decode cX10_faultsOf 14 = .ok (.invokevirtual 72, 3) := by decide +kernel
theorem dX10_faultsOf_17 : decode cX10_faultsOf 17 = .ok (.ifCond .eq 11, 3) := by decide +kernel
theorem dX10_faultsOf_20 : decode cX10_faultsOf 20 = .ok (.aload_n 0, 1) := by decide +kernel
theorem dX10_faultsOf_21 : decode cX10_faultsOf 21 = .ok (.iload_n 1, 1) := by decide +kernel
theorem dX10_faultsOf_22 : decode cX10_faultsOf 22 = .ok (.invokevirtual 156, 3) := by decide +kernel
theorem dX10_faultsOf_25 : decode cX10_faultsOf 25 = .ok (.goto 4, 3) := by decide +kernel
theorem dX10_faultsOf_28 : decode cX10_faultsOf 28 = .ok (.iconst 0, 1) := by decide +kernel
theorem dX10_faultsOf_29 : decode cX10_faultsOf 29 = .ok (.ireturn, 1) := by decide +kernel
theorem dX10_isGood_0 : decode cX10_isGood 0 = .ok (.aload_n 0, 1) := by decide +kernel
theorem dX10_isGood_1 : decode cX10_isGood 1 = .ok (.aload_n 0, 1) := by decide +kernel
theorem dX10_isGood_2 : decode cX10_isGood 2 = .ok (.iload_n 1, 1) := by decide +kernel
theorem dX10_isGood_3 : decode cX10_isGood 3 = .ok (.invokevirtual 78, 3) := by decide +kernel
theorem dX10_isGood_6 : decode cX10_isGood 6 = .ok (.ifCond .eq 7, 3) := by decide +kernel
theorem dX10_isGood_9 : decode cX10_isGood 9 = .ok (.iconst 0, 1) := by decide +kernel
theorem dX10_isGood_10 : decode cX10_isGood 10 = .ok (.goto 4, 3) := by decide +kernel
theorem dX10_isGood_13 : decode cX10_isGood 13 = .ok (.iconst 1, 1) := by decide +kernel
theorem dX10_isGood_14 : decode cX10_isGood 14 = .ok (.invokevirtual 72, 3) := by decide +kernel
theorem dX10_isGood_17 : decode cX10_isGood 17 = .ok (.ifCond .eq 15, 3) := by decide +kernel
theorem dX10_isGood_20 : decode cX10_isGood 20 = .ok (.aload_n 0, 1) := by decide +kernel
theorem dX10_isGood_21 : decode cX10_isGood 21 = .ok (.iload_n 1, 1) := by decide +kernel
theorem dX10_isGood_22 : decode cX10_isGood 22 = .ok (.invokevirtual 156, 3) := by decide +kernel
theorem dX10_isGood_25 : decode cX10_isGood 25 = .ok (.ifCond .ne 7, 3) := by decide +kernel
theorem dX10_isGood_28 : decode cX10_isGood 28 = .ok (.iconst 1, 1) := by decide +kernel
theorem dX10_isGood_29 : decode cX10_isGood 29 = .ok (.goto 4, 3) := by decide +kernel
theorem dX10_isGood_32 : decode cX10_isGood 32 = .ok (.iconst 0, 1) := by decide +kernel
theorem dX10_isGood_33 : decode cX10_isGood 33 = .ok (.ireturn, 1) := by decide +kernel
theorem dX10_mostLike_0 : decode cX10_mostLike 0 = .ok (.aload_n 0, 1) := by decide +kernel
theorem dX10_mostLike_1 : decode cX10_mostLike 1 = .ok (.aload_n 0, 1) := by decide +kernel
theorem dX10_mostLike_2 : decode cX10_mostLike 2 = .ok (.iload_n 1, 1) := by decide +kernel
theorem dX10_mostLike_3 : decode cX10_mostLike 3 = .ok (.invokevirtual 78, 3) := by decide +kernel
theorem dX10_mostLike_6 : decode cX10_mostLike 6 = .ok (.ifCond .eq 7, 3) := by decide +kernel
theorem dX10_mostLike_9 : decode cX10_mostLike 9 = .ok (.iconst 0, 1) := by decide +kernel
theorem dX10_mostLike_10 : decode cX10_mostLike 10 = .ok (.goto 4, 3) := by decide +kernel
theorem dX10_mostLike_13 : decode cX10_mostLike 13 = .ok (.iconst 1, 1) := by decide +kernel
theorem dX10_mostLike_14 : decode cX10_mostLike 14 = .ok (.invokevirtual 72, 3) := by decide +kernel
theorem dX10_mostLike_17 : decode cX10_mostLike 17 = .ok (.ifCond .eq 11, 3) := by decide +kernel
theorem dX10_mostLike_20 : decode cX10_mostLike 20 = .ok (.aload_n 0, 1) := by decide +kernel
theorem dX10_mostLike_21 : decode cX10_mostLike 21 = .ok (.iload_n 1, 1) := by decide +kernel
theorem dX10_mostLike_22 : decode cX10_mostLike 22 = .ok (.invokevirtual 159, 3) := by decide +kernel
theorem dX10_mostLike_25 : decode cX10_mostLike 25 = .ok (.goto 4, 3) := by decide +kernel
theorem dX10_mostLike_28 : decode cX10_mostLike 28 = .ok (.iconst 0, 1) := by decide +kernel
theorem dX10_mostLike_29 : decode cX10_mostLike 29 = .ok (.ireturn, 1) := by decide +kernel
theorem dX10_bestCopy_0 : decode cX10_bestCopy 0 = .ok (.aload_n 0, 1) := by decide +kernel
theorem dX10_bestCopy_1 : decode cX10_bestCopy 1 = .ok (.aload_n 0, 1) := by decide +kernel
theorem dX10_bestCopy_2 : decode cX10_bestCopy 2 = .ok (.getfield 7, 3) := by decide +kernel
theorem dX10_bestCopy_5 : decode cX10_bestCopy 5 = .ok (.bipush 59, 2) := by decide +kernel
theorem dX10_bestCopy_7 : decode cX10_bestCopy 7 = .ok (.iaload, 1) := by decide +kernel
theorem dX10_bestCopy_8 : decode cX10_bestCopy 8 = .ok (.ifCond .le 7, 3) := by decide +kernel
theorem dX10_bestCopy_11 : decode cX10_bestCopy 11 = .ok (.iconst 0, 1) := by decide +kernel
theorem dX10_bestCopy_12 : decode cX10_bestCopy 12 = .ok (.goto 4, 3) := by decide +kernel
theorem dX10_bestCopy_15 : decode cX10_bestCopy 15 = .ok (.iconst 1, 1) := by decide +kernel
theorem dX10_bestCopy_16 : decode cX10_bestCopy 16 = .ok (.invokevirtual 72, 3) := by decide +kernel
theorem dX10_bestCopy_19 : decode cX10_bestCopy 19 = .ok (.ifCond .ne 5, 3) := by decide +kernel
theorem dX10_bestCopy_22 : decode cX10_bestCopy 22 = .ok (.iconst 0, 1) := by decide +kernel
theorem dX10_bestCopy_23 : decode cX10_bestCopy 23 = .ok (.ireturn, 1) := by decide +kernel
theorem dX10_bestCopy_24 : decode cX10_bestCopy 24 = .ok (.iconst 0, 1) := by decide +kernel
theorem dX10_bestCopy_25 : decode cX10_bestCopy 25 = .ok (.istore_n 1, 1) := by decide +kernel
theorem dX10_bestCopy_26 : decode cX10_bestCopy 26 = .ok (.iconst 1, 1) := by decide +kernel
theorem dX10_bestCopy_27 : decode cX10_bestCopy 27 = .ok (.istore_n 2, 1) := by decide +kernel
theorem dX10_bestCopy_28 : decode cX10_bestCopy 28 = .ok (.iload_n 2, 1) := by decide +kernel
theorem dX10_bestCopy_29 : decode cX10_bestCopy 29 = .ok (.aload_n 0, 1) := by decide +kernel
theorem dX10_bestCopy_30 : decode cX10_bestCopy 30 = .ok (.getfield 7, 3) := by decide +kernel
theorem dX10_bestCopy_33 : decode cX10_bestCopy 33 = .ok (.bipush 59, 2) := by decide +kernel
theorem dX10_bestCopy_35 : decode cX10_bestCopy 35 = .ok (.iaload, 1) := by decide +kernel
theorem dX10_bestCopy_36 : decode cX10_bestCopy 36 = .ok (.if_icmp .ge 62, 3) := by decide +kernel
theorem dX10_bestCopy_39 : decode cX10_bestCopy 39 = .ok (.aload_n 0, 1) := by decide +kernel
theorem dX10_bestCopy_40 : decode cX10_bestCopy 40 = .ok (.iload_n 2, 1) := by decide +kernel
theorem dX10_bestCopy_41 : decode cX10_bestCopy 41 = .ok (.invokevirtual 156, 3) := by decide +kernel
theorem dX10_bestCopy_44 : decode cX10_bestCopy 44 = .ok (.aload_n 0, 1) := by decide +kernel
theorem dX10_bestCopy_45 : decode cX10_bestCopy 45 = .ok (.iload_n 1, 1) := by decide +kernel
theorem dX10_bestCopy_46 : decode cX10_bestCopy 46 = .ok (.invokevirtual 156, 3) := by decide +kernel
theorem dX10_bestCopy_49 : decode cX10_bestCopy 49 = .ok (.isub, 1) := by decide +kernel
theorem dX10_bestCopy_50 : decode cX10_bestCopy 50 = .ok (.istore_n 3, 1) := by decide +kernel
theorem dX10_bestCopy_51 : decode cX10_bestCopy 51 = .ok (.iload_n 3, 1) := by decide +kernel
theorem dX10_bestCopy_52 : decode cX10_bestCopy 52 = .ok (.ifCond .lt 34, 3) := by decide +kernel
theorem dX10_bestCopy_55 : decode cX10_bestCopy 55 = .ok (.iload_n 3, 1) := by decide +kernel
theorem dX10_bestCopy_56 : decode cX10_bestCopy 56 = .ok (.ifCond .ne 34, 3) := by decide +kernel
theorem dX10_bestCopy_59 : decode cX10_bestCopy 59 = .ok (.aload_n 0, 1) := by decide +kernel
theorem dX10_bestCopy_60 : decode cX10_bestCopy 60 = .ok (.iload_n 2, 1) := by decide +kernel
theorem dX10_bestCopy_61 : decode cX10_bestCopy 61 = .ok (.aload_n 0, 1) := by decide +kernel
theorem dX10_bestCopy_62 : decode cX10_bestCopy 62 = .ok (.getfield 7, 3) := by decide +kernel
theorem dX10_bestCopy_65 : decode cX10_bestCopy 65 = .ok (.bipush 48, 2) := by decide +kernel
theorem dX10_bestCopy_67 : decode cX10_bestCopy 67 = .ok (.iaload, 1) := by decide +kernel
theorem dX10_bestCopy_68 : decode cX10_bestCopy 68 = .ok (.invokevirtual 150, 3) := by decide +kernel
theorem dX10_bestCopy_71 : decode cX10_bestCopy 71 = .ok (.aload_n 0, 1) := by decide +kernel
theorem dX10_bestCopy_72 : decode cX10_bestCopy 72 = .ok (.iload_n 1, 1) := by decide +kernel
theorem dX10_bestCopy_73 : decode cX10_bestCopy 73 = .ok (.aload_n 0, 1) := by decide +kernel
theorem dX10_bestCopy_74 : decode cX10_bestCopy 74 = .ok (.getfield 7, 3) := by decide +kernel
theorem dX10_bestCopy_77 : decode cX10_bestCopy 77 = .ok (.bipush 48, 2) := by decide +kernel
theorem dX10_bestCopy_79 : decode cX10_bestCopy 79 = .ok (.iaload, 1) := by decide +kernel
theorem dX10_bestCopy_80 : decode cX10_bestCopy 80 = .ok (.invokevirtual 150, 3) := by decide +kernel
theorem dX10_bestCopy_83 : decode cX10_bestCopy 83 = .ok (.if_icmp .ge 7, 3) := by decide +kernel
theorem dX10_bestCopy_86 : decode cX10_bestCopy 86 = .ok (.iload_n 2, 1) := by decide +kernel
theorem dX10_bestCopy_87 : decode cX10_bestCopy 87 = .ok (.goto 4, 3) := by decide +kernel
theorem dX10_bestCopy_90 : decode cX10_bestCopy 90 = .ok (.iload_n 1, 1) := by decide +kernel
theorem dX10_bestCopy_91 : decode cX10_bestCopy 91 = .ok (.istore_n 1, 1) := by decide +kernel
theorem dX10_bestCopy_92 : decode cX10_bestCopy 92 = .ok (.iinc 2 1, 3) := by decide +kernel
theorem dX10_bestCopy_95 : decode cX10_bestCopy 95 = .ok (.goto (-67), 3) := by decide +kernel
theorem dX10_bestCopy_98 : decode cX10_bestCopy 98 = .ok (.iload_n 1, 1) := by decide +kernel
theorem dX10_bestCopy_99 : decode cX10_bestCopy 99 = .ok (.ireturn, 1) := by decide +kernel
theorem dX10_isFinished_0 : decode cX10_isFinished 0 = .ok (.aload_n 0, 1) := by decide +kernel
theorem dX10_isFinished_1 : decode cX10_isFinished 1 = .ok (.aload_n 0, 1) := by decide +kernel
theorem dX10_isFinished_2 : decode cX10_isFinished 2 = .ok (.getfield 7, 3) := by decide +kernel
theorem dX10_isFinished_5 : decode cX10_isFinished 5 = .ok (.bipush 60, 2) := by decide +kernel
theorem dX10_isFinished_7 : decode cX10_isFinished 7 = .ok (.iaload, 1) := by decide +kernel
theorem dX10_isFinished_8 : decode cX10_isFinished 8 = .ok (.iconst (-1), 1) := by decide +kernel
theorem dX10_isFinished_9 : decode cX10_isFinished 9 = .ok (.if_icmp .eq 7, 3) := by decide +kernel
theorem dX10_isFinished_12 : decode cX10_isFinished 12 = .ok (.iconst 0, 1) := by decide +kernel
theorem dX10_isFinished_13 : decode cX10_isFinished 13 = .ok (.goto 4, 3) := by decide +kernel
theorem dX10_isFinished_16 : decode cX10_isFinished 16 = .ok (.iconst 1, 1) := by decide +kernel
theorem dX10_isFinished_17 : decode cX10_isFinished 17 = .ok (.invokevirtual 72, 3) := by decide +kernel
theorem dX10_isFinished_20 : decode cX10_isFinished 20 = .ok (.ifCond .eq 22, 3) := by decide +kernel
theorem dX10_isFinished_23 : decode cX10_isFinished 23 = .ok (.aload_n 0, 1) := by decide +kernel
theorem dX10_isFinished_24 : decode cX10_isFinished 24 = .ok (.iconst 0, 1) := by decide +kernel
theorem dX10_isFinished_25 : decode cX10_isFinished 25 = .ok (.aload_n 0, 1) := by decide +kernel
theorem dX10_isFinished_26 : decode cX10_isFinished 26 = .ok (.getfield 7, 3) := by decide +kernel
theorem dX10_isFinished_29 : decode cX10_isFinished 29 = .ok (.bipush 60, 2) := by decide +kernel
theorem dX10_isFinished_31 : decode cX10_isFinished 31 = .ok (.iaload, 1) := by decide +kernel
theorem dX10_isFinished_32 : decode cX10_isFinished 32 = .ok (.invokevirtual 88, 3) := by decide +kernel
theorem dX10_isFinished_35 : decode cX10_isFinished 35 = .ok (.ifCond .ne 7, 3) := by decide +kernel
theorem dX10_isFinished_38 : decode cX10_isFinished 38 = .ok (.iconst 1, 1) := by decide +kernel
theorem dX10_isFinished_39 : decode cX10_isFinished 39 = .ok (.goto 4, 3) := by decide +kernel
theorem dX10_isFinished_42 : decode cX10_isFinished 42 = .ok (.iconst 0, 1) := by decide +kernel
theorem dX10_isFinished_43 : decode cX10_isFinished 43 = .ok (.ireturn, 1) := by decide +kernel
theorem dX10_cutThen_0 : decode cX10_cutThen 0 = .ok (.aload_n 0, 1) := by decide +kernel
theorem dX10_cutThen_1 : decode cX10_cutThen 1 = .ok (.iconst 0, 1) := by decide +kernel
theorem dX10_cutThen_2 : decode cX10_cutThen 2 = .ok (.bipush 9, 2) := by decide +kernel
theorem dX10_cutThen_4 : decode cX10_cutThen 4 = .ok (.invokevirtual 62, 3) := by decide +kernel
theorem dX10_cutThen_7 : decode cX10_cutThen 7 = .ok (.aload_n 0, 1) := by decide +kernel
theorem dX10_cutThen_8 : decode cX10_cutThen 8 = .ok (.sipush 1404, 3) := by decide +kernel
theorem dX10_cutThen_11 : decode cX10_cutThen 11 = .ok (.invokevirtual 53, 3) := by decide +kernel
theorem dX10_cutThen_14 : decode cX10_cutThen 14 = .ok (.ireturn, 1) := by decide +kernel
theorem dX10_ifPassed_0 : decode cX10_ifPassed 0 = .ok (.aload_n 0, 1) := by decide +kernel
theorem dX10_ifPassed_1 : decode cX10_ifPassed 1 = .ok (.aload_n 0, 1) := by decide +kernel
theorem dX10_ifPassed_2 : decode cX10_ifPassed 2 = .ok (.invokevirtual 81, 3) := by decide +kernel
theorem dX10_ifPassed_5 : decode cX10_ifPassed 5 = .ok (.ifCond .eq 7, 3) := by decide +kernel
theorem dX10_ifPassed_8 : decode cX10_ifPassed 8 = .ok (.iconst 0, 1) := by decide +kernel
theorem dX10_ifPassed_9 : decode cX10_ifPassed 9 = .ok (.goto 4, 3) := by decide +kernel
theorem dX10_ifPassed_12 : decode cX10_ifPassed 12 = .ok (.iconst 1, 1) := by decide +kernel
theorem dX10_ifPassed_13 : decode cX10_ifPassed 13 = .ok (.invokevirtual 72, 3) := by decide +kernel
theorem dX10_ifPassed_16 : decode cX10_ifPassed 16 = .ok (.ifCond .eq 10, 3) := by decide +kernel
theorem dX10_ifPassed_19 : decode cX10_ifPassed 19 = .ok (.aload_n 0, 1) := by decide +kernel
theorem dX10_ifPassed_20 : decode cX10_ifPassed 20 = .ok (.invokevirtual 162, 3) := by decide +kernel
theorem dX10_ifPassed_23 : decode cX10_ifPassed 23 = .ok (.goto 4, 3) := by decide +kernel
theorem dX10_ifPassed_26 : decode cX10_ifPassed 26 = .ok (.iconst 0, 1) := by decide +kernel
theorem dX10_ifPassed_27 : decode cX10_ifPassed 27 = .ok (.ireturn, 1) := by decide +kernel
theorem dX10_canFinish_0 : decode cX10_canFinish 0 = .ok (.aload_n 0, 1) := by decide +kernel
theorem dX10_canFinish_1 : decode cX10_canFinish 1 = .ok (.getfield 7, 3) := by decide +kernel
theorem dX10_canFinish_4 : decode cX10_canFinish 4 = .ok (.bipush 60, 2) := by decide +kernel
theorem dX10_canFinish_6 : decode cX10_canFinish 6 = .ok (.iaload, 1) := by decide +kernel
theorem dX10_canFinish_7 : decode cX10_canFinish 7 = .ok (.iconst (-1), 1) := by decide +kernel
theorem dX10_canFinish_8 : decode cX10_canFinish 8 = .ok (.if_icmp .eq 17, 3) := by decide +kernel
theorem dX10_canFinish_11 : decode cX10_canFinish 11 = .ok (.aload_n 0, 1) := by decide +kernel
theorem dX10_canFinish_12 : decode cX10_canFinish 12 = .ok (.getfield 7, 3) := by decide +kernel
theorem dX10_canFinish_15 : decode cX10_canFinish 15 = .ok (.bipush 53, 2) := by decide +kernel
theorem dX10_canFinish_17 : decode cX10_canFinish 17 = .ok (.iaload, 1) := by decide +kernel
theorem dX10_canFinish_18 : decode cX10_canFinish 18 = .ok (.ifCond .le 7, 3) := by decide +kernel
theorem dX10_canFinish_21 : decode cX10_canFinish 21 = .ok (.iconst 1, 1) := by decide +kernel
theorem dX10_canFinish_22 : decode cX10_canFinish 22 = .ok (.goto 4, 3) := by decide +kernel
theorem dX10_canFinish_25 : decode cX10_canFinish 25 = .ok (.iconst 0, 1) := by decide +kernel
theorem dX10_canFinish_26 : decode cX10_canFinish 26 = .ok (.ireturn, 1) := by decide +kernel
theorem dX10_toFinish_0 : decode cX10_toFinish 0 = .ok (.aload_n 0, 1) := by decide +kernel
theorem dX10_toFinish_1 : decode cX10_toFinish 1 = .ok (.iconst 0, 1) := by decide +kernel
theorem dX10_toFinish_2 : decode cX10_toFinish 2 = .ok (.aload_n 0, 1) := by decide +kernel
theorem dX10_toFinish_3 : decode cX10_toFinish 3 = .ok (.getfield 7, 3) := by decide +kernel
theorem dX10_toFinish_6 : decode cX10_toFinish 6 = .ok (.bipush 60, 2) := by decide +kernel
theorem dX10_toFinish_8 : decode cX10_toFinish 8 = .ok (.iaload, 1) := by decide +kernel
theorem dX10_toFinish_9 : decode cX10_toFinish 9 = .ok (.invokevirtual 88, 3) := by decide +kernel
theorem dX10_toFinish_12 : decode cX10_toFinish 12 = .ok (.aload_n 0, 1) := by decide +kernel
theorem dX10_toFinish_13 : decode cX10_toFinish 13 = .ok (.iconst 0, 1) := by decide +kernel
theorem dX10_toFinish_14 : decode cX10_toFinish 14 = .ok (.invokevirtual 45, 3) := by decide +kernel
theorem dX10_toFinish_17 : decode cX10_toFinish 17 = .ok (.iadd, 1) := by decide +kernel
theorem dX10_toFinish_18 : decode cX10_toFinish 18 = .ok (.iconst 1, 1) := by decide +kernel
theorem dX10_toFinish_19 : decode cX10_toFinish 19 = .ok (.isub, 1) := by decide +kernel
theorem dX10_toFinish_20 : decode cX10_toFinish 20 = .ok (.aload_n 0, 1) := by decide +kernel
theorem dX10_toFinish_21 : decode cX10_toFinish 21 = .ok (.iconst 0, 1) := by decide +kernel
theorem dX10_toFinish_22 : decode cX10_toFinish 22 = .ok (.invokevirtual 45, 3) := by decide +kernel
theorem dX10_toFinish_25 : decode cX10_toFinish 25 = .ok (.idiv, 1) := by decide +kernel
theorem dX10_toFinish_26 : decode cX10_toFinish 26 = .ok (.ireturn, 1) := by decide +kernel
theorem dX10_passesBySteps_0 : decode cX10_passesBySteps 0 = .ok (.aload_n 0, 1) := by decide +kernel
theorem dX10_passesBySteps_1 : decode cX10_passesBySteps 1 = .ok (.aload_n 0, 1) := by decide +kernel
theorem dX10_passesBySteps_2 : decode cX10_passesBySteps 2 = .ok (.invokevirtual 165, 3) := by decide +kernel
theorem dX10_passesBySteps_5 : decode cX10_passesBySteps 5 = .ok (.ifCond .eq 7, 3) := by decide +kernel
theorem dX10_passesBySteps_8 : decode cX10_passesBySteps 8 = .ok (.iconst 0, 1) := by decide +kernel
theorem dX10_passesBySteps_9 : decode cX10_passesBySteps 9 = .ok (.goto 4, 3) := by decide +kernel
theorem dX10_passesBySteps_12 : decode cX10_passesBySteps 12 = .ok (.iconst 1, 1) := by decide +kernel
theorem dX10_passesBySteps_13 : decode cX10_passesBySteps 13 = .ok (.invokevirtual 72, 3) := by decide +kernel
theorem dX10_passesBySteps_16 : decode cX10_passesBySteps 16 = .ok (.ifCond .eq 10, 3) := by decide +kernel
theorem dX10_passesBySteps_19 : decode cX10_passesBySteps 19 = .ok (.aload_n 0, 1) := by decide +kernel
theorem dX10_passesBySteps_20 : decode cX10_passesBySteps 20 = .ok (.invokevirtual 168, 3) := by decide +kernel
theorem dX10_passesBySteps_23 : decode cX10_passesBySteps 23 = .ok (.goto 4, 3) := by decide +kernel
theorem dX10_passesBySteps_26 : decode cX10_passesBySteps 26 = .ok (.iconst 0, 1) := by decide +kernel
theorem dX10_passesBySteps_27 : decode cX10_passesBySteps 27 = .ok (.ireturn, 1) := by decide +kernel
theorem dX10_passesByDivision_0 : decode cX10_passesByDivision 0 = .ok (.aload_n 0, 1) := by decide +kernel
theorem dX10_passesByDivision_1 : decode cX10_passesByDivision 1 = .ok (.aload_n 0, 1) := by decide +kernel
theorem dX10_passesByDivision_2 : decode cX10_passesByDivision 2 = .ok (.invokevirtual 165, 3) := by decide +kernel
theorem dX10_passesByDivision_5 : decode cX10_passesByDivision 5 = .ok (.ifCond .eq 7, 3) := by decide +kernel
theorem dX10_passesByDivision_8 : decode cX10_passesByDivision 8 = .ok (.iconst 0, 1) := by decide +kernel
theorem dX10_passesByDivision_9 : decode cX10_passesByDivision 9 = .ok (.goto 4, 3) := by decide +kernel
theorem dX10_passesByDivision_12 : decode cX10_passesByDivision 12 = .ok (.iconst 1, 1) := by decide +kernel
theorem dX10_passesByDivision_13 : decode cX10_passesByDivision 13 = .ok (.invokevirtual 72, 3) := by decide +kernel
theorem dX10_passesByDivision_16 : decode cX10_passesByDivision 16 = .ok (.ifCond .eq 10, 3) := by decide +kernel
theorem dX10_passesByDivision_19 : decode cX10_passesByDivision 19 = .ok (.aload_n 0, 1) := by decide +kernel
theorem dX10_passesByDivision_20 : decode cX10_passesByDivision 20 = .ok (.invokevirtual 168, 3) := by decide +kernel
theorem dX10_passesByDivision_23 : decode cX10_passesByDivision 23 = .ok (.goto 4, 3) := by decide +kernel
theorem dX10_passesByDivision_26 : decode cX10_passesByDivision 26 = .ok (.iconst 0, 1) := by decide +kernel
theorem dX10_passesByDivision_27 : decode cX10_passesByDivision 27 = .ok (.ireturn, 1) := by decide +kernel
theorem dX10_toBlunt_0 : decode cX10_toBlunt 0 = .ok (.aload_n 0, 1) := by decide +kernel
theorem dX10_toBlunt_1 : decode cX10_toBlunt 1 = .ok (.iconst 0, 1) := by decide +kernel
theorem dX10_toBlunt_2 : decode cX10_toBlunt 2 = .ok (.aload_n 0, 1) := by decide +kernel
theorem dX10_toBlunt_3 : decode cX10_toBlunt 3 = .ok (.getfield 7, 3) := by decide +kernel
theorem dX10_toBlunt_6 : decode cX10_toBlunt 6 = .ok (.bipush 60, 2) := by decide +kernel
theorem dX10_toBlunt_8 : decode cX10_toBlunt 8 = .ok (.iaload, 1) := by decide +kernel
theorem dX10_toBlunt_9 : decode cX10_toBlunt 9 = .ok (.iconst 0, 1) := by decide +kernel
theorem dX10_toBlunt_10 : decode cX10_toBlunt 10 = .ok (.invokevirtual 35, 3) := by decide +kernel
theorem dX10_toBlunt_13 : decode cX10_toBlunt 13 = .ok (.invokestatic 56, 3) := by decide +kernel
theorem dX10_toBlunt_16 : decode cX10_toBlunt 16 = .ok (.aload_n 0, 1) := by decide +kernel
theorem dX10_toBlunt_17 : decode cX10_toBlunt 17 = .ok (.getfield 7, 3) := by decide +kernel
theorem dX10_toBlunt_20 : decode cX10_toBlunt 20 = .ok (.bipush 55, 2) := by decide +kernel
theorem dX10_toBlunt_22 : decode cX10_toBlunt 22 = .ok (.iaload, 1) := by decide +kernel
theorem dX10_toBlunt_23 : decode cX10_toBlunt 23 = .ok (.imul, 1) := by decide +kernel
theorem dX10_toBlunt_24 : decode cX10_toBlunt 24 = .ok (.istore_n 1, 1) := by decide +kernel
theorem dX10_toBlunt_25 : decode cX10_toBlunt 25 = .ok (.aload_n 0, 1) := by decide +kernel
theorem dX10_toBlunt_26 : decode cX10_toBlunt 26 = .ok (.getfield 7, 3) := by decide +kernel
theorem dX10_toBlunt_29 : decode cX10_toBlunt 29 = .ok (.bipush 53, 2) := by decide +kernel
theorem dX10_toBlunt_31 : decode cX10_toBlunt 31 = .ok (.iaload, 1) := by decide +kernel
theorem dX10_toBlunt_32 : decode cX10_toBlunt 32 = .ok (.iload_n 1, 1) := by decide +kernel
theorem dX10_toBlunt_33 : decode cX10_toBlunt 33 = .ok (.iadd, 1) := by decide +kernel
theorem dX10_toBlunt_34 : decode cX10_toBlunt 34 = .ok (.iconst 1, 1) := by decide +kernel
theorem dX10_toBlunt_35 : decode cX10_toBlunt 35 = .ok (.isub, 1) := by decide +kernel
theorem dX10_toBlunt_36 : decode cX10_toBlunt 36 = .ok (.iload_n 1, 1) := by decide +kernel
theorem dX10_toBlunt_37 : decode cX10_toBlunt 37 = .ok (.idiv, 1) := by decide +kernel
theorem dX10_toBlunt_38 : decode cX10_toBlunt 38 = .ok (.ireturn, 1) := by decide +kernel
theorem dX10_passesUntilBlunt_0 : decode cX10_passesUntilBlunt 0 = .ok (.aload_n 0, 1) := by decide +kernel
theorem dX10_passesUntilBlunt_1 : decode cX10_passesUntilBlunt 1 = .ok (.aload_n 0, 1) := by decide +kernel
theorem dX10_passesUntilBlunt_2 : decode cX10_passesUntilBlunt 2 = .ok (.getfield 7, 3) := by decide +kernel
theorem dX10_passesUntilBlunt_5 : decode cX10_passesUntilBlunt 5 = .ok (.bipush 60, 2) := by decide +kernel
theorem dX10_passesUntilBlunt_7 : decode cX10_passesUntilBlunt 7 = .ok (.iaload, 1) := by decide +kernel
theorem dX10_passesUntilBlunt_8 : decode cX10_passesUntilBlunt 8 = .ok (.iconst (-1), 1) := by decide +kernel
theorem dX10_passesUntilBlunt_9 : decode cX10_passesUntilBlunt 9 = .ok (.if_icmp .eq 7, 3) := by decide +kernel
theorem dX10_passesUntilBlunt_12 : decode cX10_passesUntilBlunt 12 = .ok (.iconst 0, 1) := by decide +kernel
theorem dX10_passesUntilBlunt_13 : decode cX10_passesUntilBlunt 13 = .ok (.goto 4, 3) := by decide +kernel
theorem dX10_passesUntilBlunt_16 : decode cX10_passesUntilBlunt 16 = .ok (.iconst 1, 1) := by decide +kernel
theorem dX10_passesUntilBlunt_17 : decode cX10_passesUntilBlunt 17 = .ok (.invokevirtual 72, 3) := by decide +kernel
theorem dX10_passesUntilBlunt_20 : decode cX10_passesUntilBlunt 20 = .ok (.ifCond .eq 10, 3) := by decide +kernel
theorem dX10_passesUntilBlunt_23 : decode cX10_passesUntilBlunt 23 = .ok (.aload_n 0, 1) := by decide +kernel
theorem dX10_passesUntilBlunt_24 : decode cX10_passesUntilBlunt 24 = .ok (.invokevirtual 171, 3) := by decide +kernel
theorem dX10_passesUntilBlunt_27 : decode cX10_passesUntilBlunt 27 = .ok (.goto 4, 3) := by decide +kernel
theorem dX10_passesUntilBlunt_30 : decode cX10_passesUntilBlunt 30 = .ok (.iconst 0, 1) := by decide +kernel
theorem dX10_passesUntilBlunt_31 : decode cX10_passesUntilBlunt 31 = .ok (.ireturn, 1) := by decide +kernel
theorem dX10_allAbove_0 : decode cX10_allAbove 0 = .ok (.iconst 0, 1) := by decide +kernel
theorem dX10_allAbove_1 : decode cX10_allAbove 1 = .ok (.istore_n 2, 1) := by decide +kernel
theorem dX10_allAbove_2 : decode cX10_allAbove 2 = .ok (.iconst 0, 1) := by decide +kernel
theorem dX10_allAbove_3 : decode cX10_allAbove 3 = .ok (.istore_n 3, 1) := by decide +kernel
theorem dX10_allAbove_4 : decode cX10_allAbove 4 = .ok (.iload_n 3, 1) := by decide +kernel
theorem dX10_allAbove_5 : decode cX10_allAbove 5 = .ok (.bipush 16, 2) := by decide +kernel
theorem dX10_allAbove_7 : decode cX10_allAbove 7 = .ok (.if_icmp .ge 19, 3) := by decide +kernel
theorem dX10_allAbove_10 : decode cX10_allAbove 10 = .ok (.iload_n 2, 1) := by decide +kernel
theorem dX10_allAbove_11 : decode cX10_allAbove 11 = .ok (.aload_n 0, 1) := by decide +kernel
theorem dX10_allAbove_12 : decode cX10_allAbove 12 = .ok (.iconst 0, 1) := by decide +kernel
theorem dX10_allAbove_13 : decode cX10_allAbove 13 = .ok (.iload_n 1, 1) := by decide +kernel
theorem dX10_allAbove_14 : decode cX10_allAbove 14 = .ok (.iload_n 3, 1) := by decide +kernel
theorem dX10_allAbove_15 : decode cX10_allAbove 15 = .ok (.invokevirtual 42, 3) := by decide +kernel
theorem dX10_allAbove_18 : decode cX10_allAbove 18 = .ok (.iadd, 1) := by decide +kernel
theorem dX10_allAbove_19 : decode cX10_allAbove 19 = .ok (.istore_n 2, 1) := by decide +kernel
theorem dX10_allAbove_20 : decode cX10_allAbove 20 = .ok (.iinc 3 1, 3) := by decide +kernel
theorem dX10_allAbove_23 : decode cX10_allAbove 23 = .ok (.goto (-19), 3) := by decide +kernel
theorem dX10_allAbove_26 : decode cX10_allAbove 26 = .ok (.iload_n 2, 1) := by decide +kernel
theorem dX10_allAbove_27 : decode cX10_allAbove 27 = .ok (.ireturn, 1) := by decide +kernel
theorem dX10_chipsOf_0 : decode cX10_chipsOf 0 = .ok (.aload_n 0, 1) := by decide +kernel
theorem dX10_chipsOf_1 : decode cX10_chipsOf 1 = .ok (.aload_n 0, 1) := by decide +kernel
theorem dX10_chipsOf_2 : decode cX10_chipsOf 2 = .ok (.iload_n 1, 1) := by decide +kernel
theorem dX10_chipsOf_3 : decode cX10_chipsOf 3 = .ok (.invokevirtual 78, 3) := by decide +kernel
theorem dX10_chipsOf_6 : decode cX10_chipsOf 6 = .ok (.ifCond .eq 7, 3) := by decide +kernel
theorem dX10_chipsOf_9 : decode cX10_chipsOf 9 = .ok (.iconst 0, 1) := by decide +kernel
theorem dX10_chipsOf_10 : decode cX10_chipsOf 10 = .ok (.goto 4, 3) := by decide +kernel
theorem dX10_chipsOf_13 : decode cX10_chipsOf 13 = .ok (.iconst 1, 1) := by decide +kernel
theorem dX10_chipsOf_14 : decode cX10_chipsOf 14 = .ok (.invokevirtual 72, 3) := by decide +kernel
theorem dX10_chipsOf_17 : decode cX10_chipsOf 17 = .ok (.ifCond .eq 11, 3) := by decide +kernel
theorem dX10_chipsOf_20 : decode cX10_chipsOf 20 = .ok (.aload_n 0, 1) := by decide +kernel
theorem dX10_chipsOf_21 : decode cX10_chipsOf 21 = .ok (.iload_n 1, 1) := by decide +kernel
theorem dX10_chipsOf_22 : decode cX10_chipsOf 22 = .ok (.invokevirtual 174, 3) := by decide +kernel
theorem dX10_chipsOf_25 : decode cX10_chipsOf 25 = .ok (.goto 4, 3) := by decide +kernel
theorem dX10_chipsOf_28 : decode cX10_chipsOf 28 = .ok (.iconst 0, 1) := by decide +kernel
theorem dX10_chipsOf_29 : decode cX10_chipsOf 29 = .ok (.ireturn, 1) := by decide +kernel
theorem dX10_meanDiameter_0 : decode cX10_meanDiameter 0 = .ok (.aload_n 0, 1) := by decide +kernel
theorem dX10_meanDiameter_1 : decode cX10_meanDiameter 1 = .ok (.aload_n 0, 1) := by decide +kernel
theorem dX10_meanDiameter_2 : decode cX10_meanDiameter 2 = .ok (.iload_n 1, 1) := by decide +kernel
theorem dX10_meanDiameter_3 : decode cX10_meanDiameter 3 = .ok (.invokevirtual 78, 3) := by decide +kernel
theorem dX10_meanDiameter_6 : decode cX10_meanDiameter 6 = .ok (.ifCond .eq 7, 3) := by decide +kernel
theorem dX10_meanDiameter_9 : decode cX10_meanDiameter 9 = .ok (.iconst 0, 1) := by decide +kernel
theorem dX10_meanDiameter_10 : decode cX10_meanDiameter 10 = .ok (.goto 4, 3) := by decide +kernel
theorem dX10_meanDiameter_13 : decode cX10_meanDiameter 13 = .ok (.iconst 1, 1) := by decide +kernel
theorem dX10_meanDiameter_14 : decode cX10_meanDiameter 14 = .ok (.invokevirtual 72, 3) := by decide +kernel
theorem dX10_meanDiameter_17 : decode cX10_meanDiameter 17 = .ok (.ifCond .eq 16, 3) := by decide +kernel
theorem dX10_meanDiameter_20 : decode cX10_meanDiameter 20 = .ok (.aload_n 0, 1) := by decide +kernel
theorem dX10_meanDiameter_21 : decode cX10_meanDiameter 21 = .ok (.iload_n 1, 1) := by decide +kernel
theorem dX10_meanDiameter_22 : decode cX10_meanDiameter 22 = .ok (.invokevirtual 135, 3) := by decide +kernel
theorem dX10_meanDiameter_25 : decode cX10_meanDiameter 25 = .ok (.i2d, 1) := by decide +kernel
theorem dX10_meanDiameter_26 : decode cX10_meanDiameter 26 = .ok (.ldc2_w 177, 3) := by decide +kernel
theorem dX10_meanDiameter_29 : decode cX10_meanDiameter 29 = .ok (.ddiv, 1) := by decide +kernel
theorem dX10_meanDiameter_30 : decode cX10_meanDiameter 30 = .ok (.goto 4, 3) := by decide +kernel
theorem dX10_meanDiameter_33 : decode cX10_meanDiameter 33 = .ok (.dconst 0, 1) := by decide +kernel
theorem dX10_meanDiameter_34 : decode cX10_meanDiameter 34 = .ok (.dreturn, 1) := by decide +kernel
theorem dX10_mix_0 : decode cX10_mix 0 = .ok (.aload_n 0, 1) := by decide +kernel
theorem dX10_mix_1 : decode cX10_mix 1 = .ok (.ldc2_w 179, 3) := by decide +kernel
theorem dX10_mix_4 : decode cX10_mix 4 = .ok (.aload_n 0, 1) := by decide +kernel
theorem dX10_mix_5 : decode cX10_mix 5 = .ok (.getfield 181, 3) := by decide +kernel
theorem dX10_mix_8 : decode cX10_mix 8 = .ok (.lmul, 1) := by decide +kernel
theorem dX10_mix_9 : decode cX10_mix 9 = .ok (.lload_n 1, 1) := by decide +kernel
theorem dX10_mix_10 : decode cX10_mix 10 = .ok (.ladd, 1) := by decide +kernel
theorem dX10_mix_11 : decode cX10_mix 11 = .ok (.putfield 181, 3) := by decide +kernel
theorem dX10_mix_14 : decode cX10_mix 14 = .ok (.return_, 1) := by decide +kernel
theorem dX10_doubleBits_0 : decode cX10_doubleBits 0 = .ok (.dload_n 0, 1) := by decide +kernel
theorem dX10_doubleBits_1 : decode cX10_doubleBits 1 = .ok (.dstore_n 2, 1) := by decide +kernel
theorem dX10_doubleBits_2 : decode cX10_doubleBits 2 = .ok (.ldc2_w 185, 3) := by decide +kernel
theorem dX10_doubleBits_5 : decode cX10_doubleBits 5 = .ok (.lstore 4, 2) := by decide +kernel
theorem dX10_doubleBits_7 : decode cX10_doubleBits 7 = .ok (.dload_n 2, 1) := by decide +kernel
theorem dX10_doubleBits_8 : decode cX10_doubleBits 8 = .ok (.ldc2_w 187, 3) := by decide +kernel
theorem dX10_doubleBits_11 : decode cX10_doubleBits 11 = .ok (.dcmp .l, 1) := by decide +kernel
theorem dX10_doubleBits_12 : decode cX10_doubleBits 12 = .ok (.ifCond .lt 18, 3) := by decide +kernel
theorem dX10_doubleBits_15 : decode cX10_doubleBits 15 = .ok (.dload_n 2, 1) := by decide +kernel
theorem dX10_doubleBits_16 : decode cX10_doubleBits 16 = .ok (.ldc2_w 187, 3) := by decide +kernel
theorem dX10_doubleBits_19 : decode cX10_doubleBits 19 = .ok (.ddiv, 1) := by decide +kernel
theorem dX10_doubleBits_20 : decode cX10_doubleBits 20 = .ok (.dstore_n 2, 1) := by decide +kernel
theorem dX10_doubleBits_21 : decode cX10_doubleBits 21 = .ok (.lload 4, 2) := by decide +kernel
theorem dX10_doubleBits_23 : decode cX10_doubleBits 23 = .ok (.lconst 1, 1) := by decide +kernel
theorem dX10_doubleBits_24 : decode cX10_doubleBits 24 = .ok (.ladd, 1) := by decide +kernel
theorem dX10_doubleBits_25 : decode cX10_doubleBits 25 = .ok (.lstore 4, 2) := by decide +kernel
theorem dX10_doubleBits_27 : decode cX10_doubleBits 27 = .ok (.goto (-20), 3) := by decide +kernel
theorem dX10_doubleBits_30 : decode cX10_doubleBits 30 = .ok (.lload 4, 2) := by decide +kernel
theorem dX10_doubleBits_32 : decode cX10_doubleBits 32 = .ok (.ldc2_w 189, 3) := by decide +kernel
theorem dX10_doubleBits_35 : decode cX10_doubleBits 35 = .ok (.lmul, 1) := by decide +kernel
theorem dX10_doubleBits_36 : decode cX10_doubleBits 36 = .ok (.dload_n 2, 1) := by decide +kernel
theorem dX10_doubleBits_37 : decode cX10_doubleBits 37 = .ok (.dconst 1, 1) := by decide +kernel
theorem dX10_doubleBits_38 : decode cX10_doubleBits 38 = .ok (.dsub, 1) := by decide +kernel
theorem dX10_doubleBits_39 : decode cX10_doubleBits 39 = .ok (.ldc2_w 191, 3) := by decide +kernel
theorem dX10_doubleBits_42 : decode cX10_doubleBits 42 = .ok (.dmul, 1) := by decide +kernel
theorem dX10_doubleBits_43 : decode cX10_doubleBits 43 = .ok (.d2l, 1) := by decide +kernel
theorem dX10_doubleBits_44 : decode cX10_doubleBits 44 = .ok (.ladd, 1) := by decide +kernel
theorem dX10_doubleBits_45 : decode cX10_doubleBits 45 = .ok (.lreturn, 1) := by decide +kernel
theorem dX10_mixLathe_0 : decode cX10_mixLathe 0 = .ok (.iconst 0, 1) := by decide +kernel
theorem dX10_mixLathe_1 : decode cX10_mixLathe 1 = .ok (.istore_n 1, 1) := by decide +kernel
theorem dX10_mixLathe_2 : decode cX10_mixLathe 2 = .ok (.iload_n 1, 1) := by decide +kernel
theorem dX10_mixLathe_3 : decode cX10_mixLathe 3 = .ok (.bipush 48, 2) := by decide +kernel
theorem dX10_mixLathe_5 : decode cX10_mixLathe 5 = .ok (.if_icmp .ge 20, 3) := by decide +kernel
theorem dX10_mixLathe_8 : decode cX10_mixLathe 8 = .ok (.aload_n 0, 1) := by decide +kernel
theorem dX10_mixLathe_9 : decode cX10_mixLathe 9 = .ok (.aload_n 0, 1) := by decide +kernel
theorem dX10_mixLathe_10 : decode cX10_mixLathe 10 = .ok (.getfield 7, 3) := by decide +kernel
theorem dX10_mixLathe_13 : decode cX10_mixLathe 13 = .ok (.iload_n 1, 1) := by decide +kernel
theorem dX10_mixLathe_14 : decode cX10_mixLathe 14 = .ok (.iaload, 1) := by decide +kernel
theorem dX10_mixLathe_15 : decode cX10_mixLathe 15 = .ok (.i2l, 1) := by decide +kernel
theorem dX10_mixLathe_16 : decode cX10_mixLathe 16 = .ok (.invokevirtual 193, 3) := by decide +kernel
theorem dX10_mixLathe_19 : decode cX10_mixLathe 19 = .ok (.iinc 1 1, 3) := by decide +kernel
theorem dX10_mixLathe_22 : decode cX10_mixLathe 22 = .ok (.goto (-20), 3) := by decide +kernel
theorem dX10_mixLathe_25 : decode cX10_mixLathe 25 = .ok (.aload_n 0, 1) := by decide +kernel
theorem dX10_mixLathe_26 : decode cX10_mixLathe 26 = .ok (.aload_n 0, 1) := by decide +kernel
theorem dX10_mixLathe_27 : decode cX10_mixLathe 27 = .ok (.getfield 7, 3) := by decide +kernel
theorem dX10_mixLathe_30 : decode cX10_mixLathe 30 = .ok (.bipush 48, 2) := by decide +kernel
theorem dX10_mixLathe_32 : decode cX10_mixLathe 32 = .ok (.iaload, 1) := by decide +kernel
theorem dX10_mixLathe_33 : decode cX10_mixLathe 33 = .ok (.i2l, 1) := by decide +kernel
theorem dX10_mixLathe_34 : decode cX10_mixLathe 34 = .ok (.invokevirtual 193, 3) := by decide +kernel
theorem dX10_mixLathe_37 : decode cX10_mixLathe 37 = .ok (.aload_n 0, 1) := by decide +kernel
theorem dX10_mixLathe_38 : decode cX10_mixLathe 38 = .ok (.aload_n 0, 1) := by decide +kernel
theorem dX10_mixLathe_39 : decode cX10_mixLathe 39 = .ok (.getfield 7, 3) := by decide +kernel
theorem dX10_mixLathe_42 : decode cX10_mixLathe 42 = .ok (.bipush 49, 2) := by decide +kernel
theorem dX10_mixLathe_44 : decode cX10_mixLathe 44 = .ok (.iaload, 1) := by decide +kernel
theorem dX10_mixLathe_45 : decode cX10_mixLathe 45 = .ok (.i2l, 1) := by decide +kernel
theorem dX10_mixLathe_46 : decode cX10_mixLathe 46 = .ok (.invokevirtual 193, 3) := by decide +kernel
theorem dX10_mixLathe_49 : decode cX10_mixLathe 49 = .ok (.aload_n 0, 1) := by decide +kernel
theorem dX10_mixLathe_50 : decode cX10_mixLathe 50 = .ok (.aload_n 0, 1) := by decide +kernel
theorem dX10_mixLathe_51 : decode cX10_mixLathe 51 = .ok (.getfield 7, 3) := by decide +kernel
theorem dX10_mixLathe_54 : decode cX10_mixLathe 54 = .ok (.bipush 50, 2) := by decide +kernel
theorem dX10_mixLathe_56 : decode cX10_mixLathe 56 = .ok (.iaload, 1) := by decide +kernel
theorem dX10_mixLathe_57 : decode cX10_mixLathe 57 = .ok (.i2l, 1) := by decide +kernel
theorem dX10_mixLathe_58 : decode cX10_mixLathe 58 = .ok (.invokevirtual 193, 3) := by decide +kernel
theorem dX10_mixLathe_61 : decode cX10_mixLathe 61 = .ok (.aload_n 0, 1) := by decide +kernel
theorem dX10_mixLathe_62 : decode cX10_mixLathe 62 = .ok (.aload_n 0, 1) := by decide +kernel
theorem dX10_mixLathe_63 : decode cX10_mixLathe 63 = .ok (.getfield 7, 3) := by decide +kernel
theorem dX10_mixLathe_66 : decode cX10_mixLathe 66 = .ok (.bipush 52, 2) := by decide +kernel
theorem dX10_mixLathe_68 : decode cX10_mixLathe 68 = .ok (.iaload, 1) := by decide +kernel
theorem dX10_mixLathe_69 : decode cX10_mixLathe 69 = .ok (.i2l, 1) := by decide +kernel
theorem dX10_mixLathe_70 : decode cX10_mixLathe 70 = .ok (.invokevirtual 193, 3) := by decide +kernel
theorem dX10_mixLathe_73 : decode cX10_mixLathe 73 = .ok (.aload_n 0, 1) := by decide +kernel
theorem dX10_mixLathe_74 : decode cX10_mixLathe 74 = .ok (.aload_n 0, 1) := by decide +kernel
theorem dX10_mixLathe_75 : decode cX10_mixLathe 75 = .ok (.getfield 7, 3) := by decide +kernel
theorem dX10_mixLathe_78 : decode cX10_mixLathe 78 = .ok (.bipush 53, 2) := by decide +kernel
theorem dX10_mixLathe_80 : decode cX10_mixLathe 80 = .ok (.iaload, 1) := by decide +kernel
theorem dX10_mixLathe_81 : decode cX10_mixLathe 81 = .ok (.i2l, 1) := by decide +kernel
theorem dX10_mixLathe_82 : decode cX10_mixLathe 82 = .ok (.invokevirtual 193, 3) := by decide +kernel
theorem dX10_mixLathe_85 : decode cX10_mixLathe 85 = .ok (.aload_n 0, 1) := by decide +kernel
theorem dX10_mixLathe_86 : decode cX10_mixLathe 86 = .ok (.aload_n 0, 1) := by decide +kernel
theorem dX10_mixLathe_87 : decode cX10_mixLathe 87 = .ok (.getfield 7, 3) := by decide +kernel
theorem dX10_mixLathe_90 : decode cX10_mixLathe 90 = .ok (.bipush 54, 2) := by decide +kernel
theorem dX10_mixLathe_92 : decode cX10_mixLathe 92 = .ok (.iaload, 1) := by decide +kernel
theorem dX10_mixLathe_93 : decode cX10_mixLathe 93 = .ok (.i2l, 1) := by decide +kernel
theorem dX10_mixLathe_94 : decode cX10_mixLathe 94 = .ok (.invokevirtual 193, 3) := by decide +kernel
theorem dX10_mixLathe_97 : decode cX10_mixLathe 97 = .ok (.aload_n 0, 1) := by decide +kernel
theorem dX10_mixLathe_98 : decode cX10_mixLathe 98 = .ok (.aload_n 0, 1) := by decide +kernel
theorem dX10_mixLathe_99 : decode cX10_mixLathe 99 = .ok (.iconst 0, 1) := by decide +kernel
theorem dX10_mixLathe_100 : decode cX10_mixLathe 100 = .ok (.invokevirtual 45, 3) := by decide +kernel
theorem dX10_mixLathe_103 : decode cX10_mixLathe 103 = .ok (.i2l, 1) := by decide +kernel
theorem dX10_mixLathe_104 : decode cX10_mixLathe 104 = .ok (.invokevirtual 193, 3) := by decide +kernel
theorem dX10_mixLathe_107 : decode cX10_mixLathe 107 = .ok (.aload_n 0, 1) := by decide +kernel
theorem dX10_mixLathe_108 : decode cX10_mixLathe 108 = .ok (.aload_n 0, 1) := by decide +kernel
theorem dX10_mixLathe_109 : decode cX10_mixLathe 109 = .ok (.getfield 7, 3) := by decide +kernel
theorem dX10_mixLathe_112 : decode cX10_mixLathe 112 = .ok (.bipush 55, 2) := by decide +kernel
theorem dX10_mixLathe_114 : decode cX10_mixLathe 114 = .ok (.iaload, 1) := by decide +kernel
theorem dX10_mixLathe_115 : decode cX10_mixLathe 115 = .ok (.i2l, 1) := by decide +kernel
theorem dX10_mixLathe_116 : decode cX10_mixLathe 116 = .ok (.invokevirtual 193, 3) := by decide +kernel
theorem dX10_mixLathe_119 : decode cX10_mixLathe 119 = .ok (.aload_n 0, 1) := by decide +kernel
theorem dX10_mixLathe_120 : decode cX10_mixLathe 120 = .ok (.aload_n 0, 1) := by decide +kernel
theorem dX10_mixLathe_121 : decode cX10_mixLathe 121 = .ok (.getfield 7, 3) := by decide +kernel
theorem dX10_mixLathe_124 : decode cX10_mixLathe 124 = .ok (.bipush 56, 2) := by decide +kernel
theorem dX10_mixLathe_126 : decode cX10_mixLathe 126 = .ok (.iaload, 1) := by decide +kernel
theorem dX10_mixLathe_127 : decode cX10_mixLathe 127 = .ok (.i2l, 1) := by decide +kernel
theorem dX10_mixLathe_128 : decode cX10_mixLathe 128 = .ok (.invokevirtual 193, 3) := by decide +kernel
theorem dX10_mixLathe_131 : decode cX10_mixLathe 131 = .ok (.aload_n 0, 1) := by decide +kernel
theorem dX10_mixLathe_132 : decode cX10_mixLathe 132 = .ok (.aload_n 0, 1) := by decide +kernel
theorem dX10_mixLathe_133 : decode cX10_mixLathe 133 = .ok (.getfield 7, 3) := by decide +kernel
theorem dX10_mixLathe_136 : decode cX10_mixLathe 136 = .ok (.bipush 57, 2) := by decide +kernel
theorem dX10_mixLathe_138 : decode cX10_mixLathe 138 = .ok (.iaload, 1) := by decide +kernel
theorem dX10_mixLathe_139 : decode cX10_mixLathe 139 = .ok (.i2l, 1) := by decide +kernel
theorem dX10_mixLathe_140 : decode cX10_mixLathe 140 = .ok (.invokevirtual 193, 3) := by decide +kernel
theorem dX10_mixLathe_143 : decode cX10_mixLathe 143 = .ok (.aload_n 0, 1) := by decide +kernel
theorem dX10_mixLathe_144 : decode cX10_mixLathe 144 = .ok (.aload_n 0, 1) := by decide +kernel
theorem dX10_mixLathe_145 : decode cX10_mixLathe 145 = .ok (.getfield 7, 3) := by decide +kernel
theorem dX10_mixLathe_148 : decode cX10_mixLathe 148 = .ok (.bipush 58, 2) := by decide +kernel
theorem dX10_mixLathe_150 : decode cX10_mixLathe 150 = .ok (.iaload, 1) := by decide +kernel
theorem dX10_mixLathe_151 : decode cX10_mixLathe 151 = .ok (.i2l, 1) := by decide +kernel
theorem dX10_mixLathe_152 : decode cX10_mixLathe 152 = .ok (.invokevirtual 193, 3) := by decide +kernel
theorem dX10_mixLathe_155 : decode cX10_mixLathe 155 = .ok (.iconst 0, 1) := by decide +kernel
theorem dX10_mixLathe_156 : decode cX10_mixLathe 156 = .ok (.istore_n 1, 1) := by decide +kernel
theorem dX10_mixLathe_157 : decode cX10_mixLathe 157 = .ok (.iload_n 1, 1) := by decide +kernel
theorem dX10_mixLathe_158 : decode cX10_mixLathe 158 = .ok (.bipush 16, 2) := by decide +kernel
theorem dX10_mixLathe_160 : decode cX10_mixLathe 160 = .ok (.if_icmp .ge 42, 3) := by decide +kernel
theorem dX10_mixLathe_163 : decode cX10_mixLathe 163 = .ok (.aload_n 0, 1) := by decide +kernel
theorem dX10_mixLathe_164 : decode cX10_mixLathe 164 = .ok (.aload_n 0, 1) := by decide +kernel
theorem dX10_mixLathe_165 : decode cX10_mixLathe 165 = .ok (.iconst 0, 1) := by decide +kernel
theorem dX10_mixLathe_166 : decode cX10_mixLathe 166 = .ok (.iload_n 1, 1) := by decide +kernel
theorem dX10_mixLathe_167 : decode cX10_mixLathe 167 = .ok (.invokevirtual 32, 3) := by decide +kernel
theorem dX10_mixLathe_170 : decode cX10_mixLathe 170 = .ok (.i2l, 1) := by decide +kernel
theorem dX10_mixLathe_171 : decode cX10_mixLathe 171 = .ok (.invokevirtual 193, 3) := by decide +kernel
theorem dX10_mixLathe_174 : decode cX10_mixLathe 174 = .ok (.aload_n 0, 1) := by decide +kernel
theorem dX10_mixLathe_175 : decode cX10_mixLathe 175 = .ok (.aload_n 0, 1) := by decide +kernel
theorem dX10_mixLathe_176 : decode cX10_mixLathe 176 = .ok (.iconst 0, 1) := by decide +kernel
theorem dX10_mixLathe_177 : decode cX10_mixLathe 177 = .ok (.iload_n 1, 1) := by decide +kernel
theorem dX10_mixLathe_178 : decode cX10_mixLathe 178 = .ok (.invokevirtual 32, 3) := by decide +kernel
theorem dX10_mixLathe_181 : decode cX10_mixLathe 181 = .ok (.i2l, 1) := by decide +kernel
theorem dX10_mixLathe_182 : decode cX10_mixLathe 182 = .ok (.invokevirtual 193, 3) := by decide +kernel
theorem dX10_mixLathe_185 : decode cX10_mixLathe 185 = .ok (.aload_n 0, 1) := by decide +kernel
theorem dX10_mixLathe_186 : decode cX10_mixLathe 186 = .ok (.aload_n 0, 1) := by decide +kernel
theorem dX10_mixLathe_187 : decode cX10_mixLathe 187 = .ok (.iconst 0, 1) := by decide +kernel
theorem dX10_mixLathe_188 : decode cX10_mixLathe 188 = .ok (.iload_n 1, 1) := by decide +kernel
theorem dX10_mixLathe_189 : decode cX10_mixLathe 189 = .ok (.invokevirtual 39, 3) := by decide +kernel
theorem dX10_mixLathe_192 : decode cX10_mixLathe 192 = .ok (.i2l, 1) := by decide +kernel
theorem dX10_mixLathe_193 : decode cX10_mixLathe 193 = .ok (.invokevirtual 193, 3) := by decide +kernel
theorem dX10_mixLathe_196 : decode cX10_mixLathe 196 = .ok (.iinc 1 1, 3) := by decide +kernel
theorem dX10_mixLathe_199 : decode cX10_mixLathe 199 = .ok (.goto (-42), 3) := by decide +kernel
theorem dX10_mixLathe_202 : decode cX10_mixLathe 202 = .ok (.aload_n 0, 1) := by decide +kernel
theorem dX10_mixLathe_203 : decode cX10_mixLathe 203 = .ok (.aload_n 0, 1) := by decide +kernel
theorem dX10_mixLathe_204 : decode cX10_mixLathe 204 = .ok (.invokevirtual 144, 3) := by decide +kernel
theorem dX10_mixLathe_207 : decode cX10_mixLathe 207 = .ok (.i2l, 1) := by decide +kernel
theorem dX10_mixLathe_208 : decode cX10_mixLathe 208 = .ok (.invokevirtual 193, 3) := by decide +kernel
theorem dX10_mixLathe_211 : decode cX10_mixLathe 211 = .ok (.return_, 1) := by decide +kernel
theorem dX10_mixPiece_0 : decode cX10_mixPiece 0 = .ok (.aload_n 0, 1) := by decide +kernel
theorem dX10_mixPiece_1 : decode cX10_mixPiece 1 = .ok (.aload_n 0, 1) := by decide +kernel
theorem dX10_mixPiece_2 : decode cX10_mixPiece 2 = .ok (.iconst 0, 1) := by decide +kernel
theorem dX10_mixPiece_3 : decode cX10_mixPiece 3 = .ok (.iload_n 1, 1) := by decide +kernel
theorem dX10_mixPiece_4 : decode cX10_mixPiece 4 = .ok (.iconst 0, 1) := by decide +kernel
theorem dX10_mixPiece_5 : decode cX10_mixPiece 5 = .ok (.invokevirtual 35, 3) := by decide +kernel
theorem dX10_mixPiece_8 : decode cX10_mixPiece 8 = .ok (.i2l, 1) := by decide +kernel
theorem dX10_mixPiece_9 : decode cX10_mixPiece 9 = .ok (.invokevirtual 193, 3) := by decide +kernel
theorem dX10_mixPiece_12 : decode cX10_mixPiece 12 = .ok (.iconst 0, 1) := by decide +kernel
theorem dX10_mixPiece_13 : decode cX10_mixPiece 13 = .ok (.istore_n 2, 1) := by decide +kernel
theorem dX10_mixPiece_14 : decode cX10_mixPiece 14 = .ok (.iload_n 2, 1) := by decide +kernel
theorem dX10_mixPiece_15 : decode cX10_mixPiece 15 = .ok (.bipush 16, 2) := by decide +kernel
theorem dX10_mixPiece_17 : decode cX10_mixPiece 17 = .ok (.if_icmp .ge 23, 3) := by decide +kernel
theorem dX10_mixPiece_20 : decode cX10_mixPiece 20 = .ok (.aload_n 0, 1) := by decide +kernel
theorem dX10_mixPiece_21 : decode cX10_mixPiece 21 = .ok (.aload_n 0, 1) := by decide +kernel
theorem dX10_mixPiece_22 : decode cX10_mixPiece 22 = .ok (.iconst 0, 1) := by decide +kernel
theorem dX10_mixPiece_23 : decode cX10_mixPiece 23 = .ok (.iload_n 1, 1) := by decide +kernel
theorem dX10_mixPiece_24 : decode cX10_mixPiece 24 = .ok (.iconst 2, 1) := by decide +kernel
theorem dX10_mixPiece_25 : decode cX10_mixPiece 25 = .ok (.iload_n 2, 1) := by decide +kernel
theorem dX10_mixPiece_26 : decode cX10_mixPiece 26 = .ok (.iadd, 1) := by decide +kernel
theorem dX10_mixPiece_27 : decode cX10_mixPiece 27 = .ok (.invokevirtual 35, 3) := by decide +kernel
theorem dX10_mixPiece_30 : decode cX10_mixPiece 30 = .ok (.i2l, 1) := by decide +kernel
theorem dX10_mixPiece_31 : decode cX10_mixPiece 31 = .ok (.invokevirtual 193, 3) := by decide +kernel
theorem dX10_mixPiece_34 : decode cX10_mixPiece 34 = .ok (.iinc 2 1, 3) := by decide +kernel
theorem dX10_mixPiece_37 : decode cX10_mixPiece 37 = .ok (.goto (-23), 3) := by decide +kernel
theorem dX10_mixPiece_40 : decode cX10_mixPiece 40 = .ok (.aload_n 0, 1) := by decide +kernel
theorem dX10_mixPiece_41 : decode cX10_mixPiece 41 = .ok (.aload_n 0, 1) := by decide +kernel
theorem dX10_mixPiece_42 : decode cX10_mixPiece 42 = .ok (.iconst 0, 1) := by decide +kernel
theorem dX10_mixPiece_43 : decode cX10_mixPiece 43 = .ok (.iload_n 1, 1) := by decide +kernel
theorem dX10_mixPiece_44 : decode cX10_mixPiece 44 = .ok (.iconst 1, 1) := by decide +kernel
theorem dX10_mixPiece_45 : decode cX10_mixPiece 45 = .ok (.invokevirtual 35, 3) := by decide +kernel
theorem dX10_mixPiece_48 : decode cX10_mixPiece 48 = .ok (.i2l, 1) := by decide +kernel
theorem dX10_mixPiece_49 : decode cX10_mixPiece 49 = .ok (.invokevirtual 193, 3) := by decide +kernel
theorem dX10_mixPiece_52 : decode cX10_mixPiece 52 = .ok (.aload_n 0, 1) := by decide +kernel
theorem dX10_mixPiece_53 : decode cX10_mixPiece 53 = .ok (.aload_n 0, 1) := by decide +kernel
theorem dX10_mixPiece_54 : decode cX10_mixPiece 54 = .ok (.iload_n 1, 1) := by decide +kernel
theorem dX10_mixPiece_55 : decode cX10_mixPiece 55 = .ok (.invokevirtual 141, 3) := by decide +kernel
theorem dX10_mixPiece_58 : decode cX10_mixPiece 58 = .ok (.i2l, 1) := by decide +kernel
theorem dX10_mixPiece_59 : decode cX10_mixPiece 59 = .ok (.invokevirtual 193, 3) := by decide +kernel
theorem dX10_mixPiece_62 : decode cX10_mixPiece 62 = .ok (.aload_n 0, 1) := by decide +kernel
theorem dX10_mixPiece_63 : decode cX10_mixPiece 63 = .ok (.aload_n 0, 1) := by decide +kernel
theorem dX10_mixPiece_64 : decode cX10_mixPiece 64 = .ok (.iload_n 1, 1) := by decide +kernel
theorem dX10_mixPiece_65 : decode cX10_mixPiece 65 = .ok (.iconst 1, 1) := by decide +kernel
theorem dX10_mixPiece_66 : decode cX10_mixPiece 66 = .ok (.invokevirtual 153, 3) := by decide +kernel
theorem dX10_mixPiece_69 : decode cX10_mixPiece 69 = .ok (.i2l, 1) := by decide +kernel
theorem dX10_mixPiece_70 : decode cX10_mixPiece 70 = .ok (.invokevirtual 193, 3) := by decide +kernel
theorem dX10_mixPiece_73 : decode cX10_mixPiece 73 = .ok (.aload_n 0, 1) := by decide +kernel
theorem dX10_mixPiece_74 : decode cX10_mixPiece 74 = .ok (.aload_n 0, 1) := by decide +kernel
theorem dX10_mixPiece_75 : decode cX10_mixPiece 75 = .ok (.iload_n 1, 1) := by decide +kernel
theorem dX10_mixPiece_76 : decode cX10_mixPiece 76 = .ok (.iconst (-1), 1) := by decide +kernel
theorem dX10_mixPiece_77 : decode cX10_mixPiece 77 = .ok (.invokevirtual 153, 3) := by decide +kernel
theorem dX10_mixPiece_80 : decode cX10_mixPiece 80 = .ok (.i2l, 1) := by decide +kernel
theorem dX10_mixPiece_81 : decode cX10_mixPiece 81 = .ok (.invokevirtual 193, 3) := by decide +kernel
theorem dX10_mixPiece_84 : decode cX10_mixPiece 84 = .ok (.aload_n 0, 1) := by decide +kernel
theorem dX10_mixPiece_85 : decode cX10_mixPiece 85 = .ok (.aload_n 0, 1) := by decide +kernel
theorem dX10_mixPiece_86 : decode cX10_mixPiece 86 = .ok (.iload_n 1, 1) := by decide +kernel
theorem dX10_mixPiece_87 : decode cX10_mixPiece 87 = .ok (.invokevirtual 156, 3) := by decide +kernel
theorem dX10_mixPiece_90 : decode cX10_mixPiece 90 = .ok (.i2l, 1) := by decide +kernel
theorem dX10_mixPiece_91 : decode cX10_mixPiece 91 = .ok (.invokevirtual 193, 3) := by decide +kernel
theorem dX10_mixPiece_94 : decode cX10_mixPiece 94 = .ok (.aload_n 0, 1) := by decide +kernel
theorem dX10_mixPiece_95 : decode cX10_mixPiece 95 = .ok (.aload_n 0, 1) := by decide +kernel
theorem dX10_mixPiece_96 : decode cX10_mixPiece 96 = .ok (.iload_n 1, 1) := by decide +kernel
theorem dX10_mixPiece_97 : decode cX10_mixPiece 97 = .ok (.invokevirtual 159, 3) := by decide +kernel
theorem dX10_mixPiece_100 : decode cX10_mixPiece 100 = .ok (.i2l, 1) := by decide +kernel
theorem dX10_mixPiece_101 : decode cX10_mixPiece 101 = .ok (.invokevirtual 193, 3) := by decide +kernel
theorem dX10_mixPiece_104 : decode cX10_mixPiece 104 = .ok (.aload_n 0, 1) := by decide +kernel
theorem dX10_mixPiece_105 : decode cX10_mixPiece 105 = .ok (.aload_n 0, 1) := by decide +kernel
theorem dX10_mixPiece_106 : decode cX10_mixPiece 106 = .ok (.iload_n 1, 1) := by decide +kernel
theorem dX10_mixPiece_107 : decode cX10_mixPiece 107 = .ok (.invokevirtual 174, 3) := by decide +kernel
theorem dX10_mixPiece_110 : decode cX10_mixPiece 110 = .ok (.i2l, 1) := by decide +kernel
theorem dX10_mixPiece_111 : decode cX10_mixPiece 111 = .ok (.invokevirtual 193, 3) := by decide +kernel
theorem dX10_mixPiece_114 : decode cX10_mixPiece 114 = .ok (.aload_n 0, 1) := by decide +kernel
theorem dX10_mixPiece_115 : decode cX10_mixPiece 115 = .ok (.aload_n 0, 1) := by decide +kernel
theorem dX10_mixPiece_116 : decode cX10_mixPiece 116 = .ok (.iload_n 1, 1) := by decide +kernel
theorem dX10_mixPiece_117 : decode cX10_mixPiece 117 = .ok (.invokevirtual 135, 3) := by decide +kernel
theorem dX10_mixPiece_120 : decode cX10_mixPiece 120 = .ok (.i2d, 1) := by decide +kernel
theorem dX10_mixPiece_121 : decode cX10_mixPiece 121 = .ok (.ldc2_w 177, 3) := by decide +kernel
theorem dX10_mixPiece_124 : decode cX10_mixPiece 124 = .ok (.ddiv, 1) := by decide +kernel
theorem dX10_mixPiece_125 : decode cX10_mixPiece 125 = .ok (.invokestatic 197, 3) := by decide +kernel
theorem dX10_mixPiece_128 : decode cX10_mixPiece 128 = .ok (.invokevirtual 193, 3) := by decide +kernel
theorem dX10_mixPiece_131 : decode cX10_mixPiece 131 = .ok (.return_, 1) := by decide +kernel
theorem dX10_mixAccounts_0 : decode cX10_mixAccounts 0 = .ok (.aload_n 0, 1) := by decide +kernel
theorem dX10_mixAccounts_1 : decode cX10_mixAccounts 1 = .ok (.aload_n 0, 1) := by decide +kernel
theorem dX10_mixAccounts_2 : decode cX10_mixAccounts 2 = .ok (.getfield 7, 3) := by decide +kernel
theorem dX10_mixAccounts_5 : decode cX10_mixAccounts 5 = .ok (.bipush 60, 2) := by decide +kernel
theorem dX10_mixAccounts_7 : decode cX10_mixAccounts 7 = .ok (.iaload, 1) := by decide +kernel
theorem dX10_mixAccounts_8 : decode cX10_mixAccounts 8 = .ok (.iconst 1, 1) := by decide +kernel
theorem dX10_mixAccounts_9 : decode cX10_mixAccounts 9 = .ok (.iadd, 1) := by decide +kernel
theorem dX10_mixAccounts_10 : decode cX10_mixAccounts 10 = .ok (.i2l, 1) := by decide +kernel
theorem dX10_mixAccounts_11 : decode cX10_mixAccounts 11 = .ok (.invokevirtual 193, 3) := by decide +kernel
theorem dX10_mixAccounts_14 : decode cX10_mixAccounts 14 = .ok (.aload_n 0, 1) := by decide +kernel
theorem dX10_mixAccounts_15 : decode cX10_mixAccounts 15 = .ok (.aload_n 0, 1) := by decide +kernel
theorem dX10_mixAccounts_16 : decode cX10_mixAccounts 16 = .ok (.getfield 7, 3) := by decide +kernel
theorem dX10_mixAccounts_19 : decode cX10_mixAccounts 19 = .ok (.bipush 61, 2) := by decide +kernel
theorem dX10_mixAccounts_21 : decode cX10_mixAccounts 21 = .ok (.iaload, 1) := by decide +kernel
theorem dX10_mixAccounts_22 : decode cX10_mixAccounts 22 = .ok (.i2l, 1) := by decide +kernel
theorem dX10_mixAccounts_23 : decode cX10_mixAccounts 23 = .ok (.invokevirtual 193, 3) := by decide +kernel
theorem dX10_mixAccounts_26 : decode cX10_mixAccounts 26 = .ok (.aload_n 0, 1) := by decide +kernel
theorem dX10_mixAccounts_27 : decode cX10_mixAccounts 27 = .ok (.aload_n 0, 1) := by decide +kernel
theorem dX10_mixAccounts_28 : decode cX10_mixAccounts 28 = .ok (.getfield 7, 3) := by decide +kernel
theorem dX10_mixAccounts_31 : decode cX10_mixAccounts 31 = .ok (.bipush 62, 2) := by decide +kernel
theorem dX10_mixAccounts_33 : decode cX10_mixAccounts 33 = .ok (.iaload, 1) := by decide +kernel
theorem dX10_mixAccounts_34 : decode cX10_mixAccounts 34 = .ok (.i2l, 1) := by decide +kernel
theorem dX10_mixAccounts_35 : decode cX10_mixAccounts 35 = .ok (.invokevirtual 193, 3) := by decide +kernel
theorem dX10_mixAccounts_38 : decode cX10_mixAccounts 38 = .ok (.aload_n 0, 1) := by decide +kernel
theorem dX10_mixAccounts_39 : decode cX10_mixAccounts 39 = .ok (.aload_n 0, 1) := by decide +kernel
theorem dX10_mixAccounts_40 : decode cX10_mixAccounts 40 = .ok (.getfield 7, 3) := by decide +kernel
theorem dX10_mixAccounts_43 : decode cX10_mixAccounts 43 = .ok (.bipush 63, 2) := by decide +kernel
theorem dX10_mixAccounts_45 : decode cX10_mixAccounts 45 = .ok (.iaload, 1) := by decide +kernel
theorem dX10_mixAccounts_46 : decode cX10_mixAccounts 46 = .ok (.i2l, 1) := by decide +kernel
theorem dX10_mixAccounts_47 : decode cX10_mixAccounts 47 = .ok (.invokevirtual 193, 3) := by decide +kernel
theorem dX10_mixAccounts_50 : decode cX10_mixAccounts 50 = .ok (.aload_n 0, 1) := by decide +kernel
theorem dX10_mixAccounts_51 : decode cX10_mixAccounts 51 = .ok (.aload_n 0, 1) := by decide +kernel
theorem dX10_mixAccounts_52 : decode cX10_mixAccounts 52 = .ok (.getfield 7, 3) := by decide +kernel
theorem dX10_mixAccounts_55 : decode cX10_mixAccounts 55 = .ok (.bipush 64, 2) := by decide +kernel
theorem dX10_mixAccounts_57 : decode cX10_mixAccounts 57 = .ok (.iaload, 1) := by decide +kernel
theorem dX10_mixAccounts_58 : decode cX10_mixAccounts 58 = .ok (.i2l, 1) := by decide +kernel
theorem dX10_mixAccounts_59 : decode cX10_mixAccounts 59 = .ok (.invokevirtual 193, 3) := by decide +kernel
theorem dX10_mixAccounts_62 : decode cX10_mixAccounts 62 = .ok (.aload_n 0, 1) := by decide +kernel
theorem dX10_mixAccounts_63 : decode cX10_mixAccounts 63 = .ok (.aload_n 0, 1) := by decide +kernel
theorem dX10_mixAccounts_64 : decode cX10_mixAccounts 64 = .ok (.getfield 7, 3) := by decide +kernel
theorem dX10_mixAccounts_67 : decode cX10_mixAccounts 67 = .ok (.bipush 65, 2) := by decide +kernel
theorem dX10_mixAccounts_69 : decode cX10_mixAccounts 69 = .ok (.iaload, 1) := by decide +kernel
theorem dX10_mixAccounts_70 : decode cX10_mixAccounts 70 = .ok (.i2l, 1) := by decide +kernel
theorem dX10_mixAccounts_71 : decode cX10_mixAccounts 71 = .ok (.invokevirtual 193, 3) := by decide +kernel
theorem dX10_mixAccounts_74 : decode cX10_mixAccounts 74 = .ok (.aload_n 0, 1) := by decide +kernel
theorem dX10_mixAccounts_75 : decode cX10_mixAccounts 75 = .ok (.aload_n 0, 1) := by decide +kernel
theorem dX10_mixAccounts_76 : decode cX10_mixAccounts 76 = .ok (.getfield 59, 3) := by decide +kernel
theorem dX10_mixAccounts_79 : decode cX10_mixAccounts 79 = .ok (.i2l, 1) := by decide +kernel
theorem dX10_mixAccounts_80 : decode cX10_mixAccounts 80 = .ok (.invokevirtual 193, 3) := by decide +kernel
theorem dX10_mixAccounts_83 : decode cX10_mixAccounts 83 = .ok (.aload_n 0, 1) := by decide +kernel
theorem dX10_mixAccounts_84 : decode cX10_mixAccounts 84 = .ok (.getfield 7, 3) := by decide +kernel
theorem dX10_mixAccounts_87 : decode cX10_mixAccounts 87 = .ok (.bipush 60, 2) := by decide +kernel
theorem dX10_mixAccounts_89 : decode cX10_mixAccounts 89 = .ok (.iaload, 1) := by decide +kernel
theorem dX10_mixAccounts_90 : decode cX10_mixAccounts 90 = .ok (.iconst (-1), 1) := by decide +kernel
theorem dX10_mixAccounts_91 : decode cX10_mixAccounts 91 = .ok (.if_icmp .ne 4, 3) := by decide +kernel
theorem dX10_mixAccounts_94 : decode cX10_mixAccounts 94 = .ok (.return_, 1) := by decide +kernel
theorem dX10_mixAccounts_95 : decode cX10_mixAccounts 95 = .ok (.aload_n 0, 1) := by decide +kernel
theorem dX10_mixAccounts_96 : decode cX10_mixAccounts 96 = .ok (.aload_n 0, 1) := by decide +kernel
theorem dX10_mixAccounts_97 : decode cX10_mixAccounts 97 = .ok (.iconst 0, 1) := by decide +kernel
theorem dX10_mixAccounts_98 : decode cX10_mixAccounts 98 = .ok (.aload_n 0, 1) := by decide +kernel
theorem dX10_mixAccounts_99 : decode cX10_mixAccounts 99 = .ok (.getfield 7, 3) := by decide +kernel
theorem dX10_mixAccounts_102 : decode cX10_mixAccounts 102 = .ok (.bipush 60, 2) := by decide +kernel
theorem dX10_mixAccounts_104 : decode cX10_mixAccounts 104 = .ok (.iaload, 1) := by decide +kernel
theorem dX10_mixAccounts_105 : decode cX10_mixAccounts 105 = .ok (.invokevirtual 88, 3) := by decide +kernel
theorem dX10_mixAccounts_108 : decode cX10_mixAccounts 108 = .ok (.ifCond .ne 7, 3) := by decide +kernel
theorem dX10_mixAccounts_111 : decode cX10_mixAccounts 111 = .ok (.lconst 1, 1) := by decide +kernel
theorem dX10_mixAccounts_112 : decode cX10_mixAccounts 112 = .ok (.goto 4, 3) := by decide +kernel
theorem dX10_mixAccounts_115 : decode cX10_mixAccounts 115 = .ok (.lconst 0, 1) := by decide +kernel
theorem dX10_mixAccounts_116 : decode cX10_mixAccounts 116 = .ok (.invokevirtual 193, 3) := by decide +kernel
theorem dX10_mixAccounts_119 : decode cX10_mixAccounts 119 = .ok (.aload_n 0, 1) := by decide +kernel
theorem dX10_mixAccounts_120 : decode cX10_mixAccounts 120 = .ok (.aload_n 0, 1) := by decide +kernel
theorem dX10_mixAccounts_121 : decode cX10_mixAccounts 121 = .ok (.invokevirtual 171, 3) := by decide +kernel
theorem dX10_mixAccounts_124 : decode cX10_mixAccounts 124 = .ok (.i2l, 1) := by decide +kernel
theorem dX10_mixAccounts_125 : decode cX10_mixAccounts 125 = .ok (.invokevirtual 193, 3) := by decide +kernel
theorem dX10_mixAccounts_128 : decode cX10_mixAccounts 128 = .ok (.aload_n 0, 1) := by decide +kernel
theorem dX10_mixAccounts_129 : decode cX10_mixAccounts 129 = .ok (.getfield 7, 3) := by decide +kernel
theorem dX10_mixAccounts_132 : decode cX10_mixAccounts 132 = .ok (.bipush 53, 2) := by decide +kernel
theorem dX10_mixAccounts_134 : decode cX10_mixAccounts 134 = .ok (.iaload, 1) := by decide +kernel
theorem dX10_mixAccounts_135 : decode cX10_mixAccounts 135 = .ok (.ifCond .le 21, 3) := by decide +kernel
theorem dX10_mixAccounts_138 : decode cX10_mixAccounts 138 = .ok (.aload_n 0, 1) := by decide +kernel
theorem dX10_mixAccounts_139 : decode cX10_mixAccounts 139 = .ok (.aload_n 0, 1) := by decide +kernel
theorem dX10_mixAccounts_140 : decode cX10_mixAccounts 140 = .ok (.invokevirtual 168, 3) := by decide +kernel
theorem dX10_mixAccounts_143 : decode cX10_mixAccounts 143 = .ok (.i2l, 1) := by decide +kernel
theorem dX10_mixAccounts_144 : decode cX10_mixAccounts 144 = .ok (.invokevirtual 193, 3) := by decide +kernel
theorem dX10_mixAccounts_147 : decode cX10_mixAccounts 147 = .ok (.aload_n 0, 1) := by decide +kernel
theorem dX10_mixAccounts_148 : decode cX10_mixAccounts 148 = .ok (.aload_n 0, 1) := by decide +kernel
theorem dX10_mixAccounts_149 : decode cX10_mixAccounts 149 = .ok (.invokevirtual 168, 3) := by decide +kernel
theorem dX10_mixAccounts_152 : decode cX10_mixAccounts 152 = .ok (.i2l, 1) := by decide +kernel
theorem dX10_mixAccounts_153 : decode cX10_mixAccounts 153 = .ok (.invokevirtual 193, 3) := by decide +kernel
theorem dX10_mixAccounts_156 : decode cX10_mixAccounts 156 = .ok (.return_, 1) := by decide +kernel
theorem dX10_digest_0 : decode cX10_digest 0 = .ok (.aload_n 0, 1) := by decide +kernel
theorem dX10_digest_1 : decode cX10_digest 1 = .ok (.iconst 0, 1) := by decide +kernel
theorem dX10_digest_2 : decode cX10_digest 2 = .ok (.putfield 16, 3) := by decide +kernel
theorem dX10_digest_5 : decode cX10_digest 5 = .ok (.aload_n 0, 1) := by decide +kernel
theorem dX10_digest_6 : decode cX10_digest 6 = .ok (.ldc2_w 201, 3) := by decide +kernel
theorem dX10_digest_9 : decode cX10_digest 9 = .ok (.putfield 181, 3) := by decide +kernel
theorem dX10_digest_12 : decode cX10_digest 12 = .ok (.aload_n 0, 1) := by decide +kernel
theorem dX10_digest_13 : decode cX10_digest 13 = .ok (.invokevirtual 203, 3) := by decide +kernel
theorem dX10_digest_16 : decode cX10_digest 16 = .ok (.aload_n 0, 1) := by decide +kernel
theorem dX10_digest_17 : decode cX10_digest 17 = .ok (.aload_n 0, 1) := by decide +kernel
theorem dX10_digest_18 : decode cX10_digest 18 = .ok (.getfield 7, 3) := by decide +kernel
theorem dX10_digest_21 : decode cX10_digest 21 = .ok (.bipush 59, 2) := by decide +kernel
theorem dX10_digest_23 : decode cX10_digest 23 = .ok (.iaload, 1) := by decide +kernel
theorem dX10_digest_24 : decode cX10_digest 24 = .ok (.i2l, 1) := by decide +kernel
theorem dX10_digest_25 : decode cX10_digest 25 = .ok (.invokevirtual 193, 3) := by decide +kernel
theorem dX10_digest_28 : decode cX10_digest 28 = .ok (.iconst 0, 1) := by decide +kernel
theorem dX10_digest_29 : decode cX10_digest 29 = .ok (.istore_n 1, 1) := by decide +kernel
theorem dX10_digest_30 : decode cX10_digest 30 = .ok (.iload_n 1, 1) := by decide +kernel
theorem dX10_digest_31 : decode cX10_digest 31 = .ok (.aload_n 0, 1) := by decide +kernel
theorem dX10_digest_32 : decode cX10_digest 32 = .ok (.getfield 7, 3) := by decide +kernel
theorem dX10_digest_35 : decode cX10_digest 35 = .ok (.bipush 59, 2) := by decide +kernel
theorem dX10_digest_37 : decode cX10_digest 37 = .ok (.iaload, 1) := by decide +kernel
theorem dX10_digest_38 : decode cX10_digest 38 = .ok (.if_icmp .ge 14, 3) := by decide +kernel
theorem dX10_digest_41 : decode cX10_digest 41 = .ok (.aload_n 0, 1) := by decide +kernel
theorem dX10_digest_42 : decode cX10_digest 42 = .ok (.iload_n 1, 1) := by decide +kernel
theorem dX10_digest_43 : decode cX10_digest 43 = .ok (.invokevirtual 206, 3) := by decide +kernel
theorem dX10_digest_46 : decode cX10_digest 46 = .ok (.iinc 1 1, 3) := by decide +kernel
theorem dX10_digest_49 : decode cX10_digest 49 = .ok (.goto (-19), 3) := by decide +kernel
theorem dX10_digest_52 : decode cX10_digest 52 = .ok (.aload_n 0, 1) := by decide +kernel
theorem dX10_digest_53 : decode cX10_digest 53 = .ok (.invokevirtual 210, 3) := by decide +kernel
theorem dX10_digest_56 : decode cX10_digest 56 = .ok (.aload_n 0, 1) := by decide +kernel
theorem dX10_digest_57 : decode cX10_digest 57 = .ok (.aload_n 0, 1) := by decide +kernel
theorem dX10_digest_58 : decode cX10_digest 58 = .ok (.getfield 125, 3) := by decide +kernel
theorem dX10_digest_61 : decode cX10_digest 61 = .ok (.ifCond .eq 7, 3) := by decide +kernel
theorem dX10_digest_64 : decode cX10_digest 64 = .ok (.lconst 1, 1) := by decide +kernel
theorem dX10_digest_65 : decode cX10_digest 65 = .ok (.goto 4, 3) := by decide +kernel
theorem dX10_digest_68 : decode cX10_digest 68 = .ok (.lconst 0, 1) := by decide +kernel
theorem dX10_digest_69 : decode cX10_digest 69 = .ok (.invokevirtual 193, 3) := by decide +kernel
theorem dX10_digest_72 : decode cX10_digest 72 = .ok (.aload_n 0, 1) := by decide +kernel
theorem dX10_digest_73 : decode cX10_digest 73 = .ok (.aload_n 0, 1) := by decide +kernel
theorem dX10_digest_74 : decode cX10_digest 74 = .ok (.getfield 129, 3) := by decide +kernel
theorem dX10_digest_77 : decode cX10_digest 77 = .ok (.ifCond .eq 7, 3) := by decide +kernel
theorem dX10_digest_80 : decode cX10_digest 80 = .ok (.lconst 1, 1) := by decide +kernel
theorem dX10_digest_81 : decode cX10_digest 81 = .ok (.goto 4, 3) := by decide +kernel
theorem dX10_digest_84 : decode cX10_digest 84 = .ok (.lconst 0, 1) := by decide +kernel
theorem dX10_digest_85 : decode cX10_digest 85 = .ok (.invokevirtual 193, 3) := by decide +kernel
theorem dX10_digest_88 : decode cX10_digest 88 = .ok (.aload_n 0, 1) := by decide +kernel
theorem dX10_digest_89 : decode cX10_digest 89 = .ok (.aload_n 0, 1) := by decide +kernel
theorem dX10_digest_90 : decode cX10_digest 90 = .ok (.getfield 91, 3) := by decide +kernel
theorem dX10_digest_93 : decode cX10_digest 93 = .ok (.i2l, 1) := by decide +kernel
theorem dX10_digest_94 : decode cX10_digest 94 = .ok (.invokevirtual 193, 3) := by decide +kernel
theorem dX10_digest_97 : decode cX10_digest 97 = .ok (.iconst 0, 1) := by decide +kernel
theorem dX10_digest_98 : decode cX10_digest 98 = .ok (.istore_n 1, 1) := by decide +kernel
theorem dX10_digest_99 : decode cX10_digest 99 = .ok (.iload_n 1, 1) := by decide +kernel
theorem dX10_digest_100 : decode cX10_digest 100 = .ok (.aload_n 0, 1) := by decide +kernel
theorem dX10_digest_101 : decode cX10_digest 101 = .ok (.getfield 91, 3) := by decide +kernel
theorem dX10_digest_104 : decode cX10_digest 104 = .ok (.if_icmp .ge 20, 3) := by decide +kernel
theorem dX10_digest_107 : decode cX10_digest 107 = .ok (.aload_n 0, 1) := by decide +kernel
theorem dX10_digest_108 : decode cX10_digest 108 = .ok (.aload_n 0, 1) := by decide +kernel
theorem dX10_digest_109 : decode cX10_digest 109 = .ok (.getfield 13, 3) := by decide +kernel
theorem dX10_digest_112 : decode cX10_digest 112 = .ok (.iload_n 1, 1) := by decide +kernel
theorem dX10_digest_113 : decode cX10_digest 113 = .ok (.iaload, 1) := by decide +kernel
theorem dX10_digest_114 : decode cX10_digest 114 = .ok (.i2l, 1) := by decide +kernel
theorem dX10_digest_115 : decode cX10_digest 115 = .ok (.invokevirtual 193, 3) := by decide +kernel
theorem dX10_digest_118 : decode cX10_digest 118 = .ok (.iinc 1 1, 3) := by decide +kernel
theorem dX10_digest_121 : decode cX10_digest 121 = .ok (.goto (-22), 3) := by decide +kernel
theorem dX10_digest_124 : decode cX10_digest 124 = .ok (.aload_n 0, 1) := by decide +kernel
theorem dX10_digest_125 : decode cX10_digest 125 = .ok (.getfield 181, 3) := by decide +kernel
theorem dX10_digest_128 : decode cX10_digest 128 = .ok (.lreturn, 1) := by decide +kernel
theorem dJ9_abs_0f7a4_0 : decode cJ9_abs_0f7a4 0 = .ok (.iload_n 0, 1) := by decide +kernel
theorem dJ9_abs_0f7a4_1 : decode cJ9_abs_0f7a4 1 = .ok (.ifCond .ge 8, 3) := by decide +kernel
theorem dJ9_abs_0f7a4_4 : decode cJ9_abs_0f7a4 4 = .ok (.iload_n 0, 1) := by decide +kernel
theorem dJ9_abs_0f7a4_5 : decode cJ9_abs_0f7a4 5 = .ok (.ineg, 1) := by decide +kernel
theorem dJ9_abs_0f7a4_6 : decode cJ9_abs_0f7a4 6 = .ok (.goto 4, 3) := by decide +kernel
theorem dJ9_abs_0f7a4_9 : decode cJ9_abs_0f7a4 9 = .ok (.iload_n 0, 1) := by decide +kernel
theorem dJ9_abs_0f7a4_10 : decode cJ9_abs_0f7a4 10 = .ok (.ireturn, 1) := by decide +kernel
theorem dJ9_max_7cf53_0 : decode cJ9_max_7cf53 0 = .ok (.iload_n 0, 1) := by decide +kernel
theorem dJ9_max_7cf53_1 : decode cJ9_max_7cf53 1 = .ok (.iload_n 1, 1) := by decide +kernel
theorem dJ9_max_7cf53_2 : decode cJ9_max_7cf53 2 = .ok (.if_icmp .lt 7, 3) := by decide +kernel
theorem dJ9_max_7cf53_5 : decode cJ9_max_7cf53 5 = .ok (.iload_n 0, 1) := by decide +kernel
theorem dJ9_max_7cf53_6 : decode cJ9_max_7cf53 6 = .ok (.goto 4, 3) := by decide +kernel
theorem dJ9_max_7cf53_9 : decode cJ9_max_7cf53 9 = .ok (.iload_n 1, 1) := by decide +kernel
theorem dJ9_max_7cf53_10 : decode cJ9_max_7cf53 10 = .ok (.ireturn, 1) := by decide +kernel
theorem dJ9_min_7cf53_0 : decode cJ9_min_7cf53 0 = .ok (.iload_n 0, 1) := by decide +kernel
theorem dJ9_min_7cf53_1 : decode cJ9_min_7cf53 1 = .ok (.iload_n 1, 1) := by decide +kernel
theorem dJ9_min_7cf53_2 : decode cJ9_min_7cf53 2 = .ok (.if_icmp .gt 7, 3) := by decide +kernel
theorem dJ9_min_7cf53_5 : decode cJ9_min_7cf53 5 = .ok (.iload_n 0, 1) := by decide +kernel
theorem dJ9_min_7cf53_6 : decode cJ9_min_7cf53 6 = .ok (.goto 4, 3) := by decide +kernel
theorem dJ9_min_7cf53_9 : decode cJ9_min_7cf53 9 = .ok (.iload_n 1, 1) := by decide +kernel
theorem dJ9_min_7cf53_10 : decode cJ9_min_7cf53 10 = .ok (.ireturn, 1) := by decide +kernel
theorem dL_carve_0 : decode cL_carve 0 = .ok (.aload 4, 2) := by decide +kernel
theorem dL_carve_2 : decode cL_carve 2 = .ok (.iconst 0, 1) := by decide +kernel
theorem dL_carve_3 : decode cL_carve 3 = .ok (.aload_n 0, 1) := by decide +kernel
theorem dL_carve_4 : decode cL_carve 4 = .ok (.iload_n 1, 1) := by decide +kernel
theorem dL_carve_5 : decode cL_carve 5 = .ok (.iload_n 2, 1) := by decide +kernel
theorem dL_carve_6 : decode cL_carve 6 = .ok (.iload_n 3, 1) := by decide +kernel
theorem dL_carve_7 : decode cL_carve 7 = .ok (.invokevirtual 7, 3) := by decide +kernel
theorem dL_carve_10 : decode cL_carve 10 = .ok (.i2l, 1) := by decide +kernel
theorem dL_carve_11 : decode cL_carve 11 = .ok (.lastore, 1) := by decide +kernel
theorem dL_carve_12 : decode cL_carve 12 = .ok (.goto 11, 3) := by decide +kernel
theorem dL_carve_15 : decode cL_carve 15 = .ok (.astore 5, 2) := by decide +kernel
theorem dL_carve_17 : decode cL_carve 17 = .ok (.iconst 1, 1) := by decide +kernel
theorem dL_carve_18 : decode cL_carve 18 = .ok (.ireturn, 1) := by decide +kernel
theorem dL_carve_19 : decode cL_carve 19 = .ok (.astore 5, 2) := by decide +kernel
theorem dL_carve_21 : decode cL_carve 21 = .ok (.iconst 2, 1) := by decide +kernel
theorem dL_carve_22 : decode cL_carve 22 = .ok (.ireturn, 1) := by decide +kernel
theorem dL_carve_23 : decode cL_carve 23 = .ok (.iconst 0, 1) := by decide +kernel
theorem dL_carve_24 : decode cL_carve 24 = .ok (.ireturn, 1) := by decide +kernel
theorem dL_copyMaster_0 : decode cL_copyMaster 0 = .ok (.aload_n 3, 1) := by decide +kernel
theorem dL_copyMaster_1 : decode cL_copyMaster 1 = .ok (.iconst 0, 1) := by decide +kernel
theorem dL_copyMaster_2 : decode cL_copyMaster 2 = .ok (.aload_n 0, 1) := by decide +kernel
theorem dL_copyMaster_3 : decode cL_copyMaster 3 = .ok (.iload_n 1, 1) := by decide +kernel
theorem dL_copyMaster_4 : decode cL_copyMaster 4 = .ok (.iload_n 2, 1) := by decide +kernel
theorem dL_copyMaster_5 : decode cL_copyMaster 5 = .ok (.invokevirtual 17, 3) := by decide +kernel
theorem dL_copyMaster_8 : decode cL_copyMaster 8 = .ok (.i2l, 1) := by decide +kernel
theorem dL_copyMaster_9 : decode cL_copyMaster 9 = .ok (.lastore, 1) := by decide +kernel
theorem dL_copyMaster_10 : decode cL_copyMaster 10 = .ok (.goto 7, 3) := by decide +kernel
theorem dL_copyMaster_13 : decode cL_copyMaster 13 = .ok (.astore 4, 2) := by decide +kernel
theorem dL_copyMaster_15 : decode cL_copyMaster 15 = .ok (.iconst 1, 1) := by decide +kernel
theorem dL_copyMaster_16 : decode cL_copyMaster 16 = .ok (.ireturn, 1) := by decide +kernel
theorem dL_copyMaster_17 : decode cL_copyMaster 17 = .ok (.iconst 0, 1) := by decide +kernel
theorem dL_copyMaster_18 : decode cL_copyMaster 18 = .ok (.ireturn, 1) := by decide +kernel
theorem dL_mirrorMaster_0 : decode cL_mirrorMaster 0 = .ok (.aload_n 2, 1) := by decide +kernel
theorem dL_mirrorMaster_1 : decode cL_mirrorMaster 1 = .ok (.iconst 0, 1) := by decide +kernel
theorem dL_mirrorMaster_2 : decode cL_mirrorMaster 2 = .ok (.aload_n 0, 1) := by decide +kernel
theorem dL_mirrorMaster_3 : decode cL_mirrorMaster 3 = .ok (.iload_n 1, 1) := by decide +kernel
theorem dL_mirrorMaster_4 : decode cL_mirrorMaster 4 = .ok (.invokevirtual 21, 3) := by decide +kernel
theorem dL_mirrorMaster_7 : decode cL_mirrorMaster 7 = .ok (.i2l, 1) := by decide +kernel
theorem dL_mirrorMaster_8 : decode cL_mirrorMaster 8 = .ok (.lastore, 1) := by decide +kernel
theorem dL_mirrorMaster_9 : decode cL_mirrorMaster 9 = .ok (.goto 6, 3) := by decide +kernel
theorem dL_mirrorMaster_12 : decode cL_mirrorMaster 12 = .ok (.astore_n 3, 1) := by decide +kernel
theorem dL_mirrorMaster_13 : decode cL_mirrorMaster 13 = .ok (.iconst 1, 1) := by decide +kernel
theorem dL_mirrorMaster_14 : decode cL_mirrorMaster 14 = .ok (.ireturn, 1) := by decide +kernel
theorem dL_mirrorMaster_15 : decode cL_mirrorMaster 15 = .ok (.iconst 0, 1) := by decide +kernel
theorem dL_mirrorMaster_16 : decode cL_mirrorMaster 16 = .ok (.ireturn, 1) := by decide +kernel
theorem dL_chooseMaster_0 : decode cL_chooseMaster 0 = .ok (.aload_n 2, 1) := by decide +kernel
theorem dL_chooseMaster_1 : decode cL_chooseMaster 1 = .ok (.iconst 0, 1) := by decide +kernel
theorem dL_chooseMaster_2 : decode cL_chooseMaster 2 = .ok (.aload_n 0, 1) := by decide +kernel
theorem dL_chooseMaster_3 : decode cL_chooseMaster 3 = .ok (.iload_n 1, 1) := by decide +kernel
theorem dL_chooseMaster_4 : decode cL_chooseMaster 4 = .ok (.invokevirtual 25, 3) := by decide +kernel
theorem dL_chooseMaster_7 : decode cL_chooseMaster 7 = .ok (.i2l, 1) := by decide +kernel
theorem dL_chooseMaster_8 : decode cL_chooseMaster 8 = .ok (.lastore, 1) := by decide +kernel
theorem dL_chooseMaster_9 : decode cL_chooseMaster 9 = .ok (.goto 6, 3) := by decide +kernel
theorem dL_chooseMaster_12 : decode cL_chooseMaster 12 = .ok (.astore_n 3, 1) := by decide +kernel
theorem dL_chooseMaster_13 : decode cL_chooseMaster 13 = .ok (.iconst 1, 1) := by decide +kernel
theorem dL_chooseMaster_14 : decode cL_chooseMaster 14 = .ok (.ireturn, 1) := by decide +kernel
theorem dL_chooseMaster_15 : decode cL_chooseMaster 15 = .ok (.iconst 0, 1) := by decide +kernel
theorem dL_chooseMaster_16 : decode cL_chooseMaster 16 = .ok (.ireturn, 1) := by decide +kernel
theorem dL_fitFollower_0 : decode cL_fitFollower 0 = .ok (.aload_n 2, 1) := by decide +kernel
theorem dL_fitFollower_1 : decode cL_fitFollower 1 = .ok (.iconst 0, 1) := by decide +kernel
theorem dL_fitFollower_2 : decode cL_fitFollower 2 = .ok (.aload_n 0, 1) := by decide +kernel
theorem dL_fitFollower_3 : decode cL_fitFollower 3 = .ok (.iload_n 1, 1) := by decide +kernel
theorem dL_fitFollower_4 : decode cL_fitFollower 4 = .ok (.invokevirtual 28, 3) := by decide +kernel
theorem dL_fitFollower_7 : decode cL_fitFollower 7 = .ok (.i2l, 1) := by decide +kernel
theorem dL_fitFollower_8 : decode cL_fitFollower 8 = .ok (.lastore, 1) := by decide +kernel
theorem dL_fitFollower_9 : decode cL_fitFollower 9 = .ok (.goto 6, 3) := by decide +kernel
theorem dL_fitFollower_12 : decode cL_fitFollower 12 = .ok (.astore_n 3, 1) := by decide +kernel
theorem dL_fitFollower_13 : decode cL_fitFollower 13 = .ok (.iconst 1, 1) := by decide +kernel
theorem dL_fitFollower_14 : decode cL_fitFollower 14 = .ok (.ireturn, 1) := by decide +kernel
theorem dL_fitFollower_15 : decode cL_fitFollower 15 = .ok (.iconst 0, 1) := by decide +kernel
theorem dL_fitFollower_16 : decode cL_fitFollower 16 = .ok (.ireturn, 1) := by decide +kernel
theorem dL_changeOffset_0 : decode cL_changeOffset 0 = .ok (.aload_n 2, 1) := by decide +kernel
theorem dL_changeOffset_1 : decode cL_changeOffset 1 = .ok (.iconst 0, 1) := by decide +kernel
theorem dL_changeOffset_2 : decode cL_changeOffset 2 = .ok (.aload_n 0, 1) := by decide +kernel
theorem dL_changeOffset_3 : decode cL_changeOffset 3 = .ok (.iload_n 1, 1) := by decide +kernel
theorem dL_changeOffset_4 : decode cL_changeOffset 4 = .ok (.invokevirtual 31, 3) := by decide +kernel
theorem dL_changeOffset_7 : decode cL_changeOffset 7 = .ok (.i2l, 1) := by decide +kernel
theorem dL_changeOffset_8 : decode cL_changeOffset 8 = .ok (.lastore, 1) := by decide +kernel
theorem dL_changeOffset_9 : decode cL_changeOffset 9 = .ok (.goto 6, 3) := by decide +kernel
theorem dL_changeOffset_12 : decode cL_changeOffset 12 = .ok (.astore_n 3, 1) := by decide +kernel
theorem dL_changeOffset_13 : decode cL_changeOffset 13 = .ok (.iconst 1, 1) := by decide +kernel
theorem dL_changeOffset_14 : decode cL_changeOffset 14 = .ok (.ireturn, 1) := by decide +kernel
theorem dL_changeOffset_15 : decode cL_changeOffset 15 = .ok (.iconst 0, 1) := by decide +kernel
theorem dL_changeOffset_16 : decode cL_changeOffset 16 = .ok (.ireturn, 1) := by decide +kernel
theorem dL_changeDepth_0 : decode cL_changeDepth 0 = .ok (.aload_n 2, 1) := by decide +kernel
theorem dL_changeDepth_1 : decode cL_changeDepth 1 = .ok (.iconst 0, 1) := by decide +kernel
theorem dL_changeDepth_2 : decode cL_changeDepth 2 = .ok (.aload_n 0, 1) := by decide +kernel
theorem dL_changeDepth_3 : decode cL_changeDepth 3 = .ok (.iload_n 1, 1) := by decide +kernel
theorem dL_changeDepth_4 : decode cL_changeDepth 4 = .ok (.invokevirtual 34, 3) := by decide +kernel
theorem dL_changeDepth_7 : decode cL_changeDepth 7 = .ok (.i2l, 1) := by decide +kernel
theorem dL_changeDepth_8 : decode cL_changeDepth 8 = .ok (.lastore, 1) := by decide +kernel
theorem dL_changeDepth_9 : decode cL_changeDepth 9 = .ok (.goto 6, 3) := by decide +kernel
theorem dL_changeDepth_12 : decode cL_changeDepth 12 = .ok (.astore_n 3, 1) := by decide +kernel
theorem dL_changeDepth_13 : decode cL_changeDepth 13 = .ok (.iconst 1, 1) := by decide +kernel
theorem dL_changeDepth_14 : decode cL_changeDepth 14 = .ok (.ireturn, 1) := by decide +kernel
theorem dL_changeDepth_15 : decode cL_changeDepth 15 = .ok (.iconst 0, 1) := by decide +kernel
theorem dL_changeDepth_16 : decode cL_changeDepth 16 = .ok (.ireturn, 1) := by decide +kernel
theorem dL_changeSpeed_0 : decode cL_changeSpeed 0 = .ok (.aload_n 2, 1) := by decide +kernel
theorem dL_changeSpeed_1 : decode cL_changeSpeed 1 = .ok (.iconst 0, 1) := by decide +kernel
theorem dL_changeSpeed_2 : decode cL_changeSpeed 2 = .ok (.aload_n 0, 1) := by decide +kernel
theorem dL_changeSpeed_3 : decode cL_changeSpeed 3 = .ok (.iload_n 1, 1) := by decide +kernel
theorem dL_changeSpeed_4 : decode cL_changeSpeed 4 = .ok (.invokevirtual 37, 3) := by decide +kernel
theorem dL_changeSpeed_7 : decode cL_changeSpeed 7 = .ok (.i2l, 1) := by decide +kernel
theorem dL_changeSpeed_8 : decode cL_changeSpeed 8 = .ok (.lastore, 1) := by decide +kernel
theorem dL_changeSpeed_9 : decode cL_changeSpeed 9 = .ok (.goto 6, 3) := by decide +kernel
theorem dL_changeSpeed_12 : decode cL_changeSpeed 12 = .ok (.astore_n 3, 1) := by decide +kernel
theorem dL_changeSpeed_13 : decode cL_changeSpeed 13 = .ok (.iconst 1, 1) := by decide +kernel
theorem dL_changeSpeed_14 : decode cL_changeSpeed 14 = .ok (.ireturn, 1) := by decide +kernel
theorem dL_changeSpeed_15 : decode cL_changeSpeed 15 = .ok (.iconst 0, 1) := by decide +kernel
theorem dL_changeSpeed_16 : decode cL_changeSpeed 16 = .ok (.ireturn, 1) := by decide +kernel
theorem dL_changeTolerance_0 : decode cL_changeTolerance 0 = .ok (.aload_n 2, 1) := by decide +kernel
theorem dL_changeTolerance_1 : decode cL_changeTolerance 1 = .ok (.iconst 0, 1) := by decide +kernel
theorem dL_changeTolerance_2 : decode cL_changeTolerance 2 = .ok (.aload_n 0, 1) := by decide +kernel
theorem dL_changeTolerance_3 : decode cL_changeTolerance 3 = .ok (.iload_n 1, 1) := by decide +kernel
theorem dL_changeTolerance_4 : decode cL_changeTolerance 4 = .ok (.invokevirtual 40, 3) := by decide +kernel
theorem dL_changeTolerance_7 : decode cL_changeTolerance 7 = .ok (.i2l, 1) := by decide +kernel
theorem dL_changeTolerance_8 : decode cL_changeTolerance 8 = .ok (.lastore, 1) := by decide +kernel
theorem dL_changeTolerance_9 : decode cL_changeTolerance 9 = .ok (.goto 6, 3) := by decide +kernel
theorem dL_changeTolerance_12 : decode cL_changeTolerance 12 = .ok (.astore_n 3, 1) := by decide +kernel
theorem dL_changeTolerance_13 : decode cL_changeTolerance 13 = .ok (.iconst 1, 1) := by decide +kernel
theorem dL_changeTolerance_14 : decode cL_changeTolerance 14 = .ok (.ireturn, 1) := by decide +kernel
theorem dL_changeTolerance_15 : decode cL_changeTolerance 15 = .ok (.iconst 0, 1) := by decide +kernel
theorem dL_changeTolerance_16 : decode cL_changeTolerance 16 = .ok (.ireturn, 1) := by decide +kernel
theorem dL_addBlank_0 : decode cL_addBlank 0 = .ok (.aload_n 3, 1) := by decide +kernel
theorem dL_addBlank_1 : decode cL_addBlank 1 = .ok (.iconst 0, 1) := by decide +kernel
theorem dL_addBlank_2 : decode cL_addBlank 2 = .ok (.aload_n 0, 1) := by decide +kernel
theorem dL_addBlank_3 : decode cL_addBlank 3 = .ok (.iload_n 1, 1) := by decide +kernel
theorem dL_addBlank_4 : decode cL_addBlank 4 = .ok (.iload_n 2, 1) := by decide +kernel
theorem dL_addBlank_5 : decode cL_addBlank 5 = .ok (.invokevirtual 43, 3) := by decide +kernel
theorem dL_addBlank_8 : decode cL_addBlank 8 = .ok (.i2l, 1) := by decide +kernel
theorem dL_addBlank_9 : decode cL_addBlank 9 = .ok (.lastore, 1) := by decide +kernel
theorem dL_addBlank_10 : decode cL_addBlank 10 = .ok (.goto 15, 3) := by decide +kernel
theorem dL_addBlank_13 : decode cL_addBlank 13 = .ok (.astore 4, 2) := by decide +kernel
theorem dL_addBlank_15 : decode cL_addBlank 15 = .ok (.iconst 1, 1) := by decide +kernel
theorem dL_addBlank_16 : decode cL_addBlank 16 = .ok (.ireturn, 1) := by decide +kernel
theorem dL_addBlank_17 : decode cL_addBlank 17 = .ok (.astore 4, 2) := by decide +kernel
theorem dL_addBlank_19 : decode cL_addBlank 19 = .ok (.iconst 2, 1) := by decide +kernel
theorem dL_addBlank_20 : decode cL_addBlank 20 = .ok (.ireturn, 1) := by decide +kernel
theorem dL_addBlank_21 : decode cL_addBlank 21 = .ok (.astore 4, 2) := by decide +kernel
theorem dL_addBlank_23 : decode cL_addBlank 23 = .ok (.iconst 3, 1) := by decide +kernel
theorem dL_addBlank_24 : decode cL_addBlank 24 = .ok (.ireturn, 1) := by decide +kernel
theorem dL_addBlank_25 : decode cL_addBlank 25 = .ok (.iconst 0, 1) := by decide +kernel
theorem dL_addBlank_26 : decode cL_addBlank 26 = .ok (.ireturn, 1) := by decide +kernel
theorem dL_burn_0 : decode cL_burn 0 = .ok (.aload_n 2, 1) := by decide +kernel
theorem dL_burn_1 : decode cL_burn 1 = .ok (.iconst 0, 1) := by decide +kernel
theorem dL_burn_2 : decode cL_burn 2 = .ok (.aload_n 0, 1) := by decide +kernel
theorem dL_burn_3 : decode cL_burn 3 = .ok (.iload_n 1, 1) := by decide +kernel
theorem dL_burn_4 : decode cL_burn 4 = .ok (.invokevirtual 48, 3) := by decide +kernel
theorem dL_burn_7 : decode cL_burn 7 = .ok (.i2l, 1) := by decide +kernel
theorem dL_burn_8 : decode cL_burn 8 = .ok (.lastore, 1) := by decide +kernel
theorem dL_burn_9 : decode cL_burn 9 = .ok (.goto 9, 3) := by decide +kernel
theorem dL_burn_12 : decode cL_burn 12 = .ok (.astore_n 3, 1) := by decide +kernel
theorem dL_burn_13 : decode cL_burn 13 = .ok (.iconst 1, 1) := by decide +kernel
theorem dL_burn_14 : decode cL_burn 14 = .ok (.ireturn, 1) := by decide +kernel
theorem dL_burn_15 : decode cL_burn 15 = .ok (.astore_n 3, 1) := by decide +kernel
theorem dL_burn_16 : decode cL_burn 16 = .ok (.iconst 2, 1) := by decide +kernel
theorem dL_burn_17 : decode cL_burn 17 = .ok (.ireturn, 1) := by decide +kernel
theorem dL_burn_18 : decode cL_burn 18 = .ok (.iconst 0, 1) := by decide +kernel
theorem dL_burn_19 : decode cL_burn 19 = .ok (.ireturn, 1) := by decide +kernel
theorem dL_mount_0 : decode cL_mount 0 = .ok (.aload_n 0, 1) := by decide +kernel
theorem dL_mount_1 : decode cL_mount 1 = .ok (.iload_n 1, 1) := by decide +kernel
theorem dL_mount_2 : decode cL_mount 2 = .ok (.invokevirtual 51, 3) := by decide +kernel
theorem dL_mount_5 : decode cL_mount 5 = .ok (.goto 9, 3) := by decide +kernel
theorem dL_mount_8 : decode cL_mount 8 = .ok (.astore_n 2, 1) := by decide +kernel
theorem dL_mount_9 : decode cL_mount 9 = .ok (.iconst 1, 1) := by decide +kernel
theorem dL_mount_10 : decode cL_mount 10 = .ok (.ireturn, 1) := by decide +kernel
theorem dL_mount_11 : decode cL_mount 11 = .ok (.astore_n 2, 1) := by decide +kernel
theorem dL_mount_12 : decode cL_mount 12 = .ok (.iconst 2, 1) := by decide +kernel
theorem dL_mount_13 : decode cL_mount 13 = .ok (.ireturn, 1) := by decide +kernel
theorem dL_mount_14 : decode cL_mount 14 = .ok (.iconst 0, 1) := by decide +kernel
theorem dL_mount_15 : decode cL_mount 15 = .ok (.ireturn, 1) := by decide +kernel
theorem dL_takeOut_0 : decode cL_takeOut 0 = .ok (.aload_n 1, 1) := by decide +kernel
theorem dL_takeOut_1 : decode cL_takeOut 1 = .ok (.iconst 0, 1) := by decide +kernel
theorem dL_takeOut_2 : decode cL_takeOut 2 = .ok (.aload_n 0, 1) := by decide +kernel
theorem dL_takeOut_3 : decode cL_takeOut 3 = .ok (.invokevirtual 55, 3) := by decide +kernel
theorem dL_takeOut_6 : decode cL_takeOut 6 = .ok (.i2l, 1) := by decide +kernel
theorem dL_takeOut_7 : decode cL_takeOut 7 = .ok (.lastore, 1) := by decide +kernel
theorem dL_takeOut_8 : decode cL_takeOut 8 = .ok (.goto 6, 3) := by decide +kernel
theorem dL_takeOut_11 : decode cL_takeOut 11 = .ok (.astore_n 2, 1) := by decide +kernel
theorem dL_takeOut_12 : decode cL_takeOut 12 = .ok (.iconst 1, 1) := by decide +kernel
theorem dL_takeOut_13 : decode cL_takeOut 13 = .ok (.ireturn, 1) := by decide +kernel
theorem dL_takeOut_14 : decode cL_takeOut 14 = .ok (.iconst 0, 1) := by decide +kernel
theorem dL_takeOut_15 : decode cL_takeOut 15 = .ok (.ireturn, 1) := by decide +kernel
theorem dL_pass_0 : decode cL_pass 0 = .ok (.aload_n 1, 1) := by decide +kernel
theorem dL_pass_1 : decode cL_pass 1 = .ok (.iconst 0, 1) := by decide +kernel
theorem dL_pass_2 : decode cL_pass 2 = .ok (.aload_n 0, 1) := by decide +kernel
theorem dL_pass_3 : decode cL_pass 3 = .ok (.invokevirtual 59, 3) := by decide +kernel
theorem dL_pass_6 : decode cL_pass 6 = .ok (.i2l, 1) := by decide +kernel
theorem dL_pass_7 : decode cL_pass 7 = .ok (.lastore, 1) := by decide +kernel
theorem dL_pass_8 : decode cL_pass 8 = .ok (.goto 6, 3) := by decide +kernel
theorem dL_pass_11 : decode cL_pass 11 = .ok (.astore_n 2, 1) := by decide +kernel
theorem dL_pass_12 : decode cL_pass 12 = .ok (.iconst 1, 1) := by decide +kernel
theorem dL_pass_13 : decode cL_pass 13 = .ok (.ireturn, 1) := by decide +kernel
theorem dL_pass_14 : decode cL_pass 14 = .ok (.iconst 0, 1) := by decide +kernel
theorem dL_pass_15 : decode cL_pass 15 = .ok (.ireturn, 1) := by decide +kernel
theorem dL_passUpTo_0 : decode cL_passUpTo 0 = .ok (.aload_n 2, 1) := by decide +kernel
theorem dL_passUpTo_1 : decode cL_passUpTo 1 = .ok (.iconst 0, 1) := by decide +kernel
theorem dL_passUpTo_2 : decode cL_passUpTo 2 = .ok (.aload_n 0, 1) := by decide +kernel
theorem dL_passUpTo_3 : decode cL_passUpTo 3 = .ok (.iload_n 1, 1) := by decide +kernel
theorem dL_passUpTo_4 : decode cL_passUpTo 4 = .ok (.invokevirtual 62, 3) := by decide +kernel
theorem dL_passUpTo_7 : decode cL_passUpTo 7 = .ok (.i2l, 1) := by decide +kernel
theorem dL_passUpTo_8 : decode cL_passUpTo 8 = .ok (.lastore, 1) := by decide +kernel
theorem dL_passUpTo_9 : decode cL_passUpTo 9 = .ok (.goto 9, 3) := by decide +kernel
theorem dL_passUpTo_12 : decode cL_passUpTo 12 = .ok (.astore_n 3, 1) := by decide +kernel
theorem dL_passUpTo_13 : decode cL_passUpTo 13 = .ok (.iconst 1, 1) := by decide +kernel
theorem dL_passUpTo_14 : decode cL_passUpTo 14 = .ok (.ireturn, 1) := by decide +kernel
theorem dL_passUpTo_15 : decode cL_passUpTo 15 = .ok (.astore_n 3, 1) := by decide +kernel
theorem dL_passUpTo_16 : decode cL_passUpTo 16 = .ok (.iconst 2, 1) := by decide +kernel
theorem dL_passUpTo_17 : decode cL_passUpTo 17 = .ok (.ireturn, 1) := by decide +kernel
theorem dL_passUpTo_18 : decode cL_passUpTo 18 = .ok (.iconst 0, 1) := by decide +kernel
theorem dL_passUpTo_19 : decode cL_passUpTo 19 = .ok (.ireturn, 1) := by decide +kernel
theorem dL_sand_0 : decode cL_sand 0 = .ok (.aload_n 2, 1) := by decide +kernel
theorem dL_sand_1 : decode cL_sand 1 = .ok (.iconst 0, 1) := by decide +kernel
theorem dL_sand_2 : decode cL_sand 2 = .ok (.aload_n 0, 1) := by decide +kernel
theorem dL_sand_3 : decode cL_sand 3 = .ok (.iload_n 1, 1) := by decide +kernel
theorem dL_sand_4 : decode cL_sand 4 = .ok (.invokevirtual 65, 3) := by decide +kernel
theorem dL_sand_7 : decode cL_sand 7 = .ok (.i2l, 1) := by decide +kernel
theorem dL_sand_8 : decode cL_sand 8 = .ok (.lastore, 1) := by decide +kernel
theorem dL_sand_9 : decode cL_sand 9 = .ok (.goto 9, 3) := by decide +kernel
theorem dL_sand_12 : decode cL_sand 12 = .ok (.astore_n 3, 1) := by decide +kernel
theorem dL_sand_13 : decode cL_sand 13 = .ok (.iconst 1, 1) := by decide +kernel
theorem dL_sand_14 : decode cL_sand 14 = .ok (.ireturn, 1) := by decide +kernel
theorem dL_sand_15 : decode cL_sand 15 = .ok (.astore_n 3, 1) := by decide +kernel
theorem dL_sand_16 : decode cL_sand 16 = .ok (.iconst 2, 1) := by decide +kernel
theorem dL_sand_17 : decode cL_sand 17 = .ok (.ireturn, 1) := by decide +kernel
theorem dL_sand_18 : decode cL_sand 18 = .ok (.iconst 0, 1) := by decide +kernel
theorem dL_sand_19 : decode cL_sand 19 = .ok (.ireturn, 1) := by decide +kernel
theorem dL_append_0 : decode cL_append 0 = .ok (.aload_n 2, 1) := by decide +kernel
theorem dL_append_1 : decode cL_append 1 = .ok (.iconst 0, 1) := by decide +kernel
theorem dL_append_2 : decode cL_append 2 = .ok (.aload_n 0, 1) := by decide +kernel
theorem dL_append_3 : decode cL_append 3 = .ok (.iload_n 1, 1) := by decide +kernel
theorem dL_append_4 : decode cL_append 4 = .ok (.invokevirtual 68, 3) := by decide +kernel
theorem dL_append_7 : decode cL_append 7 = .ok (.i2l, 1) := by decide +kernel
theorem dL_append_8 : decode cL_append 8 = .ok (.lastore, 1) := by decide +kernel
theorem dL_append_9 : decode cL_append 9 = .ok (.goto 9, 3) := by decide +kernel
theorem dL_append_12 : decode cL_append 12 = .ok (.astore_n 3, 1) := by decide +kernel
theorem dL_append_13 : decode cL_append 13 = .ok (.iconst 1, 1) := by decide +kernel
theorem dL_append_14 : decode cL_append 14 = .ok (.ireturn, 1) := by decide +kernel
theorem dL_append_15 : decode cL_append 15 = .ok (.astore_n 3, 1) := by decide +kernel
theorem dL_append_16 : decode cL_append 16 = .ok (.iconst 2, 1) := by decide +kernel
theorem dL_append_17 : decode cL_append 17 = .ok (.ireturn, 1) := by decide +kernel
theorem dL_append_18 : decode cL_append 18 = .ok (.iconst 0, 1) := by decide +kernel
theorem dL_append_19 : decode cL_append 19 = .ok (.ireturn, 1) := by decide +kernel
theorem dL_loadMaster_0 : decode cL_loadMaster 0 = .ok (.aload_n 2, 1) := by decide +kernel
theorem dL_loadMaster_1 : decode cL_loadMaster 1 = .ok (.iconst 0, 1) := by decide +kernel
theorem dL_loadMaster_2 : decode cL_loadMaster 2 = .ok (.aload_n 0, 1) := by decide +kernel
theorem dL_loadMaster_3 : decode cL_loadMaster 3 = .ok (.iload_n 1, 1) := by decide +kernel
theorem dL_loadMaster_4 : decode cL_loadMaster 4 = .ok (.invokevirtual 71, 3) := by decide +kernel
theorem dL_loadMaster_7 : decode cL_loadMaster 7 = .ok (.i2l, 1) := by decide +kernel
theorem dL_loadMaster_8 : decode cL_loadMaster 8 = .ok (.lastore, 1) := by decide +kernel
theorem dL_loadMaster_9 : decode cL_loadMaster 9 = .ok (.goto 9, 3) := by decide +kernel
theorem dL_loadMaster_12 : decode cL_loadMaster 12 = .ok (.astore_n 3, 1) := by decide +kernel
theorem dL_loadMaster_13 : decode cL_loadMaster 13 = .ok (.iconst 1, 1) := by decide +kernel
theorem dL_loadMaster_14 : decode cL_loadMaster 14 = .ok (.ireturn, 1) := by decide +kernel
theorem dL_loadMaster_15 : decode cL_loadMaster 15 = .ok (.astore_n 3, 1) := by decide +kernel
theorem dL_loadMaster_16 : decode cL_loadMaster 16 = .ok (.iconst 2, 1) := by decide +kernel
theorem dL_loadMaster_17 : decode cL_loadMaster 17 = .ok (.ireturn, 1) := by decide +kernel
theorem dL_loadMaster_18 : decode cL_loadMaster 18 = .ok (.iconst 0, 1) := by decide +kernel
theorem dL_loadMaster_19 : decode cL_loadMaster 19 = .ok (.ireturn, 1) := by decide +kernel
theorem dL_keep_0 : decode cL_keep 0 = .ok (.aload_n 0, 1) := by decide +kernel
theorem dL_keep_1 : decode cL_keep 1 = .ok (.iload_n 1, 1) := by decide +kernel
theorem dL_keep_2 : decode cL_keep 2 = .ok (.invokevirtual 74, 3) := by decide +kernel
theorem dL_keep_5 : decode cL_keep 5 = .ok (.goto 6, 3) := by decide +kernel
theorem dL_keep_8 : decode cL_keep 8 = .ok (.astore_n 2, 1) := by decide +kernel
theorem dL_keep_9 : decode cL_keep 9 = .ok (.iconst 1, 1) := by decide +kernel
theorem dL_keep_10 : decode cL_keep 10 = .ok (.ireturn, 1) := by decide +kernel
theorem dL_keep_11 : decode cL_keep 11 = .ok (.iconst 0, 1) := by decide +kernel
theorem dL_keep_12 : decode cL_keep 12 = .ok (.ireturn, 1) := by decide +kernel
theorem dL_goBack_0 : decode cL_goBack 0 = .ok (.aload_n 0, 1) := by decide +kernel
theorem dL_goBack_1 : decode cL_goBack 1 = .ok (.iload_n 1, 1) := by decide +kernel
theorem dL_goBack_2 : decode cL_goBack 2 = .ok (.invokevirtual 77, 3) := by decide +kernel
theorem dL_goBack_5 : decode cL_goBack 5 = .ok (.goto 9, 3) := by decide +kernel
theorem dL_goBack_8 : decode cL_goBack 8 = .ok (.astore_n 2, 1) := by decide +kernel
theorem dL_goBack_9 : decode cL_goBack 9 = .ok (.iconst 1, 1) := by decide +kernel
theorem dL_goBack_10 : decode cL_goBack 10 = .ok (.ireturn, 1) := by decide +kernel
theorem dL_goBack_11 : decode cL_goBack 11 = .ok (.astore_n 2, 1) := by decide +kernel
theorem dL_goBack_12 : decode cL_goBack 12 = .ok (.iconst 2, 1) := by decide +kernel
theorem dL_goBack_13 : decode cL_goBack 13 = .ok (.ireturn, 1) := by decide +kernel
theorem dL_goBack_14 : decode cL_goBack 14 = .ok (.iconst 0, 1) := by decide +kernel
theorem dL_goBack_15 : decode cL_goBack 15 = .ok (.ireturn, 1) := by decide +kernel
theorem dL_undo_0 : decode cL_undo 0 = .ok (.aload_n 0, 1) := by decide +kernel
theorem dL_undo_1 : decode cL_undo 1 = .ok (.invokevirtual 80, 3) := by decide +kernel
theorem dL_undo_4 : decode cL_undo 4 = .ok (.goto 6, 3) := by decide +kernel
theorem dL_undo_7 : decode cL_undo 7 = .ok (.astore_n 1, 1) := by decide +kernel
theorem dL_undo_8 : decode cL_undo 8 = .ok (.iconst 1, 1) := by decide +kernel
theorem dL_undo_9 : decode cL_undo 9 = .ok (.ireturn, 1) := by decide +kernel
theorem dL_undo_10 : decode cL_undo 10 = .ok (.iconst 0, 1) := by decide +kernel
theorem dL_undo_11 : decode cL_undo 11 = .ok (.ireturn, 1) := by decide +kernel
theorem dL_masterAt_0 : decode cL_masterAt 0 = .ok (.aload_n 3, 1) := by decide +kernel
theorem dL_masterAt_1 : decode cL_masterAt 1 = .ok (.iconst 0, 1) := by decide +kernel
theorem dL_masterAt_2 : decode cL_masterAt 2 = .ok (.aload_n 0, 1) := by decide +kernel
theorem dL_masterAt_3 : decode cL_masterAt 3 = .ok (.iload_n 1, 1) := by decide +kernel
theorem dL_masterAt_4 : decode cL_masterAt 4 = .ok (.iload_n 2, 1) := by decide +kernel
theorem dL_masterAt_5 : decode cL_masterAt 5 = .ok (.invokevirtual 83, 3) := by decide +kernel
theorem dL_masterAt_8 : decode cL_masterAt 8 = .ok (.i2l, 1) := by decide +kernel
theorem dL_masterAt_9 : decode cL_masterAt 9 = .ok (.lastore, 1) := by decide +kernel
theorem dL_masterAt_10 : decode cL_masterAt 10 = .ok (.goto 7, 3) := by decide +kernel
theorem dL_masterAt_13 : decode cL_masterAt 13 = .ok (.astore 4, 2) := by decide +kernel
theorem dL_masterAt_15 : decode cL_masterAt 15 = .ok (.iconst 1, 1) := by decide +kernel
theorem dL_masterAt_16 : decode cL_masterAt 16 = .ok (.ireturn, 1) := by decide +kernel
theorem dL_masterAt_17 : decode cL_masterAt 17 = .ok (.iconst 0, 1) := by decide +kernel
theorem dL_masterAt_18 : decode cL_masterAt 18 = .ok (.ireturn, 1) := by decide +kernel
theorem dL_woodOf_0 : decode cL_woodOf 0 = .ok (.aload_n 2, 1) := by decide +kernel
theorem dL_woodOf_1 : decode cL_woodOf 1 = .ok (.iconst 0, 1) := by decide +kernel
theorem dL_woodOf_2 : decode cL_woodOf 2 = .ok (.aload_n 0, 1) := by decide +kernel
theorem dL_woodOf_3 : decode cL_woodOf 3 = .ok (.iload_n 1, 1) := by decide +kernel
theorem dL_woodOf_4 : decode cL_woodOf 4 = .ok (.invokevirtual 86, 3) := by decide +kernel
theorem dL_woodOf_7 : decode cL_woodOf 7 = .ok (.i2l, 1) := by decide +kernel
theorem dL_woodOf_8 : decode cL_woodOf 8 = .ok (.lastore, 1) := by decide +kernel
theorem dL_woodOf_9 : decode cL_woodOf 9 = .ok (.goto 6, 3) := by decide +kernel
theorem dL_woodOf_12 : decode cL_woodOf 12 = .ok (.astore_n 3, 1) := by decide +kernel
theorem dL_woodOf_13 : decode cL_woodOf 13 = .ok (.iconst 1, 1) := by decide +kernel
theorem dL_woodOf_14 : decode cL_woodOf 14 = .ok (.ireturn, 1) := by decide +kernel
theorem dL_woodOf_15 : decode cL_woodOf 15 = .ok (.iconst 0, 1) := by decide +kernel
theorem dL_woodOf_16 : decode cL_woodOf 16 = .ok (.ireturn, 1) := by decide +kernel
theorem dL_diameterAt_0 : decode cL_diameterAt 0 = .ok (.aload_n 3, 1) := by decide +kernel
theorem dL_diameterAt_1 : decode cL_diameterAt 1 = .ok (.iconst 0, 1) := by decide +kernel
theorem dL_diameterAt_2 : decode cL_diameterAt 2 = .ok (.aload_n 0, 1) := by decide +kernel
theorem dL_diameterAt_3 : decode cL_diameterAt 3 = .ok (.iload_n 1, 1) := by decide +kernel
theorem dL_diameterAt_4 : decode cL_diameterAt 4 = .ok (.iload_n 2, 1) := by decide +kernel
theorem dL_diameterAt_5 : decode cL_diameterAt 5 = .ok (.invokevirtual 89, 3) := by decide +kernel
theorem dL_diameterAt_8 : decode cL_diameterAt 8 = .ok (.i2l, 1) := by decide +kernel
theorem dL_diameterAt_9 : decode cL_diameterAt 9 = .ok (.lastore, 1) := by decide +kernel
theorem dL_diameterAt_10 : decode cL_diameterAt 10 = .ok (.goto 7, 3) := by decide +kernel
theorem dL_diameterAt_13 : decode cL_diameterAt 13 = .ok (.astore 4, 2) := by decide +kernel
theorem dL_diameterAt_15 : decode cL_diameterAt 15 = .ok (.iconst 1, 1) := by decide +kernel
theorem dL_diameterAt_16 : decode cL_diameterAt 16 = .ok (.ireturn, 1) := by decide +kernel
theorem dL_diameterAt_17 : decode cL_diameterAt 17 = .ok (.iconst 0, 1) := by decide +kernel
theorem dL_diameterAt_18 : decode cL_diameterAt 18 = .ok (.ireturn, 1) := by decide +kernel
theorem dL_passesOn_0 : decode cL_passesOn 0 = .ok (.aload_n 2, 1) := by decide +kernel
theorem dL_passesOn_1 : decode cL_passesOn 1 = .ok (.iconst 0, 1) := by decide +kernel
theorem dL_passesOn_2 : decode cL_passesOn 2 = .ok (.aload_n 0, 1) := by decide +kernel
theorem dL_passesOn_3 : decode cL_passesOn 3 = .ok (.iload_n 1, 1) := by decide +kernel
theorem dL_passesOn_4 : decode cL_passesOn 4 = .ok (.invokevirtual 92, 3) := by decide +kernel
theorem dL_passesOn_7 : decode cL_passesOn 7 = .ok (.i2l, 1) := by decide +kernel
theorem dL_passesOn_8 : decode cL_passesOn 8 = .ok (.lastore, 1) := by decide +kernel
theorem dL_passesOn_9 : decode cL_passesOn 9 = .ok (.goto 6, 3) := by decide +kernel
theorem dL_passesOn_12 : decode cL_passesOn 12 = .ok (.astore_n 3, 1) := by decide +kernel
theorem dL_passesOn_13 : decode cL_passesOn 13 = .ok (.iconst 1, 1) := by decide +kernel
theorem dL_passesOn_14 : decode cL_passesOn 14 = .ok (.ireturn, 1) := by decide +kernel
theorem dL_passesOn_15 : decode cL_passesOn 15 = .ok (.iconst 0, 1) := by decide +kernel
theorem dL_passesOn_16 : decode cL_passesOn 16 = .ok (.ireturn, 1) := by decide +kernel
theorem dL_mounted_0 : decode cL_mounted 0 = .ok (.aload_n 1, 1) := by decide +kernel
theorem dL_mounted_1 : decode cL_mounted 1 = .ok (.iconst 0, 1) := by decide +kernel
theorem dL_mounted_2 : decode cL_mounted 2 = .ok (.aload_n 0, 1) := by decide +kernel
theorem dL_mounted_3 : decode cL_mounted 3 = .ok (.invokevirtual 95, 3) := by decide +kernel
theorem dL_mounted_6 : decode cL_mounted 6 = .ok (.i2l, 1) := by decide +kernel
theorem dL_mounted_7 : decode cL_mounted 7 = .ok (.lastore, 1) := by decide +kernel
theorem dL_mounted_8 : decode cL_mounted 8 = .ok (.goto 6, 3) := by decide +kernel
theorem dL_mounted_11 : decode cL_mounted 11 = .ok (.astore_n 2, 1) := by decide +kernel
theorem dL_mounted_12 : decode cL_mounted 12 = .ok (.iconst 1, 1) := by decide +kernel
theorem dL_mounted_13 : decode cL_mounted 13 = .ok (.ireturn, 1) := by decide +kernel
theorem dL_mounted_14 : decode cL_mounted 14 = .ok (.iconst 0, 1) := by decide +kernel
theorem dL_mounted_15 : decode cL_mounted 15 = .ok (.ireturn, 1) := by decide +kernel
theorem dL_priceOf_0 : decode cL_priceOf 0 = .ok (.aload_n 2, 1) := by decide +kernel
theorem dL_priceOf_1 : decode cL_priceOf 1 = .ok (.iconst 0, 1) := by decide +kernel
theorem dL_priceOf_2 : decode cL_priceOf 2 = .ok (.aload_n 0, 1) := by decide +kernel
theorem dL_priceOf_3 : decode cL_priceOf 3 = .ok (.iload_n 1, 1) := by decide +kernel
theorem dL_priceOf_4 : decode cL_priceOf 4 = .ok (.invokevirtual 98, 3) := by decide +kernel
theorem dL_priceOf_7 : decode cL_priceOf 7 = .ok (.i2l, 1) := by decide +kernel
theorem dL_priceOf_8 : decode cL_priceOf 8 = .ok (.lastore, 1) := by decide +kernel
theorem dL_priceOf_9 : decode cL_priceOf 9 = .ok (.goto 6, 3) := by decide +kernel
theorem dL_priceOf_12 : decode cL_priceOf 12 = .ok (.astore_n 3, 1) := by decide +kernel
theorem dL_priceOf_13 : decode cL_priceOf 13 = .ok (.iconst 1, 1) := by decide +kernel
theorem dL_priceOf_14 : decode cL_priceOf 14 = .ok (.ireturn, 1) := by decide +kernel
theorem dL_priceOf_15 : decode cL_priceOf 15 = .ok (.iconst 0, 1) := by decide +kernel
theorem dL_priceOf_16 : decode cL_priceOf 16 = .ok (.ireturn, 1) := by decide +kernel
theorem dL_readingByLooking_0 : decode cL_readingByLooking 0 = .ok (.aload_n 2, 1) := by decide +kernel
theorem dL_readingByLooking_1 : decode cL_readingByLooking 1 = .ok (.iconst 0, 1) := by decide +kernel
theorem dL_readingByLooking_2 : decode cL_readingByLooking 2 = .ok (.aload_n 0, 1) := by decide +kernel
theorem dL_readingByLooking_3 : decode cL_readingByLooking 3 = .ok (.iload_n 1, 1) := by decide +kernel
theorem dL_readingByLooking_4 : decode cL_readingByLooking 4 = .ok (.invokevirtual 101, 3) := by decide +kernel
theorem dL_readingByLooking_7 : decode cL_readingByLooking 7 = .ok (.i2l, 1) := by decide +kernel
theorem dL_readingByLooking_8 : decode cL_readingByLooking 8 = .ok (.lastore, 1) := by decide +kernel
theorem dL_readingByLooking_9 : decode cL_readingByLooking 9 = .ok (.goto 6, 3) := by decide +kernel
theorem dL_readingByLooking_12 : decode cL_readingByLooking 12 = .ok (.astore_n 3, 1) := by decide +kernel
theorem dL_readingByLooking_13 : decode cL_readingByLooking 13 = .ok (.iconst 1, 1) := by decide +kernel
theorem dL_readingByLooking_14 : decode cL_readingByLooking 14 = .ok (.ireturn, 1) := by decide +kernel
theorem dL_readingByLooking_15 : decode cL_readingByLooking 15 = .ok (.iconst 0, 1) := by decide +kernel
theorem dL_readingByLooking_16 : decode cL_readingByLooking 16 = .ok (.ireturn, 1) := by decide +kernel
theorem dL_readingByQueue_0 : decode cL_readingByQueue 0 = .ok (.aload_n 2, 1) := by decide +kernel
theorem dL_readingByQueue_1 : decode cL_readingByQueue 1 = .ok (.iconst 0, 1) := by decide +kernel
theorem dL_readingByQueue_2 : decode cL_readingByQueue 2 = .ok (.aload_n 0, 1) := by decide +kernel
theorem dL_readingByQueue_3 : decode cL_readingByQueue 3 = .ok (.iload_n 1, 1) := by decide +kernel
theorem dL_readingByQueue_4 : decode cL_readingByQueue 4 = .ok (.invokevirtual 104, 3) := by decide +kernel
theorem dL_readingByQueue_7 : decode cL_readingByQueue 7 = .ok (.i2l, 1) := by decide +kernel
theorem dL_readingByQueue_8 : decode cL_readingByQueue 8 = .ok (.lastore, 1) := by decide +kernel
theorem dL_readingByQueue_9 : decode cL_readingByQueue 9 = .ok (.goto 6, 3) := by decide +kernel
theorem dL_readingByQueue_12 : decode cL_readingByQueue 12 = .ok (.astore_n 3, 1) := by decide +kernel
theorem dL_readingByQueue_13 : decode cL_readingByQueue 13 = .ok (.iconst 1, 1) := by decide +kernel
theorem dL_readingByQueue_14 : decode cL_readingByQueue 14 = .ok (.ireturn, 1) := by decide +kernel
theorem dL_readingByQueue_15 : decode cL_readingByQueue 15 = .ok (.iconst 0, 1) := by decide +kernel
theorem dL_readingByQueue_16 : decode cL_readingByQueue 16 = .ok (.ireturn, 1) := by decide +kernel
theorem dL_targetAt_0 : decode cL_targetAt 0 = .ok (.aload_n 2, 1) := by decide +kernel
theorem dL_targetAt_1 : decode cL_targetAt 1 = .ok (.iconst 0, 1) := by decide +kernel
theorem dL_targetAt_2 : decode cL_targetAt 2 = .ok (.aload_n 0, 1) := by decide +kernel
theorem dL_targetAt_3 : decode cL_targetAt 3 = .ok (.iload_n 1, 1) := by decide +kernel
theorem dL_targetAt_4 : decode cL_targetAt 4 = .ok (.invokevirtual 107, 3) := by decide +kernel
theorem dL_targetAt_7 : decode cL_targetAt 7 = .ok (.i2l, 1) := by decide +kernel
theorem dL_targetAt_8 : decode cL_targetAt 8 = .ok (.lastore, 1) := by decide +kernel
theorem dL_targetAt_9 : decode cL_targetAt 9 = .ok (.goto 6, 3) := by decide +kernel
theorem dL_targetAt_12 : decode cL_targetAt 12 = .ok (.astore_n 3, 1) := by decide +kernel
theorem dL_targetAt_13 : decode cL_targetAt 13 = .ok (.iconst 1, 1) := by decide +kernel
theorem dL_targetAt_14 : decode cL_targetAt 14 = .ok (.ireturn, 1) := by decide +kernel
theorem dL_targetAt_15 : decode cL_targetAt 15 = .ok (.iconst 0, 1) := by decide +kernel
theorem dL_targetAt_16 : decode cL_targetAt 16 = .ok (.ireturn, 1) := by decide +kernel
theorem dL_tooThick_0 : decode cL_tooThick 0 = .ok (.aload_n 2, 1) := by decide +kernel
theorem dL_tooThick_1 : decode cL_tooThick 1 = .ok (.iconst 0, 1) := by decide +kernel
theorem dL_tooThick_2 : decode cL_tooThick 2 = .ok (.aload_n 0, 1) := by decide +kernel
theorem dL_tooThick_3 : decode cL_tooThick 3 = .ok (.iload_n 1, 1) := by decide +kernel
theorem dL_tooThick_4 : decode cL_tooThick 4 = .ok (.invokevirtual 110, 3) := by decide +kernel
theorem dL_tooThick_7 : decode cL_tooThick 7 = .ok (.i2l, 1) := by decide +kernel
theorem dL_tooThick_8 : decode cL_tooThick 8 = .ok (.lastore, 1) := by decide +kernel
theorem dL_tooThick_9 : decode cL_tooThick 9 = .ok (.goto 6, 3) := by decide +kernel
theorem dL_tooThick_12 : decode cL_tooThick 12 = .ok (.astore_n 3, 1) := by decide +kernel
theorem dL_tooThick_13 : decode cL_tooThick 13 = .ok (.iconst 1, 1) := by decide +kernel
theorem dL_tooThick_14 : decode cL_tooThick 14 = .ok (.ireturn, 1) := by decide +kernel
theorem dL_tooThick_15 : decode cL_tooThick 15 = .ok (.iconst 0, 1) := by decide +kernel
theorem dL_tooThick_16 : decode cL_tooThick 16 = .ok (.ireturn, 1) := by decide +kernel
theorem dL_tooThin_0 : decode cL_tooThin 0 = .ok (.aload_n 2, 1) := by decide +kernel
theorem dL_tooThin_1 : decode cL_tooThin 1 = .ok (.iconst 0, 1) := by decide +kernel
theorem dL_tooThin_2 : decode cL_tooThin 2 = .ok (.aload_n 0, 1) := by decide +kernel
theorem dL_tooThin_3 : decode cL_tooThin 3 = .ok (.iload_n 1, 1) := by decide +kernel
theorem dL_tooThin_4 : decode cL_tooThin 4 = .ok (.invokevirtual 113, 3) := by decide +kernel
theorem dL_tooThin_7 : decode cL_tooThin 7 = .ok (.i2l, 1) := by decide +kernel
theorem dL_tooThin_8 : decode cL_tooThin 8 = .ok (.lastore, 1) := by decide +kernel
theorem dL_tooThin_9 : decode cL_tooThin 9 = .ok (.goto 6, 3) := by decide +kernel
theorem dL_tooThin_12 : decode cL_tooThin 12 = .ok (.astore_n 3, 1) := by decide +kernel
theorem dL_tooThin_13 : decode cL_tooThin 13 = .ok (.iconst 1, 1) := by decide +kernel
theorem dL_tooThin_14 : decode cL_tooThin 14 = .ok (.ireturn, 1) := by decide +kernel
theorem dL_tooThin_15 : decode cL_tooThin 15 = .ok (.iconst 0, 1) := by decide +kernel
theorem dL_tooThin_16 : decode cL_tooThin 16 = .ok (.ireturn, 1) := by decide +kernel
theorem dL_faultsOf_0 : decode cL_faultsOf 0 = .ok (.aload_n 2, 1) := by decide +kernel
theorem dL_faultsOf_1 : decode cL_faultsOf 1 = .ok (.iconst 0, 1) := by decide +kernel
theorem dL_faultsOf_2 : decode cL_faultsOf 2 = .ok (.aload_n 0, 1) := by decide +kernel
theorem dL_faultsOf_3 : decode cL_faultsOf 3 = .ok (.iload_n 1, 1) := by decide +kernel
theorem dL_faultsOf_4 : decode cL_faultsOf 4 = .ok (.invokevirtual 116, 3) := by decide +kernel
theorem dL_faultsOf_7 : decode cL_faultsOf 7 = .ok (.i2l, 1) := by decide +kernel
theorem dL_faultsOf_8 : decode cL_faultsOf 8 = .ok (.lastore, 1) := by decide +kernel
theorem dL_faultsOf_9 : decode cL_faultsOf 9 = .ok (.goto 6, 3) := by decide +kernel
theorem dL_faultsOf_12 : decode cL_faultsOf 12 = .ok (.astore_n 3, 1) := by decide +kernel
theorem dL_faultsOf_13 : decode cL_faultsOf 13 = .ok (.iconst 1, 1) := by decide +kernel
theorem dL_faultsOf_14 : decode cL_faultsOf 14 = .ok (.ireturn, 1) := by decide +kernel
theorem dL_faultsOf_15 : decode cL_faultsOf 15 = .ok (.iconst 0, 1) := by decide +kernel
theorem dL_faultsOf_16 : decode cL_faultsOf 16 = .ok (.ireturn, 1) := by decide +kernel
theorem dL_isGood_0 : decode cL_isGood 0 = .ok (.aload_n 2, 1) := by decide +kernel
theorem dL_isGood_1 : decode cL_isGood 1 = .ok (.iconst 0, 1) := by decide +kernel
theorem dL_isGood_2 : decode cL_isGood 2 = .ok (.aload_n 0, 1) := by decide +kernel
theorem dL_isGood_3 : decode cL_isGood 3 = .ok (.iload_n 1, 1) := by decide +kernel
theorem dL_isGood_4 : decode cL_isGood 4 = .ok (.invokevirtual 119, 3) := by decide +kernel
theorem dL_isGood_7 : decode cL_isGood 7 = .ok (.ifCond .eq 7, 3) := by decide +kernel
theorem dL_isGood_10 : decode cL_isGood 10 = .ok (.lconst 1, 1) := by decide +kernel
theorem dL_isGood_11 : decode cL_isGood 11 = .ok (.goto 4, 3) := by decide +kernel
theorem dL_isGood_14 : decode cL_isGood 14 = .ok (.lconst 0, 1) := by decide +kernel
theorem dL_isGood_15 : decode cL_isGood 15 = .ok (.lastore, 1) := by decide +kernel
theorem dL_isGood_16 : decode cL_isGood 16 = .ok (.goto 6, 3) := by decide +kernel
theorem dL_isGood_19 : decode cL_isGood 19 = .ok (.astore_n 3, 1) := by decide +kernel
theorem dL_isGood_20 : decode cL_isGood 20 = .ok (.iconst 1, 1) := by decide +kernel
theorem dL_isGood_21 : decode cL_isGood 21 = .ok (.ireturn, 1) := by decide +kernel
theorem dL_isGood_22 : decode cL_isGood 22 = .ok (.iconst 0, 1) := by decide +kernel
theorem dL_isGood_23 : decode cL_isGood 23 = .ok (.ireturn, 1) := by decide +kernel
theorem dL_mostLike_0 : decode cL_mostLike 0 = .ok (.aload_n 2, 1) := by decide +kernel
theorem dL_mostLike_1 : decode cL_mostLike 1 = .ok (.iconst 0, 1) := by decide +kernel
theorem dL_mostLike_2 : decode cL_mostLike 2 = .ok (.aload_n 0, 1) := by decide +kernel
theorem dL_mostLike_3 : decode cL_mostLike 3 = .ok (.iload_n 1, 1) := by decide +kernel
theorem dL_mostLike_4 : decode cL_mostLike 4 = .ok (.invokevirtual 123, 3) := by decide +kernel
theorem dL_mostLike_7 : decode cL_mostLike 7 = .ok (.i2l, 1) := by decide +kernel
theorem dL_mostLike_8 : decode cL_mostLike 8 = .ok (.lastore, 1) := by decide +kernel
theorem dL_mostLike_9 : decode cL_mostLike 9 = .ok (.goto 6, 3) := by decide +kernel
theorem dL_mostLike_12 : decode cL_mostLike 12 = .ok (.astore_n 3, 1) := by decide +kernel
theorem dL_mostLike_13 : decode cL_mostLike 13 = .ok (.iconst 1, 1) := by decide +kernel
theorem dL_mostLike_14 : decode cL_mostLike 14 = .ok (.ireturn, 1) := by decide +kernel
theorem dL_mostLike_15 : decode cL_mostLike 15 = .ok (.iconst 0, 1) := by decide +kernel
theorem dL_mostLike_16 : decode cL_mostLike 16 = .ok (.ireturn, 1) := by decide +kernel
theorem dL_bestCopy_0 : decode cL_bestCopy 0 = .ok (.aload_n 1, 1) := by decide +kernel
theorem dL_bestCopy_1 : decode cL_bestCopy 1 = .ok (.iconst 0, 1) := by decide +kernel
theorem dL_bestCopy_2 : decode cL_bestCopy 2 = .ok (.aload_n 0, 1) := by decide +kernel
theorem dL_bestCopy_3 : decode cL_bestCopy 3 = .ok (.invokevirtual 126, 3) := by decide +kernel
theorem dL_bestCopy_6 : decode cL_bestCopy 6 = .ok (.i2l, 1) := by decide +kernel
theorem dL_bestCopy_7 : decode cL_bestCopy 7 = .ok (.lastore, 1) := by decide +kernel
theorem dL_bestCopy_8 : decode cL_bestCopy 8 = .ok (.goto 6, 3) := by decide +kernel
theorem dL_bestCopy_11 : decode cL_bestCopy 11 = .ok (.astore_n 2, 1) := by decide +kernel
theorem dL_bestCopy_12 : decode cL_bestCopy 12 = .ok (.iconst 1, 1) := by decide +kernel
theorem dL_bestCopy_13 : decode cL_bestCopy 13 = .ok (.ireturn, 1) := by decide +kernel
theorem dL_bestCopy_14 : decode cL_bestCopy 14 = .ok (.iconst 0, 1) := by decide +kernel
theorem dL_bestCopy_15 : decode cL_bestCopy 15 = .ok (.ireturn, 1) := by decide +kernel
theorem dL_isFinished_0 : decode cL_isFinished 0 = .ok (.aload_n 1, 1) := by decide +kernel
theorem dL_isFinished_1 : decode cL_isFinished 1 = .ok (.iconst 0, 1) := by decide +kernel
theorem dL_isFinished_2 : decode cL_isFinished 2 = .ok (.aload_n 0, 1) := by decide +kernel
theorem dL_isFinished_3 : decode cL_isFinished 3 = .ok (.invokevirtual 129, 3) := by decide +kernel
theorem dL_isFinished_6 : decode cL_isFinished 6 = .ok (.ifCond .eq 7, 3) := by decide +kernel
theorem dL_isFinished_9 : decode cL_isFinished 9 = .ok (.lconst 1, 1) := by decide +kernel
theorem dL_isFinished_10 : decode cL_isFinished 10 = .ok (.goto 4, 3) := by decide +kernel
theorem dL_isFinished_13 : decode cL_isFinished 13 = .ok (.lconst 0, 1) := by decide +kernel
theorem dL_isFinished_14 : decode cL_isFinished 14 = .ok (.lastore, 1) := by decide +kernel
theorem dL_isFinished_15 : decode cL_isFinished 15 = .ok (.goto 6, 3) := by decide +kernel
theorem dL_isFinished_18 : decode cL_isFinished 18 = .ok (.astore_n 2, 1) := by decide +kernel
theorem dL_isFinished_19 : decode cL_isFinished 19 = .ok (.iconst 1, 1) := by decide +kernel
theorem dL_isFinished_20 : decode cL_isFinished 20 = .ok (.ireturn, 1) := by decide +kernel
theorem dL_isFinished_21 : decode cL_isFinished 21 = .ok (.iconst 0, 1) := by decide +kernel
theorem dL_isFinished_22 : decode cL_isFinished 22 = .ok (.ireturn, 1) := by decide +kernel
theorem dL_ifPassed_0 : decode cL_ifPassed 0 = .ok (.aload_n 1, 1) := by decide +kernel
theorem dL_ifPassed_1 : decode cL_ifPassed 1 = .ok (.iconst 0, 1) := by decide +kernel
theorem dL_ifPassed_2 : decode cL_ifPassed 2 = .ok (.aload_n 0, 1) := by decide +kernel
theorem dL_ifPassed_3 : decode cL_ifPassed 3 = .ok (.invokevirtual 133, 3) := by decide +kernel
theorem dL_ifPassed_6 : decode cL_ifPassed 6 = .ok (.i2l, 1) := by decide +kernel
theorem dL_ifPassed_7 : decode cL_ifPassed 7 = .ok (.lastore, 1) := by decide +kernel
theorem dL_ifPassed_8 : decode cL_ifPassed 8 = .ok (.goto 6, 3) := by decide +kernel
theorem dL_ifPassed_11 : decode cL_ifPassed 11 = .ok (.astore_n 2, 1) := by decide +kernel
theorem dL_ifPassed_12 : decode cL_ifPassed 12 = .ok (.iconst 1, 1) := by decide +kernel
theorem dL_ifPassed_13 : decode cL_ifPassed 13 = .ok (.ireturn, 1) := by decide +kernel
theorem dL_ifPassed_14 : decode cL_ifPassed 14 = .ok (.iconst 0, 1) := by decide +kernel
theorem dL_ifPassed_15 : decode cL_ifPassed 15 = .ok (.ireturn, 1) := by decide +kernel
theorem dL_passesBySteps_0 : decode cL_passesBySteps 0 = .ok (.aload_n 1, 1) := by decide +kernel
theorem dL_passesBySteps_1 : decode cL_passesBySteps 1 = .ok (.iconst 0, 1) := by decide +kernel
theorem dL_passesBySteps_2 : decode cL_passesBySteps 2 = .ok (.aload_n 0, 1) := by decide +kernel
theorem dL_passesBySteps_3 : decode cL_passesBySteps 3 = .ok (.invokevirtual 136, 3) := by decide +kernel
theorem dL_passesBySteps_6 : decode cL_passesBySteps 6 = .ok (.i2l, 1) := by decide +kernel
theorem dL_passesBySteps_7 : decode cL_passesBySteps 7 = .ok (.lastore, 1) := by decide +kernel
theorem dL_passesBySteps_8 : decode cL_passesBySteps 8 = .ok (.goto 6, 3) := by decide +kernel
theorem dL_passesBySteps_11 : decode cL_passesBySteps 11 = .ok (.astore_n 2, 1) := by decide +kernel
theorem dL_passesBySteps_12 : decode cL_passesBySteps 12 = .ok (.iconst 1, 1) := by decide +kernel
theorem dL_passesBySteps_13 : decode cL_passesBySteps 13 = .ok (.ireturn, 1) := by decide +kernel
theorem dL_passesBySteps_14 : decode cL_passesBySteps 14 = .ok (.iconst 0, 1) := by decide +kernel
theorem dL_passesBySteps_15 : decode cL_passesBySteps 15 = .ok (.ireturn, 1) := by decide +kernel
theorem dL_passesByDivision_0 : decode cL_passesByDivision 0 = .ok (.aload_n 1, 1) := by decide +kernel
theorem dL_passesByDivision_1 : decode cL_passesByDivision 1 = .ok (.iconst 0, 1) := by decide +kernel
theorem dL_passesByDivision_2 : decode cL_passesByDivision 2 = .ok (.aload_n 0, 1) := by decide +kernel
theorem dL_passesByDivision_3 : decode cL_passesByDivision 3 = .ok (.invokevirtual 139, 3) := by decide +kernel
theorem dL_passesByDivision_6 : decode cL_passesByDivision 6 = .ok (.i2l, 1) := by decide +kernel
theorem dL_passesByDivision_7 : decode cL_passesByDivision 7 = .ok (.lastore, 1) := by decide +kernel
theorem dL_passesByDivision_8 : decode cL_passesByDivision 8 = .ok (.goto 6, 3) := by decide +kernel
theorem dL_passesByDivision_11 : decode cL_passesByDivision 11 = .ok (.astore_n 2, 1) := by decide +kernel
theorem dL_passesByDivision_12 : decode cL_passesByDivision 12 = .ok (.iconst 1, 1) := by decide +kernel
theorem dL_passesByDivision_13 : decode cL_passesByDivision 13 = .ok (.ireturn, 1) := by decide +kernel
theorem dL_passesByDivision_14 : decode cL_passesByDivision 14 = .ok (.iconst 0, 1) := by decide +kernel
theorem dL_passesByDivision_15 : decode cL_passesByDivision 15 = .ok (.ireturn, 1) := by decide +kernel
theorem dL_passesUntilBlunt_0 : decode cL_passesUntilBlunt 0 = .ok (.aload_n 1, 1) := by decide +kernel
theorem dL_passesUntilBlunt_1 : decode cL_passesUntilBlunt 1 = .ok (.iconst 0, 1) := by decide +kernel
theorem dL_passesUntilBlunt_2 : decode cL_passesUntilBlunt 2 = .ok (.aload_n 0, 1) := by decide +kernel
theorem dL_passesUntilBlunt_3 : decode cL_passesUntilBlunt 3 = .ok (.invokevirtual 142, 3) := by decide +kernel
theorem dL_passesUntilBlunt_6 : decode cL_passesUntilBlunt 6 = .ok (.i2l, 1) := by decide +kernel
theorem dL_passesUntilBlunt_7 : decode cL_passesUntilBlunt 7 = .ok (.lastore, 1) := by decide +kernel
theorem dL_passesUntilBlunt_8 : decode cL_passesUntilBlunt 8 = .ok (.goto 6, 3) := by decide +kernel
theorem dL_passesUntilBlunt_11 : decode cL_passesUntilBlunt 11 = .ok (.astore_n 2, 1) := by decide +kernel
theorem dL_passesUntilBlunt_12 : decode cL_passesUntilBlunt 12 = .ok (.iconst 1, 1) := by decide +kernel
theorem dL_passesUntilBlunt_13 : decode cL_passesUntilBlunt 13 = .ok (.ireturn, 1) := by decide +kernel
theorem dL_passesUntilBlunt_14 : decode cL_passesUntilBlunt 14 = .ok (.iconst 0, 1) := by decide +kernel
theorem dL_passesUntilBlunt_15 : decode cL_passesUntilBlunt 15 = .ok (.ireturn, 1) := by decide +kernel
theorem dL_chipsOf_0 : decode cL_chipsOf 0 = .ok (.aload_n 2, 1) := by decide +kernel
theorem dL_chipsOf_1 : decode cL_chipsOf 1 = .ok (.iconst 0, 1) := by decide +kernel
theorem dL_chipsOf_2 : decode cL_chipsOf 2 = .ok (.aload_n 0, 1) := by decide +kernel
theorem dL_chipsOf_3 : decode cL_chipsOf 3 = .ok (.iload_n 1, 1) := by decide +kernel
theorem dL_chipsOf_4 : decode cL_chipsOf 4 = .ok (.invokevirtual 145, 3) := by decide +kernel
theorem dL_chipsOf_7 : decode cL_chipsOf 7 = .ok (.i2l, 1) := by decide +kernel
theorem dL_chipsOf_8 : decode cL_chipsOf 8 = .ok (.lastore, 1) := by decide +kernel
theorem dL_chipsOf_9 : decode cL_chipsOf 9 = .ok (.goto 6, 3) := by decide +kernel
theorem dL_chipsOf_12 : decode cL_chipsOf 12 = .ok (.astore_n 3, 1) := by decide +kernel
theorem dL_chipsOf_13 : decode cL_chipsOf 13 = .ok (.iconst 1, 1) := by decide +kernel
theorem dL_chipsOf_14 : decode cL_chipsOf 14 = .ok (.ireturn, 1) := by decide +kernel
theorem dL_chipsOf_15 : decode cL_chipsOf 15 = .ok (.iconst 0, 1) := by decide +kernel
theorem dL_chipsOf_16 : decode cL_chipsOf 16 = .ok (.ireturn, 1) := by decide +kernel
theorem dL_meanDiameter_0 : decode cL_meanDiameter 0 = .ok (.aload_n 2, 1) := by decide +kernel
theorem dL_meanDiameter_1 : decode cL_meanDiameter 1 = .ok (.iconst 0, 1) := by decide +kernel
theorem dL_meanDiameter_2 : decode cL_meanDiameter 2 = .ok (.aload_n 0, 1) := by decide +kernel
theorem dL_meanDiameter_3 : decode cL_meanDiameter 3 = .ok (.iload_n 1, 1) := by decide +kernel
theorem dL_meanDiameter_4 : decode cL_meanDiameter 4 = .ok (.invokevirtual 148, 3) := by decide +kernel
theorem dL_meanDiameter_7 : decode cL_meanDiameter 7 = .ok (.dastore, 1) := by decide +kernel
theorem dL_meanDiameter_8 : decode cL_meanDiameter 8 = .ok (.goto 6, 3) := by decide +kernel
theorem dL_meanDiameter_11 : decode cL_meanDiameter 11 = .ok (.astore_n 3, 1) := by decide +kernel
theorem dL_meanDiameter_12 : decode cL_meanDiameter 12 = .ok (.iconst 1, 1) := by decide +kernel
theorem dL_meanDiameter_13 : decode cL_meanDiameter 13 = .ok (.ireturn, 1) := by decide +kernel
theorem dL_meanDiameter_14 : decode cL_meanDiameter 14 = .ok (.iconst 0, 1) := by decide +kernel
theorem dL_meanDiameter_15 : decode cL_meanDiameter 15 = .ok (.ireturn, 1) := by decide +kernel
theorem dL_law_0 : decode cL_law 0 = .ok (.new 8, 3) := by decide +kernel
theorem dL_law_3 : decode cL_law 3 = .ok (.dup, 1) := by decide +kernel
theorem dL_law_4 : decode cL_law 4 = .ok (.invokespecial 152, 3) := by decide +kernel
theorem dL_law_7 : decode cL_law 7 = .ok (.astore_n 1, 1) := by decide +kernel
theorem dL_law_8 : decode cL_law 8 = .ok (.new 153, 3) := by decide +kernel
theorem dL_law_11 : decode cL_law 11 = .ok (.dup, 1) := by decide +kernel
theorem dL_law_12 : decode cL_law 12 = .ok (.invokespecial 155, 3) := by decide +kernel
theorem dL_law_15 : decode cL_law 15 = .ok (.astore_n 2, 1) := by decide +kernel
theorem dL_law_16 : decode cL_law 16 = .ok (.iconst 1, 1) := by decide +kernel
theorem dL_law_17 : decode cL_law 17 = .ok (.newarray .long, 2) := by decide +kernel
theorem dL_law_19 : decode cL_law 19 = .ok (.astore_n 3, 1) := by decide +kernel
theorem dL_law_20 : decode cL_law 20 = .ok (.iconst 1, 1) := by decide +kernel
theorem dL_law_21 : decode cL_law 21 = .ok (.newarray .double, 2) := by decide +kernel
theorem dL_law_23 : decode cL_law 23 = .ok (.astore 4, 2) := by decide +kernel
theorem dL_law_25 : decode cL_law 25 = .ok (.iconst 0, 1) := by decide +kernel
theorem dL_law_26 : decode cL_law 26 = .ok (.istore 5, 2) := by decide +kernel
theorem dL_law_28 : decode cL_law 28 = .ok (.iload 5, 2) := by decide +kernel
theorem dL_law_30 : decode cL_law 30 = .ok (.aload_n 0, 1) := by decide +kernel
theorem dL_law_31 : decode cL_law 31 = .ok (.arraylength, 1) := by decide +kernel
theorem dL_law_32 : decode cL_law 32 = .ok (.iconst 4, 1) := by decide +kernel
theorem dL_law_33 : decode cL_law 33 = .ok (.isub, 1) := by decide +kernel
theorem dL_law_34 : decode cL_law 34 = .ok (.if_icmp .gt 2979, 3) := by decide +kernel
theorem dL_law_37 : decode cL_law 37 = .ok (.aload_n 0, 1) := by decide +kernel
theorem dL_law_38 : decode cL_law 38 = .ok (.iload 5, 2) := by decide +kernel
theorem dL_law_40 : decode cL_law 40 = .ok (.iaload, 1) := by decide +kernel
theorem dL_law_41 : decode cL_law 41 = .ok (.bipush 127, 2) := by decide +kernel
theorem dL_law_43 : decode cL_law 43 = .ok (.iand, 1) := by decide +kernel
theorem dL_law_44 : decode cL_law 44 = .ok (.tableswitch 2963 0 69 #[296, 376, 444, 500, 556, 612, 668, 681, 737, 793, 849, 862, 930, 986, 1022, 1066, 1110, 1166, 1222, 1278, 1291, 1304, 1360, 1396, 1432, 1456, 1469, 1537, 1550, 1563, 1576, 1589, 1602, 1615, 1628, 1641, 1654, 1667, 1680, 1693, 1706, 1762, 1830, 1886, 1899, 1943, 1999, 2012, 2025, 2038, 2051, 2064, 2120, 2176, 2232, 2245, 2258, 2314, 2370, 2426, 2489, 2545, 2589, 2640, 2684, 2728, 2772, 2816, 2872, 2949], 296) := by decide +kernel
theorem dL_law_340 : decode cL_law 340 = .ok (.aload_n 1, 1) := by decide +kernel
theorem dL_law_341 : decode cL_law 341 = .ok (.aload_n 0, 1) := by decide +kernel
theorem dL_law_342 : decode cL_law 342 = .ok (.iload 5, 2) := by decide +kernel
theorem dL_law_344 : decode cL_law 344 = .ok (.iconst 1, 1) := by decide +kernel
theorem dL_law_345 : decode cL_law 345 = .ok (.iadd, 1) := by decide +kernel
theorem dL_law_346 : decode cL_law 346 = .ok (.iaload, 1) := by decide +kernel
theorem dL_law_347 : decode cL_law 347 = .ok (.aload_n 0, 1) := by decide +kernel
theorem dL_law_348 : decode cL_law 348 = .ok (.iload 5, 2) := by decide +kernel
theorem dL_law_350 : decode cL_law 350 = .ok (.iconst 2, 1) := by decide +kernel
theorem dL_law_351 : decode cL_law 351 = .ok (.iadd, 1) := by decide +kernel
theorem dL_law_352 : decode cL_law 352 = .ok (.iaload, 1) := by decide +kernel
theorem dL_law_353 : decode cL_law 353 = .ok (.aload_n 0, 1) := by decide +kernel
theorem dL_law_354 : decode cL_law 354 = .ok (.iload 5, 2) := by decide +kernel
theorem dL_law_356 : decode cL_law 356 = .ok (.iconst 3, 1) := by decide +kernel
theorem dL_law_357 : decode cL_law 357 = .ok (.iadd, 1) := by decide +kernel
theorem dL_law_358 : decode cL_law 358 = .ok (.iaload, 1) := by decide +kernel
theorem dL_law_359 : decode cL_law 359 = .ok (.aload_n 3, 1) := by decide +kernel
theorem dL_law_360 : decode cL_law 360 = .ok (.invokestatic 156, 3) := by decide +kernel
theorem dL_law_363 : decode cL_law 363 = .ok (.istore 6, 2) := by decide +kernel
theorem dL_law_365 : decode cL_law 365 = .ok (.aload_n 2, 1) := by decide +kernel
theorem dL_law_366 : decode cL_law 366 = .ok (.aload_n 0, 1) := by decide +kernel
theorem dL_law_367 : decode cL_law 367 = .ok (.iload 5, 2) := by decide +kernel
theorem dL_law_369 : decode cL_law 369 = .ok (.iconst 1, 1) := by decide +kernel
theorem dL_law_370 : decode cL_law 370 = .ok (.iadd, 1) := by decide +kernel
theorem dL_law_371 : decode cL_law 371 = .ok (.iaload, 1) := by decide +kernel
theorem dL_law_372 : decode cL_law 372 = .ok (.aload_n 0, 1) := by decide +kernel
theorem dL_law_373 : decode cL_law 373 = .ok (.iload 5, 2) := by decide +kernel
theorem dL_law_375 : decode cL_law 375 = .ok (.iconst 2, 1) := by decide +kernel
theorem dL_law_376 : decode cL_law 376 = .ok (.iadd, 1) := by decide +kernel
theorem dL_law_377 : decode cL_law 377 = .ok (.iaload, 1) := by decide +kernel
theorem dL_law_378 : decode cL_law 378 = .ok (.aload_n 0, 1) := by decide +kernel
theorem dL_law_379 : decode cL_law 379 = .ok (.iload 5, 2) := by decide +kernel
theorem dL_law_381 : decode cL_law 381 = .ok (.iconst 3, 1) := by decide +kernel
theorem dL_law_382 : decode cL_law 382 = .ok (.iadd, 1) := by decide +kernel
theorem dL_law_383 : decode cL_law 383 = .ok (.iaload, 1) := by decide +kernel
theorem dL_law_384 : decode cL_law 384 = .ok (.invokevirtual 161, 3) := by decide +kernel
theorem dL_law_387 : decode cL_law 387 = .ok (.istore 7, 2) := by decide +kernel
theorem dL_law_389 : decode cL_law 389 = .ok (.aload_n 2, 1) := by decide +kernel
theorem dL_law_390 : decode cL_law 390 = .ok (.invokevirtual 162, 3) := by decide +kernel
theorem dL_law_393 : decode cL_law 393 = .ok (.iload 6, 2) := by decide +kernel
theorem dL_law_395 : decode cL_law 395 = .ok (.if_icmp .eq 5, 3) := by decide +kernel
theorem dL_law_398 : decode cL_law 398 = .ok (.iconst 0, 1) := by decide +kernel
theorem dL_law_399 : decode cL_law 399 = .ok (.ireturn, 1) := by decide +kernel
theorem dL_law_400 : decode cL_law 400 = .ok (.iload 6, 2) := by decide +kernel
theorem dL_law_402 : decode cL_law 402 = .ok (.ifCond .ne 15, 3) := by decide +kernel
theorem dL_law_405 : decode cL_law 405 = .ok (.aload_n 3, 1) := by decide +kernel
theorem dL_law_406 : decode cL_law 406 = .ok (.iconst 0, 1) := by decide +kernel
theorem dL_law_407 : decode cL_law 407 = .ok (.laload, 1) := by decide +kernel
theorem dL_law_408 : decode cL_law 408 = .ok (.iload 7, 2) := by decide +kernel
theorem dL_law_410 : decode cL_law 410 = .ok (.i2l, 1) := by decide +kernel
theorem dL_law_411 : decode cL_law 411 = .ok (.lcmp, 1) := by decide +kernel
theorem dL_law_412 : decode cL_law 412 = .ok (.ifCond .eq 5, 3) := by decide +kernel
theorem dL_law_415 : decode cL_law 415 = .ok (.iconst 0, 1) := by decide +kernel
theorem dL_law_416 : decode cL_law 416 = .ok (.ireturn, 1) := by decide +kernel
theorem dL_law_417 : decode cL_law 417 = .ok (.goto 2590, 3) := by decide +kernel
theorem dL_law_420 : decode cL_law 420 = .ok (.aload_n 1, 1) := by decide +kernel
theorem dL_law_421 : decode cL_law 421 = .ok (.aload_n 0, 1) := by decide +kernel
theorem dL_law_422 : decode cL_law 422 = .ok (.iload 5, 2) := by decide +kernel
theorem dL_law_424 : decode cL_law 424 = .ok (.iconst 1, 1) := by decide +kernel
theorem dL_law_425 : decode cL_law 425 = .ok (.iadd, 1) := by decide +kernel
theorem dL_law_426 : decode cL_law 426 = .ok (.iaload, 1) := by decide +kernel
theorem dL_law_427 : decode cL_law 427 = .ok (.aload_n 0, 1) := by decide +kernel
theorem dL_law_428 : decode cL_law 428 = .ok (.iload 5, 2) := by decide +kernel
theorem dL_law_430 : decode cL_law 430 = .ok (.iconst 2, 1) := by decide +kernel
theorem dL_law_431 : decode cL_law 431 = .ok (.iadd, 1) := by decide +kernel
theorem dL_law_432 : decode cL_law 432 = .ok (.iaload, 1) := by decide +kernel
theorem dL_law_433 : decode cL_law 433 = .ok (.aload_n 3, 1) := by decide +kernel
theorem dL_law_434 : decode cL_law 434 = .ok (.invokestatic 165, 3) := by decide +kernel
theorem dL_law_437 : decode cL_law 437 = .ok (.istore 6, 2) := by decide +kernel
theorem dL_law_439 : decode cL_law 439 = .ok (.aload_n 2, 1) := by decide +kernel
theorem dL_law_440 : decode cL_law 440 = .ok (.aload_n 0, 1) := by decide +kernel
theorem dL_law_441 : decode cL_law 441 = .ok (.iload 5, 2) := by decide +kernel
theorem dL_law_443 : decode cL_law 443 = .ok (.iconst 1, 1) := by decide +kernel
theorem dL_law_444 : decode cL_law 444 = .ok (.iadd, 1) := by decide +kernel
theorem dL_law_445 : decode cL_law 445 = .ok (.iaload, 1) := by decide +kernel
theorem dL_law_446 : decode cL_law 446 = .ok (.aload_n 0, 1) := by decide +kernel
theorem dL_law_447 : decode cL_law 447 = .ok (.iload 5, 2) := by decide +kernel
theorem dL_law_449 : decode cL_law 449 = .ok (.iconst 2, 1) := by decide +kernel
theorem dL_law_450 : decode cL_law 450 = .ok (.iadd, 1) := by decide +kernel
theorem dL_law_451 : decode cL_law 451 = .ok (.iaload, 1) := by decide +kernel
theorem dL_law_452 : decode cL_law 452 = .ok (.invokevirtual 168, 3) := by decide +kernel
theorem dL_law_455 : decode cL_law 455 = .ok (.istore 7, 2) := by decide +kernel
theorem dL_law_457 : decode cL_law 457 = .ok (.aload_n 2, 1) := by decide +kernel
theorem dL_law_458 : decode cL_law 458 = .ok (.invokevirtual 162, 3) := by decide +kernel
theorem dL_law_461 : decode cL_law 461 = .ok (.iload 6, 2) := by decide +kernel
theorem dL_law_463 : decode cL_law 463 = .ok (.if_icmp .eq 5, 3) := by decide +kernel
theorem dL_law_466 : decode cL_law 466 = .ok (.iconst 0, 1) := by decide +kernel
theorem dL_law_467 : decode cL_law 467 = .ok (.ireturn, 1) := by decide +kernel
theorem dL_law_468 : decode cL_law 468 = .ok (.iload 6, 2) := by decide +kernel
theorem dL_law_470 : decode cL_law 470 = .ok (.ifCond .ne 15, 3) := by decide +kernel
theorem dL_law_473 : decode cL_law 473 = .ok (.aload_n 3, 1) := by decide +kernel
theorem dL_law_474 : decode cL_law 474 = .ok (.iconst 0, 1) := by decide +kernel
theorem dL_law_475 : decode cL_law 475 = .ok (.laload, 1) := by decide +kernel
theorem dL_law_476 : decode cL_law 476 = .ok (.iload 7, 2) := by decide +kernel
theorem dL_law_478 : decode cL_law 478 = .ok (.i2l, 1) := by decide +kernel
theorem dL_law_479 : decode cL_law 479 = .ok (.lcmp, 1) := by decide +kernel
theorem dL_law_480 : decode cL_law 480 = .ok (.ifCond .eq 5, 3) := by decide +kernel
theorem dL_law_483 : decode cL_law 483 = .ok (.iconst 0, 1) := by decide +kernel
theorem dL_law_484 : decode cL_law 484 = .ok (.ireturn, 1) := by decide +kernel
theorem dL_law_485 : decode cL_law 485 = .ok (.goto 2522, 3) := by decide +kernel
theorem dL_law_488 : decode cL_law 488 = .ok (.aload_n 1, 1) := by decide +kernel
theorem dL_law_489 : decode cL_law 489 = .ok (.aload_n 0, 1) := by decide +kernel
theorem dL_law_490 : decode cL_law 490 = .ok (.iload 5, 2) := by decide +kernel
theorem dL_law_492 : decode cL_law 492 = .ok (.iconst 1, 1) := by decide +kernel
theorem dL_law_493 : decode cL_law 493 = .ok (.iadd, 1) := by decide +kernel
theorem dL_law_494 : decode cL_law 494 = .ok (.iaload, 1) := by decide +kernel
theorem dL_law_495 : decode cL_law 495 = .ok (.aload_n 3, 1) := by decide +kernel
theorem dL_law_496 : decode cL_law 496 = .ok (.invokestatic 169, 3) := by decide +kernel
theorem dL_law_499 : decode cL_law 499 = .ok (.istore 6, 2) := by decide +kernel
theorem dL_law_501 : decode cL_law 501 = .ok (.aload_n 2, 1) := by decide +kernel
theorem dL_law_502 : decode cL_law 502 = .ok (.aload_n 0, 1) := by decide +kernel
theorem dL_law_503 : decode cL_law 503 = .ok (.iload 5, 2) := by decide +kernel
theorem dL_law_505 : decode cL_law 505 = .ok (.iconst 1, 1) := by decide +kernel
theorem dL_law_506 : decode cL_law 506 = .ok (.iadd, 1) := by decide +kernel
theorem dL_law_507 : decode cL_law 507 = .ok (.iaload, 1) := by decide +kernel
theorem dL_law_508 : decode cL_law 508 = .ok (.invokevirtual 172, 3) := by decide +kernel
theorem dL_law_511 : decode cL_law 511 = .ok (.istore 7, 2) := by decide +kernel
theorem dL_law_513 : decode cL_law 513 = .ok (.aload_n 2, 1) := by decide +kernel
theorem dL_law_514 : decode cL_law 514 = .ok (.invokevirtual 162, 3) := by decide +kernel
theorem dL_law_517 : decode cL_law 517 = .ok (.iload 6, 2) := by decide +kernel
theorem dL_law_519 : decode cL_law 519 = .ok (.if_icmp .eq 5, 3) := by decide +kernel
theorem dL_law_522 : decode cL_law 522 = .ok (.iconst 0, 1) := by decide +kernel
theorem dL_law_523 : decode cL_law 523 = .ok (.ireturn, 1) := by decide +kernel
theorem dL_law_524 : decode cL_law 524 = .ok (.iload 6, 2) := by decide +kernel
theorem dL_law_526 : decode cL_law 526 = .ok (.ifCond .ne 15, 3) := by decide +kernel
theorem dL_law_529 : decode cL_law 529 = .ok (.aload_n 3, 1) := by decide +kernel
theorem dL_law_530 : decode cL_law 530 = .ok (.iconst 0, 1) := by decide +kernel
theorem dL_law_531 : decode cL_law 531 = .ok (.laload, 1) := by decide +kernel
theorem dL_law_532 : decode cL_law 532 = .ok (.iload 7, 2) := by decide +kernel
theorem dL_law_534 : decode cL_law 534 = .ok (.i2l, 1) := by decide +kernel
theorem dL_law_535 : decode cL_law 535 = .ok (.lcmp, 1) := by decide +kernel
theorem dL_law_536 : decode cL_law 536 = .ok (.ifCond .eq 5, 3) := by decide +kernel
theorem dL_law_539 : decode cL_law 539 = .ok (.iconst 0, 1) := by decide +kernel
theorem dL_law_540 : decode cL_law 540 = .ok (.ireturn, 1) := by decide +kernel
theorem dL_law_541 : decode cL_law 541 = .ok (.goto 2466, 3) := by decide +kernel
theorem dL_law_544 : decode cL_law 544 = .ok (.aload_n 1, 1) := by decide +kernel
theorem dL_law_545 : decode cL_law 545 = .ok (.aload_n 0, 1) := by decide +kernel
theorem dL_law_546 : decode cL_law 546 = .ok (.iload 5, 2) := by decide +kernel
theorem dL_law_548 : decode cL_law 548 = .ok (.iconst 1, 1) := by decide +kernel
theorem dL_law_549 : decode cL_law 549 = .ok (.iadd, 1) := by decide +kernel
theorem dL_law_550 : decode cL_law 550 = .ok (.iaload, 1) := by decide +kernel
theorem dL_law_551 : decode cL_law 551 = .ok (.aload_n 3, 1) := by decide +kernel
theorem dL_law_552 : decode cL_law 552 = .ok (.invokestatic 173, 3) := by decide +kernel
theorem dL_law_555 : decode cL_law 555 = .ok (.istore 6, 2) := by decide +kernel
theorem dL_law_557 : decode cL_law 557 = .ok (.aload_n 2, 1) := by decide +kernel
theorem dL_law_558 : decode cL_law 558 = .ok (.aload_n 0, 1) := by decide +kernel
theorem dL_law_559 : decode cL_law 559 = .ok (.iload 5, 2) := by decide +kernel
theorem dL_law_561 : decode cL_law 561 = .ok (.iconst 1, 1) := by decide +kernel
theorem dL_law_562 : decode cL_law 562 = .ok (.iadd, 1) := by decide +kernel
theorem dL_law_563 : decode cL_law 563 = .ok (.iaload, 1) := by decide +kernel
theorem dL_law_564 : decode cL_law 564 = .ok (.invokevirtual 175, 3) := by decide +kernel
theorem dL_law_567 : decode cL_law 567 = .ok (.istore 7, 2) := by decide +kernel
theorem dL_law_569 : decode cL_law 569 = .ok (.aload_n 2, 1) := by decide +kernel
theorem dL_law_570 : decode cL_law 570 = .ok (.invokevirtual 162, 3) := by decide +kernel
theorem dL_law_573 : decode cL_law 573 = .ok (.iload 6, 2) := by decide +kernel
theorem dL_law_575 : decode cL_law 575 = .ok (.if_icmp .eq 5, 3) := by decide +kernel
theorem dL_law_578 : decode cL_law 578 = .ok (.iconst 0, 1) := by decide +kernel
theorem dL_law_579 : decode cL_law 579 = .ok (.ireturn, 1) := by decide +kernel
theorem dL_law_580 : decode cL_law 580 = .ok (.iload 6, 2) := by decide +kernel
theorem dL_law_582 : decode cL_law 582 = .ok (.ifCond .ne 15, 3) := by decide +kernel
theorem dL_law_585 : decode cL_law 585 = .ok (.aload_n 3, 1) := by decide +kernel
theorem dL_law_586 : decode cL_law 586 = .ok (.iconst 0, 1) := by decide +kernel
theorem dL_law_587 : decode cL_law 587 = .ok (.laload, 1) := by decide +kernel
theorem dL_law_588 : decode cL_law 588 = .ok (.iload 7, 2) := by decide +kernel
theorem dL_law_590 : decode cL_law 590 = .ok (.i2l, 1) := by decide +kernel
theorem dL_law_591 : decode cL_law 591 = .ok (.lcmp, 1) := by decide +kernel
theorem dL_law_592 : decode cL_law 592 = .ok (.ifCond .eq 5, 3) := by decide +kernel
theorem dL_law_595 : decode cL_law 595 = .ok (.iconst 0, 1) := by decide +kernel
theorem dL_law_596 : decode cL_law 596 = .ok (.ireturn, 1) := by decide +kernel
theorem dL_law_597 : decode cL_law 597 = .ok (.goto 2410, 3) := by decide +kernel
theorem dL_law_600 : decode cL_law 600 = .ok (.aload_n 1, 1) := by decide +kernel
theorem dL_law_601 : decode cL_law 601 = .ok (.aload_n 0, 1) := by decide +kernel
theorem dL_law_602 : decode cL_law 602 = .ok (.iload 5, 2) := by decide +kernel
theorem dL_law_604 : decode cL_law 604 = .ok (.iconst 1, 1) := by decide +kernel
theorem dL_law_605 : decode cL_law 605 = .ok (.iadd, 1) := by decide +kernel
theorem dL_law_606 : decode cL_law 606 = .ok (.iaload, 1) := by decide +kernel
theorem dL_law_607 : decode cL_law 607 = .ok (.aload_n 3, 1) := by decide +kernel
theorem dL_law_608 : decode cL_law 608 = .ok (.invokestatic 176, 3) := by decide +kernel
theorem dL_law_611 : decode cL_law 611 = .ok (.istore 6, 2) := by decide +kernel
theorem dL_law_613 : decode cL_law 613 = .ok (.aload_n 2, 1) := by decide +kernel
theorem dL_law_614 : decode cL_law 614 = .ok (.aload_n 0, 1) := by decide +kernel
theorem dL_law_615 : decode cL_law 615 = .ok (.iload 5, 2) := by decide +kernel
theorem dL_law_617 : decode cL_law 617 = .ok (.iconst 1, 1) := by decide +kernel
theorem dL_law_618 : decode cL_law 618 = .ok (.iadd, 1) := by decide +kernel
theorem dL_law_619 : decode cL_law 619 = .ok (.iaload, 1) := by decide +kernel
theorem dL_law_620 : decode cL_law 620 = .ok (.invokevirtual 178, 3) := by decide +kernel
theorem dL_law_623 : decode cL_law 623 = .ok (.istore 7, 2) := by decide +kernel
theorem dL_law_625 : decode cL_law 625 = .ok (.aload_n 2, 1) := by decide +kernel
theorem dL_law_626 : decode cL_law 626 = .ok (.invokevirtual 162, 3) := by decide +kernel
theorem dL_law_629 : decode cL_law 629 = .ok (.iload 6, 2) := by decide +kernel
theorem dL_law_631 : decode cL_law 631 = .ok (.if_icmp .eq 5, 3) := by decide +kernel
theorem dL_law_634 : decode cL_law 634 = .ok (.iconst 0, 1) := by decide +kernel
theorem dL_law_635 : decode cL_law 635 = .ok (.ireturn, 1) := by decide +kernel
theorem dL_law_636 : decode cL_law 636 = .ok (.iload 6, 2) := by decide +kernel
theorem dL_law_638 : decode cL_law 638 = .ok (.ifCond .ne 15, 3) := by decide +kernel
theorem dL_law_641 : decode cL_law 641 = .ok (.aload_n 3, 1) := by decide +kernel
theorem dL_law_642 : decode cL_law 642 = .ok (.iconst 0, 1) := by decide +kernel
theorem dL_law_643 : decode cL_law 643 = .ok (.laload, 1) := by decide +kernel
theorem dL_law_644 : decode cL_law 644 = .ok (.iload 7, 2) := by decide +kernel
theorem dL_law_646 : decode cL_law 646 = .ok (.i2l, 1) := by decide +kernel
theorem dL_law_647 : decode cL_law 647 = .ok (.lcmp, 1) := by decide +kernel
theorem dL_law_648 : decode cL_law 648 = .ok (.ifCond .eq 5, 3) := by decide +kernel
theorem dL_law_651 : decode cL_law 651 = .ok (.iconst 0, 1) := by decide +kernel
theorem dL_law_652 : decode cL_law 652 = .ok (.ireturn, 1) := by decide +kernel
theorem dL_law_653 : decode cL_law 653 = .ok (.goto 2354, 3) := by decide +kernel
theorem dL_law_656 : decode cL_law 656 = .ok (.aload_n 1, 1) := by decide +kernel
theorem dL_law_657 : decode cL_law 657 = .ok (.aload_n 0, 1) := by decide +kernel
theorem dL_law_658 : decode cL_law 658 = .ok (.iload 5, 2) := by decide +kernel
theorem dL_law_660 : decode cL_law 660 = .ok (.iconst 1, 1) := by decide +kernel
theorem dL_law_661 : decode cL_law 661 = .ok (.iadd, 1) := by decide +kernel
theorem dL_law_662 : decode cL_law 662 = .ok (.iaload, 1) := by decide +kernel
theorem dL_law_663 : decode cL_law 663 = .ok (.aload_n 3, 1) := by decide +kernel
theorem dL_law_664 : decode cL_law 664 = .ok (.invokestatic 179, 3) := by decide +kernel
theorem dL_law_667 : decode cL_law 667 = .ok (.istore 6, 2) := by decide +kernel
theorem dL_law_669 : decode cL_law 669 = .ok (.aload_n 2, 1) := by decide +kernel
theorem dL_law_670 : decode cL_law 670 = .ok (.aload_n 0, 1) := by decide +kernel
theorem dL_law_671 : decode cL_law 671 = .ok (.iload 5, 2) := by decide +kernel
theorem dL_law_673 : decode cL_law 673 = .ok (.iconst 1, 1) := by decide +kernel
theorem dL_law_674 : decode cL_law 674 = .ok (.iadd, 1) := by decide +kernel
theorem dL_law_675 : decode cL_law 675 = .ok (.iaload, 1) := by decide +kernel
theorem dL_law_676 : decode cL_law 676 = .ok (.invokevirtual 181, 3) := by decide +kernel
theorem dL_law_679 : decode cL_law 679 = .ok (.istore 7, 2) := by decide +kernel
theorem dL_law_681 : decode cL_law 681 = .ok (.aload_n 2, 1) := by decide +kernel
theorem dL_law_682 : decode cL_law 682 = .ok (.invokevirtual 162, 3) := by decide +kernel
theorem dL_law_685 : decode cL_law 685 = .ok (.iload 6, 2) := by decide +kernel
theorem dL_law_687 : decode cL_law 687 = .ok (.if_icmp .eq 5, 3) := by decide +kernel
theorem dL_law_690 : decode cL_law 690 = .ok (.iconst 0, 1) := by decide +kernel
theorem dL_law_691 : decode cL_law 691 = .ok (.ireturn, 1) := by decide +kernel
theorem dL_law_692 : decode cL_law 692 = .ok (.iload 6, 2) := by decide +kernel
theorem dL_law_694 : decode cL_law 694 = .ok (.ifCond .ne 15, 3) := by decide +kernel
theorem dL_law_697 : decode cL_law 697 = .ok (.aload_n 3, 1) := by decide +kernel
theorem dL_law_698 : decode cL_law 698 = .ok (.iconst 0, 1) := by decide +kernel
theorem dL_law_699 : decode cL_law 699 = .ok (.laload, 1) := by decide +kernel
theorem dL_law_700 : decode cL_law 700 = .ok (.iload 7, 2) := by decide +kernel
theorem dL_law_702 : decode cL_law 702 = .ok (.i2l, 1) := by decide +kernel
theorem dL_law_703 : decode cL_law 703 = .ok (.lcmp, 1) := by decide +kernel
theorem dL_law_704 : decode cL_law 704 = .ok (.ifCond .eq 5, 3) := by decide +kernel
theorem dL_law_707 : decode cL_law 707 = .ok (.iconst 0, 1) := by decide +kernel
theorem dL_law_708 : decode cL_law 708 = .ok (.ireturn, 1) := by decide +kernel
theorem dL_law_709 : decode cL_law 709 = .ok (.goto 2298, 3) := by decide +kernel
theorem dL_law_712 : decode cL_law 712 = .ok (.aload_n 1, 1) := by decide +kernel
theorem dL_law_713 : decode cL_law 713 = .ok (.invokevirtual 182, 3) := by decide +kernel
theorem dL_law_716 : decode cL_law 716 = .ok (.aload_n 2, 1) := by decide +kernel
theorem dL_law_717 : decode cL_law 717 = .ok (.invokevirtual 185, 3) := by decide +kernel
theorem dL_law_720 : decode cL_law 720 = .ok (.if_icmp .eq 2287, 3) := by decide +kernel
theorem dL_law_723 : decode cL_law 723 = .ok (.iconst 0, 1) := by decide +kernel
theorem dL_law_724 : decode cL_law 724 = .ok (.ireturn, 1) := by decide +kernel
theorem dL_law_725 : decode cL_law 725 = .ok (.aload_n 1, 1) := by decide +kernel
theorem dL_law_726 : decode cL_law 726 = .ok (.aload_n 0, 1) := by decide +kernel
theorem dL_law_727 : decode cL_law 727 = .ok (.iload 5, 2) := by decide +kernel
theorem dL_law_729 : decode cL_law 729 = .ok (.iconst 1, 1) := by decide +kernel
theorem dL_law_730 : decode cL_law 730 = .ok (.iadd, 1) := by decide +kernel
theorem dL_law_731 : decode cL_law 731 = .ok (.iaload, 1) := by decide +kernel
theorem dL_law_732 : decode cL_law 732 = .ok (.aload_n 3, 1) := by decide +kernel
theorem dL_law_733 : decode cL_law 733 = .ok (.invokestatic 186, 3) := by decide +kernel
theorem dL_law_736 : decode cL_law 736 = .ok (.istore 6, 2) := by decide +kernel
theorem dL_law_738 : decode cL_law 738 = .ok (.aload_n 2, 1) := by decide +kernel
theorem dL_law_739 : decode cL_law 739 = .ok (.aload_n 0, 1) := by decide +kernel
theorem dL_law_740 : decode cL_law 740 = .ok (.iload 5, 2) := by decide +kernel
theorem dL_law_742 : decode cL_law 742 = .ok (.iconst 1, 1) := by decide +kernel
theorem dL_law_743 : decode cL_law 743 = .ok (.iadd, 1) := by decide +kernel
theorem dL_law_744 : decode cL_law 744 = .ok (.iaload, 1) := by decide +kernel
theorem dL_law_745 : decode cL_law 745 = .ok (.invokevirtual 188, 3) := by decide +kernel
theorem dL_law_748 : decode cL_law 748 = .ok (.istore 7, 2) := by decide +kernel
theorem dL_law_750 : decode cL_law 750 = .ok (.aload_n 2, 1) := by decide +kernel
theorem dL_law_751 : decode cL_law 751 = .ok (.invokevirtual 162, 3) := by decide +kernel
theorem dL_law_754 : decode cL_law 754 = .ok (.iload 6, 2) := by decide +kernel
theorem dL_law_756 : decode cL_law 756 = .ok (.if_icmp .eq 5, 3) := by decide +kernel
theorem dL_law_759 : decode cL_law 759 = .ok (.iconst 0, 1) := by decide +kernel
theorem dL_law_760 : decode cL_law 760 = .ok (.ireturn, 1) := by decide +kernel
theorem dL_law_761 : decode cL_law 761 = .ok (.iload 6, 2) := by decide +kernel
theorem dL_law_763 : decode cL_law 763 = .ok (.ifCond .ne 15, 3) := by decide +kernel
theorem dL_law_766 : decode cL_law 766 = .ok (.aload_n 3, 1) := by decide +kernel
theorem dL_law_767 : decode cL_law 767 = .ok (.iconst 0, 1) := by decide +kernel
theorem dL_law_768 : decode cL_law 768 = .ok (.laload, 1) := by decide +kernel
theorem dL_law_769 : decode cL_law 769 = .ok (.iload 7, 2) := by decide +kernel
theorem dL_law_771 : decode cL_law 771 = .ok (.i2l, 1) := by decide +kernel
theorem dL_law_772 : decode cL_law 772 = .ok (.lcmp, 1) := by decide +kernel
theorem dL_law_773 : decode cL_law 773 = .ok (.ifCond .eq 5, 3) := by decide +kernel
theorem dL_law_776 : decode cL_law 776 = .ok (.iconst 0, 1) := by decide +kernel
theorem dL_law_777 : decode cL_law 777 = .ok (.ireturn, 1) := by decide +kernel
theorem dL_law_778 : decode cL_law 778 = .ok (.goto 2229, 3) := by decide +kernel
theorem dL_law_781 : decode cL_law 781 = .ok (.aload_n 1, 1) := by decide +kernel
theorem dL_law_782 : decode cL_law 782 = .ok (.aload_n 0, 1) := by decide +kernel
theorem dL_law_783 : decode cL_law 783 = .ok (.iload 5, 2) := by decide +kernel
theorem dL_law_785 : decode cL_law 785 = .ok (.iconst 1, 1) := by decide +kernel
theorem dL_law_786 : decode cL_law 786 = .ok (.iadd, 1) := by decide +kernel
theorem dL_law_787 : decode cL_law 787 = .ok (.iaload, 1) := by decide +kernel
theorem dL_law_788 : decode cL_law 788 = .ok (.aload_n 3, 1) := by decide +kernel
theorem dL_law_789 : decode cL_law 789 = .ok (.invokestatic 189, 3) := by decide +kernel
theorem dL_law_792 : decode cL_law 792 = .ok (.istore 6, 2) := by decide +kernel
theorem dL_law_794 : decode cL_law 794 = .ok (.aload_n 2, 1) := by decide +kernel
theorem dL_law_795 : decode cL_law 795 = .ok (.aload_n 0, 1) := by decide +kernel
theorem dL_law_796 : decode cL_law 796 = .ok (.iload 5, 2) := by decide +kernel
theorem dL_law_798 : decode cL_law 798 = .ok (.iconst 1, 1) := by decide +kernel
theorem dL_law_799 : decode cL_law 799 = .ok (.iadd, 1) := by decide +kernel
theorem dL_law_800 : decode cL_law 800 = .ok (.iaload, 1) := by decide +kernel
theorem dL_law_801 : decode cL_law 801 = .ok (.invokevirtual 191, 3) := by decide +kernel
theorem dL_law_804 : decode cL_law 804 = .ok (.istore 7, 2) := by decide +kernel
theorem dL_law_806 : decode cL_law 806 = .ok (.aload_n 2, 1) := by decide +kernel
theorem dL_law_807 : decode cL_law 807 = .ok (.invokevirtual 162, 3) := by decide +kernel
theorem dL_law_810 : decode cL_law 810 = .ok (.iload 6, 2) := by decide +kernel
theorem dL_law_812 : decode cL_law 812 = .ok (.if_icmp .eq 5, 3) := by decide +kernel
theorem dL_law_815 : decode cL_law 815 = .ok (.iconst 0, 1) := by decide +kernel
theorem dL_law_816 : decode cL_law 816 = .ok (.ireturn, 1) := by decide +kernel
theorem dL_law_817 : decode cL_law 817 = .ok (.iload 6, 2) := by decide +kernel
theorem dL_law_819 : decode cL_law 819 = .ok (.ifCond .ne 15, 3) := by decide +kernel
theorem dL_law_822 : decode cL_law 822 = .ok (.aload_n 3, 1) := by decide +kernel
theorem dL_law_823 : decode cL_law 823 = .ok (.iconst 0, 1) := by decide +kernel
theorem dL_law_824 : decode cL_law 824 = .ok (.laload, 1) := by decide +kernel
theorem dL_law_825 : decode cL_law 825 = .ok (.iload 7, 2) := by decide +kernel
theorem dL_law_827 : decode cL_law 827 = .ok (.i2l, 1) := by decide +kernel
theorem dL_law_828 : decode cL_law 828 = .ok (.lcmp, 1) := by decide +kernel
theorem dL_law_829 : decode cL_law 829 = .ok (.ifCond .eq 5, 3) := by decide +kernel
theorem dL_law_832 : decode cL_law 832 = .ok (.iconst 0, 1) := by decide +kernel
theorem dL_law_833 : decode cL_law 833 = .ok (.ireturn, 1) := by decide +kernel
theorem dL_law_834 : decode cL_law 834 = .ok (.goto 2173, 3) := by decide +kernel
theorem dL_law_837 : decode cL_law 837 = .ok (.aload_n 1, 1) := by decide +kernel
theorem dL_law_838 : decode cL_law 838 = .ok (.aload_n 0, 1) := by decide +kernel
theorem dL_law_839 : decode cL_law 839 = .ok (.iload 5, 2) := by decide +kernel
theorem dL_law_841 : decode cL_law 841 = .ok (.iconst 1, 1) := by decide +kernel
theorem dL_law_842 : decode cL_law 842 = .ok (.iadd, 1) := by decide +kernel
theorem dL_law_843 : decode cL_law 843 = .ok (.iaload, 1) := by decide +kernel
theorem dL_law_844 : decode cL_law 844 = .ok (.aload_n 3, 1) := by decide +kernel
theorem dL_law_845 : decode cL_law 845 = .ok (.invokestatic 192, 3) := by decide +kernel
theorem dL_law_848 : decode cL_law 848 = .ok (.istore 6, 2) := by decide +kernel
theorem dL_law_850 : decode cL_law 850 = .ok (.aload_n 2, 1) := by decide +kernel
theorem dL_law_851 : decode cL_law 851 = .ok (.aload_n 0, 1) := by decide +kernel
theorem dL_law_852 : decode cL_law 852 = .ok (.iload 5, 2) := by decide +kernel
theorem dL_law_854 : decode cL_law 854 = .ok (.iconst 1, 1) := by decide +kernel
theorem dL_law_855 : decode cL_law 855 = .ok (.iadd, 1) := by decide +kernel
theorem dL_law_856 : decode cL_law 856 = .ok (.iaload, 1) := by decide +kernel
theorem dL_law_857 : decode cL_law 857 = .ok (.invokevirtual 194, 3) := by decide +kernel
theorem dL_law_860 : decode cL_law 860 = .ok (.istore 7, 2) := by decide +kernel
theorem dL_law_862 : decode cL_law 862 = .ok (.aload_n 2, 1) := by decide +kernel
theorem dL_law_863 : decode cL_law 863 = .ok (.invokevirtual 162, 3) := by decide +kernel
theorem dL_law_866 : decode cL_law 866 = .ok (.iload 6, 2) := by decide +kernel
theorem dL_law_868 : decode cL_law 868 = .ok (.if_icmp .eq 5, 3) := by decide +kernel
theorem dL_law_871 : decode cL_law 871 = .ok (.iconst 0, 1) := by decide +kernel
theorem dL_law_872 : decode cL_law 872 = .ok (.ireturn, 1) := by decide +kernel
theorem dL_law_873 : decode cL_law 873 = .ok (.iload 6, 2) := by decide +kernel
theorem dL_law_875 : decode cL_law 875 = .ok (.ifCond .ne 15, 3) := by decide +kernel
theorem dL_law_878 : decode cL_law 878 = .ok (.aload_n 3, 1) := by decide +kernel
theorem dL_law_879 : decode cL_law 879 = .ok (.iconst 0, 1) := by decide +kernel
theorem dL_law_880 : decode cL_law 880 = .ok (.laload, 1) := by decide +kernel
theorem dL_law_881 : decode cL_law 881 = .ok (.iload 7, 2) := by decide +kernel
theorem dL_law_883 : decode cL_law 883 = .ok (.i2l, 1) := by decide +kernel
theorem dL_law_884 : decode cL_law 884 = .ok (.lcmp, 1) := by decide +kernel
theorem dL_law_885 : decode cL_law 885 = .ok (.ifCond .eq 5, 3) := by decide +kernel
theorem dL_law_888 : decode cL_law 888 = .ok (.iconst 0, 1) := by decide +kernel
theorem dL_law_889 : decode cL_law 889 = .ok (.ireturn, 1) := by decide +kernel
theorem dL_law_890 : decode cL_law 890 = .ok (.goto 2117, 3) := by decide +kernel
theorem dL_law_893 : decode cL_law 893 = .ok (.aload_n 1, 1) := by decide +kernel
theorem dL_law_894 : decode cL_law 894 = .ok (.invokevirtual 195, 3) := by decide +kernel
theorem dL_law_897 : decode cL_law 897 = .ok (.aload_n 2, 1) := by decide +kernel
theorem dL_law_898 : decode cL_law 898 = .ok (.invokevirtual 198, 3) := by decide +kernel
theorem dL_law_901 : decode cL_law 901 = .ok (.if_icmp .eq 2106, 3) := by decide +kernel
theorem dL_law_904 : decode cL_law 904 = .ok (.iconst 0, 1) := by decide +kernel
theorem dL_law_905 : decode cL_law 905 = .ok (.ireturn, 1) := by decide +kernel
theorem dL_law_906 : decode cL_law 906 = .ok (.aload_n 1, 1) := by decide +kernel
theorem dL_law_907 : decode cL_law 907 = .ok (.aload_n 0, 1) := by decide +kernel
theorem dL_law_908 : decode cL_law 908 = .ok (.iload 5, 2) := by decide +kernel
theorem dL_law_910 : decode cL_law 910 = .ok (.iconst 1, 1) := by decide +kernel
theorem dL_law_911 : decode cL_law 911 = .ok (.iadd, 1) := by decide +kernel
theorem dL_law_912 : decode cL_law 912 = .ok (.iaload, 1) := by decide +kernel
theorem dL_law_913 : decode cL_law 913 = .ok (.aload_n 0, 1) := by decide +kernel
theorem dL_law_914 : decode cL_law 914 = .ok (.iload 5, 2) := by decide +kernel
theorem dL_law_916 : decode cL_law 916 = .ok (.iconst 2, 1) := by decide +kernel
theorem dL_law_917 : decode cL_law 917 = .ok (.iadd, 1) := by decide +kernel
theorem dL_law_918 : decode cL_law 918 = .ok (.iaload, 1) := by decide +kernel
theorem dL_law_919 : decode cL_law 919 = .ok (.aload_n 3, 1) := by decide +kernel
theorem dL_law_920 : decode cL_law 920 = .ok (.invokestatic 199, 3) := by decide +kernel
theorem dL_law_923 : decode cL_law 923 = .ok (.istore 6, 2) := by decide +kernel
theorem dL_law_925 : decode cL_law 925 = .ok (.aload_n 2, 1) := by decide +kernel
theorem dL_law_926 : decode cL_law 926 = .ok (.aload_n 0, 1) := by decide +kernel
theorem dL_law_927 : decode cL_law 927 = .ok (.iload 5, 2) := by decide +kernel
theorem dL_law_929 : decode cL_law 929 = .ok (.iconst 1, 1) := by decide +kernel
theorem dL_law_930 : decode cL_law 930 = .ok (.iadd, 1) := by decide +kernel
theorem dL_law_931 : decode cL_law 931 = .ok (.iaload, 1) := by decide +kernel
theorem dL_law_932 : decode cL_law 932 = .ok (.aload_n 0, 1) := by decide +kernel
theorem dL_law_933 : decode cL_law 933 = .ok (.iload 5, 2) := by decide +kernel
theorem dL_law_935 : decode cL_law 935 = .ok (.iconst 2, 1) := by decide +kernel
theorem dL_law_936 : decode cL_law 936 = .ok (.iadd, 1) := by decide +kernel
theorem dL_law_937 : decode cL_law 937 = .ok (.iaload, 1) := by decide +kernel
theorem dL_law_938 : decode cL_law 938 = .ok (.invokevirtual 201, 3) := by decide +kernel
theorem dL_law_941 : decode cL_law 941 = .ok (.istore 7, 2) := by decide +kernel
theorem dL_law_943 : decode cL_law 943 = .ok (.aload_n 2, 1) := by decide +kernel
theorem dL_law_944 : decode cL_law 944 = .ok (.invokevirtual 162, 3) := by decide +kernel
theorem dL_law_947 : decode cL_law 947 = .ok (.iload 6, 2) := by decide +kernel
theorem dL_law_949 : decode cL_law 949 = .ok (.if_icmp .eq 5, 3) := by decide +kernel
theorem dL_law_952 : decode cL_law 952 = .ok (.iconst 0, 1) := by decide +kernel
theorem dL_law_953 : decode cL_law 953 = .ok (.ireturn, 1) := by decide +kernel
theorem dL_law_954 : decode cL_law 954 = .ok (.iload 6, 2) := by decide +kernel
theorem dL_law_956 : decode cL_law 956 = .ok (.ifCond .ne 15, 3) := by decide +kernel
theorem dL_law_959 : decode cL_law 959 = .ok (.aload_n 3, 1) := by decide +kernel
theorem dL_law_960 : decode cL_law 960 = .ok (.iconst 0, 1) := by decide +kernel
theorem dL_law_961 : decode cL_law 961 = .ok (.laload, 1) := by decide +kernel
theorem dL_law_962 : decode cL_law 962 = .ok (.iload 7, 2) := by decide +kernel
theorem dL_law_964 : decode cL_law 964 = .ok (.i2l, 1) := by decide +kernel
theorem dL_law_965 : decode cL_law 965 = .ok (.lcmp, 1) := by decide +kernel
theorem dL_law_966 : decode cL_law 966 = .ok (.ifCond .eq 5, 3) := by decide +kernel
theorem dL_law_969 : decode cL_law 969 = .ok (.iconst 0, 1) := by decide +kernel
theorem dL_law_970 : decode cL_law 970 = .ok (.ireturn, 1) := by decide +kernel
theorem dL_law_971 : decode cL_law 971 = .ok (.goto 2036, 3) := by decide +kernel
theorem dL_law_974 : decode cL_law 974 = .ok (.aload_n 1, 1) := by decide +kernel
theorem dL_law_975 : decode cL_law 975 = .ok (.aload_n 0, 1) := by decide +kernel
theorem dL_law_976 : decode cL_law 976 = .ok (.iload 5, 2) := by decide +kernel
theorem dL_law_978 : decode cL_law 978 = .ok (.iconst 1, 1) := by decide +kernel
theorem dL_law_979 : decode cL_law 979 = .ok (.iadd, 1) := by decide +kernel
theorem dL_law_980 : decode cL_law 980 = .ok (.iaload, 1) := by decide +kernel
theorem dL_law_981 : decode cL_law 981 = .ok (.aload_n 3, 1) := by decide +kernel
theorem dL_law_982 : decode cL_law 982 = .ok (.invokestatic 202, 3) := by decide +kernel
theorem dL_law_985 : decode cL_law 985 = .ok (.istore 6, 2) := by decide +kernel
theorem dL_law_987 : decode cL_law 987 = .ok (.aload_n 2, 1) := by decide +kernel
theorem dL_law_988 : decode cL_law 988 = .ok (.aload_n 0, 1) := by decide +kernel
theorem dL_law_989 : decode cL_law 989 = .ok (.iload 5, 2) := by decide +kernel
theorem dL_law_991 : decode cL_law 991 = .ok (.iconst 1, 1) := by decide +kernel
theorem dL_law_992 : decode cL_law 992 = .ok (.iadd, 1) := by decide +kernel
theorem dL_law_993 : decode cL_law 993 = .ok (.iaload, 1) := by decide +kernel
theorem dL_law_994 : decode cL_law 994 = .ok (.invokevirtual 204, 3) := by decide +kernel
theorem dL_law_997 : decode cL_law 997 = .ok (.istore 7, 2) := by decide +kernel
theorem dL_law_999 : decode cL_law 999 = .ok (.aload_n 2, 1) := by decide +kernel
theorem dL_law_1000 : decode cL_law 1000 = .ok (.invokevirtual 162, 3) := by decide +kernel
theorem dL_law_1003 : decode cL_law 1003 = .ok (.iload 6, 2) := by decide +kernel
theorem dL_law_1005 : decode cL_law 1005 = .ok (.if_icmp .eq 5, 3) := by decide +kernel
theorem dL_law_1008 : decode cL_law 1008 = .ok (.iconst 0, 1) := by decide +kernel
theorem dL_law_1009 : decode cL_law 1009 = .ok (.ireturn, 1) := by decide +kernel
theorem dL_law_1010 : decode cL_law 1010 = .ok (.iload 6, 2) := by decide +kernel
theorem dL_law_1012 : decode cL_law 1012 = .ok (.ifCond .ne 15, 3) := by decide +kernel
theorem dL_law_1015 : decode cL_law 1015 = .ok (.aload_n 3, 1) := by decide +kernel
theorem dL_law_1016 : decode cL_law 1016 = .ok (.iconst 0, 1) := by decide +kernel
theorem dL_law_1017 : decode cL_law 1017 = .ok (.laload, 1) := by decide +kernel
theorem dL_law_1018 : decode cL_law 1018 = .ok (.iload 7, 2) := by decide +kernel
theorem dL_law_1020 : decode cL_law 1020 = .ok (.i2l, 1) := by decide +kernel
theorem dL_law_1021 : decode cL_law 1021 = .ok (.lcmp, 1) := by decide +kernel
theorem dL_law_1022 : decode cL_law 1022 = .ok (.ifCond .eq 5, 3) := by decide +kernel
theorem dL_law_1025 : decode cL_law 1025 = .ok (.iconst 0, 1) := by decide +kernel
theorem dL_law_1026 : decode cL_law 1026 = .ok (.ireturn, 1) := by decide +kernel
theorem dL_law_1027 : decode cL_law 1027 = .ok (.goto 1980, 3) := by decide +kernel
theorem dL_law_1030 : decode cL_law 1030 = .ok (.aload_n 1, 1) := by decide +kernel
theorem dL_law_1031 : decode cL_law 1031 = .ok (.aload_n 0, 1) := by decide +kernel
theorem dL_law_1032 : decode cL_law 1032 = .ok (.iload 5, 2) := by decide +kernel
theorem dL_law_1034 : decode cL_law 1034 = .ok (.iconst 1, 1) := by decide +kernel
theorem dL_law_1035 : decode cL_law 1035 = .ok (.iadd, 1) := by decide +kernel
theorem dL_law_1036 : decode cL_law 1036 = .ok (.iaload, 1) := by decide +kernel
theorem dL_law_1037 : decode cL_law 1037 = .ok (.invokestatic 205, 3) := by decide +kernel
theorem dL_law_1040 : decode cL_law 1040 = .ok (.istore 6, 2) := by decide +kernel
theorem dL_law_1042 : decode cL_law 1042 = .ok (.aload_n 2, 1) := by decide +kernel
theorem dL_law_1043 : decode cL_law 1043 = .ok (.aload_n 0, 1) := by decide +kernel
theorem dL_law_1044 : decode cL_law 1044 = .ok (.iload 5, 2) := by decide +kernel
theorem dL_law_1046 : decode cL_law 1046 = .ok (.iconst 1, 1) := by decide +kernel
theorem dL_law_1047 : decode cL_law 1047 = .ok (.iadd, 1) := by decide +kernel
theorem dL_law_1048 : decode cL_law 1048 = .ok (.iaload, 1) := by decide +kernel
theorem dL_law_1049 : decode cL_law 1049 = .ok (.invokevirtual 208, 3) := by decide +kernel
theorem dL_law_1052 : decode cL_law 1052 = .ok (.aload_n 2, 1) := by decide +kernel
theorem dL_law_1053 : decode cL_law 1053 = .ok (.invokevirtual 162, 3) := by decide +kernel
theorem dL_law_1056 : decode cL_law 1056 = .ok (.iload 6, 2) := by decide +kernel
theorem dL_law_1058 : decode cL_law 1058 = .ok (.if_icmp .eq 5, 3) := by decide +kernel
theorem dL_law_1061 : decode cL_law 1061 = .ok (.iconst 0, 1) := by decide +kernel
theorem dL_law_1062 : decode cL_law 1062 = .ok (.ireturn, 1) := by decide +kernel
theorem dL_law_1063 : decode cL_law 1063 = .ok (.goto 1944, 3) := by decide +kernel
theorem dL_law_1066 : decode cL_law 1066 = .ok (.aload_n 1, 1) := by decide +kernel
theorem dL_law_1067 : decode cL_law 1067 = .ok (.aload_n 3, 1) := by decide +kernel
theorem dL_law_1068 : decode cL_law 1068 = .ok (.invokestatic 209, 3) := by decide +kernel
theorem dL_law_1071 : decode cL_law 1071 = .ok (.istore 6, 2) := by decide +kernel
theorem dL_law_1073 : decode cL_law 1073 = .ok (.aload_n 2, 1) := by decide +kernel
theorem dL_law_1074 : decode cL_law 1074 = .ok (.invokevirtual 212, 3) := by decide +kernel
theorem dL_law_1077 : decode cL_law 1077 = .ok (.istore 7, 2) := by decide +kernel
theorem dL_law_1079 : decode cL_law 1079 = .ok (.aload_n 2, 1) := by decide +kernel
theorem dL_law_1080 : decode cL_law 1080 = .ok (.invokevirtual 162, 3) := by decide +kernel
theorem dL_law_1083 : decode cL_law 1083 = .ok (.iload 6, 2) := by decide +kernel
theorem dL_law_1085 : decode cL_law 1085 = .ok (.if_icmp .eq 5, 3) := by decide +kernel
theorem dL_law_1088 : decode cL_law 1088 = .ok (.iconst 0, 1) := by decide +kernel
theorem dL_law_1089 : decode cL_law 1089 = .ok (.ireturn, 1) := by decide +kernel
theorem dL_law_1090 : decode cL_law 1090 = .ok (.iload 6, 2) := by decide +kernel
theorem dL_law_1092 : decode cL_law 1092 = .ok (.ifCond .ne 15, 3) := by decide +kernel
theorem dL_law_1095 : decode cL_law 1095 = .ok (.aload_n 3, 1) := by decide +kernel
theorem dL_law_1096 : decode cL_law 1096 = .ok (.iconst 0, 1) := by decide +kernel
theorem dL_law_1097 : decode cL_law 1097 = .ok (.laload, 1) := by decide +kernel
theorem dL_law_1098 : decode cL_law 1098 = .ok (.iload 7, 2) := by decide +kernel
theorem dL_law_1100 : decode cL_law 1100 = .ok (.i2l, 1) := by decide +kernel
theorem dL_law_1101 : decode cL_law 1101 = .ok (.lcmp, 1) := by decide +kernel
theorem dL_law_1102 : decode cL_law 1102 = .ok (.ifCond .eq 5, 3) := by decide +kernel
theorem dL_law_1105 : decode cL_law 1105 = .ok (.iconst 0, 1) := by decide +kernel
theorem dL_law_1106 : decode cL_law 1106 = .ok (.ireturn, 1) := by decide +kernel
theorem dL_law_1107 : decode cL_law 1107 = .ok (.goto 1900, 3) := by decide +kernel
theorem dL_law_1110 : decode cL_law 1110 = .ok (.aload_n 1, 1) := by decide +kernel
theorem dL_law_1111 : decode cL_law 1111 = .ok (.aload_n 3, 1) := by decide +kernel
theorem dL_law_1112 : decode cL_law 1112 = .ok (.invokestatic 213, 3) := by decide +kernel
theorem dL_law_1115 : decode cL_law 1115 = .ok (.istore 6, 2) := by decide +kernel
theorem dL_law_1117 : decode cL_law 1117 = .ok (.aload_n 2, 1) := by decide +kernel
theorem dL_law_1118 : decode cL_law 1118 = .ok (.invokevirtual 215, 3) := by decide +kernel
theorem dL_law_1121 : decode cL_law 1121 = .ok (.istore 7, 2) := by decide +kernel
theorem dL_law_1123 : decode cL_law 1123 = .ok (.aload_n 2, 1) := by decide +kernel
theorem dL_law_1124 : decode cL_law 1124 = .ok (.invokevirtual 162, 3) := by decide +kernel
theorem dL_law_1127 : decode cL_law 1127 = .ok (.iload 6, 2) := by decide +kernel
theorem dL_law_1129 : decode cL_law 1129 = .ok (.if_icmp .eq 5, 3) := by decide +kernel
theorem dL_law_1132 : decode cL_law 1132 = .ok (.iconst 0, 1) := by decide +kernel
theorem dL_law_1133 : decode cL_law 1133 = .ok (.ireturn, 1) := by decide +kernel
theorem dL_law_1134 : decode cL_law 1134 = .ok (.iload 6, 2) := by decide +kernel
theorem dL_law_1136 : decode cL_law 1136 = .ok (.ifCond .ne 15, 3) := by decide +kernel
theorem dL_law_1139 : decode cL_law 1139 = .ok (.aload_n 3, 1) := by decide +kernel
theorem dL_law_1140 : decode cL_law 1140 = .ok (.iconst 0, 1) := by decide +kernel
theorem dL_law_1141 : decode cL_law 1141 = .ok (.laload, 1) := by decide +kernel
theorem dL_law_1142 : decode cL_law 1142 = .ok (.iload 7, 2) := by decide +kernel
theorem dL_law_1144 : decode cL_law 1144 = .ok (.i2l, 1) := by decide +kernel
theorem dL_law_1145 : decode cL_law 1145 = .ok (.lcmp, 1) := by decide +kernel
theorem dL_law_1146 : decode cL_law 1146 = .ok (.ifCond .eq 5, 3) := by decide +kernel
theorem dL_law_1149 : decode cL_law 1149 = .ok (.iconst 0, 1) := by decide +kernel
theorem dL_law_1150 : decode cL_law 1150 = .ok (.ireturn, 1) := by decide +kernel
theorem dL_law_1151 : decode cL_law 1151 = .ok (.goto 1856, 3) := by decide +kernel
theorem dL_law_1154 : decode cL_law 1154 = .ok (.aload_n 1, 1) := by decide +kernel
theorem dL_law_1155 : decode cL_law 1155 = .ok (.aload_n 0, 1) := by decide +kernel
theorem dL_law_1156 : decode cL_law 1156 = .ok (.iload 5, 2) := by decide +kernel
theorem dL_law_1158 : decode cL_law 1158 = .ok (.iconst 1, 1) := by decide +kernel
theorem dL_law_1159 : decode cL_law 1159 = .ok (.iadd, 1) := by decide +kernel
theorem dL_law_1160 : decode cL_law 1160 = .ok (.iaload, 1) := by decide +kernel
theorem dL_law_1161 : decode cL_law 1161 = .ok (.aload_n 3, 1) := by decide +kernel
theorem dL_law_1162 : decode cL_law 1162 = .ok (.invokestatic 216, 3) := by decide +kernel
theorem dL_law_1165 : decode cL_law 1165 = .ok (.istore 6, 2) := by decide +kernel
theorem dL_law_1167 : decode cL_law 1167 = .ok (.aload_n 2, 1) := by decide +kernel
theorem dL_law_1168 : decode cL_law 1168 = .ok (.aload_n 0, 1) := by decide +kernel
theorem dL_law_1169 : decode cL_law 1169 = .ok (.iload 5, 2) := by decide +kernel
theorem dL_law_1171 : decode cL_law 1171 = .ok (.iconst 1, 1) := by decide +kernel
theorem dL_law_1172 : decode cL_law 1172 = .ok (.iadd, 1) := by decide +kernel
theorem dL_law_1173 : decode cL_law 1173 = .ok (.iaload, 1) := by decide +kernel
theorem dL_law_1174 : decode cL_law 1174 = .ok (.invokevirtual 218, 3) := by decide +kernel
theorem dL_law_1177 : decode cL_law 1177 = .ok (.istore 7, 2) := by decide +kernel
theorem dL_law_1179 : decode cL_law 1179 = .ok (.aload_n 2, 1) := by decide +kernel
theorem dL_law_1180 : decode cL_law 1180 = .ok (.invokevirtual 162, 3) := by decide +kernel
theorem dL_law_1183 : decode cL_law 1183 = .ok (.iload 6, 2) := by decide +kernel
theorem dL_law_1185 : decode cL_law 1185 = .ok (.if_icmp .eq 5, 3) := by decide +kernel
theorem dL_law_1188 : decode cL_law 1188 = .ok (.iconst 0, 1) := by decide +kernel
theorem dL_law_1189 : decode cL_law 1189 = .ok (.ireturn, 1) := by decide +kernel
theorem dL_law_1190 : decode cL_law 1190 = .ok (.iload 6, 2) := by decide +kernel
theorem dL_law_1192 : decode cL_law 1192 = .ok (.ifCond .ne 15, 3) := by decide +kernel
theorem dL_law_1195 : decode cL_law 1195 = .ok (.aload_n 3, 1) := by decide +kernel
theorem dL_law_1196 : decode cL_law 1196 = .ok (.iconst 0, 1) := by decide +kernel
theorem dL_law_1197 : decode cL_law 1197 = .ok (.laload, 1) := by decide +kernel
theorem dL_law_1198 : decode cL_law 1198 = .ok (.iload 7, 2) := by decide +kernel
theorem dL_law_1200 : decode cL_law 1200 = .ok (.i2l, 1) := by decide +kernel
theorem dL_law_1201 : decode cL_law 1201 = .ok (.lcmp, 1) := by decide +kernel
theorem dL_law_1202 : decode cL_law 1202 = .ok (.ifCond .eq 5, 3) := by decide +kernel
theorem dL_law_1205 : decode cL_law 1205 = .ok (.iconst 0, 1) := by decide +kernel
theorem dL_law_1206 : decode cL_law 1206 = .ok (.ireturn, 1) := by decide +kernel
theorem dL_law_1207 : decode cL_law 1207 = .ok (.goto 1800, 3) := by decide +kernel
theorem dL_law_1210 : decode cL_law 1210 = .ok (.aload_n 1, 1) := by decide +kernel
theorem dL_law_1211 : decode cL_law 1211 = .ok (.aload_n 0, 1) := by decide +kernel
theorem dL_law_1212 : decode cL_law 1212 = .ok (.iload 5, 2) := by decide +kernel
theorem dL_law_1214 : decode cL_law 1214 = .ok (.iconst 1, 1) := by decide +kernel
theorem dL_law_1215 : decode cL_law 1215 = .ok (.iadd, 1) := by decide +kernel
theorem dL_law_1216 : decode cL_law 1216 = .ok (.iaload, 1) := by decide +kernel
theorem dL_law_1217 : decode cL_law 1217 = .ok (.aload_n 3, 1) := by decide +kernel
theorem dL_law_1218 : decode cL_law 1218 = .ok (.invokestatic 219, 3) := by decide +kernel
theorem dL_law_1221 : decode cL_law 1221 = .ok (.istore 6, 2) := by decide +kernel
theorem dL_law_1223 : decode cL_law 1223 = .ok (.aload_n 2, 1) := by decide +kernel
theorem dL_law_1224 : decode cL_law 1224 = .ok (.aload_n 0, 1) := by decide +kernel
theorem dL_law_1225 : decode cL_law 1225 = .ok (.iload 5, 2) := by decide +kernel
theorem dL_law_1227 : decode cL_law 1227 = .ok (.iconst 1, 1) := by decide +kernel
theorem dL_law_1228 : decode cL_law 1228 = .ok (.iadd, 1) := by decide +kernel
theorem dL_law_1229 : decode cL_law 1229 = .ok (.iaload, 1) := by decide +kernel
theorem dL_law_1230 : decode cL_law 1230 = .ok (.invokevirtual 221, 3) := by decide +kernel
theorem dL_law_1233 : decode cL_law 1233 = .ok (.istore 7, 2) := by decide +kernel
theorem dL_law_1235 : decode cL_law 1235 = .ok (.aload_n 2, 1) := by decide +kernel
theorem dL_law_1236 : decode cL_law 1236 = .ok (.invokevirtual 162, 3) := by decide +kernel
theorem dL_law_1239 : decode cL_law 1239 = .ok (.iload 6, 2) := by decide +kernel
theorem dL_law_1241 : decode cL_law 1241 = .ok (.if_icmp .eq 5, 3) := by decide +kernel
theorem dL_law_1244 : decode cL_law 1244 = .ok (.iconst 0, 1) := by decide +kernel
theorem dL_law_1245 : decode cL_law 1245 = .ok (.ireturn, 1) := by decide +kernel
theorem dL_law_1246 : decode cL_law 1246 = .ok (.iload 6, 2) := by decide +kernel
theorem dL_law_1248 : decode cL_law 1248 = .ok (.ifCond .ne 15, 3) := by decide +kernel
theorem dL_law_1251 : decode cL_law 1251 = .ok (.aload_n 3, 1) := by decide +kernel
theorem dL_law_1252 : decode cL_law 1252 = .ok (.iconst 0, 1) := by decide +kernel
theorem dL_law_1253 : decode cL_law 1253 = .ok (.laload, 1) := by decide +kernel
theorem dL_law_1254 : decode cL_law 1254 = .ok (.iload 7, 2) := by decide +kernel
theorem dL_law_1256 : decode cL_law 1256 = .ok (.i2l, 1) := by decide +kernel
theorem dL_law_1257 : decode cL_law 1257 = .ok (.lcmp, 1) := by decide +kernel
theorem dL_law_1258 : decode cL_law 1258 = .ok (.ifCond .eq 5, 3) := by decide +kernel
theorem dL_law_1261 : decode cL_law 1261 = .ok (.iconst 0, 1) := by decide +kernel
theorem dL_law_1262 : decode cL_law 1262 = .ok (.ireturn, 1) := by decide +kernel
theorem dL_law_1263 : decode cL_law 1263 = .ok (.goto 1744, 3) := by decide +kernel
theorem dL_law_1266 : decode cL_law 1266 = .ok (.aload_n 1, 1) := by decide +kernel
theorem dL_law_1267 : decode cL_law 1267 = .ok (.aload_n 0, 1) := by decide +kernel
theorem dL_law_1268 : decode cL_law 1268 = .ok (.iload 5, 2) := by decide +kernel
theorem dL_law_1270 : decode cL_law 1270 = .ok (.iconst 1, 1) := by decide +kernel
theorem dL_law_1271 : decode cL_law 1271 = .ok (.iadd, 1) := by decide +kernel
theorem dL_law_1272 : decode cL_law 1272 = .ok (.iaload, 1) := by decide +kernel
theorem dL_law_1273 : decode cL_law 1273 = .ok (.aload_n 3, 1) := by decide +kernel
theorem dL_law_1274 : decode cL_law 1274 = .ok (.invokestatic 222, 3) := by decide +kernel
theorem dL_law_1277 : decode cL_law 1277 = .ok (.istore 6, 2) := by decide +kernel
theorem dL_law_1279 : decode cL_law 1279 = .ok (.aload_n 2, 1) := by decide +kernel
theorem dL_law_1280 : decode cL_law 1280 = .ok (.aload_n 0, 1) := by decide +kernel
theorem dL_law_1281 : decode cL_law 1281 = .ok (.iload 5, 2) := by decide +kernel
theorem dL_law_1283 : decode cL_law 1283 = .ok (.iconst 1, 1) := by decide +kernel
theorem dL_law_1284 : decode cL_law 1284 = .ok (.iadd, 1) := by decide +kernel
theorem dL_law_1285 : decode cL_law 1285 = .ok (.iaload, 1) := by decide +kernel
theorem dL_law_1286 : decode cL_law 1286 = .ok (.invokevirtual 224, 3) := by decide +kernel
theorem dL_law_1289 : decode cL_law 1289 = .ok (.istore 7, 2) := by decide +kernel
theorem dL_law_1291 : decode cL_law 1291 = .ok (.aload_n 2, 1) := by decide +kernel
theorem dL_law_1292 : decode cL_law 1292 = .ok (.invokevirtual 162, 3) := by decide +kernel
theorem dL_law_1295 : decode cL_law 1295 = .ok (.iload 6, 2) := by decide +kernel
theorem dL_law_1297 : decode cL_law 1297 = .ok (.if_icmp .eq 5, 3) := by decide +kernel
theorem dL_law_1300 : decode cL_law 1300 = .ok (.iconst 0, 1) := by decide +kernel
theorem dL_law_1301 : decode cL_law 1301 = .ok (.ireturn, 1) := by decide +kernel
theorem dL_law_1302 : decode cL_law 1302 = .ok (.iload 6, 2) := by decide +kernel
theorem dL_law_1304 : decode cL_law 1304 = .ok (.ifCond .ne 15, 3) := by decide +kernel
theorem dL_law_1307 : decode cL_law 1307 = .ok (.aload_n 3, 1) := by decide +kernel
theorem dL_law_1308 : decode cL_law 1308 = .ok (.iconst 0, 1) := by decide +kernel
theorem dL_law_1309 : decode cL_law 1309 = .ok (.laload, 1) := by decide +kernel
theorem dL_law_1310 : decode cL_law 1310 = .ok (.iload 7, 2) := by decide +kernel
theorem dL_law_1312 : decode cL_law 1312 = .ok (.i2l, 1) := by decide +kernel
theorem dL_law_1313 : decode cL_law 1313 = .ok (.lcmp, 1) := by decide +kernel
theorem dL_law_1314 : decode cL_law 1314 = .ok (.ifCond .eq 5, 3) := by decide +kernel
theorem dL_law_1317 : decode cL_law 1317 = .ok (.iconst 0, 1) := by decide +kernel
theorem dL_law_1318 : decode cL_law 1318 = .ok (.ireturn, 1) := by decide +kernel
theorem dL_law_1319 : decode cL_law 1319 = .ok (.goto 1688, 3) := by decide +kernel
theorem dL_law_1322 : decode cL_law 1322 = .ok (.aload_n 1, 1) := by decide +kernel
theorem dL_law_1323 : decode cL_law 1323 = .ok (.invokevirtual 225, 3) := by decide +kernel
theorem dL_law_1326 : decode cL_law 1326 = .ok (.aload_n 2, 1) := by decide +kernel
theorem dL_law_1327 : decode cL_law 1327 = .ok (.invokevirtual 228, 3) := by decide +kernel
theorem dL_law_1330 : decode cL_law 1330 = .ok (.if_icmp .eq 1677, 3) := by decide +kernel
theorem dL_law_1333 : decode cL_law 1333 = .ok (.iconst 0, 1) := by decide +kernel
theorem dL_law_1334 : decode cL_law 1334 = .ok (.ireturn, 1) := by decide +kernel
theorem dL_law_1335 : decode cL_law 1335 = .ok (.aload_n 1, 1) := by decide +kernel
theorem dL_law_1336 : decode cL_law 1336 = .ok (.invokevirtual 229, 3) := by decide +kernel
theorem dL_law_1339 : decode cL_law 1339 = .ok (.aload_n 2, 1) := by decide +kernel
theorem dL_law_1340 : decode cL_law 1340 = .ok (.invokevirtual 232, 3) := by decide +kernel
theorem dL_law_1343 : decode cL_law 1343 = .ok (.if_icmp .eq 1664, 3) := by decide +kernel
theorem dL_law_1346 : decode cL_law 1346 = .ok (.iconst 0, 1) := by decide +kernel
theorem dL_law_1347 : decode cL_law 1347 = .ok (.ireturn, 1) := by decide +kernel
theorem dL_law_1348 : decode cL_law 1348 = .ok (.aload_n 1, 1) := by decide +kernel
theorem dL_law_1349 : decode cL_law 1349 = .ok (.aload_n 0, 1) := by decide +kernel
theorem dL_law_1350 : decode cL_law 1350 = .ok (.iload 5, 2) := by decide +kernel
theorem dL_law_1352 : decode cL_law 1352 = .ok (.iconst 1, 1) := by decide +kernel
theorem dL_law_1353 : decode cL_law 1353 = .ok (.iadd, 1) := by decide +kernel
theorem dL_law_1354 : decode cL_law 1354 = .ok (.iaload, 1) := by decide +kernel
theorem dL_law_1355 : decode cL_law 1355 = .ok (.aload_n 3, 1) := by decide +kernel
theorem dL_law_1356 : decode cL_law 1356 = .ok (.invokestatic 233, 3) := by decide +kernel
theorem dL_law_1359 : decode cL_law 1359 = .ok (.istore 6, 2) := by decide +kernel
theorem dL_law_1361 : decode cL_law 1361 = .ok (.aload_n 2, 1) := by decide +kernel
theorem dL_law_1362 : decode cL_law 1362 = .ok (.aload_n 0, 1) := by decide +kernel
theorem dL_law_1363 : decode cL_law 1363 = .ok (.iload 5, 2) := by decide +kernel
theorem dL_law_1365 : decode cL_law 1365 = .ok (.iconst 1, 1) := by decide +kernel
theorem dL_law_1366 : decode cL_law 1366 = .ok (.iadd, 1) := by decide +kernel
theorem dL_law_1367 : decode cL_law 1367 = .ok (.iaload, 1) := by decide +kernel
theorem dL_law_1368 : decode cL_law 1368 = .ok (.invokevirtual 235, 3) := by decide +kernel
theorem dL_law_1371 : decode cL_law 1371 = .ok (.istore 7, 2) := by decide +kernel
theorem dL_law_1373 : decode cL_law 1373 = .ok (.aload_n 2, 1) := by decide +kernel
theorem dL_law_1374 : decode cL_law 1374 = .ok (.invokevirtual 162, 3) := by decide +kernel
theorem dL_law_1377 : decode cL_law 1377 = .ok (.iload 6, 2) := by decide +kernel
theorem dL_law_1379 : decode cL_law 1379 = .ok (.if_icmp .eq 5, 3) := by decide +kernel
theorem dL_law_1382 : decode cL_law 1382 = .ok (.iconst 0, 1) := by decide +kernel
theorem dL_law_1383 : decode cL_law 1383 = .ok (.ireturn, 1) := by decide +kernel
theorem dL_law_1384 : decode cL_law 1384 = .ok (.iload 6, 2) := by decide +kernel
theorem dL_law_1386 : decode cL_law 1386 = .ok (.ifCond .ne 15, 3) := by decide +kernel
theorem dL_law_1389 : decode cL_law 1389 = .ok (.aload_n 3, 1) := by decide +kernel
theorem dL_law_1390 : decode cL_law 1390 = .ok (.iconst 0, 1) := by decide +kernel
theorem dL_law_1391 : decode cL_law 1391 = .ok (.laload, 1) := by decide +kernel
theorem dL_law_1392 : decode cL_law 1392 = .ok (.iload 7, 2) := by decide +kernel
theorem dL_law_1394 : decode cL_law 1394 = .ok (.i2l, 1) := by decide +kernel
theorem dL_law_1395 : decode cL_law 1395 = .ok (.lcmp, 1) := by decide +kernel
theorem dL_law_1396 : decode cL_law 1396 = .ok (.ifCond .eq 5, 3) := by decide +kernel
theorem dL_law_1399 : decode cL_law 1399 = .ok (.iconst 0, 1) := by decide +kernel
theorem dL_law_1400 : decode cL_law 1400 = .ok (.ireturn, 1) := by decide +kernel
theorem dL_law_1401 : decode cL_law 1401 = .ok (.goto 1606, 3) := by decide +kernel
theorem dL_law_1404 : decode cL_law 1404 = .ok (.aload_n 1, 1) := by decide +kernel
theorem dL_law_1405 : decode cL_law 1405 = .ok (.aload_n 0, 1) := by decide +kernel
theorem dL_law_1406 : decode cL_law 1406 = .ok (.iload 5, 2) := by decide +kernel
theorem dL_law_1408 : decode cL_law 1408 = .ok (.iconst 1, 1) := by decide +kernel
theorem dL_law_1409 : decode cL_law 1409 = .ok (.iadd, 1) := by decide +kernel
theorem dL_law_1410 : decode cL_law 1410 = .ok (.iaload, 1) := by decide +kernel
theorem dL_law_1411 : decode cL_law 1411 = .ok (.invokestatic 236, 3) := by decide +kernel
theorem dL_law_1414 : decode cL_law 1414 = .ok (.istore 6, 2) := by decide +kernel
theorem dL_law_1416 : decode cL_law 1416 = .ok (.aload_n 2, 1) := by decide +kernel
theorem dL_law_1417 : decode cL_law 1417 = .ok (.aload_n 0, 1) := by decide +kernel
theorem dL_law_1418 : decode cL_law 1418 = .ok (.iload 5, 2) := by decide +kernel
theorem dL_law_1420 : decode cL_law 1420 = .ok (.iconst 1, 1) := by decide +kernel
theorem dL_law_1421 : decode cL_law 1421 = .ok (.iadd, 1) := by decide +kernel
theorem dL_law_1422 : decode cL_law 1422 = .ok (.iaload, 1) := by decide +kernel
theorem dL_law_1423 : decode cL_law 1423 = .ok (.invokevirtual 238, 3) := by decide +kernel
theorem dL_law_1426 : decode cL_law 1426 = .ok (.aload_n 2, 1) := by decide +kernel
theorem dL_law_1427 : decode cL_law 1427 = .ok (.invokevirtual 162, 3) := by decide +kernel
theorem dL_law_1430 : decode cL_law 1430 = .ok (.iload 6, 2) := by decide +kernel
theorem dL_law_1432 : decode cL_law 1432 = .ok (.if_icmp .eq 5, 3) := by decide +kernel
theorem dL_law_1435 : decode cL_law 1435 = .ok (.iconst 0, 1) := by decide +kernel
theorem dL_law_1436 : decode cL_law 1436 = .ok (.ireturn, 1) := by decide +kernel
theorem dL_law_1437 : decode cL_law 1437 = .ok (.goto 1570, 3) := by decide +kernel
theorem dL_law_1440 : decode cL_law 1440 = .ok (.aload_n 1, 1) := by decide +kernel
theorem dL_law_1441 : decode cL_law 1441 = .ok (.aload_n 0, 1) := by decide +kernel
theorem dL_law_1442 : decode cL_law 1442 = .ok (.iload 5, 2) := by decide +kernel
theorem dL_law_1444 : decode cL_law 1444 = .ok (.iconst 1, 1) := by decide +kernel
theorem dL_law_1445 : decode cL_law 1445 = .ok (.iadd, 1) := by decide +kernel
theorem dL_law_1446 : decode cL_law 1446 = .ok (.iaload, 1) := by decide +kernel
theorem dL_law_1447 : decode cL_law 1447 = .ok (.invokestatic 239, 3) := by decide +kernel
theorem dL_law_1450 : decode cL_law 1450 = .ok (.istore 6, 2) := by decide +kernel
theorem dL_law_1452 : decode cL_law 1452 = .ok (.aload_n 2, 1) := by decide +kernel
theorem dL_law_1453 : decode cL_law 1453 = .ok (.aload_n 0, 1) := by decide +kernel
theorem dL_law_1454 : decode cL_law 1454 = .ok (.iload 5, 2) := by decide +kernel
theorem dL_law_1456 : decode cL_law 1456 = .ok (.iconst 1, 1) := by decide +kernel
theorem dL_law_1457 : decode cL_law 1457 = .ok (.iadd, 1) := by decide +kernel
theorem dL_law_1458 : decode cL_law 1458 = .ok (.iaload, 1) := by decide +kernel
theorem dL_law_1459 : decode cL_law 1459 = .ok (.invokevirtual 241, 3) := by decide +kernel
theorem dL_law_1462 : decode cL_law 1462 = .ok (.aload_n 2, 1) := by decide +kernel
theorem dL_law_1463 : decode cL_law 1463 = .ok (.invokevirtual 162, 3) := by decide +kernel
theorem dL_law_1466 : decode cL_law 1466 = .ok (.iload 6, 2) := by decide +kernel
theorem dL_law_1468 : decode cL_law 1468 = .ok (.if_icmp .eq 5, 3) := by decide +kernel
theorem dL_law_1471 : decode cL_law 1471 = .ok (.iconst 0, 1) := by decide +kernel
theorem dL_law_1472 : decode cL_law 1472 = .ok (.ireturn, 1) := by decide +kernel
theorem dL_law_1473 : decode cL_law 1473 = .ok (.goto 1534, 3) := by decide +kernel
theorem dL_law_1476 : decode cL_law 1476 = .ok (.aload_n 1, 1) := by decide +kernel
theorem dL_law_1477 : decode cL_law 1477 = .ok (.invokestatic 242, 3) := by decide +kernel
theorem dL_law_1480 : decode cL_law 1480 = .ok (.istore 6, 2) := by decide +kernel
theorem dL_law_1482 : decode cL_law 1482 = .ok (.aload_n 2, 1) := by decide +kernel
theorem dL_law_1483 : decode cL_law 1483 = .ok (.invokevirtual 245, 3) := by decide +kernel
theorem dL_law_1486 : decode cL_law 1486 = .ok (.aload_n 2, 1) := by decide +kernel
theorem dL_law_1487 : decode cL_law 1487 = .ok (.invokevirtual 162, 3) := by decide +kernel
theorem dL_law_1490 : decode cL_law 1490 = .ok (.iload 6, 2) := by decide +kernel
theorem dL_law_1492 : decode cL_law 1492 = .ok (.if_icmp .eq 5, 3) := by decide +kernel
theorem dL_law_1495 : decode cL_law 1495 = .ok (.iconst 0, 1) := by decide +kernel
theorem dL_law_1496 : decode cL_law 1496 = .ok (.ireturn, 1) := by decide +kernel
theorem dL_law_1497 : decode cL_law 1497 = .ok (.goto 1510, 3) := by decide +kernel
theorem dL_law_1500 : decode cL_law 1500 = .ok (.aload_n 1, 1) := by decide +kernel
theorem dL_law_1501 : decode cL_law 1501 = .ok (.invokevirtual 246, 3) := by decide +kernel
theorem dL_law_1504 : decode cL_law 1504 = .ok (.aload_n 2, 1) := by decide +kernel
theorem dL_law_1505 : decode cL_law 1505 = .ok (.invokevirtual 249, 3) := by decide +kernel
theorem dL_law_1508 : decode cL_law 1508 = .ok (.if_icmp .eq 1499, 3) := by decide +kernel
theorem dL_law_1511 : decode cL_law 1511 = .ok (.iconst 0, 1) := by decide +kernel
theorem dL_law_1512 : decode cL_law 1512 = .ok (.ireturn, 1) := by decide +kernel
theorem dL_law_1513 : decode cL_law 1513 = .ok (.aload_n 1, 1) := by decide +kernel
theorem dL_law_1514 : decode cL_law 1514 = .ok (.aload_n 0, 1) := by decide +kernel
theorem dL_law_1515 : decode cL_law 1515 = .ok (.iload 5, 2) := by decide +kernel
theorem dL_law_1517 : decode cL_law 1517 = .ok (.iconst 1, 1) := by decide +kernel
theorem dL_law_1518 : decode cL_law 1518 = .ok (.iadd, 1) := by decide +kernel
theorem dL_law_1519 : decode cL_law 1519 = .ok (.iaload, 1) := by decide +kernel
theorem dL_law_1520 : decode cL_law 1520 = .ok (.aload_n 0, 1) := by decide +kernel
theorem dL_law_1521 : decode cL_law 1521 = .ok (.iload 5, 2) := by decide +kernel
theorem dL_law_1523 : decode cL_law 1523 = .ok (.iconst 2, 1) := by decide +kernel
theorem dL_law_1524 : decode cL_law 1524 = .ok (.iadd, 1) := by decide +kernel
theorem dL_law_1525 : decode cL_law 1525 = .ok (.iaload, 1) := by decide +kernel
theorem dL_law_1526 : decode cL_law 1526 = .ok (.aload_n 3, 1) := by decide +kernel
theorem dL_law_1527 : decode cL_law 1527 = .ok (.invokestatic 250, 3) := by decide +kernel
theorem dL_law_1530 : decode cL_law 1530 = .ok (.istore 6, 2) := by decide +kernel
theorem dL_law_1532 : decode cL_law 1532 = .ok (.aload_n 2, 1) := by decide +kernel
theorem dL_law_1533 : decode cL_law 1533 = .ok (.aload_n 0, 1) := by decide +kernel
theorem dL_law_1534 : decode cL_law 1534 = .ok (.iload 5, 2) := by decide +kernel
theorem dL_law_1536 : decode cL_law 1536 = .ok (.iconst 1, 1) := by decide +kernel
theorem dL_law_1537 : decode cL_law 1537 = .ok (.iadd, 1) := by decide +kernel
theorem dL_law_1538 : decode cL_law 1538 = .ok (.iaload, 1) := by decide +kernel
theorem dL_law_1539 : decode cL_law 1539 = .ok (.aload_n 0, 1) := by decide +kernel
theorem dL_law_1540 : decode cL_law 1540 = .ok (.iload 5, 2) := by decide +kernel
theorem dL_law_1542 : decode cL_law 1542 = .ok (.iconst 2, 1) := by decide +kernel
theorem dL_law_1543 : decode cL_law 1543 = .ok (.iadd, 1) := by decide +kernel
theorem dL_law_1544 : decode cL_law 1544 = .ok (.iaload, 1) := by decide +kernel
theorem dL_law_1545 : decode cL_law 1545 = .ok (.invokevirtual 252, 3) := by decide +kernel
theorem dL_law_1548 : decode cL_law 1548 = .ok (.istore 7, 2) := by decide +kernel
theorem dL_law_1550 : decode cL_law 1550 = .ok (.aload_n 2, 1) := by decide +kernel
theorem dL_law_1551 : decode cL_law 1551 = .ok (.invokevirtual 162, 3) := by decide +kernel
theorem dL_law_1554 : decode cL_law 1554 = .ok (.iload 6, 2) := by decide +kernel
theorem dL_law_1556 : decode cL_law 1556 = .ok (.if_icmp .eq 5, 3) := by decide +kernel
theorem dL_law_1559 : decode cL_law 1559 = .ok (.iconst 0, 1) := by decide +kernel
theorem dL_law_1560 : decode cL_law 1560 = .ok (.ireturn, 1) := by decide +kernel
theorem dL_law_1561 : decode cL_law 1561 = .ok (.iload 6, 2) := by decide +kernel
theorem dL_law_1563 : decode cL_law 1563 = .ok (.ifCond .ne 15, 3) := by decide +kernel
theorem dL_law_1566 : decode cL_law 1566 = .ok (.aload_n 3, 1) := by decide +kernel
theorem dL_law_1567 : decode cL_law 1567 = .ok (.iconst 0, 1) := by decide +kernel
theorem dL_law_1568 : decode cL_law 1568 = .ok (.laload, 1) := by decide +kernel
theorem dL_law_1569 : decode cL_law 1569 = .ok (.iload 7, 2) := by decide +kernel
theorem dL_law_1571 : decode cL_law 1571 = .ok (.i2l, 1) := by decide +kernel
theorem dL_law_1572 : decode cL_law 1572 = .ok (.lcmp, 1) := by decide +kernel
theorem dL_law_1573 : decode cL_law 1573 = .ok (.ifCond .eq 5, 3) := by decide +kernel
theorem dL_law_1576 : decode cL_law 1576 = .ok (.iconst 0, 1) := by decide +kernel
theorem dL_law_1577 : decode cL_law 1577 = .ok (.ireturn, 1) := by decide +kernel
theorem dL_law_1578 : decode cL_law 1578 = .ok (.goto 1429, 3) := by decide +kernel
theorem dL_law_1581 : decode cL_law 1581 = .ok (.aload_n 1, 1) := by decide +kernel
theorem dL_law_1582 : decode cL_law 1582 = .ok (.invokevirtual 253, 3) := by decide +kernel
theorem dL_law_1585 : decode cL_law 1585 = .ok (.aload_n 2, 1) := by decide +kernel
theorem dL_law_1586 : decode cL_law 1586 = .ok (.invokevirtual 256, 3) := by decide +kernel
theorem dL_law_1589 : decode cL_law 1589 = .ok (.if_icmp .eq 1418, 3) := by decide +kernel
theorem dL_law_1592 : decode cL_law 1592 = .ok (.iconst 0, 1) := by decide +kernel
theorem dL_law_1593 : decode cL_law 1593 = .ok (.ireturn, 1) := by decide +kernel
theorem dL_law_1594 : decode cL_law 1594 = .ok (.aload_n 1, 1) := by decide +kernel
theorem dL_law_1595 : decode cL_law 1595 = .ok (.invokevirtual 257, 3) := by decide +kernel
theorem dL_law_1598 : decode cL_law 1598 = .ok (.aload_n 2, 1) := by decide +kernel
theorem dL_law_1599 : decode cL_law 1599 = .ok (.invokevirtual 260, 3) := by decide +kernel
theorem dL_law_1602 : decode cL_law 1602 = .ok (.if_icmp .eq 1405, 3) := by decide +kernel
theorem dL_law_1605 : decode cL_law 1605 = .ok (.iconst 0, 1) := by decide +kernel
theorem dL_law_1606 : decode cL_law 1606 = .ok (.ireturn, 1) := by decide +kernel
theorem dL_law_1607 : decode cL_law 1607 = .ok (.aload_n 1, 1) := by decide +kernel
theorem dL_law_1608 : decode cL_law 1608 = .ok (.invokevirtual 261, 3) := by decide +kernel
theorem dL_law_1611 : decode cL_law 1611 = .ok (.aload_n 2, 1) := by decide +kernel
theorem dL_law_1612 : decode cL_law 1612 = .ok (.invokevirtual 264, 3) := by decide +kernel
theorem dL_law_1615 : decode cL_law 1615 = .ok (.if_icmp .eq 1392, 3) := by decide +kernel
theorem dL_law_1618 : decode cL_law 1618 = .ok (.iconst 0, 1) := by decide +kernel
theorem dL_law_1619 : decode cL_law 1619 = .ok (.ireturn, 1) := by decide +kernel
theorem dL_law_1620 : decode cL_law 1620 = .ok (.aload_n 1, 1) := by decide +kernel
theorem dL_law_1621 : decode cL_law 1621 = .ok (.invokevirtual 265, 3) := by decide +kernel
theorem dL_law_1624 : decode cL_law 1624 = .ok (.aload_n 2, 1) := by decide +kernel
theorem dL_law_1625 : decode cL_law 1625 = .ok (.invokevirtual 268, 3) := by decide +kernel
theorem dL_law_1628 : decode cL_law 1628 = .ok (.if_icmp .eq 1379, 3) := by decide +kernel
theorem dL_law_1631 : decode cL_law 1631 = .ok (.iconst 0, 1) := by decide +kernel
theorem dL_law_1632 : decode cL_law 1632 = .ok (.ireturn, 1) := by decide +kernel
theorem dL_law_1633 : decode cL_law 1633 = .ok (.aload_n 1, 1) := by decide +kernel
theorem dL_law_1634 : decode cL_law 1634 = .ok (.invokevirtual 269, 3) := by decide +kernel
theorem dL_law_1637 : decode cL_law 1637 = .ok (.aload_n 2, 1) := by decide +kernel
theorem dL_law_1638 : decode cL_law 1638 = .ok (.invokevirtual 272, 3) := by decide +kernel
theorem dL_law_1641 : decode cL_law 1641 = .ok (.if_icmp .eq 1366, 3) := by decide +kernel
theorem dL_law_1644 : decode cL_law 1644 = .ok (.iconst 0, 1) := by decide +kernel
theorem dL_law_1645 : decode cL_law 1645 = .ok (.ireturn, 1) := by decide +kernel
theorem dL_law_1646 : decode cL_law 1646 = .ok (.aload_n 1, 1) := by decide +kernel
theorem dL_law_1647 : decode cL_law 1647 = .ok (.invokevirtual 273, 3) := by decide +kernel
theorem dL_law_1650 : decode cL_law 1650 = .ok (.aload_n 2, 1) := by decide +kernel
theorem dL_law_1651 : decode cL_law 1651 = .ok (.invokevirtual 276, 3) := by decide +kernel
theorem dL_law_1654 : decode cL_law 1654 = .ok (.if_icmp .eq 1353, 3) := by decide +kernel
theorem dL_law_1657 : decode cL_law 1657 = .ok (.iconst 0, 1) := by decide +kernel
theorem dL_law_1658 : decode cL_law 1658 = .ok (.ireturn, 1) := by decide +kernel
theorem dL_law_1659 : decode cL_law 1659 = .ok (.aload_n 1, 1) := by decide +kernel
theorem dL_law_1660 : decode cL_law 1660 = .ok (.invokevirtual 277, 3) := by decide +kernel
theorem dL_law_1663 : decode cL_law 1663 = .ok (.aload_n 2, 1) := by decide +kernel
theorem dL_law_1664 : decode cL_law 1664 = .ok (.invokevirtual 280, 3) := by decide +kernel
theorem dL_law_1667 : decode cL_law 1667 = .ok (.if_icmp .eq 1340, 3) := by decide +kernel
theorem dL_law_1670 : decode cL_law 1670 = .ok (.iconst 0, 1) := by decide +kernel
theorem dL_law_1671 : decode cL_law 1671 = .ok (.ireturn, 1) := by decide +kernel
theorem dL_law_1672 : decode cL_law 1672 = .ok (.aload_n 1, 1) := by decide +kernel
theorem dL_law_1673 : decode cL_law 1673 = .ok (.invokevirtual 281, 3) := by decide +kernel
theorem dL_law_1676 : decode cL_law 1676 = .ok (.aload_n 2, 1) := by decide +kernel
theorem dL_law_1677 : decode cL_law 1677 = .ok (.invokevirtual 284, 3) := by decide +kernel
theorem dL_law_1680 : decode cL_law 1680 = .ok (.if_icmp .eq 1327, 3) := by decide +kernel
theorem dL_law_1683 : decode cL_law 1683 = .ok (.iconst 0, 1) := by decide +kernel
theorem dL_law_1684 : decode cL_law 1684 = .ok (.ireturn, 1) := by decide +kernel
theorem dL_law_1685 : decode cL_law 1685 = .ok (.aload_n 1, 1) := by decide +kernel
theorem dL_law_1686 : decode cL_law 1686 = .ok (.invokevirtual 285, 3) := by decide +kernel
theorem dL_law_1689 : decode cL_law 1689 = .ok (.aload_n 2, 1) := by decide +kernel
theorem dL_law_1690 : decode cL_law 1690 = .ok (.invokevirtual 288, 3) := by decide +kernel
theorem dL_law_1693 : decode cL_law 1693 = .ok (.if_icmp .eq 1314, 3) := by decide +kernel
theorem dL_law_1696 : decode cL_law 1696 = .ok (.iconst 0, 1) := by decide +kernel
theorem dL_law_1697 : decode cL_law 1697 = .ok (.ireturn, 1) := by decide +kernel
theorem dL_law_1698 : decode cL_law 1698 = .ok (.aload_n 1, 1) := by decide +kernel
theorem dL_law_1699 : decode cL_law 1699 = .ok (.invokevirtual 289, 3) := by decide +kernel
theorem dL_law_1702 : decode cL_law 1702 = .ok (.aload_n 2, 1) := by decide +kernel
theorem dL_law_1703 : decode cL_law 1703 = .ok (.invokevirtual 292, 3) := by decide +kernel
theorem dL_law_1706 : decode cL_law 1706 = .ok (.if_icmp .eq 1301, 3) := by decide +kernel
theorem dL_law_1709 : decode cL_law 1709 = .ok (.iconst 0, 1) := by decide +kernel
theorem dL_law_1710 : decode cL_law 1710 = .ok (.ireturn, 1) := by decide +kernel
theorem dL_law_1711 : decode cL_law 1711 = .ok (.aload_n 1, 1) := by decide +kernel
theorem dL_law_1712 : decode cL_law 1712 = .ok (.invokevirtual 293, 3) := by decide +kernel
theorem dL_law_1715 : decode cL_law 1715 = .ok (.aload_n 2, 1) := by decide +kernel
theorem dL_law_1716 : decode cL_law 1716 = .ok (.invokevirtual 296, 3) := by decide +kernel
theorem dL_law_1719 : decode cL_law 1719 = .ok (.if_icmp .eq 1288, 3) := by decide +kernel
theorem dL_law_1722 : decode cL_law 1722 = .ok (.iconst 0, 1) := by decide +kernel
theorem dL_law_1723 : decode cL_law 1723 = .ok (.ireturn, 1) := by decide +kernel
theorem dL_law_1724 : decode cL_law 1724 = .ok (.aload_n 1, 1) := by decide +kernel
theorem dL_law_1725 : decode cL_law 1725 = .ok (.invokevirtual 297, 3) := by decide +kernel
theorem dL_law_1728 : decode cL_law 1728 = .ok (.aload_n 2, 1) := by decide +kernel
theorem dL_law_1729 : decode cL_law 1729 = .ok (.invokevirtual 300, 3) := by decide +kernel
theorem dL_law_1732 : decode cL_law 1732 = .ok (.if_icmp .eq 1275, 3) := by decide +kernel
theorem dL_law_1735 : decode cL_law 1735 = .ok (.iconst 0, 1) := by decide +kernel
theorem dL_law_1736 : decode cL_law 1736 = .ok (.ireturn, 1) := by decide +kernel
theorem dL_law_1737 : decode cL_law 1737 = .ok (.aload_n 1, 1) := by decide +kernel
theorem dL_law_1738 : decode cL_law 1738 = .ok (.invokevirtual 301, 3) := by decide +kernel
theorem dL_law_1741 : decode cL_law 1741 = .ok (.aload_n 2, 1) := by decide +kernel
theorem dL_law_1742 : decode cL_law 1742 = .ok (.invokevirtual 304, 3) := by decide +kernel
theorem dL_law_1745 : decode cL_law 1745 = .ok (.if_icmp .eq 1262, 3) := by decide +kernel
theorem dL_law_1748 : decode cL_law 1748 = .ok (.iconst 0, 1) := by decide +kernel
theorem dL_law_1749 : decode cL_law 1749 = .ok (.ireturn, 1) := by decide +kernel
theorem dL_law_1750 : decode cL_law 1750 = .ok (.aload_n 1, 1) := by decide +kernel
theorem dL_law_1751 : decode cL_law 1751 = .ok (.aload_n 0, 1) := by decide +kernel
theorem dL_law_1752 : decode cL_law 1752 = .ok (.iload 5, 2) := by decide +kernel
theorem dL_law_1754 : decode cL_law 1754 = .ok (.iconst 1, 1) := by decide +kernel
theorem dL_law_1755 : decode cL_law 1755 = .ok (.iadd, 1) := by decide +kernel
theorem dL_law_1756 : decode cL_law 1756 = .ok (.iaload, 1) := by decide +kernel
theorem dL_law_1757 : decode cL_law 1757 = .ok (.aload_n 3, 1) := by decide +kernel
theorem dL_law_1758 : decode cL_law 1758 = .ok (.invokestatic 305, 3) := by decide +kernel
theorem dL_law_1761 : decode cL_law 1761 = .ok (.istore 6, 2) := by decide +kernel
theorem dL_law_1763 : decode cL_law 1763 = .ok (.aload_n 2, 1) := by decide +kernel
theorem dL_law_1764 : decode cL_law 1764 = .ok (.aload_n 0, 1) := by decide +kernel
theorem dL_law_1765 : decode cL_law 1765 = .ok (.iload 5, 2) := by decide +kernel
theorem dL_law_1767 : decode cL_law 1767 = .ok (.iconst 1, 1) := by decide +kernel
theorem dL_law_1768 : decode cL_law 1768 = .ok (.iadd, 1) := by decide +kernel
theorem dL_law_1769 : decode cL_law 1769 = .ok (.iaload, 1) := by decide +kernel
theorem dL_law_1770 : decode cL_law 1770 = .ok (.invokevirtual 307, 3) := by decide +kernel
theorem dL_law_1773 : decode cL_law 1773 = .ok (.istore 7, 2) := by decide +kernel
theorem dL_law_1775 : decode cL_law 1775 = .ok (.aload_n 2, 1) := by decide +kernel
theorem dL_law_1776 : decode cL_law 1776 = .ok (.invokevirtual 162, 3) := by decide +kernel
theorem dL_law_1779 : decode cL_law 1779 = .ok (.iload 6, 2) := by decide +kernel
theorem dL_law_1781 : decode cL_law 1781 = .ok (.if_icmp .eq 5, 3) := by decide +kernel
theorem dL_law_1784 : decode cL_law 1784 = .ok (.iconst 0, 1) := by decide +kernel
theorem dL_law_1785 : decode cL_law 1785 = .ok (.ireturn, 1) := by decide +kernel
theorem dL_law_1786 : decode cL_law 1786 = .ok (.iload 6, 2) := by decide +kernel
theorem dL_law_1788 : decode cL_law 1788 = .ok (.ifCond .ne 15, 3) := by decide +kernel
theorem dL_law_1791 : decode cL_law 1791 = .ok (.aload_n 3, 1) := by decide +kernel
theorem dL_law_1792 : decode cL_law 1792 = .ok (.iconst 0, 1) := by decide +kernel
theorem dL_law_1793 : decode cL_law 1793 = .ok (.laload, 1) := by decide +kernel
theorem dL_law_1794 : decode cL_law 1794 = .ok (.iload 7, 2) := by decide +kernel
theorem dL_law_1796 : decode cL_law 1796 = .ok (.i2l, 1) := by decide +kernel
theorem dL_law_1797 : decode cL_law 1797 = .ok (.lcmp, 1) := by decide +kernel
theorem dL_law_1798 : decode cL_law 1798 = .ok (.ifCond .eq 5, 3) := by decide +kernel
theorem dL_law_1801 : decode cL_law 1801 = .ok (.iconst 0, 1) := by decide +kernel
theorem dL_law_1802 : decode cL_law 1802 = .ok (.ireturn, 1) := by decide +kernel
theorem dL_law_1803 : decode cL_law 1803 = .ok (.goto 1204, 3) := by decide +kernel
theorem dL_law_1806 : decode cL_law 1806 = .ok (.aload_n 1, 1) := by decide +kernel
theorem dL_law_1807 : decode cL_law 1807 = .ok (.aload_n 0, 1) := by decide +kernel
theorem dL_law_1808 : decode cL_law 1808 = .ok (.iload 5, 2) := by decide +kernel
theorem dL_law_1810 : decode cL_law 1810 = .ok (.iconst 1, 1) := by decide +kernel
theorem dL_law_1811 : decode cL_law 1811 = .ok (.iadd, 1) := by decide +kernel
theorem dL_law_1812 : decode cL_law 1812 = .ok (.iaload, 1) := by decide +kernel
theorem dL_law_1813 : decode cL_law 1813 = .ok (.aload_n 0, 1) := by decide +kernel
theorem dL_law_1814 : decode cL_law 1814 = .ok (.iload 5, 2) := by decide +kernel
theorem dL_law_1816 : decode cL_law 1816 = .ok (.iconst 2, 1) := by decide +kernel
theorem dL_law_1817 : decode cL_law 1817 = .ok (.iadd, 1) := by decide +kernel
theorem dL_law_1818 : decode cL_law 1818 = .ok (.iaload, 1) := by decide +kernel
theorem dL_law_1819 : decode cL_law 1819 = .ok (.aload_n 3, 1) := by decide +kernel
theorem dL_law_1820 : decode cL_law 1820 = .ok (.invokestatic 308, 3) := by decide +kernel
theorem dL_law_1823 : decode cL_law 1823 = .ok (.istore 6, 2) := by decide +kernel
theorem dL_law_1825 : decode cL_law 1825 = .ok (.aload_n 2, 1) := by decide +kernel
theorem dL_law_1826 : decode cL_law 1826 = .ok (.aload_n 0, 1) := by decide +kernel
theorem dL_law_1827 : decode cL_law 1827 = .ok (.iload 5, 2) := by decide +kernel
theorem dL_law_1829 : decode cL_law 1829 = .ok (.iconst 1, 1) := by decide +kernel
theorem dL_law_1830 : decode cL_law 1830 = .ok (.iadd, 1) := by decide +kernel
theorem dL_law_1831 : decode cL_law 1831 = .ok (.iaload, 1) := by decide +kernel
theorem dL_law_1832 : decode cL_law 1832 = .ok (.aload_n 0, 1) := by decide +kernel
theorem dL_law_1833 : decode cL_law 1833 = .ok (.iload 5, 2) := by decide +kernel
theorem dL_law_1835 : decode cL_law 1835 = .ok (.iconst 2, 1) := by decide +kernel
theorem dL_law_1836 : decode cL_law 1836 = .ok (.iadd, 1) := by decide +kernel
theorem dL_law_1837 : decode cL_law 1837 = .ok (.iaload, 1) := by decide +kernel
theorem dL_law_1838 : decode cL_law 1838 = .ok (.invokevirtual 310, 3) := by decide +kernel
theorem dL_law_1841 : decode cL_law 1841 = .ok (.istore 7, 2) := by decide +kernel
theorem dL_law_1843 : decode cL_law 1843 = .ok (.aload_n 2, 1) := by decide +kernel
theorem dL_law_1844 : decode cL_law 1844 = .ok (.invokevirtual 162, 3) := by decide +kernel
theorem dL_law_1847 : decode cL_law 1847 = .ok (.iload 6, 2) := by decide +kernel
theorem dL_law_1849 : decode cL_law 1849 = .ok (.if_icmp .eq 5, 3) := by decide +kernel
theorem dL_law_1852 : decode cL_law 1852 = .ok (.iconst 0, 1) := by decide +kernel
theorem dL_law_1853 : decode cL_law 1853 = .ok (.ireturn, 1) := by decide +kernel
theorem dL_law_1854 : decode cL_law 1854 = .ok (.iload 6, 2) := by decide +kernel
theorem dL_law_1856 : decode cL_law 1856 = .ok (.ifCond .ne 15, 3) := by decide +kernel
theorem dL_law_1859 : decode cL_law 1859 = .ok (.aload_n 3, 1) := by decide +kernel
theorem dL_law_1860 : decode cL_law 1860 = .ok (.iconst 0, 1) := by decide +kernel
theorem dL_law_1861 : decode cL_law 1861 = .ok (.laload, 1) := by decide +kernel
theorem dL_law_1862 : decode cL_law 1862 = .ok (.iload 7, 2) := by decide +kernel
theorem dL_law_1864 : decode cL_law 1864 = .ok (.i2l, 1) := by decide +kernel
theorem dL_law_1865 : decode cL_law 1865 = .ok (.lcmp, 1) := by decide +kernel
theorem dL_law_1866 : decode cL_law 1866 = .ok (.ifCond .eq 5, 3) := by decide +kernel
theorem dL_law_1869 : decode cL_law 1869 = .ok (.iconst 0, 1) := by decide +kernel
theorem dL_law_1870 : decode cL_law 1870 = .ok (.ireturn, 1) := by decide +kernel
theorem dL_law_1871 : decode cL_law 1871 = .ok (.goto 1136, 3) := by decide +kernel
theorem dL_law_1874 : decode cL_law 1874 = .ok (.aload_n 1, 1) := by decide +kernel
theorem dL_law_1875 : decode cL_law 1875 = .ok (.aload_n 0, 1) := by decide +kernel
theorem dL_law_1876 : decode cL_law 1876 = .ok (.iload 5, 2) := by decide +kernel
theorem dL_law_1878 : decode cL_law 1878 = .ok (.iconst 1, 1) := by decide +kernel
theorem dL_law_1879 : decode cL_law 1879 = .ok (.iadd, 1) := by decide +kernel
theorem dL_law_1880 : decode cL_law 1880 = .ok (.iaload, 1) := by decide +kernel
theorem dL_law_1881 : decode cL_law 1881 = .ok (.aload_n 3, 1) := by decide +kernel
theorem dL_law_1882 : decode cL_law 1882 = .ok (.invokestatic 311, 3) := by decide +kernel
theorem dL_law_1885 : decode cL_law 1885 = .ok (.istore 6, 2) := by decide +kernel
theorem dL_law_1887 : decode cL_law 1887 = .ok (.aload_n 2, 1) := by decide +kernel
theorem dL_law_1888 : decode cL_law 1888 = .ok (.aload_n 0, 1) := by decide +kernel
theorem dL_law_1889 : decode cL_law 1889 = .ok (.iload 5, 2) := by decide +kernel
theorem dL_law_1891 : decode cL_law 1891 = .ok (.iconst 1, 1) := by decide +kernel
theorem dL_law_1892 : decode cL_law 1892 = .ok (.iadd, 1) := by decide +kernel
theorem dL_law_1893 : decode cL_law 1893 = .ok (.iaload, 1) := by decide +kernel
theorem dL_law_1894 : decode cL_law 1894 = .ok (.invokevirtual 313, 3) := by decide +kernel
theorem dL_law_1897 : decode cL_law 1897 = .ok (.istore 7, 2) := by decide +kernel
theorem dL_law_1899 : decode cL_law 1899 = .ok (.aload_n 2, 1) := by decide +kernel
theorem dL_law_1900 : decode cL_law 1900 = .ok (.invokevirtual 162, 3) := by decide +kernel
theorem dL_law_1903 : decode cL_law 1903 = .ok (.iload 6, 2) := by decide +kernel
theorem dL_law_1905 : decode cL_law 1905 = .ok (.if_icmp .eq 5, 3) := by decide +kernel
theorem dL_law_1908 : decode cL_law 1908 = .ok (.iconst 0, 1) := by decide +kernel
theorem dL_law_1909 : decode cL_law 1909 = .ok (.ireturn, 1) := by decide +kernel
theorem dL_law_1910 : decode cL_law 1910 = .ok (.iload 6, 2) := by decide +kernel
theorem dL_law_1912 : decode cL_law 1912 = .ok (.ifCond .ne 15, 3) := by decide +kernel
theorem dL_law_1915 : decode cL_law 1915 = .ok (.aload_n 3, 1) := by decide +kernel
theorem dL_law_1916 : decode cL_law 1916 = .ok (.iconst 0, 1) := by decide +kernel
theorem dL_law_1917 : decode cL_law 1917 = .ok (.laload, 1) := by decide +kernel
theorem dL_law_1918 : decode cL_law 1918 = .ok (.iload 7, 2) := by decide +kernel
theorem dL_law_1920 : decode cL_law 1920 = .ok (.i2l, 1) := by decide +kernel
theorem dL_law_1921 : decode cL_law 1921 = .ok (.lcmp, 1) := by decide +kernel
theorem dL_law_1922 : decode cL_law 1922 = .ok (.ifCond .eq 5, 3) := by decide +kernel
theorem dL_law_1925 : decode cL_law 1925 = .ok (.iconst 0, 1) := by decide +kernel
theorem dL_law_1926 : decode cL_law 1926 = .ok (.ireturn, 1) := by decide +kernel
theorem dL_law_1927 : decode cL_law 1927 = .ok (.goto 1080, 3) := by decide +kernel
theorem dL_law_1930 : decode cL_law 1930 = .ok (.aload_n 1, 1) := by decide +kernel
theorem dL_law_1931 : decode cL_law 1931 = .ok (.invokevirtual 314, 3) := by decide +kernel
theorem dL_law_1934 : decode cL_law 1934 = .ok (.aload_n 2, 1) := by decide +kernel
theorem dL_law_1935 : decode cL_law 1935 = .ok (.invokevirtual 317, 3) := by decide +kernel
theorem dL_law_1938 : decode cL_law 1938 = .ok (.if_icmp .eq 1069, 3) := by decide +kernel
theorem dL_law_1941 : decode cL_law 1941 = .ok (.iconst 0, 1) := by decide +kernel
theorem dL_law_1942 : decode cL_law 1942 = .ok (.ireturn, 1) := by decide +kernel
theorem dL_law_1943 : decode cL_law 1943 = .ok (.aload_n 1, 1) := by decide +kernel
theorem dL_law_1944 : decode cL_law 1944 = .ok (.aload_n 3, 1) := by decide +kernel
theorem dL_law_1945 : decode cL_law 1945 = .ok (.invokestatic 318, 3) := by decide +kernel
theorem dL_law_1948 : decode cL_law 1948 = .ok (.istore 6, 2) := by decide +kernel
theorem dL_law_1950 : decode cL_law 1950 = .ok (.aload_n 2, 1) := by decide +kernel
theorem dL_law_1951 : decode cL_law 1951 = .ok (.invokevirtual 320, 3) := by decide +kernel
theorem dL_law_1954 : decode cL_law 1954 = .ok (.istore 7, 2) := by decide +kernel
theorem dL_law_1956 : decode cL_law 1956 = .ok (.aload_n 2, 1) := by decide +kernel
theorem dL_law_1957 : decode cL_law 1957 = .ok (.invokevirtual 162, 3) := by decide +kernel
theorem dL_law_1960 : decode cL_law 1960 = .ok (.iload 6, 2) := by decide +kernel
theorem dL_law_1962 : decode cL_law 1962 = .ok (.if_icmp .eq 5, 3) := by decide +kernel
theorem dL_law_1965 : decode cL_law 1965 = .ok (.iconst 0, 1) := by decide +kernel
theorem dL_law_1966 : decode cL_law 1966 = .ok (.ireturn, 1) := by decide +kernel
theorem dL_law_1967 : decode cL_law 1967 = .ok (.iload 6, 2) := by decide +kernel
theorem dL_law_1969 : decode cL_law 1969 = .ok (.ifCond .ne 15, 3) := by decide +kernel
theorem dL_law_1972 : decode cL_law 1972 = .ok (.aload_n 3, 1) := by decide +kernel
theorem dL_law_1973 : decode cL_law 1973 = .ok (.iconst 0, 1) := by decide +kernel
theorem dL_law_1974 : decode cL_law 1974 = .ok (.laload, 1) := by decide +kernel
theorem dL_law_1975 : decode cL_law 1975 = .ok (.iload 7, 2) := by decide +kernel
theorem dL_law_1977 : decode cL_law 1977 = .ok (.i2l, 1) := by decide +kernel
theorem dL_law_1978 : decode cL_law 1978 = .ok (.lcmp, 1) := by decide +kernel
theorem dL_law_1979 : decode cL_law 1979 = .ok (.ifCond .eq 5, 3) := by decide +kernel
theorem dL_law_1982 : decode cL_law 1982 = .ok (.iconst 0, 1) := by decide +kernel
theorem dL_law_1983 : decode cL_law 1983 = .ok (.ireturn, 1) := by decide +kernel
theorem dL_law_1984 : decode cL_law 1984 = .ok (.goto 1023, 3) := by decide +kernel
theorem dL_law_1987 : decode cL_law 1987 = .ok (.aload_n 1, 1) := by decide +kernel
theorem dL_law_1988 : decode cL_law 1988 = .ok (.aload_n 0, 1) := by decide +kernel
theorem dL_law_1989 : decode cL_law 1989 = .ok (.iload 5, 2) := by decide +kernel
theorem dL_law_1991 : decode cL_law 1991 = .ok (.iconst 1, 1) := by decide +kernel
theorem dL_law_1992 : decode cL_law 1992 = .ok (.iadd, 1) := by decide +kernel
theorem dL_law_1993 : decode cL_law 1993 = .ok (.iaload, 1) := by decide +kernel
theorem dL_law_1994 : decode cL_law 1994 = .ok (.aload_n 3, 1) := by decide +kernel
theorem dL_law_1995 : decode cL_law 1995 = .ok (.invokestatic 321, 3) := by decide +kernel
theorem dL_law_1998 : decode cL_law 1998 = .ok (.istore 6, 2) := by decide +kernel
theorem dL_law_2000 : decode cL_law 2000 = .ok (.aload_n 2, 1) := by decide +kernel
theorem dL_law_2001 : decode cL_law 2001 = .ok (.aload_n 0, 1) := by decide +kernel
theorem dL_law_2002 : decode cL_law 2002 = .ok (.iload 5, 2) := by decide +kernel
theorem dL_law_2004 : decode cL_law 2004 = .ok (.iconst 1, 1) := by decide +kernel
theorem dL_law_2005 : decode cL_law 2005 = .ok (.iadd, 1) := by decide +kernel
theorem dL_law_2006 : decode cL_law 2006 = .ok (.iaload, 1) := by decide +kernel
theorem dL_law_2007 : decode cL_law 2007 = .ok (.invokevirtual 323, 3) := by decide +kernel
theorem dL_law_2010 : decode cL_law 2010 = .ok (.istore 7, 2) := by decide +kernel
theorem dL_law_2012 : decode cL_law 2012 = .ok (.aload_n 2, 1) := by decide +kernel
theorem dL_law_2013 : decode cL_law 2013 = .ok (.invokevirtual 162, 3) := by decide +kernel
theorem dL_law_2016 : decode cL_law 2016 = .ok (.iload 6, 2) := by decide +kernel
theorem dL_law_2018 : decode cL_law 2018 = .ok (.if_icmp .eq 5, 3) := by decide +kernel
theorem dL_law_2021 : decode cL_law 2021 = .ok (.iconst 0, 1) := by decide +kernel
theorem dL_law_2022 : decode cL_law 2022 = .ok (.ireturn, 1) := by decide +kernel
theorem dL_law_2023 : decode cL_law 2023 = .ok (.iload 6, 2) := by decide +kernel
theorem dL_law_2025 : decode cL_law 2025 = .ok (.ifCond .ne 15, 3) := by decide +kernel
theorem dL_law_2028 : decode cL_law 2028 = .ok (.aload_n 3, 1) := by decide +kernel
theorem dL_law_2029 : decode cL_law 2029 = .ok (.iconst 0, 1) := by decide +kernel
theorem dL_law_2030 : decode cL_law 2030 = .ok (.laload, 1) := by decide +kernel
theorem dL_law_2031 : decode cL_law 2031 = .ok (.iload 7, 2) := by decide +kernel
theorem dL_law_2033 : decode cL_law 2033 = .ok (.i2l, 1) := by decide +kernel
theorem dL_law_2034 : decode cL_law 2034 = .ok (.lcmp, 1) := by decide +kernel
theorem dL_law_2035 : decode cL_law 2035 = .ok (.ifCond .eq 5, 3) := by decide +kernel
theorem dL_law_2038 : decode cL_law 2038 = .ok (.iconst 0, 1) := by decide +kernel
theorem dL_law_2039 : decode cL_law 2039 = .ok (.ireturn, 1) := by decide +kernel
theorem dL_law_2040 : decode cL_law 2040 = .ok (.goto 967, 3) := by decide +kernel
theorem dL_law_2043 : decode cL_law 2043 = .ok (.aload_n 1, 1) := by decide +kernel
theorem dL_law_2044 : decode cL_law 2044 = .ok (.invokevirtual 324, 3) := by decide +kernel
theorem dL_law_2047 : decode cL_law 2047 = .ok (.aload_n 2, 1) := by decide +kernel
theorem dL_law_2048 : decode cL_law 2048 = .ok (.invokevirtual 327, 3) := by decide +kernel
theorem dL_law_2051 : decode cL_law 2051 = .ok (.if_icmp .eq 956, 3) := by decide +kernel
theorem dL_law_2054 : decode cL_law 2054 = .ok (.iconst 0, 1) := by decide +kernel
theorem dL_law_2055 : decode cL_law 2055 = .ok (.ireturn, 1) := by decide +kernel
theorem dL_law_2056 : decode cL_law 2056 = .ok (.aload_n 1, 1) := by decide +kernel
theorem dL_law_2057 : decode cL_law 2057 = .ok (.invokevirtual 328, 3) := by decide +kernel
theorem dL_law_2060 : decode cL_law 2060 = .ok (.aload_n 2, 1) := by decide +kernel
theorem dL_law_2061 : decode cL_law 2061 = .ok (.invokevirtual 331, 3) := by decide +kernel
theorem dL_law_2064 : decode cL_law 2064 = .ok (.if_icmp .eq 943, 3) := by decide +kernel
theorem dL_law_2067 : decode cL_law 2067 = .ok (.iconst 0, 1) := by decide +kernel
theorem dL_law_2068 : decode cL_law 2068 = .ok (.ireturn, 1) := by decide +kernel
theorem dL_law_2069 : decode cL_law 2069 = .ok (.aload_n 1, 1) := by decide +kernel
theorem dL_law_2070 : decode cL_law 2070 = .ok (.invokevirtual 332, 3) := by decide +kernel
theorem dL_law_2073 : decode cL_law 2073 = .ok (.aload_n 2, 1) := by decide +kernel
theorem dL_law_2074 : decode cL_law 2074 = .ok (.invokevirtual 335, 3) := by decide +kernel
theorem dL_law_2077 : decode cL_law 2077 = .ok (.if_icmp .eq 930, 3) := by decide +kernel
theorem dL_law_2080 : decode cL_law 2080 = .ok (.iconst 0, 1) := by decide +kernel
theorem dL_law_2081 : decode cL_law 2081 = .ok (.ireturn, 1) := by decide +kernel
theorem dL_law_2082 : decode cL_law 2082 = .ok (.aload_n 1, 1) := by decide +kernel
theorem dL_law_2083 : decode cL_law 2083 = .ok (.invokevirtual 336, 3) := by decide +kernel
theorem dL_law_2086 : decode cL_law 2086 = .ok (.aload_n 2, 1) := by decide +kernel
theorem dL_law_2087 : decode cL_law 2087 = .ok (.invokevirtual 339, 3) := by decide +kernel
theorem dL_law_2090 : decode cL_law 2090 = .ok (.if_icmp .eq 917, 3) := by decide +kernel
theorem dL_law_2093 : decode cL_law 2093 = .ok (.iconst 0, 1) := by decide +kernel
theorem dL_law_2094 : decode cL_law 2094 = .ok (.ireturn, 1) := by decide +kernel
theorem dL_law_2095 : decode cL_law 2095 = .ok (.aload_n 1, 1) := by decide +kernel
theorem dL_law_2096 : decode cL_law 2096 = .ok (.invokevirtual 340, 3) := by decide +kernel
theorem dL_law_2099 : decode cL_law 2099 = .ok (.aload_n 2, 1) := by decide +kernel
theorem dL_law_2100 : decode cL_law 2100 = .ok (.invokevirtual 343, 3) := by decide +kernel
theorem dL_law_2103 : decode cL_law 2103 = .ok (.if_icmp .eq 904, 3) := by decide +kernel
theorem dL_law_2106 : decode cL_law 2106 = .ok (.iconst 0, 1) := by decide +kernel
theorem dL_law_2107 : decode cL_law 2107 = .ok (.ireturn, 1) := by decide +kernel
theorem dL_law_2108 : decode cL_law 2108 = .ok (.aload_n 1, 1) := by decide +kernel
theorem dL_law_2109 : decode cL_law 2109 = .ok (.aload_n 0, 1) := by decide +kernel
theorem dL_law_2110 : decode cL_law 2110 = .ok (.iload 5, 2) := by decide +kernel
theorem dL_law_2112 : decode cL_law 2112 = .ok (.iconst 1, 1) := by decide +kernel
theorem dL_law_2113 : decode cL_law 2113 = .ok (.iadd, 1) := by decide +kernel
theorem dL_law_2114 : decode cL_law 2114 = .ok (.iaload, 1) := by decide +kernel
theorem dL_law_2115 : decode cL_law 2115 = .ok (.aload_n 3, 1) := by decide +kernel
theorem dL_law_2116 : decode cL_law 2116 = .ok (.invokestatic 344, 3) := by decide +kernel
theorem dL_law_2119 : decode cL_law 2119 = .ok (.istore 6, 2) := by decide +kernel
theorem dL_law_2121 : decode cL_law 2121 = .ok (.aload_n 2, 1) := by decide +kernel
theorem dL_law_2122 : decode cL_law 2122 = .ok (.aload_n 0, 1) := by decide +kernel
theorem dL_law_2123 : decode cL_law 2123 = .ok (.iload 5, 2) := by decide +kernel
theorem dL_law_2125 : decode cL_law 2125 = .ok (.iconst 1, 1) := by decide +kernel
theorem dL_law_2126 : decode cL_law 2126 = .ok (.iadd, 1) := by decide +kernel
theorem dL_law_2127 : decode cL_law 2127 = .ok (.iaload, 1) := by decide +kernel
theorem dL_law_2128 : decode cL_law 2128 = .ok (.invokevirtual 346, 3) := by decide +kernel
theorem dL_law_2131 : decode cL_law 2131 = .ok (.istore 7, 2) := by decide +kernel
theorem dL_law_2133 : decode cL_law 2133 = .ok (.aload_n 2, 1) := by decide +kernel
theorem dL_law_2134 : decode cL_law 2134 = .ok (.invokevirtual 162, 3) := by decide +kernel
theorem dL_law_2137 : decode cL_law 2137 = .ok (.iload 6, 2) := by decide +kernel
theorem dL_law_2139 : decode cL_law 2139 = .ok (.if_icmp .eq 5, 3) := by decide +kernel
theorem dL_law_2142 : decode cL_law 2142 = .ok (.iconst 0, 1) := by decide +kernel
theorem dL_law_2143 : decode cL_law 2143 = .ok (.ireturn, 1) := by decide +kernel
theorem dL_law_2144 : decode cL_law 2144 = .ok (.iload 6, 2) := by decide +kernel
theorem dL_law_2146 : decode cL_law 2146 = .ok (.ifCond .ne 15, 3) := by decide +kernel
theorem dL_law_2149 : decode cL_law 2149 = .ok (.aload_n 3, 1) := by decide +kernel
theorem dL_law_2150 : decode cL_law 2150 = .ok (.iconst 0, 1) := by decide +kernel
theorem dL_law_2151 : decode cL_law 2151 = .ok (.laload, 1) := by decide +kernel
theorem dL_law_2152 : decode cL_law 2152 = .ok (.iload 7, 2) := by decide +kernel
theorem dL_law_2154 : decode cL_law 2154 = .ok (.i2l, 1) := by decide +kernel
theorem dL_law_2155 : decode cL_law 2155 = .ok (.lcmp, 1) := by decide +kernel
theorem dL_law_2156 : decode cL_law 2156 = .ok (.ifCond .eq 5, 3) := by decide +kernel
theorem dL_law_2159 : decode cL_law 2159 = .ok (.iconst 0, 1) := by decide +kernel
theorem dL_law_2160 : decode cL_law 2160 = .ok (.ireturn, 1) := by decide +kernel
theorem dL_law_2161 : decode cL_law 2161 = .ok (.goto 846, 3) := by decide +kernel
theorem dL_law_2164 : decode cL_law 2164 = .ok (.aload_n 1, 1) := by decide +kernel
theorem dL_law_2165 : decode cL_law 2165 = .ok (.aload_n 0, 1) := by decide +kernel
theorem dL_law_2166 : decode cL_law 2166 = .ok (.iload 5, 2) := by decide +kernel
theorem dL_law_2168 : decode cL_law 2168 = .ok (.iconst 1, 1) := by decide +kernel
theorem dL_law_2169 : decode cL_law 2169 = .ok (.iadd, 1) := by decide +kernel
theorem dL_law_2170 : decode cL_law 2170 = .ok (.iaload, 1) := by decide +kernel
theorem dL_law_2171 : decode cL_law 2171 = .ok (.aload_n 3, 1) := by decide +kernel
theorem dL_law_2172 : decode cL_law 2172 = .ok (.invokestatic 347, 3) := by decide +kernel
theorem dL_law_2175 : decode cL_law 2175 = .ok (.istore 6, 2) := by decide +kernel
theorem dL_law_2177 : decode cL_law 2177 = .ok (.aload_n 2, 1) := by decide +kernel
theorem dL_law_2178 : decode cL_law 2178 = .ok (.aload_n 0, 1) := by decide +kernel
theorem dL_law_2179 : decode cL_law 2179 = .ok (.iload 5, 2) := by decide +kernel
theorem dL_law_2181 : decode cL_law 2181 = .ok (.iconst 1, 1) := by decide +kernel
theorem dL_law_2182 : decode cL_law 2182 = .ok (.iadd, 1) := by decide +kernel
theorem dL_law_2183 : decode cL_law 2183 = .ok (.iaload, 1) := by decide +kernel
theorem dL_law_2184 : decode cL_law 2184 = .ok (.invokevirtual 349, 3) := by decide +kernel
theorem dL_law_2187 : decode cL_law 2187 = .ok (.istore 7, 2) := by decide +kernel
theorem dL_law_2189 : decode cL_law 2189 = .ok (.aload_n 2, 1) := by decide +kernel
theorem dL_law_2190 : decode cL_law 2190 = .ok (.invokevirtual 162, 3) := by decide +kernel
theorem dL_law_2193 : decode cL_law 2193 = .ok (.iload 6, 2) := by decide +kernel
theorem dL_law_2195 : decode cL_law 2195 = .ok (.if_icmp .eq 5, 3) := by decide +kernel
theorem dL_law_2198 : decode cL_law 2198 = .ok (.iconst 0, 1) := by decide +kernel
theorem dL_law_2199 : decode cL_law 2199 = .ok (.ireturn, 1) := by decide +kernel
theorem dL_law_2200 : decode cL_law 2200 = .ok (.iload 6, 2) := by decide +kernel
theorem dL_law_2202 : decode cL_law 2202 = .ok (.ifCond .ne 15, 3) := by decide +kernel
theorem dL_law_2205 : decode cL_law 2205 = .ok (.aload_n 3, 1) := by decide +kernel
theorem dL_law_2206 : decode cL_law 2206 = .ok (.iconst 0, 1) := by decide +kernel
theorem dL_law_2207 : decode cL_law 2207 = .ok (.laload, 1) := by decide +kernel
theorem dL_law_2208 : decode cL_law 2208 = .ok (.iload 7, 2) := by decide +kernel
theorem dL_law_2210 : decode cL_law 2210 = .ok (.i2l, 1) := by decide +kernel
theorem dL_law_2211 : decode cL_law 2211 = .ok (.lcmp, 1) := by decide +kernel
theorem dL_law_2212 : decode cL_law 2212 = .ok (.ifCond .eq 5, 3) := by decide +kernel
theorem dL_law_2215 : decode cL_law 2215 = .ok (.iconst 0, 1) := by decide +kernel
theorem dL_law_2216 : decode cL_law 2216 = .ok (.ireturn, 1) := by decide +kernel
theorem dL_law_2217 : decode cL_law 2217 = .ok (.goto 790, 3) := by decide +kernel
theorem dL_law_2220 : decode cL_law 2220 = .ok (.aload_n 1, 1) := by decide +kernel
theorem dL_law_2221 : decode cL_law 2221 = .ok (.aload_n 0, 1) := by decide +kernel
theorem dL_law_2222 : decode cL_law 2222 = .ok (.iload 5, 2) := by decide +kernel
theorem dL_law_2224 : decode cL_law 2224 = .ok (.iconst 1, 1) := by decide +kernel
theorem dL_law_2225 : decode cL_law 2225 = .ok (.iadd, 1) := by decide +kernel
theorem dL_law_2226 : decode cL_law 2226 = .ok (.iaload, 1) := by decide +kernel
theorem dL_law_2227 : decode cL_law 2227 = .ok (.aload_n 3, 1) := by decide +kernel
theorem dL_law_2228 : decode cL_law 2228 = .ok (.invokestatic 350, 3) := by decide +kernel
theorem dL_law_2231 : decode cL_law 2231 = .ok (.istore 6, 2) := by decide +kernel
theorem dL_law_2233 : decode cL_law 2233 = .ok (.aload_n 2, 1) := by decide +kernel
theorem dL_law_2234 : decode cL_law 2234 = .ok (.aload_n 0, 1) := by decide +kernel
theorem dL_law_2235 : decode cL_law 2235 = .ok (.iload 5, 2) := by decide +kernel
theorem dL_law_2237 : decode cL_law 2237 = .ok (.iconst 1, 1) := by decide +kernel
theorem dL_law_2238 : decode cL_law 2238 = .ok (.iadd, 1) := by decide +kernel
theorem dL_law_2239 : decode cL_law 2239 = .ok (.iaload, 1) := by decide +kernel
theorem dL_law_2240 : decode cL_law 2240 = .ok (.invokevirtual 352, 3) := by decide +kernel
theorem dL_law_2243 : decode cL_law 2243 = .ok (.istore 7, 2) := by decide +kernel
theorem dL_law_2245 : decode cL_law 2245 = .ok (.aload_n 2, 1) := by decide +kernel
theorem dL_law_2246 : decode cL_law 2246 = .ok (.invokevirtual 162, 3) := by decide +kernel
theorem dL_law_2249 : decode cL_law 2249 = .ok (.iload 6, 2) := by decide +kernel
theorem dL_law_2251 : decode cL_law 2251 = .ok (.if_icmp .eq 5, 3) := by decide +kernel
theorem dL_law_2254 : decode cL_law 2254 = .ok (.iconst 0, 1) := by decide +kernel
theorem dL_law_2255 : decode cL_law 2255 = .ok (.ireturn, 1) := by decide +kernel
theorem dL_law_2256 : decode cL_law 2256 = .ok (.iload 6, 2) := by decide +kernel
theorem dL_law_2258 : decode cL_law 2258 = .ok (.ifCond .ne 15, 3) := by decide +kernel
theorem dL_law_2261 : decode cL_law 2261 = .ok (.aload_n 3, 1) := by decide +kernel
theorem dL_law_2262 : decode cL_law 2262 = .ok (.iconst 0, 1) := by decide +kernel
theorem dL_law_2263 : decode cL_law 2263 = .ok (.laload, 1) := by decide +kernel
theorem dL_law_2264 : decode cL_law 2264 = .ok (.iload 7, 2) := by decide +kernel
theorem dL_law_2266 : decode cL_law 2266 = .ok (.i2l, 1) := by decide +kernel
theorem dL_law_2267 : decode cL_law 2267 = .ok (.lcmp, 1) := by decide +kernel
theorem dL_law_2268 : decode cL_law 2268 = .ok (.ifCond .eq 5, 3) := by decide +kernel
theorem dL_law_2271 : decode cL_law 2271 = .ok (.iconst 0, 1) := by decide +kernel
theorem dL_law_2272 : decode cL_law 2272 = .ok (.ireturn, 1) := by decide +kernel
theorem dL_law_2273 : decode cL_law 2273 = .ok (.goto 734, 3) := by decide +kernel
theorem dL_law_2276 : decode cL_law 2276 = .ok (.aload_n 1, 1) := by decide +kernel
theorem dL_law_2277 : decode cL_law 2277 = .ok (.invokevirtual 353, 3) := by decide +kernel
theorem dL_law_2280 : decode cL_law 2280 = .ok (.aload_n 2, 1) := by decide +kernel
theorem dL_law_2281 : decode cL_law 2281 = .ok (.invokevirtual 356, 3) := by decide +kernel
theorem dL_law_2284 : decode cL_law 2284 = .ok (.if_icmp .eq 723, 3) := by decide +kernel
theorem dL_law_2287 : decode cL_law 2287 = .ok (.iconst 0, 1) := by decide +kernel
theorem dL_law_2288 : decode cL_law 2288 = .ok (.ireturn, 1) := by decide +kernel
theorem dL_law_2289 : decode cL_law 2289 = .ok (.aload_n 1, 1) := by decide +kernel
theorem dL_law_2290 : decode cL_law 2290 = .ok (.invokevirtual 357, 3) := by decide +kernel
theorem dL_law_2293 : decode cL_law 2293 = .ok (.aload_n 2, 1) := by decide +kernel
theorem dL_law_2294 : decode cL_law 2294 = .ok (.invokevirtual 360, 3) := by decide +kernel
theorem dL_law_2297 : decode cL_law 2297 = .ok (.if_icmp .eq 710, 3) := by decide +kernel
theorem dL_law_2300 : decode cL_law 2300 = .ok (.iconst 0, 1) := by decide +kernel
theorem dL_law_2301 : decode cL_law 2301 = .ok (.ireturn, 1) := by decide +kernel
theorem dL_law_2302 : decode cL_law 2302 = .ok (.aload_n 1, 1) := by decide +kernel
theorem dL_law_2303 : decode cL_law 2303 = .ok (.aload_n 0, 1) := by decide +kernel
theorem dL_law_2304 : decode cL_law 2304 = .ok (.iload 5, 2) := by decide +kernel
theorem dL_law_2306 : decode cL_law 2306 = .ok (.iconst 1, 1) := by decide +kernel
theorem dL_law_2307 : decode cL_law 2307 = .ok (.iadd, 1) := by decide +kernel
theorem dL_law_2308 : decode cL_law 2308 = .ok (.iaload, 1) := by decide +kernel
theorem dL_law_2309 : decode cL_law 2309 = .ok (.aload_n 3, 1) := by decide +kernel
theorem dL_law_2310 : decode cL_law 2310 = .ok (.invokestatic 361, 3) := by decide +kernel
theorem dL_law_2313 : decode cL_law 2313 = .ok (.istore 6, 2) := by decide +kernel
theorem dL_law_2315 : decode cL_law 2315 = .ok (.aload_n 2, 1) := by decide +kernel
theorem dL_law_2316 : decode cL_law 2316 = .ok (.aload_n 0, 1) := by decide +kernel
theorem dL_law_2317 : decode cL_law 2317 = .ok (.iload 5, 2) := by decide +kernel
theorem dL_law_2319 : decode cL_law 2319 = .ok (.iconst 1, 1) := by decide +kernel
theorem dL_law_2320 : decode cL_law 2320 = .ok (.iadd, 1) := by decide +kernel
theorem dL_law_2321 : decode cL_law 2321 = .ok (.iaload, 1) := by decide +kernel
theorem dL_law_2322 : decode cL_law 2322 = .ok (.invokevirtual 363, 3) := by decide +kernel
theorem dL_law_2325 : decode cL_law 2325 = .ok (.istore 7, 2) := by decide +kernel
theorem dL_law_2327 : decode cL_law 2327 = .ok (.aload_n 2, 1) := by decide +kernel
theorem dL_law_2328 : decode cL_law 2328 = .ok (.invokevirtual 162, 3) := by decide +kernel
theorem dL_law_2331 : decode cL_law 2331 = .ok (.iload 6, 2) := by decide +kernel
theorem dL_law_2333 : decode cL_law 2333 = .ok (.if_icmp .eq 5, 3) := by decide +kernel
theorem dL_law_2336 : decode cL_law 2336 = .ok (.iconst 0, 1) := by decide +kernel
theorem dL_law_2337 : decode cL_law 2337 = .ok (.ireturn, 1) := by decide +kernel
theorem dL_law_2338 : decode cL_law 2338 = .ok (.iload 6, 2) := by decide +kernel
theorem dL_law_2340 : decode cL_law 2340 = .ok (.ifCond .ne 15, 3) := by decide +kernel
theorem dL_law_2343 : decode cL_law 2343 = .ok (.aload_n 3, 1) := by decide +kernel
theorem dL_law_2344 : decode cL_law 2344 = .ok (.iconst 0, 1) := by decide +kernel
theorem dL_law_2345 : decode cL_law 2345 = .ok (.laload, 1) := by decide +kernel
theorem dL_law_2346 : decode cL_law 2346 = .ok (.iload 7, 2) := by decide +kernel
theorem dL_law_2348 : decode cL_law 2348 = .ok (.i2l, 1) := by decide +kernel
theorem dL_law_2349 : decode cL_law 2349 = .ok (.lcmp, 1) := by decide +kernel
theorem dL_law_2350 : decode cL_law 2350 = .ok (.ifCond .eq 5, 3) := by decide +kernel
theorem dL_law_2353 : decode cL_law 2353 = .ok (.iconst 0, 1) := by decide +kernel
theorem dL_law_2354 : decode cL_law 2354 = .ok (.ireturn, 1) := by decide +kernel
theorem dL_law_2355 : decode cL_law 2355 = .ok (.goto 652, 3) := by decide +kernel
theorem dL_law_2358 : decode cL_law 2358 = .ok (.aload_n 1, 1) := by decide +kernel
theorem dL_law_2359 : decode cL_law 2359 = .ok (.aload_n 0, 1) := by decide +kernel
theorem dL_law_2360 : decode cL_law 2360 = .ok (.iload 5, 2) := by decide +kernel
theorem dL_law_2362 : decode cL_law 2362 = .ok (.iconst 1, 1) := by decide +kernel
theorem dL_law_2363 : decode cL_law 2363 = .ok (.iadd, 1) := by decide +kernel
theorem dL_law_2364 : decode cL_law 2364 = .ok (.iaload, 1) := by decide +kernel
theorem dL_law_2365 : decode cL_law 2365 = .ok (.aload_n 3, 1) := by decide +kernel
theorem dL_law_2366 : decode cL_law 2366 = .ok (.invokestatic 364, 3) := by decide +kernel
theorem dL_law_2369 : decode cL_law 2369 = .ok (.istore 6, 2) := by decide +kernel
theorem dL_law_2371 : decode cL_law 2371 = .ok (.aload_n 2, 1) := by decide +kernel
theorem dL_law_2372 : decode cL_law 2372 = .ok (.aload_n 0, 1) := by decide +kernel
theorem dL_law_2373 : decode cL_law 2373 = .ok (.iload 5, 2) := by decide +kernel
theorem dL_law_2375 : decode cL_law 2375 = .ok (.iconst 1, 1) := by decide +kernel
theorem dL_law_2376 : decode cL_law 2376 = .ok (.iadd, 1) := by decide +kernel
theorem dL_law_2377 : decode cL_law 2377 = .ok (.iaload, 1) := by decide +kernel
theorem dL_law_2378 : decode cL_law 2378 = .ok (.invokevirtual 366, 3) := by decide +kernel
theorem dL_law_2381 : decode cL_law 2381 = .ok (.istore 7, 2) := by decide +kernel
theorem dL_law_2383 : decode cL_law 2383 = .ok (.aload_n 2, 1) := by decide +kernel
theorem dL_law_2384 : decode cL_law 2384 = .ok (.invokevirtual 162, 3) := by decide +kernel
theorem dL_law_2387 : decode cL_law 2387 = .ok (.iload 6, 2) := by decide +kernel
theorem dL_law_2389 : decode cL_law 2389 = .ok (.if_icmp .eq 5, 3) := by decide +kernel
theorem dL_law_2392 : decode cL_law 2392 = .ok (.iconst 0, 1) := by decide +kernel
theorem dL_law_2393 : decode cL_law 2393 = .ok (.ireturn, 1) := by decide +kernel
theorem dL_law_2394 : decode cL_law 2394 = .ok (.iload 6, 2) := by decide +kernel
theorem dL_law_2396 : decode cL_law 2396 = .ok (.ifCond .ne 15, 3) := by decide +kernel
theorem dL_law_2399 : decode cL_law 2399 = .ok (.aload_n 3, 1) := by decide +kernel
theorem dL_law_2400 : decode cL_law 2400 = .ok (.iconst 0, 1) := by decide +kernel
theorem dL_law_2401 : decode cL_law 2401 = .ok (.laload, 1) := by decide +kernel
theorem dL_law_2402 : decode cL_law 2402 = .ok (.iload 7, 2) := by decide +kernel
theorem dL_law_2404 : decode cL_law 2404 = .ok (.i2l, 1) := by decide +kernel
theorem dL_law_2405 : decode cL_law 2405 = .ok (.lcmp, 1) := by decide +kernel
theorem dL_law_2406 : decode cL_law 2406 = .ok (.ifCond .eq 5, 3) := by decide +kernel
theorem dL_law_2409 : decode cL_law 2409 = .ok (.iconst 0, 1) := by decide +kernel
theorem dL_law_2410 : decode cL_law 2410 = .ok (.ireturn, 1) := by decide +kernel
theorem dL_law_2411 : decode cL_law 2411 = .ok (.goto 596, 3) := by decide +kernel
theorem dL_law_2414 : decode cL_law 2414 = .ok (.aload_n 1, 1) := by decide +kernel
theorem dL_law_2415 : decode cL_law 2415 = .ok (.aload_n 0, 1) := by decide +kernel
theorem dL_law_2416 : decode cL_law 2416 = .ok (.iload 5, 2) := by decide +kernel
theorem dL_law_2418 : decode cL_law 2418 = .ok (.iconst 1, 1) := by decide +kernel
theorem dL_law_2419 : decode cL_law 2419 = .ok (.iadd, 1) := by decide +kernel
theorem dL_law_2420 : decode cL_law 2420 = .ok (.iaload, 1) := by decide +kernel
theorem dL_law_2421 : decode cL_law 2421 = .ok (.aload_n 3, 1) := by decide +kernel
theorem dL_law_2422 : decode cL_law 2422 = .ok (.invokestatic 367, 3) := by decide +kernel
theorem dL_law_2425 : decode cL_law 2425 = .ok (.istore 6, 2) := by decide +kernel
theorem dL_law_2427 : decode cL_law 2427 = .ok (.aload_n 2, 1) := by decide +kernel
theorem dL_law_2428 : decode cL_law 2428 = .ok (.aload_n 0, 1) := by decide +kernel
theorem dL_law_2429 : decode cL_law 2429 = .ok (.iload 5, 2) := by decide +kernel
theorem dL_law_2431 : decode cL_law 2431 = .ok (.iconst 1, 1) := by decide +kernel
theorem dL_law_2432 : decode cL_law 2432 = .ok (.iadd, 1) := by decide +kernel
theorem dL_law_2433 : decode cL_law 2433 = .ok (.iaload, 1) := by decide +kernel
theorem dL_law_2434 : decode cL_law 2434 = .ok (.invokevirtual 369, 3) := by decide +kernel
theorem dL_law_2437 : decode cL_law 2437 = .ok (.istore 7, 2) := by decide +kernel
theorem dL_law_2439 : decode cL_law 2439 = .ok (.aload_n 2, 1) := by decide +kernel
theorem dL_law_2440 : decode cL_law 2440 = .ok (.invokevirtual 162, 3) := by decide +kernel
theorem dL_law_2443 : decode cL_law 2443 = .ok (.iload 6, 2) := by decide +kernel
theorem dL_law_2445 : decode cL_law 2445 = .ok (.if_icmp .eq 5, 3) := by decide +kernel
theorem dL_law_2448 : decode cL_law 2448 = .ok (.iconst 0, 1) := by decide +kernel
theorem dL_law_2449 : decode cL_law 2449 = .ok (.ireturn, 1) := by decide +kernel
theorem dL_law_2450 : decode cL_law 2450 = .ok (.iload 6, 2) := by decide +kernel
theorem dL_law_2452 : decode cL_law 2452 = .ok (.ifCond .ne 15, 3) := by decide +kernel
theorem dL_law_2455 : decode cL_law 2455 = .ok (.aload_n 3, 1) := by decide +kernel
theorem dL_law_2456 : decode cL_law 2456 = .ok (.iconst 0, 1) := by decide +kernel
theorem dL_law_2457 : decode cL_law 2457 = .ok (.laload, 1) := by decide +kernel
theorem dL_law_2458 : decode cL_law 2458 = .ok (.iload 7, 2) := by decide +kernel
theorem dL_law_2460 : decode cL_law 2460 = .ok (.i2l, 1) := by decide +kernel
theorem dL_law_2461 : decode cL_law 2461 = .ok (.lcmp, 1) := by decide +kernel
theorem dL_law_2462 : decode cL_law 2462 = .ok (.ifCond .eq 5, 3) := by decide +kernel
theorem dL_law_2465 : decode cL_law 2465 = .ok (.iconst 0, 1) := by decide +kernel
theorem dL_law_2466 : decode cL_law 2466 = .ok (.ireturn, 1) := by decide +kernel
theorem dL_law_2467 : decode cL_law 2467 = .ok (.goto 540, 3) := by decide +kernel
theorem dL_law_2470 : decode cL_law 2470 = .ok (.aload_n 1, 1) := by decide +kernel
theorem dL_law_2471 : decode cL_law 2471 = .ok (.aload_n 0, 1) := by decide +kernel
theorem dL_law_2472 : decode cL_law 2472 = .ok (.iload 5, 2) := by decide +kernel
theorem dL_law_2474 : decode cL_law 2474 = .ok (.iconst 1, 1) := by decide +kernel
theorem dL_law_2475 : decode cL_law 2475 = .ok (.iadd, 1) := by decide +kernel
theorem dL_law_2476 : decode cL_law 2476 = .ok (.iaload, 1) := by decide +kernel
theorem dL_law_2477 : decode cL_law 2477 = .ok (.aload_n 3, 1) := by decide +kernel
theorem dL_law_2478 : decode cL_law 2478 = .ok (.invokestatic 370, 3) := by decide +kernel
theorem dL_law_2481 : decode cL_law 2481 = .ok (.istore 6, 2) := by decide +kernel
theorem dL_law_2483 : decode cL_law 2483 = .ok (.aload_n 2, 1) := by decide +kernel
theorem dL_law_2484 : decode cL_law 2484 = .ok (.aload_n 0, 1) := by decide +kernel
theorem dL_law_2485 : decode cL_law 2485 = .ok (.iload 5, 2) := by decide +kernel
theorem dL_law_2487 : decode cL_law 2487 = .ok (.iconst 1, 1) := by decide +kernel
theorem dL_law_2488 : decode cL_law 2488 = .ok (.iadd, 1) := by decide +kernel
theorem dL_law_2489 : decode cL_law 2489 = .ok (.iaload, 1) := by decide +kernel
theorem dL_law_2490 : decode cL_law 2490 = .ok (.invokevirtual 372, 3) := by decide +kernel
theorem dL_law_2493 : decode cL_law 2493 = .ok (.istore 7, 2) := by decide +kernel
theorem dL_law_2495 : decode cL_law 2495 = .ok (.aload_n 2, 1) := by decide +kernel
theorem dL_law_2496 : decode cL_law 2496 = .ok (.invokevirtual 162, 3) := by decide +kernel
theorem dL_law_2499 : decode cL_law 2499 = .ok (.iload 6, 2) := by decide +kernel
theorem dL_law_2501 : decode cL_law 2501 = .ok (.if_icmp .eq 5, 3) := by decide +kernel
theorem dL_law_2504 : decode cL_law 2504 = .ok (.iconst 0, 1) := by decide +kernel
theorem dL_law_2505 : decode cL_law 2505 = .ok (.ireturn, 1) := by decide +kernel
theorem dL_law_2506 : decode cL_law 2506 = .ok (.iload 6, 2) := by decide +kernel
theorem dL_law_2508 : decode cL_law 2508 = .ok (.ifCond .ne 22, 3) := by decide +kernel
theorem dL_law_2511 : decode cL_law 2511 = .ok (.aload_n 3, 1) := by decide +kernel
theorem dL_law_2512 : decode cL_law 2512 = .ok (.iconst 0, 1) := by decide +kernel
theorem dL_law_2513 : decode cL_law 2513 = .ok (.laload, 1) := by decide +kernel
theorem dL_law_2514 : decode cL_law 2514 = .ok (.iload 7, 2) := by decide +kernel
theorem dL_law_2516 : decode cL_law 2516 = .ok (.ifCond .eq 7, 3) := by decide +kernel
theorem dL_law_2519 : decode cL_law 2519 = .ok (.lconst 1, 1) := by decide +kernel
theorem dL_law_2520 : decode cL_law 2520 = .ok (.goto 4, 3) := by decide +kernel
theorem dL_law_2523 : decode cL_law 2523 = .ok (.lconst 0, 1) := by decide +kernel
theorem dL_law_2524 : decode cL_law 2524 = .ok (.lcmp, 1) := by decide +kernel
theorem dL_law_2525 : decode cL_law 2525 = .ok (.ifCond .eq 5, 3) := by decide +kernel
theorem dL_law_2528 : decode cL_law 2528 = .ok (.iconst 0, 1) := by decide +kernel
theorem dL_law_2529 : decode cL_law 2529 = .ok (.ireturn, 1) := by decide +kernel
theorem dL_law_2530 : decode cL_law 2530 = .ok (.goto 477, 3) := by decide +kernel
theorem dL_law_2533 : decode cL_law 2533 = .ok (.aload_n 1, 1) := by decide +kernel
theorem dL_law_2534 : decode cL_law 2534 = .ok (.aload_n 0, 1) := by decide +kernel
theorem dL_law_2535 : decode cL_law 2535 = .ok (.iload 5, 2) := by decide +kernel
theorem dL_law_2537 : decode cL_law 2537 = .ok (.iconst 1, 1) := by decide +kernel
theorem dL_law_2538 : decode cL_law 2538 = .ok (.iadd, 1) := by decide +kernel
theorem dL_law_2539 : decode cL_law 2539 = .ok (.iaload, 1) := by decide +kernel
theorem dL_law_2540 : decode cL_law 2540 = .ok (.aload_n 3, 1) := by decide +kernel
theorem dL_law_2541 : decode cL_law 2541 = .ok (.invokestatic 373, 3) := by decide +kernel
theorem dL_law_2544 : decode cL_law 2544 = .ok (.istore 6, 2) := by decide +kernel
theorem dL_law_2546 : decode cL_law 2546 = .ok (.aload_n 2, 1) := by decide +kernel
theorem dL_law_2547 : decode cL_law 2547 = .ok (.aload_n 0, 1) := by decide +kernel
theorem dL_law_2548 : decode cL_law 2548 = .ok (.iload 5, 2) := by decide +kernel
theorem dL_law_2550 : decode cL_law 2550 = .ok (.iconst 1, 1) := by decide +kernel
theorem dL_law_2551 : decode cL_law 2551 = .ok (.iadd, 1) := by decide +kernel
theorem dL_law_2552 : decode cL_law 2552 = .ok (.iaload, 1) := by decide +kernel
theorem dL_law_2553 : decode cL_law 2553 = .ok (.invokevirtual 375, 3) := by decide +kernel
theorem dL_law_2556 : decode cL_law 2556 = .ok (.istore 7, 2) := by decide +kernel
theorem dL_law_2558 : decode cL_law 2558 = .ok (.aload_n 2, 1) := by decide +kernel
theorem dL_law_2559 : decode cL_law 2559 = .ok (.invokevirtual 162, 3) := by decide +kernel
theorem dL_law_2562 : decode cL_law 2562 = .ok (.iload 6, 2) := by decide +kernel
theorem dL_law_2564 : decode cL_law 2564 = .ok (.if_icmp .eq 5, 3) := by decide +kernel
theorem dL_law_2567 : decode cL_law 2567 = .ok (.iconst 0, 1) := by decide +kernel
theorem dL_law_2568 : decode cL_law 2568 = .ok (.ireturn, 1) := by decide +kernel
theorem dL_law_2569 : decode cL_law 2569 = .ok (.iload 6, 2) := by decide +kernel
theorem dL_law_2571 : decode cL_law 2571 = .ok (.ifCond .ne 15, 3) := by decide +kernel
theorem dL_law_2574 : decode cL_law 2574 = .ok (.aload_n 3, 1) := by decide +kernel
theorem dL_law_2575 : decode cL_law 2575 = .ok (.iconst 0, 1) := by decide +kernel
theorem dL_law_2576 : decode cL_law 2576 = .ok (.laload, 1) := by decide +kernel
theorem dL_law_2577 : decode cL_law 2577 = .ok (.iload 7, 2) := by decide +kernel
theorem dL_law_2579 : decode cL_law 2579 = .ok (.i2l, 1) := by decide +kernel
theorem dL_law_2580 : decode cL_law 2580 = .ok (.lcmp, 1) := by decide +kernel
theorem dL_law_2581 : decode cL_law 2581 = .ok (.ifCond .eq 5, 3) := by decide +kernel
theorem dL_law_2584 : decode cL_law 2584 = .ok (.iconst 0, 1) := by decide +kernel
theorem dL_law_2585 : decode cL_law 2585 = .ok (.ireturn, 1) := by decide +kernel
theorem dL_law_2586 : decode cL_law 2586 = .ok (.goto 421, 3) := by decide +kernel
theorem dL_law_2589 : decode cL_law 2589 = .ok (.aload_n 1, 1) := by decide +kernel
theorem dL_law_2590 : decode cL_law 2590 = .ok (.aload_n 3, 1) := by decide +kernel
theorem dL_law_2591 : decode cL_law 2591 = .ok (.invokestatic 376, 3) := by decide +kernel
theorem dL_law_2594 : decode cL_law 2594 = .ok (.istore 6, 2) := by decide +kernel
theorem dL_law_2596 : decode cL_law 2596 = .ok (.aload_n 2, 1) := by decide +kernel
theorem dL_law_2597 : decode cL_law 2597 = .ok (.invokevirtual 378, 3) := by decide +kernel
theorem dL_law_2600 : decode cL_law 2600 = .ok (.istore 7, 2) := by decide +kernel
theorem dL_law_2602 : decode cL_law 2602 = .ok (.aload_n 2, 1) := by decide +kernel
theorem dL_law_2603 : decode cL_law 2603 = .ok (.invokevirtual 162, 3) := by decide +kernel
theorem dL_law_2606 : decode cL_law 2606 = .ok (.iload 6, 2) := by decide +kernel
theorem dL_law_2608 : decode cL_law 2608 = .ok (.if_icmp .eq 5, 3) := by decide +kernel
theorem dL_law_2611 : decode cL_law 2611 = .ok (.iconst 0, 1) := by decide +kernel
theorem dL_law_2612 : decode cL_law 2612 = .ok (.ireturn, 1) := by decide +kernel
theorem dL_law_2613 : decode cL_law 2613 = .ok (.iload 6, 2) := by decide +kernel
theorem dL_law_2615 : decode cL_law 2615 = .ok (.ifCond .ne 15, 3) := by decide +kernel
theorem dL_law_2618 : decode cL_law 2618 = .ok (.aload_n 3, 1) := by decide +kernel
theorem dL_law_2619 : decode cL_law 2619 = .ok (.iconst 0, 1) := by decide +kernel
theorem dL_law_2620 : decode cL_law 2620 = .ok (.laload, 1) := by decide +kernel
theorem dL_law_2621 : decode cL_law 2621 = .ok (.iload 7, 2) := by decide +kernel
theorem dL_law_2623 : decode cL_law 2623 = .ok (.i2l, 1) := by decide +kernel
theorem dL_law_2624 : decode cL_law 2624 = .ok (.lcmp, 1) := by decide +kernel
theorem dL_law_2625 : decode cL_law 2625 = .ok (.ifCond .eq 5, 3) := by decide +kernel
theorem dL_law_2628 : decode cL_law 2628 = .ok (.iconst 0, 1) := by decide +kernel
theorem dL_law_2629 : decode cL_law 2629 = .ok (.ireturn, 1) := by decide +kernel
theorem dL_law_2630 : decode cL_law 2630 = .ok (.goto 377, 3) := by decide +kernel
theorem dL_law_2633 : decode cL_law 2633 = .ok (.aload_n 1, 1) := by decide +kernel
theorem dL_law_2634 : decode cL_law 2634 = .ok (.aload_n 3, 1) := by decide +kernel
theorem dL_law_2635 : decode cL_law 2635 = .ok (.invokestatic 379, 3) := by decide +kernel
theorem dL_law_2638 : decode cL_law 2638 = .ok (.istore 6, 2) := by decide +kernel
theorem dL_law_2640 : decode cL_law 2640 = .ok (.aload_n 2, 1) := by decide +kernel
theorem dL_law_2641 : decode cL_law 2641 = .ok (.invokevirtual 381, 3) := by decide +kernel
theorem dL_law_2644 : decode cL_law 2644 = .ok (.istore 7, 2) := by decide +kernel
theorem dL_law_2646 : decode cL_law 2646 = .ok (.aload_n 2, 1) := by decide +kernel
theorem dL_law_2647 : decode cL_law 2647 = .ok (.invokevirtual 162, 3) := by decide +kernel
theorem dL_law_2650 : decode cL_law 2650 = .ok (.iload 6, 2) := by decide +kernel
theorem dL_law_2652 : decode cL_law 2652 = .ok (.if_icmp .eq 5, 3) := by decide +kernel
theorem dL_law_2655 : decode cL_law 2655 = .ok (.iconst 0, 1) := by decide +kernel
theorem dL_law_2656 : decode cL_law 2656 = .ok (.ireturn, 1) := by decide +kernel
theorem dL_law_2657 : decode cL_law 2657 = .ok (.iload 6, 2) := by decide +kernel
theorem dL_law_2659 : decode cL_law 2659 = .ok (.ifCond .ne 22, 3) := by decide +kernel
theorem dL_law_2662 : decode cL_law 2662 = .ok (.aload_n 3, 1) := by decide +kernel
theorem dL_law_2663 : decode cL_law 2663 = .ok (.iconst 0, 1) := by decide +kernel
theorem dL_law_2664 : decode cL_law 2664 = .ok (.laload, 1) := by decide +kernel
theorem dL_law_2665 : decode cL_law 2665 = .ok (.iload 7, 2) := by decide +kernel
theorem dL_law_2667 : decode cL_law 2667 = .ok (.ifCond .eq 7, 3) := by decide +kernel
theorem dL_law_2670 : decode cL_law 2670 = .ok (.lconst 1, 1) := by decide +kernel
theorem dL_law_2671 : decode cL_law 2671 = .ok (.goto 4, 3) := by decide +kernel
theorem dL_law_2674 : decode cL_law 2674 = .ok (.lconst 0, 1) := by decide +kernel
theorem dL_law_2675 : decode cL_law 2675 = .ok (.lcmp, 1) := by decide +kernel
theorem dL_law_2676 : decode cL_law 2676 = .ok (.ifCond .eq 5, 3) := by decide +kernel
theorem dL_law_2679 : decode cL_law 2679 = .ok (.iconst 0, 1) := by decide +kernel
theorem dL_law_2680 : decode cL_law 2680 = .ok (.ireturn, 1) := by decide +kernel
theorem dL_law_2681 : decode cL_law 2681 = .ok (.goto 326, 3) := by decide +kernel
theorem dL_law_2684 : decode cL_law 2684 = .ok (.aload_n 1, 1) := by decide +kernel
theorem dL_law_2685 : decode cL_law 2685 = .ok (.aload_n 3, 1) := by decide +kernel
theorem dL_law_2686 : decode cL_law 2686 = .ok (.invokestatic 382, 3) := by decide +kernel
theorem dL_law_2689 : decode cL_law 2689 = .ok (.istore 6, 2) := by decide +kernel
theorem dL_law_2691 : decode cL_law 2691 = .ok (.aload_n 2, 1) := by decide +kernel
theorem dL_law_2692 : decode cL_law 2692 = .ok (.invokevirtual 384, 3) := by decide +kernel
theorem dL_law_2695 : decode cL_law 2695 = .ok (.istore 7, 2) := by decide +kernel
theorem dL_law_2697 : decode cL_law 2697 = .ok (.aload_n 2, 1) := by decide +kernel
theorem dL_law_2698 : decode cL_law 2698 = .ok (.invokevirtual 162, 3) := by decide +kernel
theorem dL_law_2701 : decode cL_law 2701 = .ok (.iload 6, 2) := by decide +kernel
theorem dL_law_2703 : decode cL_law 2703 = .ok (.if_icmp .eq 5, 3) := by decide +kernel
theorem dL_law_2706 : decode cL_law 2706 = .ok (.iconst 0, 1) := by decide +kernel
theorem dL_law_2707 : decode cL_law 2707 = .ok (.ireturn, 1) := by decide +kernel
theorem dL_law_2708 : decode cL_law 2708 = .ok (.iload 6, 2) := by decide +kernel
theorem dL_law_2710 : decode cL_law 2710 = .ok (.ifCond .ne 15, 3) := by decide +kernel
theorem dL_law_2713 : decode cL_law 2713 = .ok (.aload_n 3, 1) := by decide +kernel
theorem dL_law_2714 : decode cL_law 2714 = .ok (.iconst 0, 1) := by decide +kernel
theorem dL_law_2715 : decode cL_law 2715 = .ok (.laload, 1) := by decide +kernel
theorem dL_law_2716 : decode cL_law 2716 = .ok (.iload 7, 2) := by decide +kernel
theorem dL_law_2718 : decode cL_law 2718 = .ok (.i2l, 1) := by decide +kernel
theorem dL_law_2719 : decode cL_law 2719 = .ok (.lcmp, 1) := by decide +kernel
theorem dL_law_2720 : decode cL_law 2720 = .ok (.ifCond .eq 5, 3) := by decide +kernel
theorem dL_law_2723 : decode cL_law 2723 = .ok (.iconst 0, 1) := by decide +kernel
theorem dL_law_2724 : decode cL_law 2724 = .ok (.ireturn, 1) := by decide +kernel
theorem dL_law_2725 : decode cL_law 2725 = .ok (.goto 282, 3) := by decide +kernel
theorem dL_law_2728 : decode cL_law 2728 = .ok (.aload_n 1, 1) := by decide +kernel
theorem dL_law_2729 : decode cL_law 2729 = .ok (.aload_n 3, 1) := by decide +kernel
theorem dL_law_2730 : decode cL_law 2730 = .ok (.invokestatic 385, 3) := by decide +kernel
theorem dL_law_2733 : decode cL_law 2733 = .ok (.istore 6, 2) := by decide +kernel
theorem dL_law_2735 : decode cL_law 2735 = .ok (.aload_n 2, 1) := by decide +kernel
theorem dL_law_2736 : decode cL_law 2736 = .ok (.invokevirtual 387, 3) := by decide +kernel
theorem dL_law_2739 : decode cL_law 2739 = .ok (.istore 7, 2) := by decide +kernel
theorem dL_law_2741 : decode cL_law 2741 = .ok (.aload_n 2, 1) := by decide +kernel
theorem dL_law_2742 : decode cL_law 2742 = .ok (.invokevirtual 162, 3) := by decide +kernel
theorem dL_law_2745 : decode cL_law 2745 = .ok (.iload 6, 2) := by decide +kernel
theorem dL_law_2747 : decode cL_law 2747 = .ok (.if_icmp .eq 5, 3) := by decide +kernel
theorem dL_law_2750 : decode cL_law 2750 = .ok (.iconst 0, 1) := by decide +kernel
theorem dL_law_2751 : decode cL_law 2751 = .ok (.ireturn, 1) := by decide +kernel
theorem dL_law_2752 : decode cL_law 2752 = .ok (.iload 6, 2) := by decide +kernel
theorem dL_law_2754 : decode cL_law 2754 = .ok (.ifCond .ne 15, 3) := by decide +kernel
theorem dL_law_2757 : decode cL_law 2757 = .ok (.aload_n 3, 1) := by decide +kernel
theorem dL_law_2758 : decode cL_law 2758 = .ok (.iconst 0, 1) := by decide +kernel
theorem dL_law_2759 : decode cL_law 2759 = .ok (.laload, 1) := by decide +kernel
theorem dL_law_2760 : decode cL_law 2760 = .ok (.iload 7, 2) := by decide +kernel
theorem dL_law_2762 : decode cL_law 2762 = .ok (.i2l, 1) := by decide +kernel
theorem dL_law_2763 : decode cL_law 2763 = .ok (.lcmp, 1) := by decide +kernel
theorem dL_law_2764 : decode cL_law 2764 = .ok (.ifCond .eq 5, 3) := by decide +kernel
theorem dL_law_2767 : decode cL_law 2767 = .ok (.iconst 0, 1) := by decide +kernel
theorem dL_law_2768 : decode cL_law 2768 = .ok (.ireturn, 1) := by decide +kernel
theorem dL_law_2769 : decode cL_law 2769 = .ok (.goto 238, 3) := by decide +kernel
theorem dL_law_2772 : decode cL_law 2772 = .ok (.aload_n 1, 1) := by decide +kernel
theorem dL_law_2773 : decode cL_law 2773 = .ok (.aload_n 3, 1) := by decide +kernel
theorem dL_law_2774 : decode cL_law 2774 = .ok (.invokestatic 388, 3) := by decide +kernel
theorem dL_law_2777 : decode cL_law 2777 = .ok (.istore 6, 2) := by decide +kernel
theorem dL_law_2779 : decode cL_law 2779 = .ok (.aload_n 2, 1) := by decide +kernel
theorem dL_law_2780 : decode cL_law 2780 = .ok (.invokevirtual 390, 3) := by decide +kernel
theorem dL_law_2783 : decode cL_law 2783 = .ok (.istore 7, 2) := by decide +kernel
theorem dL_law_2785 : decode cL_law 2785 = .ok (.aload_n 2, 1) := by decide +kernel
theorem dL_law_2786 : decode cL_law 2786 = .ok (.invokevirtual 162, 3) := by decide +kernel
theorem dL_law_2789 : decode cL_law 2789 = .ok (.iload 6, 2) := by decide +kernel
theorem dL_law_2791 : decode cL_law 2791 = .ok (.if_icmp .eq 5, 3) := by decide +kernel
theorem dL_law_2794 : decode cL_law 2794 = .ok (.iconst 0, 1) := by decide +kernel
theorem dL_law_2795 : decode cL_law 2795 = .ok (.ireturn, 1) := by decide +kernel
theorem dL_law_2796 : decode cL_law 2796 = .ok (.iload 6, 2) := by decide +kernel
theorem dL_law_2798 : decode cL_law 2798 = .ok (.ifCond .ne 15, 3) := by decide +kernel
theorem dL_law_2801 : decode cL_law 2801 = .ok (.aload_n 3, 1) := by decide +kernel
theorem dL_law_2802 : decode cL_law 2802 = .ok (.iconst 0, 1) := by decide +kernel
theorem dL_law_2803 : decode cL_law 2803 = .ok (.laload, 1) := by decide +kernel
theorem dL_law_2804 : decode cL_law 2804 = .ok (.iload 7, 2) := by decide +kernel
theorem dL_law_2806 : decode cL_law 2806 = .ok (.i2l, 1) := by decide +kernel
theorem dL_law_2807 : decode cL_law 2807 = .ok (.lcmp, 1) := by decide +kernel
theorem dL_law_2808 : decode cL_law 2808 = .ok (.ifCond .eq 5, 3) := by decide +kernel
theorem dL_law_2811 : decode cL_law 2811 = .ok (.iconst 0, 1) := by decide +kernel
theorem dL_law_2812 : decode cL_law 2812 = .ok (.ireturn, 1) := by decide +kernel
theorem dL_law_2813 : decode cL_law 2813 = .ok (.goto 194, 3) := by decide +kernel
theorem dL_law_2816 : decode cL_law 2816 = .ok (.aload_n 1, 1) := by decide +kernel
theorem dL_law_2817 : decode cL_law 2817 = .ok (.aload_n 3, 1) := by decide +kernel
theorem dL_law_2818 : decode cL_law 2818 = .ok (.invokestatic 391, 3) := by decide +kernel
theorem dL_law_2821 : decode cL_law 2821 = .ok (.istore 6, 2) := by decide +kernel
theorem dL_law_2823 : decode cL_law 2823 = .ok (.aload_n 2, 1) := by decide +kernel
theorem dL_law_2824 : decode cL_law 2824 = .ok (.invokevirtual 393, 3) := by decide +kernel
theorem dL_law_2827 : decode cL_law 2827 = .ok (.istore 7, 2) := by decide +kernel
theorem dL_law_2829 : decode cL_law 2829 = .ok (.aload_n 2, 1) := by decide +kernel
theorem dL_law_2830 : decode cL_law 2830 = .ok (.invokevirtual 162, 3) := by decide +kernel
theorem dL_law_2833 : decode cL_law 2833 = .ok (.iload 6, 2) := by decide +kernel
theorem dL_law_2835 : decode cL_law 2835 = .ok (.if_icmp .eq 5, 3) := by decide +kernel
theorem dL_law_2838 : decode cL_law 2838 = .ok (.iconst 0, 1) := by decide +kernel
theorem dL_law_2839 : decode cL_law 2839 = .ok (.ireturn, 1) := by decide +kernel
theorem dL_law_2840 : decode cL_law 2840 = .ok (.iload 6, 2) := by decide +kernel
theorem dL_law_2842 : decode cL_law 2842 = .ok (.ifCond .ne 15, 3) := by decide +kernel
theorem dL_law_2845 : decode cL_law 2845 = .ok (.aload_n 3, 1) := by decide +kernel
theorem dL_law_2846 : decode cL_law 2846 = .ok (.iconst 0, 1) := by decide +kernel
theorem dL_law_2847 : decode cL_law 2847 = .ok (.laload, 1) := by decide +kernel
theorem dL_law_2848 : decode cL_law 2848 = .ok (.iload 7, 2) := by decide +kernel
theorem dL_law_2850 : decode cL_law 2850 = .ok (.i2l, 1) := by decide +kernel
theorem dL_law_2851 : decode cL_law 2851 = .ok (.lcmp, 1) := by decide +kernel
theorem dL_law_2852 : decode cL_law 2852 = .ok (.ifCond .eq 5, 3) := by decide +kernel
theorem dL_law_2855 : decode cL_law 2855 = .ok (.iconst 0, 1) := by decide +kernel
theorem dL_law_2856 : decode cL_law 2856 = .ok (.ireturn, 1) := by decide +kernel
theorem dL_law_2857 : decode cL_law 2857 = .ok (.goto 150, 3) := by decide +kernel
theorem dL_law_2860 : decode cL_law 2860 = .ok (.aload_n 1, 1) := by decide +kernel
theorem dL_law_2861 : decode cL_law 2861 = .ok (.aload_n 0, 1) := by decide +kernel
theorem dL_law_2862 : decode cL_law 2862 = .ok (.iload 5, 2) := by decide +kernel
theorem dL_law_2864 : decode cL_law 2864 = .ok (.iconst 1, 1) := by decide +kernel
theorem dL_law_2865 : decode cL_law 2865 = .ok (.iadd, 1) := by decide +kernel
theorem dL_law_2866 : decode cL_law 2866 = .ok (.iaload, 1) := by decide +kernel
theorem dL_law_2867 : decode cL_law 2867 = .ok (.aload_n 3, 1) := by decide +kernel
theorem dL_law_2868 : decode cL_law 2868 = .ok (.invokestatic 394, 3) := by decide +kernel
theorem dL_law_2871 : decode cL_law 2871 = .ok (.istore 6, 2) := by decide +kernel
theorem dL_law_2873 : decode cL_law 2873 = .ok (.aload_n 2, 1) := by decide +kernel
theorem dL_law_2874 : decode cL_law 2874 = .ok (.aload_n 0, 1) := by decide +kernel
theorem dL_law_2875 : decode cL_law 2875 = .ok (.iload 5, 2) := by decide +kernel
theorem dL_law_2877 : decode cL_law 2877 = .ok (.iconst 1, 1) := by decide +kernel
theorem dL_law_2878 : decode cL_law 2878 = .ok (.iadd, 1) := by decide +kernel
theorem dL_law_2879 : decode cL_law 2879 = .ok (.iaload, 1) := by decide +kernel
theorem dL_law_2880 : decode cL_law 2880 = .ok (.invokevirtual 396, 3) := by decide +kernel
theorem dL_law_2883 : decode cL_law 2883 = .ok (.istore 7, 2) := by decide +kernel
theorem dL_law_2885 : decode cL_law 2885 = .ok (.aload_n 2, 1) := by decide +kernel
theorem dL_law_2886 : decode cL_law 2886 = .ok (.invokevirtual 162, 3) := by decide +kernel
theorem dL_law_2889 : decode cL_law 2889 = .ok (.iload 6, 2) := by decide +kernel
theorem dL_law_2891 : decode cL_law 2891 = .ok (.if_icmp .eq 5, 3) := by decide +kernel
theorem dL_law_2894 : decode cL_law 2894 = .ok (.iconst 0, 1) := by decide +kernel
theorem dL_law_2895 : decode cL_law 2895 = .ok (.ireturn, 1) := by decide +kernel
theorem dL_law_2896 : decode cL_law 2896 = .ok (.iload 6, 2) := by decide +kernel
theorem dL_law_2898 : decode cL_law 2898 = .ok (.ifCond .ne 15, 3) := by decide +kernel
theorem dL_law_2901 : decode cL_law 2901 = .ok (.aload_n 3, 1) := by decide +kernel
theorem dL_law_2902 : decode cL_law 2902 = .ok (.iconst 0, 1) := by decide +kernel
theorem dL_law_2903 : decode cL_law 2903 = .ok (.laload, 1) := by decide +kernel
theorem dL_law_2904 : decode cL_law 2904 = .ok (.iload 7, 2) := by decide +kernel
theorem dL_law_2906 : decode cL_law 2906 = .ok (.i2l, 1) := by decide +kernel
theorem dL_law_2907 : decode cL_law 2907 = .ok (.lcmp, 1) := by decide +kernel
theorem dL_law_2908 : decode cL_law 2908 = .ok (.ifCond .eq 5, 3) := by decide +kernel
theorem dL_law_2911 : decode cL_law 2911 = .ok (.iconst 0, 1) := by decide +kernel
theorem dL_law_2912 : decode cL_law 2912 = .ok (.ireturn, 1) := by decide +kernel
theorem dL_law_2913 : decode cL_law 2913 = .ok (.goto 94, 3) := by decide +kernel
theorem dL_law_2916 : decode cL_law 2916 = .ok (.aload_n 1, 1) := by decide +kernel
theorem dL_law_2917 : decode cL_law 2917 = .ok (.aload_n 0, 1) := by decide +kernel
theorem dL_law_2918 : decode cL_law 2918 = .ok (.iload 5, 2) := by decide +kernel
theorem dL_law_2920 : decode cL_law 2920 = .ok (.iconst 1, 1) := by decide +kernel
theorem dL_law_2921 : decode cL_law 2921 = .ok (.iadd, 1) := by decide +kernel
theorem dL_law_2922 : decode cL_law 2922 = .ok (.iaload, 1) := by decide +kernel
theorem dL_law_2923 : decode cL_law 2923 = .ok (.aload 4, 2) := by decide +kernel
theorem dL_law_2925 : decode cL_law 2925 = .ok (.invokestatic 397, 3) := by decide +kernel
theorem dL_law_2928 : decode cL_law 2928 = .ok (.istore 6, 2) := by decide +kernel
theorem dL_law_2930 : decode cL_law 2930 = .ok (.aload_n 2, 1) := by decide +kernel
theorem dL_law_2931 : decode cL_law 2931 = .ok (.aload_n 0, 1) := by decide +kernel
theorem dL_law_2932 : decode cL_law 2932 = .ok (.iload 5, 2) := by decide +kernel
theorem dL_law_2934 : decode cL_law 2934 = .ok (.iconst 1, 1) := by decide +kernel
theorem dL_law_2935 : decode cL_law 2935 = .ok (.iadd, 1) := by decide +kernel
theorem dL_law_2936 : decode cL_law 2936 = .ok (.iaload, 1) := by decide +kernel
theorem dL_law_2937 : decode cL_law 2937 = .ok (.invokevirtual 400, 3) := by decide +kernel
theorem dL_law_2940 : decode cL_law 2940 = .ok (.dstore 7, 2) := by decide +kernel
theorem dL_law_2942 : decode cL_law 2942 = .ok (.aload_n 2, 1) := by decide +kernel
theorem dL_law_2943 : decode cL_law 2943 = .ok (.invokevirtual 162, 3) := by decide +kernel
theorem dL_law_2946 : decode cL_law 2946 = .ok (.iload 6, 2) := by decide +kernel
theorem dL_law_2948 : decode cL_law 2948 = .ok (.if_icmp .eq 5, 3) := by decide +kernel
theorem dL_law_2951 : decode cL_law 2951 = .ok (.iconst 0, 1) := by decide +kernel
theorem dL_law_2952 : decode cL_law 2952 = .ok (.ireturn, 1) := by decide +kernel
theorem dL_law_2953 : decode cL_law 2953 = .ok (.iload 6, 2) := by decide +kernel
theorem dL_law_2955 : decode cL_law 2955 = .ok (.ifCond .ne 35, 3) := by decide +kernel
theorem dL_law_2958 : decode cL_law 2958 = .ok (.aload 4, 2) := by decide +kernel
theorem dL_law_2960 : decode cL_law 2960 = .ok (.iconst 0, 1) := by decide +kernel
theorem dL_law_2961 : decode cL_law 2961 = .ok (.daload, 1) := by decide +kernel
theorem dL_law_2962 : decode cL_law 2962 = .ok (.dload 7, 2) := by decide +kernel
theorem dL_law_2964 : decode cL_law 2964 = .ok (.dcmp .l, 1) := by decide +kernel
theorem dL_law_2965 : decode cL_law 2965 = .ok (.ifCond .eq 25, 3) := by decide +kernel
theorem dL_law_2968 : decode cL_law 2968 = .ok (.aload 4, 2) := by decide +kernel
theorem dL_law_2970 : decode cL_law 2970 = .ok (.iconst 0, 1) := by decide +kernel
theorem dL_law_2971 : decode cL_law 2971 = .ok (.daload, 1) := by decide +kernel
theorem dL_law_2972 : decode cL_law 2972 = .ok (.aload 4, 2) := by decide +kernel
theorem dL_law_2974 : decode cL_law 2974 = .ok (.iconst 0, 1) := by decide +kernel
theorem dL_law_2975 : decode cL_law 2975 = .ok (.daload, 1) := by decide +kernel
theorem dL_law_2976 : decode cL_law 2976 = .ok (.dcmp .l, 1) := by decide +kernel
theorem dL_law_2977 : decode cL_law 2977 = .ok (.ifCond .eq 11, 3) := by decide +kernel
theorem dL_law_2980 : decode cL_law 2980 = .ok (.dload 7, 2) := by decide +kernel
theorem dL_law_2982 : decode cL_law 2982 = .ok (.dload 7, 2) := by decide +kernel
theorem dL_law_2984 : decode cL_law 2984 = .ok (.dcmp .l, 1) := by decide +kernel
theorem dL_law_2985 : decode cL_law 2985 = .ok (.ifCond .ne 5, 3) := by decide +kernel
theorem dL_law_2988 : decode cL_law 2988 = .ok (.iconst 0, 1) := by decide +kernel
theorem dL_law_2989 : decode cL_law 2989 = .ok (.ireturn, 1) := by decide +kernel
theorem dL_law_2990 : decode cL_law 2990 = .ok (.goto 17, 3) := by decide +kernel
theorem dL_law_2993 : decode cL_law 2993 = .ok (.aload_n 1, 1) := by decide +kernel
theorem dL_law_2994 : decode cL_law 2994 = .ok (.invokevirtual 401, 3) := by decide +kernel
theorem dL_law_2997 : decode cL_law 2997 = .ok (.aload_n 2, 1) := by decide +kernel
theorem dL_law_2998 : decode cL_law 2998 = .ok (.invokevirtual 405, 3) := by decide +kernel
theorem dL_law_3001 : decode cL_law 3001 = .ok (.lcmp, 1) := by decide +kernel
theorem dL_law_3002 : decode cL_law 3002 = .ok (.ifCond .eq 5, 3) := by decide +kernel
theorem dL_law_3005 : decode cL_law 3005 = .ok (.iconst 0, 1) := by decide +kernel
theorem dL_law_3006 : decode cL_law 3006 = .ok (.ireturn, 1) := by decide +kernel
theorem dL_law_3007 : decode cL_law 3007 = .ok (.iinc 5 4, 3) := by decide +kernel
theorem dL_law_3010 : decode cL_law 3010 = .ok (.goto (-2982), 3) := by decide +kernel
theorem dL_law_3013 : decode cL_law 3013 = .ok (.iconst 1, 1) := by decide +kernel
theorem dL_law_3014 : decode cL_law 3014 = .ok (.ireturn, 1) := by decide +kernel
