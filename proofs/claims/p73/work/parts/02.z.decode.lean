theorem dX0_init_0 : decode cX0_init 0 = .ok (.aload_n 0, 1) := by decide +kernel
theorem dX0_init_1 : decode cX0_init 1 = .ok (.invokespecial 1, 3) := by decide +kernel
theorem dX0_init_4 : decode cX0_init 4 = .ok (.return_, 1) := by decide +kernel
theorem dX0_takeOver_0 : decode cX0_takeOver 0 = .ok (.aload_n 0, 1) := by decide +kernel
theorem dX0_takeOver_1 : decode cX0_takeOver 1 = .ok (.aload_n 1, 1) := by decide +kernel
theorem dX0_takeOver_2 : decode cX0_takeOver 2 = .ok (.getfield 7, 3) := by decide +kernel
theorem dX0_takeOver_5 : decode cX0_takeOver 5 = .ok (.putfield 7, 3) := by decide +kernel
theorem dX0_takeOver_8 : decode cX0_takeOver 8 = .ok (.aload_n 0, 1) := by decide +kernel
theorem dX0_takeOver_9 : decode cX0_takeOver 9 = .ok (.aload_n 1, 1) := by decide +kernel
theorem dX0_takeOver_10 : decode cX0_takeOver 10 = .ok (.getfield 13, 3) := by decide +kernel
theorem dX0_takeOver_13 : decode cX0_takeOver 13 = .ok (.putfield 13, 3) := by decide +kernel
theorem dX0_takeOver_16 : decode cX0_takeOver 16 = .ok (.aload_n 0, 1) := by decide +kernel
theorem dX0_takeOver_17 : decode cX0_takeOver 17 = .ok (.aload_n 1, 1) := by decide +kernel
theorem dX0_takeOver_18 : decode cX0_takeOver 18 = .ok (.getfield 16, 3) := by decide +kernel
theorem dX0_takeOver_21 : decode cX0_takeOver 21 = .ok (.putfield 16, 3) := by decide +kernel
theorem dX0_takeOver_24 : decode cX0_takeOver 24 = .ok (.aload_n 0, 1) := by decide +kernel
theorem dX0_takeOver_25 : decode cX0_takeOver 25 = .ok (.aload_n 1, 1) := by decide +kernel
theorem dX0_takeOver_26 : decode cX0_takeOver 26 = .ok (.getfield 19, 3) := by decide +kernel
theorem dX0_takeOver_29 : decode cX0_takeOver 29 = .ok (.putfield 19, 3) := by decide +kernel
theorem dX0_takeOver_32 : decode cX0_takeOver 32 = .ok (.aload_n 0, 1) := by decide +kernel
theorem dX0_takeOver_33 : decode cX0_takeOver 33 = .ok (.aload_n 1, 1) := by decide +kernel
theorem dX0_takeOver_34 : decode cX0_takeOver 34 = .ok (.getfield 22, 3) := by decide +kernel
theorem dX0_takeOver_37 : decode cX0_takeOver 37 = .ok (.putfield 22, 3) := by decide +kernel
theorem dX0_takeOver_40 : decode cX0_takeOver 40 = .ok (.return_, 1) := by decide +kernel
theorem dX1_init_0 : decode cX1_init 0 = .ok (.aload_n 0, 1) := by decide +kernel
theorem dX1_init_1 : decode cX1_init 1 = .ok (.invokespecial 3, 3) := by decide +kernel
theorem dX1_init_4 : decode cX1_init 4 = .ok (.aload_n 0, 1) := by decide +kernel
theorem dX1_init_5 : decode cX1_init 5 = .ok (.bipush 100, 2) := by decide +kernel
theorem dX1_init_7 : decode cX1_init 7 = .ok (.putfield 9, 3) := by decide +kernel
theorem dX1_init_10 : decode cX1_init 10 = .ok (.aload_n 0, 1) := by decide +kernel
theorem dX1_init_11 : decode cX1_init 11 = .ok (.iconst 3, 1) := by decide +kernel
theorem dX1_init_12 : decode cX1_init 12 = .ok (.putfield 15, 3) := by decide +kernel
theorem dX1_init_15 : decode cX1_init 15 = .ok (.aload_n 0, 1) := by decide +kernel
theorem dX1_init_16 : decode cX1_init 16 = .ok (.iconst 2, 1) := by decide +kernel
theorem dX1_init_17 : decode cX1_init 17 = .ok (.putfield 18, 3) := by decide +kernel
theorem dX1_init_20 : decode cX1_init 20 = .ok (.return_, 1) := by decide +kernel
theorem dX1_isSharp_0 : decode cX1_isSharp 0 = .ok (.aload_n 0, 1) := by decide +kernel
theorem dX1_isSharp_1 : decode cX1_isSharp 1 = .ok (.getfield 9, 3) := by decide +kernel
theorem dX1_isSharp_4 : decode cX1_isSharp 4 = .ok (.ifCond .le 7, 3) := by decide +kernel
theorem dX1_isSharp_7 : decode cX1_isSharp 7 = .ok (.iconst 1, 1) := by decide +kernel
theorem dX1_isSharp_8 : decode cX1_isSharp 8 = .ok (.goto 4, 3) := by decide +kernel
theorem dX1_isSharp_11 : decode cX1_isSharp 11 = .ok (.iconst 0, 1) := by decide +kernel
theorem dX1_isSharp_12 : decode cX1_isSharp 12 = .ok (.ireturn, 1) := by decide +kernel
theorem dX1_reach_0 : decode cX1_reach 0 = .ok (.aload_n 0, 1) := by decide +kernel
theorem dX1_reach_1 : decode cX1_reach 1 = .ok (.invokevirtual 21, 3) := by decide +kernel
theorem dX1_reach_4 : decode cX1_reach 4 = .ok (.ifCond .ne 5, 3) := by decide +kernel
theorem dX1_reach_7 : decode cX1_reach 7 = .ok (.iconst 0, 1) := by decide +kernel
theorem dX1_reach_8 : decode cX1_reach 8 = .ok (.ireturn, 1) := by decide +kernel
theorem dX1_reach_9 : decode cX1_reach 9 = .ok (.aload_n 0, 1) := by decide +kernel
theorem dX1_reach_10 : decode cX1_reach 10 = .ok (.getfield 9, 3) := by decide +kernel
theorem dX1_reach_13 : decode cX1_reach 13 = .ok (.bipush 50, 2) := by decide +kernel
theorem dX1_reach_15 : decode cX1_reach 15 = .ok (.if_icmp .lt 10, 3) := by decide +kernel
theorem dX1_reach_18 : decode cX1_reach 18 = .ok (.aload_n 0, 1) := by decide +kernel
theorem dX1_reach_19 : decode cX1_reach 19 = .ok (.getfield 15, 3) := by decide +kernel
theorem dX1_reach_22 : decode cX1_reach 22 = .ok (.goto 11, 3) := by decide +kernel
theorem dX1_reach_25 : decode cX1_reach 25 = .ok (.aload_n 0, 1) := by decide +kernel
theorem dX1_reach_26 : decode cX1_reach 26 = .ok (.getfield 15, 3) := by decide +kernel
theorem dX1_reach_29 : decode cX1_reach 29 = .ok (.iconst 1, 1) := by decide +kernel
theorem dX1_reach_30 : decode cX1_reach 30 = .ok (.iadd, 1) := by decide +kernel
theorem dX1_reach_31 : decode cX1_reach 31 = .ok (.iconst 2, 1) := by decide +kernel
theorem dX1_reach_32 : decode cX1_reach 32 = .ok (.idiv, 1) := by decide +kernel
theorem dX1_reach_33 : decode cX1_reach 33 = .ok (.ireturn, 1) := by decide +kernel
theorem dX1_becomeBlunter_0 : decode cX1_becomeBlunter 0 = .ok (.aload_n 0, 1) := by decide +kernel
theorem dX1_becomeBlunter_1 : decode cX1_becomeBlunter 1 = .ok (.iconst 0, 1) := by decide +kernel
theorem dX1_becomeBlunter_2 : decode cX1_becomeBlunter 2 = .ok (.aload_n 0, 1) := by decide +kernel
theorem dX1_becomeBlunter_3 : decode cX1_becomeBlunter 3 = .ok (.getfield 9, 3) := by decide +kernel
theorem dX1_becomeBlunter_6 : decode cX1_becomeBlunter 6 = .ok (.iload_n 1, 1) := by decide +kernel
theorem dX1_becomeBlunter_7 : decode cX1_becomeBlunter 7 = .ok (.isub, 1) := by decide +kernel
theorem dX1_becomeBlunter_8 : decode cX1_becomeBlunter 8 = .ok (.invokestatic 25, 3) := by decide +kernel
theorem dX1_becomeBlunter_11 : decode cX1_becomeBlunter 11 = .ok (.putfield 9, 3) := by decide +kernel
theorem dX1_becomeBlunter_14 : decode cX1_becomeBlunter 14 = .ok (.return_, 1) := by decide +kernel
theorem dX1_takeOver_0 : decode cX1_takeOver 0 = .ok (.aload_n 0, 1) := by decide +kernel
theorem dX1_takeOver_1 : decode cX1_takeOver 1 = .ok (.aload_n 1, 1) := by decide +kernel
theorem dX1_takeOver_2 : decode cX1_takeOver 2 = .ok (.getfield 9, 3) := by decide +kernel
theorem dX1_takeOver_5 : decode cX1_takeOver 5 = .ok (.putfield 9, 3) := by decide +kernel
theorem dX1_takeOver_8 : decode cX1_takeOver 8 = .ok (.aload_n 0, 1) := by decide +kernel
theorem dX1_takeOver_9 : decode cX1_takeOver 9 = .ok (.aload_n 1, 1) := by decide +kernel
theorem dX1_takeOver_10 : decode cX1_takeOver 10 = .ok (.getfield 15, 3) := by decide +kernel
theorem dX1_takeOver_13 : decode cX1_takeOver 13 = .ok (.putfield 15, 3) := by decide +kernel
theorem dX1_takeOver_16 : decode cX1_takeOver 16 = .ok (.aload_n 0, 1) := by decide +kernel
theorem dX1_takeOver_17 : decode cX1_takeOver 17 = .ok (.aload_n 1, 1) := by decide +kernel
theorem dX1_takeOver_18 : decode cX1_takeOver 18 = .ok (.getfield 18, 3) := by decide +kernel
theorem dX1_takeOver_21 : decode cX1_takeOver 21 = .ok (.putfield 18, 3) := by decide +kernel
theorem dX1_takeOver_24 : decode cX1_takeOver 24 = .ok (.return_, 1) := by decide +kernel
theorem dX2_init_0 : decode cX2_init 0 = .ok (.aload_n 0, 1) := by decide +kernel
theorem dX2_init_1 : decode cX2_init 1 = .ok (.invokespecial 3, 3) := by decide +kernel
theorem dX2_init_4 : decode cX2_init 4 = .ok (.aload_n 0, 1) := by decide +kernel
theorem dX2_init_5 : decode cX2_init 5 = .ok (.iconst 1, 1) := by decide +kernel
theorem dX2_init_6 : decode cX2_init 6 = .ok (.putfield 9, 3) := by decide +kernel
theorem dX2_init_9 : decode cX2_init 9 = .ok (.return_, 1) := by decide +kernel
theorem dX2_renew_0 : decode cX2_renew 0 = .ok (.aload_n 0, 1) := by decide +kernel
theorem dX2_renew_1 : decode cX2_renew 1 = .ok (.iload_n 1, 1) := by decide +kernel
theorem dX2_renew_2 : decode cX2_renew 2 = .ok (.putfield 9, 3) := by decide +kernel
theorem dX2_renew_5 : decode cX2_renew 5 = .ok (.aload_n 0, 1) := by decide +kernel
theorem dX2_renew_6 : decode cX2_renew 6 = .ok (.iconst 0, 1) := by decide +kernel
theorem dX2_renew_7 : decode cX2_renew 7 = .ok (.putfield 15, 3) := by decide +kernel
theorem dX2_renew_10 : decode cX2_renew 10 = .ok (.aload_n 0, 1) := by decide +kernel
theorem dX2_renew_11 : decode cX2_renew 11 = .ok (.iconst 0, 1) := by decide +kernel
theorem dX2_renew_12 : decode cX2_renew 12 = .ok (.putfield 18, 3) := by decide +kernel
theorem dX2_renew_15 : decode cX2_renew 15 = .ok (.return_, 1) := by decide +kernel
theorem dX2_wearByPass_0 : decode cX2_wearByPass 0 = .ok (.aload_n 0, 1) := by decide +kernel
theorem dX2_wearByPass_1 : decode cX2_wearByPass 1 = .ok (.dup, 1) := by decide +kernel
theorem dX2_wearByPass_2 : decode cX2_wearByPass 2 = .ok (.getfield 18, 3) := by decide +kernel
theorem dX2_wearByPass_5 : decode cX2_wearByPass 5 = .ok (.iconst 1, 1) := by decide +kernel
theorem dX2_wearByPass_6 : decode cX2_wearByPass 6 = .ok (.iadd, 1) := by decide +kernel
theorem dX2_wearByPass_7 : decode cX2_wearByPass 7 = .ok (.putfield 18, 3) := by decide +kernel
theorem dX2_wearByPass_10 : decode cX2_wearByPass 10 = .ok (.aload_n 0, 1) := by decide +kernel
theorem dX2_wearByPass_11 : decode cX2_wearByPass 11 = .ok (.getfield 18, 3) := by decide +kernel
theorem dX2_wearByPass_14 : decode cX2_wearByPass 14 = .ok (.iconst 4, 1) := by decide +kernel
theorem dX2_wearByPass_15 : decode cX2_wearByPass 15 = .ok (.irem, 1) := by decide +kernel
theorem dX2_wearByPass_16 : decode cX2_wearByPass 16 = .ok (.ifCond .ne 18, 3) := by decide +kernel
theorem dX2_wearByPass_19 : decode cX2_wearByPass 19 = .ok (.aload_n 0, 1) := by decide +kernel
theorem dX2_wearByPass_20 : decode cX2_wearByPass 20 = .ok (.bipush 30, 2) := by decide +kernel
theorem dX2_wearByPass_22 : decode cX2_wearByPass 22 = .ok (.aload_n 0, 1) := by decide +kernel
theorem dX2_wearByPass_23 : decode cX2_wearByPass 23 = .ok (.getfield 15, 3) := by decide +kernel
theorem dX2_wearByPass_26 : decode cX2_wearByPass 26 = .ok (.iconst 1, 1) := by decide +kernel
theorem dX2_wearByPass_27 : decode cX2_wearByPass 27 = .ok (.iadd, 1) := by decide +kernel
theorem dX2_wearByPass_28 : decode cX2_wearByPass 28 = .ok (.invokestatic 21, 3) := by decide +kernel
theorem dX2_wearByPass_31 : decode cX2_wearByPass 31 = .ok (.putfield 15, 3) := by decide +kernel
theorem dX2_wearByPass_34 : decode cX2_wearByPass 34 = .ok (.return_, 1) := by decide +kernel
theorem dX2_takeOver_0 : decode cX2_takeOver 0 = .ok (.aload_n 0, 1) := by decide +kernel
theorem dX2_takeOver_1 : decode cX2_takeOver 1 = .ok (.aload_n 1, 1) := by decide +kernel
theorem dX2_takeOver_2 : decode cX2_takeOver 2 = .ok (.getfield 9, 3) := by decide +kernel
theorem dX2_takeOver_5 : decode cX2_takeOver 5 = .ok (.putfield 9, 3) := by decide +kernel
theorem dX2_takeOver_8 : decode cX2_takeOver 8 = .ok (.aload_n 0, 1) := by decide +kernel
theorem dX2_takeOver_9 : decode cX2_takeOver 9 = .ok (.aload_n 1, 1) := by decide +kernel
theorem dX2_takeOver_10 : decode cX2_takeOver 10 = .ok (.getfield 15, 3) := by decide +kernel
theorem dX2_takeOver_13 : decode cX2_takeOver 13 = .ok (.putfield 15, 3) := by decide +kernel
theorem dX2_takeOver_16 : decode cX2_takeOver 16 = .ok (.aload_n 0, 1) := by decide +kernel
theorem dX2_takeOver_17 : decode cX2_takeOver 17 = .ok (.aload_n 1, 1) := by decide +kernel
theorem dX2_takeOver_18 : decode cX2_takeOver 18 = .ok (.getfield 27, 3) := by decide +kernel
theorem dX2_takeOver_21 : decode cX2_takeOver 21 = .ok (.putfield 27, 3) := by decide +kernel
theorem dX2_takeOver_24 : decode cX2_takeOver 24 = .ok (.aload_n 0, 1) := by decide +kernel
theorem dX2_takeOver_25 : decode cX2_takeOver 25 = .ok (.aload_n 1, 1) := by decide +kernel
theorem dX2_takeOver_26 : decode cX2_takeOver 26 = .ok (.getfield 18, 3) := by decide +kernel
theorem dX2_takeOver_29 : decode cX2_takeOver 29 = .ok (.putfield 18, 3) := by decide +kernel
theorem dX2_takeOver_32 : decode cX2_takeOver 32 = .ok (.return_, 1) := by decide +kernel
theorem dX3_init_0 : decode cX3_init 0 = .ok (.aload_n 0, 1) := by decide +kernel
theorem dX3_init_1 : decode cX3_init 1 = .ok (.invokespecial 3, 3) := by decide +kernel
theorem dX3_init_4 : decode cX3_init 4 = .ok (.aload_n 0, 1) := by decide +kernel
theorem dX3_init_5 : decode cX3_init 5 = .ok (.bipush 6, 2) := by decide +kernel
theorem dX3_init_7 : decode cX3_init 7 = .ok (.anewarray 9, 3) := by decide +kernel
theorem dX3_init_10 : decode cX3_init 10 = .ok (.putfield 11, 3) := by decide +kernel
theorem dX3_init_13 : decode cX3_init 13 = .ok (.aload_n 0, 1) := by decide +kernel
theorem dX3_init_14 : decode cX3_init 14 = .ok (.iconst 2, 1) := by decide +kernel
theorem dX3_init_15 : decode cX3_init 15 = .ok (.anewarray 9, 3) := by decide +kernel
theorem dX3_init_18 : decode cX3_init 18 = .ok (.putfield 17, 3) := by decide +kernel
theorem dX3_init_21 : decode cX3_init 21 = .ok (.return_, 1) := by decide +kernel
theorem dX3_save_0 : decode cX3_save 0 = .ok (.aload_n 0, 1) := by decide +kernel
theorem dX3_save_1 : decode cX3_save 1 = .ok (.getfield 20, 3) := by decide +kernel
theorem dX3_save_4 : decode cX3_save 4 = .ok (.bipush 6, 2) := by decide +kernel
theorem dX3_save_6 : decode cX3_save 6 = .ok (.if_icmp .ge 16, 3) := by decide +kernel
theorem dX3_save_9 : decode cX3_save 9 = .ok (.aload_n 0, 1) := by decide +kernel
theorem dX3_save_10 : decode cX3_save 10 = .ok (.dup, 1) := by decide +kernel
theorem dX3_save_11 : decode cX3_save 11 = .ok (.getfield 20, 3) := by decide +kernel
theorem dX3_save_14 : decode cX3_save 14 = .ok (.iconst 1, 1) := by decide +kernel
theorem dX3_save_15 : decode cX3_save 15 = .ok (.iadd, 1) := by decide +kernel
theorem dX3_save_16 : decode cX3_save 16 = .ok (.putfield 20, 3) := by decide +kernel
theorem dX3_save_19 : decode cX3_save 19 = .ok (.goto 16, 3) := by decide +kernel
theorem dX3_save_22 : decode cX3_save 22 = .ok (.aload_n 0, 1) := by decide +kernel
theorem dX3_save_23 : decode cX3_save 23 = .ok (.aload_n 0, 1) := by decide +kernel
theorem dX3_save_24 : decode cX3_save 24 = .ok (.getfield 24, 3) := by decide +kernel
theorem dX3_save_27 : decode cX3_save 27 = .ok (.iconst 1, 1) := by decide +kernel
theorem dX3_save_28 : decode cX3_save 28 = .ok (.iadd, 1) := by decide +kernel
theorem dX3_save_29 : decode cX3_save 29 = .ok (.bipush 6, 2) := by decide +kernel
theorem dX3_save_31 : decode cX3_save 31 = .ok (.irem, 1) := by decide +kernel
theorem dX3_save_32 : decode cX3_save 32 = .ok (.putfield 24, 3) := by decide +kernel
theorem dX3_save_35 : decode cX3_save 35 = .ok (.aload_n 0, 1) := by decide +kernel
theorem dX3_save_36 : decode cX3_save 36 = .ok (.getfield 11, 3) := by decide +kernel
theorem dX3_save_39 : decode cX3_save 39 = .ok (.aload_n 0, 1) := by decide +kernel
theorem dX3_save_40 : decode cX3_save 40 = .ok (.invokevirtual 27, 3) := by decide +kernel
theorem dX3_save_43 : decode cX3_save 43 = .ok (.aload_n 1, 1) := by decide +kernel
theorem dX3_save_44 : decode cX3_save 44 = .ok (.invokestatic 31, 3) := by decide +kernel
theorem dX3_save_47 : decode cX3_save 47 = .ok (.return_, 1) := by decide +kernel
theorem dX3_restoreLatest_0 : decode cX3_restoreLatest 0 = .ok (.aload_n 0, 1) := by decide +kernel
theorem dX3_restoreLatest_1 : decode cX3_restoreLatest 1 = .ok (.getfield 20, 3) := by decide +kernel
theorem dX3_restoreLatest_4 : decode cX3_restoreLatest 4 = .ok (.ifCond .le 25, 3) := by decide +kernel
theorem dX3_restoreLatest_7 : decode cX3_restoreLatest 7 = .ok (.aload_n 0, 1) := by decide +kernel
theorem dX3_restoreLatest_8 : decode cX3_restoreLatest 8 = .ok (.getfield 11, 3) := by decide +kernel
theorem dX3_restoreLatest_11 : decode cX3_restoreLatest 11 = .ok (.aload_n 0, 1) := by decide +kernel
theorem dX3_restoreLatest_12 : decode cX3_restoreLatest 12 = .ok (.invokevirtual 27, 3) := by decide +kernel
theorem dX3_restoreLatest_15 : decode cX3_restoreLatest 15 = .ok (.aload_n 1, 1) := by decide +kernel
theorem dX3_restoreLatest_16 : decode cX3_restoreLatest 16 = .ok (.invokestatic 35, 3) := by decide +kernel
theorem dX3_restoreLatest_19 : decode cX3_restoreLatest 19 = .ok (.aload_n 0, 1) := by decide +kernel
theorem dX3_restoreLatest_20 : decode cX3_restoreLatest 20 = .ok (.dup, 1) := by decide +kernel
theorem dX3_restoreLatest_21 : decode cX3_restoreLatest 21 = .ok (.getfield 20, 3) := by decide +kernel
theorem dX3_restoreLatest_24 : decode cX3_restoreLatest 24 = .ok (.iconst 1, 1) := by decide +kernel
theorem dX3_restoreLatest_25 : decode cX3_restoreLatest 25 = .ok (.isub, 1) := by decide +kernel
theorem dX3_restoreLatest_26 : decode cX3_restoreLatest 26 = .ok (.putfield 20, 3) := by decide +kernel
theorem dX3_restoreLatest_29 : decode cX3_restoreLatest 29 = .ok (.return_, 1) := by decide +kernel
theorem dX3_latest_0 : decode cX3_latest 0 = .ok (.aload_n 0, 1) := by decide +kernel
theorem dX3_latest_1 : decode cX3_latest 1 = .ok (.getfield 24, 3) := by decide +kernel
theorem dX3_latest_4 : decode cX3_latest 4 = .ok (.aload_n 0, 1) := by decide +kernel
theorem dX3_latest_5 : decode cX3_latest 5 = .ok (.getfield 20, 3) := by decide +kernel
theorem dX3_latest_8 : decode cX3_latest 8 = .ok (.iadd, 1) := by decide +kernel
theorem dX3_latest_9 : decode cX3_latest 9 = .ok (.iconst 1, 1) := by decide +kernel
theorem dX3_latest_10 : decode cX3_latest 10 = .ok (.isub, 1) := by decide +kernel
theorem dX3_latest_11 : decode cX3_latest 11 = .ok (.bipush 6, 2) := by decide +kernel
theorem dX3_latest_13 : decode cX3_latest 13 = .ok (.irem, 1) := by decide +kernel
theorem dX3_latest_14 : decode cX3_latest 14 = .ok (.ireturn, 1) := by decide +kernel
theorem dX3_store_0 : decode cX3_store 0 = .ok (.iload_n 1, 1) := by decide +kernel
theorem dX3_store_1 : decode cX3_store 1 = .ok (.ifCond .lt 9, 3) := by decide +kernel
theorem dX3_store_4 : decode cX3_store 4 = .ok (.iload_n 1, 1) := by decide +kernel
theorem dX3_store_5 : decode cX3_store 5 = .ok (.aload_n 0, 1) := by decide +kernel
theorem dX3_store_6 : decode cX3_store 6 = .ok (.arraylength, 1) := by decide +kernel
theorem dX3_store_7 : decode cX3_store 7 = .ok (.if_icmp .lt 4, 3) := by decide +kernel
theorem dX3_store_10 : decode cX3_store 10 = .ok (.return_, 1) := by decide +kernel
theorem dX3_store_11 : decode cX3_store 11 = .ok (.aload_n 0, 1) := by decide +kernel
theorem dX3_store_12 : decode cX3_store 12 = .ok (.iload_n 1, 1) := by decide +kernel
theorem dX3_store_13 : decode cX3_store 13 = .ok (.aaload, 1) := by decide +kernel
theorem dX3_store_14 : decode cX3_store 14 = .ok (.astore_n 3, 1) := by decide +kernel
theorem dX3_store_15 : decode cX3_store 15 = .ok (.aload_n 3, 1) := by decide +kernel
theorem dX3_store_16 : decode cX3_store 16 = .ok (.ifnonnull 15, 3) := by decide +kernel
theorem dX3_store_19 : decode cX3_store 19 = .ok (.new 9, 3) := by decide +kernel
theorem dX3_store_22 : decode cX3_store 22 = .ok (.dup, 1) := by decide +kernel
theorem dX3_store_23 : decode cX3_store 23 = .ok (.invokespecial 38, 3) := by decide +kernel
theorem dX3_store_26 : decode cX3_store 26 = .ok (.astore_n 3, 1) := by decide +kernel
theorem dX3_store_27 : decode cX3_store 27 = .ok (.aload_n 0, 1) := by decide +kernel
theorem dX3_store_28 : decode cX3_store 28 = .ok (.iload_n 1, 1) := by decide +kernel
theorem dX3_store_29 : decode cX3_store 29 = .ok (.aload_n 3, 1) := by decide +kernel
theorem dX3_store_30 : decode cX3_store 30 = .ok (.aastore, 1) := by decide +kernel
theorem dX3_store_31 : decode cX3_store 31 = .ok (.aload_n 3, 1) := by decide +kernel
theorem dX3_store_32 : decode cX3_store 32 = .ok (.aload_n 2, 1) := by decide +kernel
theorem dX3_store_33 : decode cX3_store 33 = .ok (.invokevirtual 39, 3) := by decide +kernel
theorem dX3_store_36 : decode cX3_store 36 = .ok (.return_, 1) := by decide +kernel
theorem dX3_fetch_0 : decode cX3_fetch 0 = .ok (.iload_n 1, 1) := by decide +kernel
theorem dX3_fetch_1 : decode cX3_fetch 1 = .ok (.ifCond .lt 15, 3) := by decide +kernel
theorem dX3_fetch_4 : decode cX3_fetch 4 = .ok (.iload_n 1, 1) := by decide +kernel
theorem dX3_fetch_5 : decode cX3_fetch 5 = .ok (.aload_n 0, 1) := by decide +kernel
theorem dX3_fetch_6 : decode cX3_fetch 6 = .ok (.arraylength, 1) := by decide +kernel
theorem dX3_fetch_7 : decode cX3_fetch 7 = .ok (.if_icmp .ge 9, 3) := by decide +kernel
theorem dX3_fetch_10 : decode cX3_fetch 10 = .ok (.aload_n 0, 1) := by decide +kernel
theorem dX3_fetch_11 : decode cX3_fetch 11 = .ok (.iload_n 1, 1) := by decide +kernel
theorem dX3_fetch_12 : decode cX3_fetch 12 = .ok (.aaload, 1) := by decide +kernel
theorem dX3_fetch_13 : decode cX3_fetch 13 = .ok (.goto 4, 3) := by decide +kernel
theorem dX3_fetch_16 : decode cX3_fetch 16 = .ok (.aconst_null, 1) := by decide +kernel
theorem dX3_fetch_17 : decode cX3_fetch 17 = .ok (.astore_n 3, 1) := by decide +kernel
theorem dX3_fetch_18 : decode cX3_fetch 18 = .ok (.aload_n 3, 1) := by decide +kernel
theorem dX3_fetch_19 : decode cX3_fetch 19 = .ok (.ifnull 8, 3) := by decide +kernel
theorem dX3_fetch_22 : decode cX3_fetch 22 = .ok (.aload_n 2, 1) := by decide +kernel
theorem dX3_fetch_23 : decode cX3_fetch 23 = .ok (.aload_n 3, 1) := by decide +kernel
theorem dX3_fetch_24 : decode cX3_fetch 24 = .ok (.invokevirtual 39, 3) := by decide +kernel
theorem dX3_fetch_27 : decode cX3_fetch 27 = .ok (.return_, 1) := by decide +kernel
theorem dX4_init_0 : decode cX4_init 0 = .ok (.aload_n 0, 1) := by decide +kernel
theorem dX4_init_1 : decode cX4_init 1 = .ok (.invokespecial 3, 3) := by decide +kernel
theorem dX4_init_4 : decode cX4_init 4 = .ok (.aload_n 0, 1) := by decide +kernel
theorem dX4_init_5 : decode cX4_init 5 = .ok (.new 9, 3) := by decide +kernel
theorem dX4_init_8 : decode cX4_init 8 = .ok (.dup, 1) := by decide +kernel
theorem dX4_init_9 : decode cX4_init 9 = .ok (.invokespecial 11, 3) := by decide +kernel
theorem dX4_init_12 : decode cX4_init 12 = .ok (.putfield 12, 3) := by decide +kernel
theorem dX4_init_15 : decode cX4_init 15 = .ok (.aload_n 0, 1) := by decide +kernel
theorem dX4_init_16 : decode cX4_init 16 = .ok (.new 18, 3) := by decide +kernel
theorem dX4_init_19 : decode cX4_init 19 = .ok (.dup, 1) := by decide +kernel
theorem dX4_init_20 : decode cX4_init 20 = .ok (.invokespecial 20, 3) := by decide +kernel
theorem dX4_init_23 : decode cX4_init 23 = .ok (.putfield 21, 3) := by decide +kernel
theorem dX4_init_26 : decode cX4_init 26 = .ok (.aload_n 0, 1) := by decide +kernel
theorem dX4_init_27 : decode cX4_init 27 = .ok (.new 25, 3) := by decide +kernel
theorem dX4_init_30 : decode cX4_init 30 = .ok (.dup, 1) := by decide +kernel
theorem dX4_init_31 : decode cX4_init 31 = .ok (.invokespecial 27, 3) := by decide +kernel
theorem dX4_init_34 : decode cX4_init 34 = .ok (.putfield 28, 3) := by decide +kernel
theorem dX4_init_37 : decode cX4_init 37 = .ok (.aload_n 0, 1) := by decide +kernel
theorem dX4_init_38 : decode cX4_init 38 = .ok (.new 32, 3) := by decide +kernel
theorem dX4_init_41 : decode cX4_init 41 = .ok (.dup, 1) := by decide +kernel
theorem dX4_init_42 : decode cX4_init 42 = .ok (.invokespecial 34, 3) := by decide +kernel
theorem dX4_init_45 : decode cX4_init 45 = .ok (.putfield 35, 3) := by decide +kernel
theorem dX4_init_48 : decode cX4_init 48 = .ok (.aload_n 0, 1) := by decide +kernel
theorem dX4_init_49 : decode cX4_init 49 = .ok (.new 39, 3) := by decide +kernel
theorem dX4_init_52 : decode cX4_init 52 = .ok (.dup, 1) := by decide +kernel
theorem dX4_init_53 : decode cX4_init 53 = .ok (.invokespecial 41, 3) := by decide +kernel
theorem dX4_init_56 : decode cX4_init 56 = .ok (.putfield 42, 3) := by decide +kernel
theorem dX4_init_59 : decode cX4_init 59 = .ok (.aload_n 0, 1) := by decide +kernel
theorem dX4_init_60 : decode cX4_init 60 = .ok (.iconst 2, 1) := by decide +kernel
theorem dX4_init_61 : decode cX4_init 61 = .ok (.putfield 46, 3) := by decide +kernel
theorem dX4_init_64 : decode cX4_init 64 = .ok (.return_, 1) := by decide +kernel
theorem dX4_reading_0 : decode cX4_reading 0 = .ok (.iconst 0, 1) := by decide +kernel
theorem dX4_reading_1 : decode cX4_reading 1 = .ok (.istore_n 2, 1) := by decide +kernel
theorem dX4_reading_2 : decode cX4_reading 2 = .ok (.bipush 15, 2) := by decide +kernel
theorem dX4_reading_4 : decode cX4_reading 4 = .ok (.iload_n 1, 1) := by decide +kernel
theorem dX4_reading_5 : decode cX4_reading 5 = .ok (.aload_n 0, 1) := by decide +kernel
theorem dX4_reading_6 : decode cX4_reading 6 = .ok (.getfield 21, 3) := by decide +kernel
theorem dX4_reading_9 : decode cX4_reading 9 = .ok (.getfield 50, 3) := by decide +kernel
theorem dX4_reading_12 : decode cX4_reading 12 = .ok (.iadd, 1) := by decide +kernel
theorem dX4_reading_13 : decode cX4_reading 13 = .ok (.invokestatic 53, 3) := by decide +kernel
theorem dX4_reading_16 : decode cX4_reading 16 = .ok (.istore_n 3, 1) := by decide +kernel
theorem dX4_reading_17 : decode cX4_reading 17 = .ok (.iconst 0, 1) := by decide +kernel
theorem dX4_reading_18 : decode cX4_reading 18 = .ok (.iload_n 1, 1) := by decide +kernel
theorem dX4_reading_19 : decode cX4_reading 19 = .ok (.aload_n 0, 1) := by decide +kernel
theorem dX4_reading_20 : decode cX4_reading 20 = .ok (.getfield 21, 3) := by decide +kernel
theorem dX4_reading_23 : decode cX4_reading 23 = .ok (.getfield 50, 3) := by decide +kernel
theorem dX4_reading_26 : decode cX4_reading 26 = .ok (.isub, 1) := by decide +kernel
theorem dX4_reading_27 : decode cX4_reading 27 = .ok (.invokestatic 59, 3) := by decide +kernel
theorem dX4_reading_30 : decode cX4_reading 30 = .ok (.istore 4, 2) := by decide +kernel
theorem dX4_reading_32 : decode cX4_reading 32 = .ok (.iload 4, 2) := by decide +kernel
theorem dX4_reading_34 : decode cX4_reading 34 = .ok (.iload_n 3, 1) := by decide +kernel
theorem dX4_reading_35 : decode cX4_reading 35 = .ok (.if_icmp .gt 30, 3) := by decide +kernel
theorem dX4_reading_38 : decode cX4_reading 38 = .ok (.iload_n 2, 1) := by decide +kernel
theorem dX4_reading_39 : decode cX4_reading 39 = .ok (.aload_n 0, 1) := by decide +kernel
theorem dX4_reading_40 : decode cX4_reading 40 = .ok (.getfield 12, 3) := by decide +kernel
theorem dX4_reading_43 : decode cX4_reading 43 = .ok (.aload_n 0, 1) := by decide +kernel
theorem dX4_reading_44 : decode cX4_reading 44 = .ok (.getfield 12, 3) := by decide +kernel
theorem dX4_reading_47 : decode cX4_reading 47 = .ok (.getfield 62, 3) := by decide +kernel
theorem dX4_reading_50 : decode cX4_reading 50 = .ok (.iload 4, 2) := by decide +kernel
theorem dX4_reading_52 : decode cX4_reading 52 = .ok (.invokevirtual 65, 3) := by decide +kernel
theorem dX4_reading_55 : decode cX4_reading 55 = .ok (.invokestatic 59, 3) := by decide +kernel
theorem dX4_reading_58 : decode cX4_reading 58 = .ok (.istore_n 2, 1) := by decide +kernel
theorem dX4_reading_59 : decode cX4_reading 59 = .ok (.iinc 4 1, 3) := by decide +kernel
theorem dX4_reading_62 : decode cX4_reading 62 = .ok (.goto (-30), 3) := by decide +kernel
theorem dX4_reading_65 : decode cX4_reading 65 = .ok (.iload_n 2, 1) := by decide +kernel
theorem dX4_reading_66 : decode cX4_reading 66 = .ok (.ireturn, 1) := by decide +kernel
theorem dX4_target_0 : decode cX4_target 0 = .ok (.iconst 1, 1) := by decide +kernel
theorem dX4_target_1 : decode cX4_target 1 = .ok (.aload_n 0, 1) := by decide +kernel
theorem dX4_target_2 : decode cX4_target 2 = .ok (.iload_n 1, 1) := by decide +kernel
theorem dX4_target_3 : decode cX4_target 3 = .ok (.invokevirtual 68, 3) := by decide +kernel
theorem dX4_target_6 : decode cX4_target 6 = .ok (.aload_n 0, 1) := by decide +kernel
theorem dX4_target_7 : decode cX4_target 7 = .ok (.getfield 21, 3) := by decide +kernel
theorem dX4_target_10 : decode cX4_target 10 = .ok (.getfield 72, 3) := by decide +kernel
theorem dX4_target_13 : decode cX4_target 13 = .ok (.isub, 1) := by decide +kernel
theorem dX4_target_14 : decode cX4_target 14 = .ok (.aload_n 0, 1) := by decide +kernel
theorem dX4_target_15 : decode cX4_target 15 = .ok (.getfield 21, 3) := by decide +kernel
theorem dX4_target_18 : decode cX4_target 18 = .ok (.getfield 75, 3) := by decide +kernel
theorem dX4_target_21 : decode cX4_target 21 = .ok (.iadd, 1) := by decide +kernel
theorem dX4_target_22 : decode cX4_target 22 = .ok (.invokestatic 59, 3) := by decide +kernel
theorem dX4_target_25 : decode cX4_target 25 = .ok (.ireturn, 1) := by decide +kernel
theorem dX4_above_0 : decode cX4_above 0 = .ok (.iconst 0, 1) := by decide +kernel
theorem dX4_above_1 : decode cX4_above 1 = .ok (.aload_n 0, 1) := by decide +kernel
theorem dX4_above_2 : decode cX4_above 2 = .ok (.getfield 35, 3) := by decide +kernel
theorem dX4_above_5 : decode cX4_above 5 = .ok (.iload_n 1, 1) := by decide +kernel
theorem dX4_above_6 : decode cX4_above 6 = .ok (.iload_n 2, 1) := by decide +kernel
theorem dX4_above_7 : decode cX4_above 7 = .ok (.invokevirtual 78, 3) := by decide +kernel
theorem dX4_above_10 : decode cX4_above 10 = .ok (.aload_n 0, 1) := by decide +kernel
theorem dX4_above_11 : decode cX4_above 11 = .ok (.iload_n 2, 1) := by decide +kernel
theorem dX4_above_12 : decode cX4_above 12 = .ok (.invokevirtual 79, 3) := by decide +kernel
theorem dX4_above_15 : decode cX4_above 15 = .ok (.isub, 1) := by decide +kernel
theorem dX4_above_16 : decode cX4_above 16 = .ok (.invokestatic 59, 3) := by decide +kernel
theorem dX4_above_19 : decode cX4_above 19 = .ok (.ireturn, 1) := by decide +kernel
theorem dX4_mostAbove_0 : decode cX4_mostAbove 0 = .ok (.iconst 0, 1) := by decide +kernel
theorem dX4_mostAbove_1 : decode cX4_mostAbove 1 = .ok (.istore_n 2, 1) := by decide +kernel
theorem dX4_mostAbove_2 : decode cX4_mostAbove 2 = .ok (.iconst 0, 1) := by decide +kernel
theorem dX4_mostAbove_3 : decode cX4_mostAbove 3 = .ok (.istore_n 3, 1) := by decide +kernel
theorem dX4_mostAbove_4 : decode cX4_mostAbove 4 = .ok (.iload_n 3, 1) := by decide +kernel
theorem dX4_mostAbove_5 : decode cX4_mostAbove 5 = .ok (.bipush 16, 2) := by decide +kernel
theorem dX4_mostAbove_7 : decode cX4_mostAbove 7 = .ok (.if_icmp .ge 20, 3) := by decide +kernel
theorem dX4_mostAbove_10 : decode cX4_mostAbove 10 = .ok (.iload_n 2, 1) := by decide +kernel
theorem dX4_mostAbove_11 : decode cX4_mostAbove 11 = .ok (.aload_n 0, 1) := by decide +kernel
theorem dX4_mostAbove_12 : decode cX4_mostAbove 12 = .ok (.iload_n 1, 1) := by decide +kernel
theorem dX4_mostAbove_13 : decode cX4_mostAbove 13 = .ok (.iload_n 3, 1) := by decide +kernel
theorem dX4_mostAbove_14 : decode cX4_mostAbove 14 = .ok (.invokevirtual 82, 3) := by decide +kernel
theorem dX4_mostAbove_17 : decode cX4_mostAbove 17 = .ok (.invokestatic 59, 3) := by decide +kernel
theorem dX4_mostAbove_20 : decode cX4_mostAbove 20 = .ok (.istore_n 2, 1) := by decide +kernel
theorem dX4_mostAbove_21 : decode cX4_mostAbove 21 = .ok (.iinc 3 1, 3) := by decide +kernel
theorem dX4_mostAbove_24 : decode cX4_mostAbove 24 = .ok (.goto (-20), 3) := by decide +kernel
theorem dX4_mostAbove_27 : decode cX4_mostAbove 27 = .ok (.iload_n 2, 1) := by decide +kernel
theorem dX4_mostAbove_28 : decode cX4_mostAbove 28 = .ok (.ireturn, 1) := by decide +kernel
theorem dX4_allAbove_0 : decode cX4_allAbove 0 = .ok (.iconst 0, 1) := by decide +kernel
theorem dX4_allAbove_1 : decode cX4_allAbove 1 = .ok (.istore_n 2, 1) := by decide +kernel
theorem dX4_allAbove_2 : decode cX4_allAbove 2 = .ok (.iconst 0, 1) := by decide +kernel
theorem dX4_allAbove_3 : decode cX4_allAbove 3 = .ok (.istore_n 3, 1) := by decide +kernel
theorem dX4_allAbove_4 : decode cX4_allAbove 4 = .ok (.iload_n 3, 1) := by decide +kernel
theorem dX4_allAbove_5 : decode cX4_allAbove 5 = .ok (.bipush 16, 2) := by decide +kernel
theorem dX4_allAbove_7 : decode cX4_allAbove 7 = .ok (.if_icmp .ge 18, 3) := by decide +kernel
theorem dX4_allAbove_10 : decode cX4_allAbove 10 = .ok (.iload_n 2, 1) := by decide +kernel
theorem dX4_allAbove_11 : decode cX4_allAbove 11 = .ok (.aload_n 0, 1) := by decide +kernel
theorem dX4_allAbove_12 : decode cX4_allAbove 12 = .ok (.iload_n 1, 1) := by decide +kernel
theorem dX4_allAbove_13 : decode cX4_allAbove 13 = .ok (.iload_n 3, 1) := by decide +kernel
theorem dX4_allAbove_14 : decode cX4_allAbove 14 = .ok (.invokevirtual 82, 3) := by decide +kernel
theorem dX4_allAbove_17 : decode cX4_allAbove 17 = .ok (.iadd, 1) := by decide +kernel
theorem dX4_allAbove_18 : decode cX4_allAbove 18 = .ok (.istore_n 2, 1) := by decide +kernel
theorem dX4_allAbove_19 : decode cX4_allAbove 19 = .ok (.iinc 3 1, 3) := by decide +kernel
theorem dX4_allAbove_22 : decode cX4_allAbove 22 = .ok (.goto (-18), 3) := by decide +kernel
theorem dX4_allAbove_25 : decode cX4_allAbove 25 = .ok (.iload_n 2, 1) := by decide +kernel
theorem dX4_allAbove_26 : decode cX4_allAbove 26 = .ok (.ireturn, 1) := by decide +kernel
theorem dX4_canRun_0 : decode cX4_canRun 0 = .ok (.aload_n 0, 1) := by decide +kernel
theorem dX4_canRun_1 : decode cX4_canRun 1 = .ok (.getfield 85, 3) := by decide +kernel
theorem dX4_canRun_4 : decode cX4_canRun 4 = .ok (.ifCond .ne 17, 3) := by decide +kernel
theorem dX4_canRun_7 : decode cX4_canRun 7 = .ok (.aload_n 0, 1) := by decide +kernel
theorem dX4_canRun_8 : decode cX4_canRun 8 = .ok (.getfield 28, 3) := by decide +kernel
theorem dX4_canRun_11 : decode cX4_canRun 11 = .ok (.invokevirtual 89, 3) := by decide +kernel
theorem dX4_canRun_14 : decode cX4_canRun 14 = .ok (.ifCond .eq 7, 3) := by decide +kernel
theorem dX4_canRun_17 : decode cX4_canRun 17 = .ok (.iconst 1, 1) := by decide +kernel
theorem dX4_canRun_18 : decode cX4_canRun 18 = .ok (.goto 4, 3) := by decide +kernel
theorem dX4_canRun_21 : decode cX4_canRun 21 = .ok (.iconst 0, 1) := by decide +kernel
theorem dX4_canRun_22 : decode cX4_canRun 22 = .ok (.ireturn, 1) := by decide +kernel
theorem dX4_blunting_0 : decode cX4_blunting 0 = .ok (.aload_n 0, 1) := by decide +kernel
theorem dX4_blunting_1 : decode cX4_blunting 1 = .ok (.getfield 35, 3) := by decide +kernel
theorem dX4_blunting_4 : decode cX4_blunting 4 = .ok (.aload_n 0, 1) := by decide +kernel
theorem dX4_blunting_5 : decode cX4_blunting 5 = .ok (.getfield 35, 3) := by decide +kernel
theorem dX4_blunting_8 : decode cX4_blunting 8 = .ok (.getfield 93, 3) := by decide +kernel
theorem dX4_blunting_11 : decode cX4_blunting 11 = .ok (.invokevirtual 96, 3) := by decide +kernel
theorem dX4_blunting_14 : decode cX4_blunting 14 = .ok (.aload_n 0, 1) := by decide +kernel
theorem dX4_blunting_15 : decode cX4_blunting 15 = .ok (.getfield 28, 3) := by decide +kernel
theorem dX4_blunting_18 : decode cX4_blunting 18 = .ok (.getfield 99, 3) := by decide +kernel
theorem dX4_blunting_21 : decode cX4_blunting 21 = .ok (.imul, 1) := by decide +kernel
theorem dX4_blunting_22 : decode cX4_blunting 22 = .ok (.ireturn, 1) := by decide +kernel
theorem dX4_runPass_0 : decode cX4_runPass 0 = .ok (.aload_n 0, 1) := by decide +kernel
theorem dX4_runPass_1 : decode cX4_runPass 1 = .ok (.invokevirtual 102, 3) := by decide +kernel
theorem dX4_runPass_4 : decode cX4_runPass 4 = .ok (.istore_n 1, 1) := by decide +kernel
theorem dX4_runPass_5 : decode cX4_runPass 5 = .ok (.aload_n 0, 1) := by decide +kernel
theorem dX4_runPass_6 : decode cX4_runPass 6 = .ok (.getfield 42, 3) := by decide +kernel
theorem dX4_runPass_9 : decode cX4_runPass 9 = .ok (.dup, 1) := by decide +kernel
theorem dX4_runPass_10 : decode cX4_runPass 10 = .ok (.getfield 106, 3) := by decide +kernel
theorem dX4_runPass_13 : decode cX4_runPass 13 = .ok (.iconst 1, 1) := by decide +kernel
theorem dX4_runPass_14 : decode cX4_runPass 14 = .ok (.iadd, 1) := by decide +kernel
theorem dX4_runPass_15 : decode cX4_runPass 15 = .ok (.putfield 106, 3) := by decide +kernel
theorem dX4_runPass_18 : decode cX4_runPass 18 = .ok (.aload_n 0, 1) := by decide +kernel
theorem dX4_runPass_19 : decode cX4_runPass 19 = .ok (.getfield 42, 3) := by decide +kernel
theorem dX4_runPass_22 : decode cX4_runPass 22 = .ok (.dup, 1) := by decide +kernel
theorem dX4_runPass_23 : decode cX4_runPass 23 = .ok (.getfield 109, 3) := by decide +kernel
theorem dX4_runPass_26 : decode cX4_runPass 26 = .ok (.iload_n 1, 1) := by decide +kernel
theorem dX4_runPass_27 : decode cX4_runPass 27 = .ok (.iadd, 1) := by decide +kernel
theorem dX4_runPass_28 : decode cX4_runPass 28 = .ok (.putfield 109, 3) := by decide +kernel
theorem dX4_runPass_31 : decode cX4_runPass 31 = .ok (.aload_n 0, 1) := by decide +kernel
theorem dX4_runPass_32 : decode cX4_runPass 32 = .ok (.getfield 35, 3) := by decide +kernel
theorem dX4_runPass_35 : decode cX4_runPass 35 = .ok (.getfield 112, 3) := by decide +kernel
theorem dX4_runPass_38 : decode cX4_runPass 38 = .ok (.aload_n 0, 1) := by decide +kernel
theorem dX4_runPass_39 : decode cX4_runPass 39 = .ok (.getfield 35, 3) := by decide +kernel
theorem dX4_runPass_42 : decode cX4_runPass 42 = .ok (.getfield 93, 3) := by decide +kernel
theorem dX4_runPass_45 : decode cX4_runPass 45 = .ok (.iconst 1, 1) := by decide +kernel
theorem dX4_runPass_46 : decode cX4_runPass 46 = .ok (.invokevirtual 116, 3) := by decide +kernel
theorem dX4_runPass_49 : decode cX4_runPass 49 = .ok (.aload_n 0, 1) := by decide +kernel
theorem dX4_runPass_50 : decode cX4_runPass 50 = .ok (.getfield 28, 3) := by decide +kernel
theorem dX4_runPass_53 : decode cX4_runPass 53 = .ok (.aload_n 0, 1) := by decide +kernel
theorem dX4_runPass_54 : decode cX4_runPass 54 = .ok (.invokevirtual 122, 3) := by decide +kernel
theorem dX4_runPass_57 : decode cX4_runPass 57 = .ok (.invokevirtual 125, 3) := by decide +kernel
theorem dX4_runPass_60 : decode cX4_runPass 60 = .ok (.aload_n 0, 1) := by decide +kernel
theorem dX4_runPass_61 : decode cX4_runPass 61 = .ok (.getfield 21, 3) := by decide +kernel
theorem dX4_runPass_64 : decode cX4_runPass 64 = .ok (.invokevirtual 129, 3) := by decide +kernel
theorem dX4_runPass_67 : decode cX4_runPass 67 = .ok (.iload_n 1, 1) := by decide +kernel
theorem dX4_runPass_68 : decode cX4_runPass 68 = .ok (.ireturn, 1) := by decide +kernel
theorem dX4_cutSteps_0 : decode cX4_cutSteps 0 = .ok (.iconst 0, 1) := by decide +kernel
theorem dX4_cutSteps_1 : decode cX4_cutSteps 1 = .ok (.istore_n 1, 1) := by decide +kernel
theorem dX4_cutSteps_2 : decode cX4_cutSteps 2 = .ok (.iconst 0, 1) := by decide +kernel
theorem dX4_cutSteps_3 : decode cX4_cutSteps 3 = .ok (.istore_n 2, 1) := by decide +kernel
theorem dX4_cutSteps_4 : decode cX4_cutSteps 4 = .ok (.iload_n 2, 1) := by decide +kernel
theorem dX4_cutSteps_5 : decode cX4_cutSteps 5 = .ok (.bipush 16, 2) := by decide +kernel
theorem dX4_cutSteps_7 : decode cX4_cutSteps 7 = .ok (.if_icmp .ge 102, 3) := by decide +kernel
theorem dX4_cutSteps_10 : decode cX4_cutSteps 10 = .ok (.aload_n 0, 1) := by decide +kernel
theorem dX4_cutSteps_11 : decode cX4_cutSteps 11 = .ok (.getfield 85, 3) := by decide +kernel
theorem dX4_cutSteps_14 : decode cX4_cutSteps 14 = .ok (.ifCond .ne 95, 3) := by decide +kernel
theorem dX4_cutSteps_17 : decode cX4_cutSteps 17 = .ok (.aload_n 0, 1) := by decide +kernel
theorem dX4_cutSteps_18 : decode cX4_cutSteps 18 = .ok (.getfield 28, 3) := by decide +kernel
theorem dX4_cutSteps_21 : decode cX4_cutSteps 21 = .ok (.invokevirtual 132, 3) := by decide +kernel
theorem dX4_cutSteps_24 : decode cX4_cutSteps 24 = .ok (.aload_n 0, 1) := by decide +kernel
theorem dX4_cutSteps_25 : decode cX4_cutSteps 25 = .ok (.aload_n 0, 1) := by decide +kernel
theorem dX4_cutSteps_26 : decode cX4_cutSteps 26 = .ok (.getfield 35, 3) := by decide +kernel
theorem dX4_cutSteps_29 : decode cX4_cutSteps 29 = .ok (.getfield 93, 3) := by decide +kernel
theorem dX4_cutSteps_32 : decode cX4_cutSteps 32 = .ok (.iload_n 2, 1) := by decide +kernel
theorem dX4_cutSteps_33 : decode cX4_cutSteps 33 = .ok (.invokevirtual 82, 3) := by decide +kernel
theorem dX4_cutSteps_36 : decode cX4_cutSteps 36 = .ok (.invokestatic 53, 3) := by decide +kernel
theorem dX4_cutSteps_39 : decode cX4_cutSteps 39 = .ok (.istore_n 3, 1) := by decide +kernel
theorem dX4_cutSteps_40 : decode cX4_cutSteps 40 = .ok (.iload_n 3, 1) := by decide +kernel
theorem dX4_cutSteps_41 : decode cX4_cutSteps 41 = .ok (.sipush 200, 3) := by decide +kernel
theorem dX4_cutSteps_44 : decode cX4_cutSteps 44 = .ok (.aload_n 0, 1) := by decide +kernel
theorem dX4_cutSteps_45 : decode cX4_cutSteps 45 = .ok (.getfield 135, 3) := by decide +kernel
theorem dX4_cutSteps_48 : decode cX4_cutSteps 48 = .ok (.isub, 1) := by decide +kernel
theorem dX4_cutSteps_49 : decode cX4_cutSteps 49 = .ok (.if_icmp .le 24, 3) := by decide +kernel
theorem dX4_cutSteps_52 : decode cX4_cutSteps 52 = .ok (.aload_n 0, 1) := by decide +kernel
theorem dX4_cutSteps_53 : decode cX4_cutSteps 53 = .ok (.iconst 1, 1) := by decide +kernel
theorem dX4_cutSteps_54 : decode cX4_cutSteps 54 = .ok (.putfield 85, 3) := by decide +kernel
theorem dX4_cutSteps_57 : decode cX4_cutSteps 57 = .ok (.aload_n 0, 1) := by decide +kernel
theorem dX4_cutSteps_58 : decode cX4_cutSteps 58 = .ok (.getfield 42, 3) := by decide +kernel
theorem dX4_cutSteps_61 : decode cX4_cutSteps 61 = .ok (.dup, 1) := by decide +kernel
theorem dX4_cutSteps_62 : decode cX4_cutSteps 62 = .ok (.getfield 138, 3) := by decide +kernel
theorem dX4_cutSteps_65 : decode cX4_cutSteps 65 = .ok (.iconst 1, 1) := by decide +kernel
theorem dX4_cutSteps_66 : decode cX4_cutSteps 66 = .ok (.iadd, 1) := by decide +kernel
theorem dX4_cutSteps_67 : decode cX4_cutSteps 67 = .ok (.putfield 138, 3) := by decide +kernel
theorem dX4_cutSteps_70 : decode cX4_cutSteps 70 = .ok (.goto 33, 3) := by decide +kernel
theorem dX4_cutSteps_73 : decode cX4_cutSteps 73 = .ok (.aload_n 0, 1) := by decide +kernel
theorem dX4_cutSteps_74 : decode cX4_cutSteps 74 = .ok (.getfield 35, 3) := by decide +kernel
theorem dX4_cutSteps_77 : decode cX4_cutSteps 77 = .ok (.aload_n 0, 1) := by decide +kernel
theorem dX4_cutSteps_78 : decode cX4_cutSteps 78 = .ok (.getfield 35, 3) := by decide +kernel
theorem dX4_cutSteps_81 : decode cX4_cutSteps 81 = .ok (.getfield 93, 3) := by decide +kernel
theorem dX4_cutSteps_84 : decode cX4_cutSteps 84 = .ok (.iload_n 2, 1) := by decide +kernel
theorem dX4_cutSteps_85 : decode cX4_cutSteps 85 = .ok (.iload_n 3, 1) := by decide +kernel
theorem dX4_cutSteps_86 : decode cX4_cutSteps 86 = .ok (.invokevirtual 141, 3) := by decide +kernel
theorem dX4_cutSteps_89 : decode cX4_cutSteps 89 = .ok (.aload_n 0, 1) := by decide +kernel
theorem dX4_cutSteps_90 : decode cX4_cutSteps 90 = .ok (.dup, 1) := by decide +kernel
theorem dX4_cutSteps_91 : decode cX4_cutSteps 91 = .ok (.getfield 135, 3) := by decide +kernel
theorem dX4_cutSteps_94 : decode cX4_cutSteps 94 = .ok (.iload_n 3, 1) := by decide +kernel
theorem dX4_cutSteps_95 : decode cX4_cutSteps 95 = .ok (.iadd, 1) := by decide +kernel
theorem dX4_cutSteps_96 : decode cX4_cutSteps 96 = .ok (.putfield 135, 3) := by decide +kernel
theorem dX4_cutSteps_99 : decode cX4_cutSteps 99 = .ok (.iload_n 1, 1) := by decide +kernel
theorem dX4_cutSteps_100 : decode cX4_cutSteps 100 = .ok (.iload_n 3, 1) := by decide +kernel
theorem dX4_cutSteps_101 : decode cX4_cutSteps 101 = .ok (.iadd, 1) := by decide +kernel
theorem dX4_cutSteps_102 : decode cX4_cutSteps 102 = .ok (.istore_n 1, 1) := by decide +kernel
theorem dX4_cutSteps_103 : decode cX4_cutSteps 103 = .ok (.iinc 2 1, 3) := by decide +kernel
theorem dX4_cutSteps_106 : decode cX4_cutSteps 106 = .ok (.goto (-102), 3) := by decide +kernel
theorem dX4_cutSteps_109 : decode cX4_cutSteps 109 = .ok (.iload_n 1, 1) := by decide +kernel
theorem dX4_cutSteps_110 : decode cX4_cutSteps 110 = .ok (.ireturn, 1) := by decide +kernel
theorem dX4_wouldCut_0 : decode cX4_wouldCut 0 = .ok (.iconst 0, 1) := by decide +kernel
theorem dX4_wouldCut_1 : decode cX4_wouldCut 1 = .ok (.istore_n 1, 1) := by decide +kernel
theorem dX4_wouldCut_2 : decode cX4_wouldCut 2 = .ok (.iconst 0, 1) := by decide +kernel
theorem dX4_wouldCut_3 : decode cX4_wouldCut 3 = .ok (.istore_n 2, 1) := by decide +kernel
theorem dX4_wouldCut_4 : decode cX4_wouldCut 4 = .ok (.iload_n 2, 1) := by decide +kernel
theorem dX4_wouldCut_5 : decode cX4_wouldCut 5 = .ok (.bipush 16, 2) := by decide +kernel
theorem dX4_wouldCut_7 : decode cX4_wouldCut 7 = .ok (.if_icmp .ge 52, 3) := by decide +kernel
theorem dX4_wouldCut_10 : decode cX4_wouldCut 10 = .ok (.aload_n 0, 1) := by decide +kernel
theorem dX4_wouldCut_11 : decode cX4_wouldCut 11 = .ok (.getfield 28, 3) := by decide +kernel
theorem dX4_wouldCut_14 : decode cX4_wouldCut 14 = .ok (.invokevirtual 132, 3) := by decide +kernel
theorem dX4_wouldCut_17 : decode cX4_wouldCut 17 = .ok (.aload_n 0, 1) := by decide +kernel
theorem dX4_wouldCut_18 : decode cX4_wouldCut 18 = .ok (.aload_n 0, 1) := by decide +kernel
theorem dX4_wouldCut_19 : decode cX4_wouldCut 19 = .ok (.getfield 35, 3) := by decide +kernel
theorem dX4_wouldCut_22 : decode cX4_wouldCut 22 = .ok (.getfield 93, 3) := by decide +kernel
theorem dX4_wouldCut_25 : decode cX4_wouldCut 25 = .ok (.iload_n 2, 1) := by decide +kernel
theorem dX4_wouldCut_26 : decode cX4_wouldCut 26 = .ok (.invokevirtual 82, 3) := by decide +kernel
theorem dX4_wouldCut_29 : decode cX4_wouldCut 29 = .ok (.invokestatic 53, 3) := by decide +kernel
theorem dX4_wouldCut_32 : decode cX4_wouldCut 32 = .ok (.istore_n 3, 1) := by decide +kernel
theorem dX4_wouldCut_33 : decode cX4_wouldCut 33 = .ok (.iload_n 3, 1) := by decide +kernel
theorem dX4_wouldCut_34 : decode cX4_wouldCut 34 = .ok (.sipush 200, 3) := by decide +kernel
theorem dX4_wouldCut_37 : decode cX4_wouldCut 37 = .ok (.aload_n 0, 1) := by decide +kernel
theorem dX4_wouldCut_38 : decode cX4_wouldCut 38 = .ok (.getfield 135, 3) := by decide +kernel
theorem dX4_wouldCut_41 : decode cX4_wouldCut 41 = .ok (.isub, 1) := by decide +kernel
theorem dX4_wouldCut_42 : decode cX4_wouldCut 42 = .ok (.iload_n 1, 1) := by decide +kernel
theorem dX4_wouldCut_43 : decode cX4_wouldCut 43 = .ok (.isub, 1) := by decide +kernel
theorem dX4_wouldCut_44 : decode cX4_wouldCut 44 = .ok (.if_icmp .le 5, 3) := by decide +kernel
theorem dX4_wouldCut_47 : decode cX4_wouldCut 47 = .ok (.iload_n 1, 1) := by decide +kernel
theorem dX4_wouldCut_48 : decode cX4_wouldCut 48 = .ok (.ireturn, 1) := by decide +kernel
theorem dX4_wouldCut_49 : decode cX4_wouldCut 49 = .ok (.iload_n 1, 1) := by decide +kernel
theorem dX4_wouldCut_50 : decode cX4_wouldCut 50 = .ok (.iload_n 3, 1) := by decide +kernel
theorem dX4_wouldCut_51 : decode cX4_wouldCut 51 = .ok (.iadd, 1) := by decide +kernel
theorem dX4_wouldCut_52 : decode cX4_wouldCut 52 = .ok (.istore_n 1, 1) := by decide +kernel
theorem dX4_wouldCut_53 : decode cX4_wouldCut 53 = .ok (.iinc 2 1, 3) := by decide +kernel
theorem dX4_wouldCut_56 : decode cX4_wouldCut 56 = .ok (.goto (-52), 3) := by decide +kernel
theorem dX4_wouldCut_59 : decode cX4_wouldCut 59 = .ok (.iload_n 1, 1) := by decide +kernel
theorem dX4_wouldCut_60 : decode cX4_wouldCut 60 = .ok (.ireturn, 1) := by decide +kernel
theorem dX4_rub_0 : decode cX4_rub 0 = .ok (.iconst 0, 1) := by decide +kernel
theorem dX4_rub_1 : decode cX4_rub 1 = .ok (.istore_n 2, 1) := by decide +kernel
theorem dX4_rub_2 : decode cX4_rub 2 = .ok (.iconst 0, 1) := by decide +kernel
theorem dX4_rub_3 : decode cX4_rub 3 = .ok (.istore_n 3, 1) := by decide +kernel
theorem dX4_rub_4 : decode cX4_rub 4 = .ok (.iload_n 3, 1) := by decide +kernel
theorem dX4_rub_5 : decode cX4_rub 5 = .ok (.bipush 16, 2) := by decide +kernel
theorem dX4_rub_7 : decode cX4_rub 7 = .ok (.if_icmp .ge 49, 3) := by decide +kernel
theorem dX4_rub_10 : decode cX4_rub 10 = .ok (.iload_n 1, 1) := by decide +kernel
theorem dX4_rub_11 : decode cX4_rub 11 = .ok (.aload_n 0, 1) := by decide +kernel
theorem dX4_rub_12 : decode cX4_rub 12 = .ok (.aload_n 0, 1) := by decide +kernel
theorem dX4_rub_13 : decode cX4_rub 13 = .ok (.getfield 35, 3) := by decide +kernel
theorem dX4_rub_16 : decode cX4_rub 16 = .ok (.getfield 93, 3) := by decide +kernel
theorem dX4_rub_19 : decode cX4_rub 19 = .ok (.iload_n 3, 1) := by decide +kernel
theorem dX4_rub_20 : decode cX4_rub 20 = .ok (.invokevirtual 82, 3) := by decide +kernel
theorem dX4_rub_23 : decode cX4_rub 23 = .ok (.invokestatic 53, 3) := by decide +kernel
theorem dX4_rub_26 : decode cX4_rub 26 = .ok (.istore 4, 2) := by decide +kernel
theorem dX4_rub_28 : decode cX4_rub 28 = .ok (.aload_n 0, 1) := by decide +kernel
theorem dX4_rub_29 : decode cX4_rub 29 = .ok (.getfield 35, 3) := by decide +kernel
theorem dX4_rub_32 : decode cX4_rub 32 = .ok (.aload_n 0, 1) := by decide +kernel
theorem dX4_rub_33 : decode cX4_rub 33 = .ok (.getfield 35, 3) := by decide +kernel
theorem dX4_rub_36 : decode cX4_rub 36 = .ok (.getfield 93, 3) := by decide +kernel
theorem dX4_rub_39 : decode cX4_rub 39 = .ok (.iload_n 3, 1) := by decide +kernel
theorem dX4_rub_40 : decode cX4_rub 40 = .ok (.iload 4, 2) := by decide +kernel
theorem dX4_rub_42 : decode cX4_rub 42 = .ok (.invokevirtual 141, 3) := by decide +kernel
theorem dX4_rub_45 : decode cX4_rub 45 = .ok (.iload_n 2, 1) := by decide +kernel
theorem dX4_rub_46 : decode cX4_rub 46 = .ok (.iload 4, 2) := by decide +kernel
theorem dX4_rub_48 : decode cX4_rub 48 = .ok (.iadd, 1) := by decide +kernel
theorem dX4_rub_49 : decode cX4_rub 49 = .ok (.istore_n 2, 1) := by decide +kernel
theorem dX4_rub_50 : decode cX4_rub 50 = .ok (.iinc 3 1, 3) := by decide +kernel
theorem dX4_rub_53 : decode cX4_rub 53 = .ok (.goto (-49), 3) := by decide +kernel
theorem dX4_rub_56 : decode cX4_rub 56 = .ok (.aload_n 0, 1) := by decide +kernel
theorem dX4_rub_57 : decode cX4_rub 57 = .ok (.getfield 42, 3) := by decide +kernel
theorem dX4_rub_60 : decode cX4_rub 60 = .ok (.dup, 1) := by decide +kernel
theorem dX4_rub_61 : decode cX4_rub 61 = .ok (.getfield 109, 3) := by decide +kernel
theorem dX4_rub_64 : decode cX4_rub 64 = .ok (.iload_n 2, 1) := by decide +kernel
theorem dX4_rub_65 : decode cX4_rub 65 = .ok (.iadd, 1) := by decide +kernel
theorem dX4_rub_66 : decode cX4_rub 66 = .ok (.putfield 109, 3) := by decide +kernel
theorem dX4_rub_69 : decode cX4_rub 69 = .ok (.iload_n 2, 1) := by decide +kernel
theorem dX4_rub_70 : decode cX4_rub 70 = .ok (.ireturn, 1) := by decide +kernel
theorem dX4_difference_0 : decode cX4_difference 0 = .ok (.aload_n 0, 1) := by decide +kernel
theorem dX4_difference_1 : decode cX4_difference 1 = .ok (.getfield 35, 3) := by decide +kernel
theorem dX4_difference_4 : decode cX4_difference 4 = .ok (.iload_n 1, 1) := by decide +kernel
theorem dX4_difference_5 : decode cX4_difference 5 = .ok (.iload_n 3, 1) := by decide +kernel
theorem dX4_difference_6 : decode cX4_difference 6 = .ok (.invokevirtual 78, 3) := by decide +kernel
theorem dX4_difference_9 : decode cX4_difference 9 = .ok (.aload_n 0, 1) := by decide +kernel
theorem dX4_difference_10 : decode cX4_difference 10 = .ok (.getfield 12, 3) := by decide +kernel
theorem dX4_difference_13 : decode cX4_difference 13 = .ok (.iload_n 2, 1) := by decide +kernel
theorem dX4_difference_14 : decode cX4_difference 14 = .ok (.iload_n 3, 1) := by decide +kernel
theorem dX4_difference_15 : decode cX4_difference 15 = .ok (.invokevirtual 65, 3) := by decide +kernel
theorem dX4_difference_18 : decode cX4_difference 18 = .ok (.isub, 1) := by decide +kernel
theorem dX4_difference_19 : decode cX4_difference 19 = .ok (.ireturn, 1) := by decide +kernel
theorem dX4_differences_0 : decode cX4_differences 0 = .ok (.iconst 0, 1) := by decide +kernel
theorem dX4_differences_1 : decode cX4_differences 1 = .ok (.istore_n 3, 1) := by decide +kernel
theorem dX4_differences_2 : decode cX4_differences 2 = .ok (.iconst 0, 1) := by decide +kernel
theorem dX4_differences_3 : decode cX4_differences 3 = .ok (.istore 4, 2) := by decide +kernel
theorem dX4_differences_5 : decode cX4_differences 5 = .ok (.iload 4, 2) := by decide +kernel
theorem dX4_differences_7 : decode cX4_differences 7 = .ok (.bipush 16, 2) := by decide +kernel
theorem dX4_differences_9 : decode cX4_differences 9 = .ok (.if_icmp .ge 23, 3) := by decide +kernel
theorem dX4_differences_12 : decode cX4_differences 12 = .ok (.iload_n 3, 1) := by decide +kernel
theorem dX4_differences_13 : decode cX4_differences 13 = .ok (.aload_n 0, 1) := by decide +kernel
theorem dX4_differences_14 : decode cX4_differences 14 = .ok (.iload_n 1, 1) := by decide +kernel
theorem dX4_differences_15 : decode cX4_differences 15 = .ok (.iload_n 2, 1) := by decide +kernel
theorem dX4_differences_16 : decode cX4_differences 16 = .ok (.iload 4, 2) := by decide +kernel
theorem dX4_differences_18 : decode cX4_differences 18 = .ok (.invokevirtual 145, 3) := by decide +kernel
theorem dX4_differences_21 : decode cX4_differences 21 = .ok (.invokestatic 149, 3) := by decide +kernel
theorem dX4_differences_24 : decode cX4_differences 24 = .ok (.iadd, 1) := by decide +kernel
theorem dX4_differences_25 : decode cX4_differences 25 = .ok (.istore_n 3, 1) := by decide +kernel
theorem dX4_differences_26 : decode cX4_differences 26 = .ok (.iinc 4 1, 3) := by decide +kernel
theorem dX4_differences_29 : decode cX4_differences 29 = .ok (.goto (-24), 3) := by decide +kernel
theorem dX4_differences_32 : decode cX4_differences 32 = .ok (.iload_n 3, 1) := by decide +kernel
theorem dX4_differences_33 : decode cX4_differences 33 = .ok (.ireturn, 1) := by decide +kernel
theorem dX4_faults_0 : decode cX4_faults 0 = .ok (.iconst 0, 1) := by decide +kernel
theorem dX4_faults_1 : decode cX4_faults 1 = .ok (.istore_n 2, 1) := by decide +kernel
theorem dX4_faults_2 : decode cX4_faults 2 = .ok (.iconst 0, 1) := by decide +kernel
theorem dX4_faults_3 : decode cX4_faults 3 = .ok (.istore_n 3, 1) := by decide +kernel
theorem dX4_faults_4 : decode cX4_faults 4 = .ok (.iload_n 3, 1) := by decide +kernel
theorem dX4_faults_5 : decode cX4_faults 5 = .ok (.bipush 16, 2) := by decide +kernel
theorem dX4_faults_7 : decode cX4_faults 7 = .ok (.if_icmp .ge 35, 3) := by decide +kernel
theorem dX4_faults_10 : decode cX4_faults 10 = .ok (.aload_n 0, 1) := by decide +kernel
theorem dX4_faults_11 : decode cX4_faults 11 = .ok (.iload_n 1, 1) := by decide +kernel
theorem dX4_faults_12 : decode cX4_faults 12 = .ok (.aload_n 0, 1) := by decide +kernel
theorem dX4_faults_13 : decode cX4_faults 13 = .ok (.getfield 12, 3) := by decide +kernel
theorem dX4_faults_16 : decode cX4_faults 16 = .ok (.getfield 62, 3) := by decide +kernel
theorem dX4_faults_19 : decode cX4_faults 19 = .ok (.iload_n 3, 1) := by decide +kernel
theorem dX4_faults_20 : decode cX4_faults 20 = .ok (.invokevirtual 145, 3) := by decide +kernel
theorem dX4_faults_23 : decode cX4_faults 23 = .ok (.invokestatic 149, 3) := by decide +kernel
theorem dX4_faults_26 : decode cX4_faults 26 = .ok (.aload_n 0, 1) := by decide +kernel
theorem dX4_faults_27 : decode cX4_faults 27 = .ok (.getfield 46, 3) := by decide +kernel
theorem dX4_faults_30 : decode cX4_faults 30 = .ok (.if_icmp .le 6, 3) := by decide +kernel
theorem dX4_faults_33 : decode cX4_faults 33 = .ok (.iinc 2 1, 3) := by decide +kernel
theorem dX4_faults_36 : decode cX4_faults 36 = .ok (.iinc 3 1, 3) := by decide +kernel
theorem dX4_faults_39 : decode cX4_faults 39 = .ok (.goto (-35), 3) := by decide +kernel
theorem dX4_faults_42 : decode cX4_faults 42 = .ok (.iload_n 2, 1) := by decide +kernel
theorem dX4_faults_43 : decode cX4_faults 43 = .ok (.ireturn, 1) := by decide +kernel
theorem dX4_isBetter_0 : decode cX4_isBetter 0 = .ok (.aload_n 0, 1) := by decide +kernel
theorem dX4_isBetter_1 : decode cX4_isBetter 1 = .ok (.iload_n 1, 1) := by decide +kernel
theorem dX4_isBetter_2 : decode cX4_isBetter 2 = .ok (.invokevirtual 152, 3) := by decide +kernel
theorem dX4_isBetter_5 : decode cX4_isBetter 5 = .ok (.istore_n 3, 1) := by decide +kernel
theorem dX4_isBetter_6 : decode cX4_isBetter 6 = .ok (.aload_n 0, 1) := by decide +kernel
theorem dX4_isBetter_7 : decode cX4_isBetter 7 = .ok (.iload_n 2, 1) := by decide +kernel
theorem dX4_isBetter_8 : decode cX4_isBetter 8 = .ok (.invokevirtual 152, 3) := by decide +kernel
theorem dX4_isBetter_11 : decode cX4_isBetter 11 = .ok (.istore 4, 2) := by decide +kernel
theorem dX4_isBetter_13 : decode cX4_isBetter 13 = .ok (.iload_n 3, 1) := by decide +kernel
theorem dX4_isBetter_14 : decode cX4_isBetter 14 = .ok (.iload 4, 2) := by decide +kernel
theorem dX4_isBetter_16 : decode cX4_isBetter 16 = .ok (.if_icmp .eq 15, 3) := by decide +kernel
theorem dX4_isBetter_19 : decode cX4_isBetter 19 = .ok (.iload_n 3, 1) := by decide +kernel
theorem dX4_isBetter_20 : decode cX4_isBetter 20 = .ok (.iload 4, 2) := by decide +kernel
theorem dX4_isBetter_22 : decode cX4_isBetter 22 = .ok (.if_icmp .ge 7, 3) := by decide +kernel
theorem dX4_isBetter_25 : decode cX4_isBetter 25 = .ok (.iconst 1, 1) := by decide +kernel
theorem dX4_isBetter_26 : decode cX4_isBetter 26 = .ok (.goto 4, 3) := by decide +kernel
theorem dX4_isBetter_29 : decode cX4_isBetter 29 = .ok (.iconst 0, 1) := by decide +kernel
theorem dX4_isBetter_30 : decode cX4_isBetter 30 = .ok (.ireturn, 1) := by decide +kernel
theorem dX4_isBetter_31 : decode cX4_isBetter 31 = .ok (.aload_n 0, 1) := by decide +kernel
theorem dX4_isBetter_32 : decode cX4_isBetter 32 = .ok (.iload_n 1, 1) := by decide +kernel
theorem dX4_isBetter_33 : decode cX4_isBetter 33 = .ok (.aload_n 0, 1) := by decide +kernel
theorem dX4_isBetter_34 : decode cX4_isBetter 34 = .ok (.getfield 12, 3) := by decide +kernel
theorem dX4_isBetter_37 : decode cX4_isBetter 37 = .ok (.getfield 62, 3) := by decide +kernel
theorem dX4_isBetter_40 : decode cX4_isBetter 40 = .ok (.invokevirtual 155, 3) := by decide +kernel
theorem dX4_isBetter_43 : decode cX4_isBetter 43 = .ok (.aload_n 0, 1) := by decide +kernel
theorem dX4_isBetter_44 : decode cX4_isBetter 44 = .ok (.iload_n 2, 1) := by decide +kernel
theorem dX4_isBetter_45 : decode cX4_isBetter 45 = .ok (.aload_n 0, 1) := by decide +kernel
theorem dX4_isBetter_46 : decode cX4_isBetter 46 = .ok (.getfield 12, 3) := by decide +kernel
theorem dX4_isBetter_49 : decode cX4_isBetter 49 = .ok (.getfield 62, 3) := by decide +kernel
theorem dX4_isBetter_52 : decode cX4_isBetter 52 = .ok (.invokevirtual 155, 3) := by decide +kernel
theorem dX4_isBetter_55 : decode cX4_isBetter 55 = .ok (.if_icmp .ge 7, 3) := by decide +kernel
theorem dX4_isBetter_58 : decode cX4_isBetter 58 = .ok (.iconst 1, 1) := by decide +kernel
theorem dX4_isBetter_59 : decode cX4_isBetter 59 = .ok (.goto 4, 3) := by decide +kernel
theorem dX4_isBetter_62 : decode cX4_isBetter 62 = .ok (.iconst 0, 1) := by decide +kernel
theorem dX4_isBetter_63 : decode cX4_isBetter 63 = .ok (.ireturn, 1) := by decide +kernel
theorem dX4_takeOver_0 : decode cX4_takeOver 0 = .ok (.aload_n 0, 1) := by decide +kernel
theorem dX4_takeOver_1 : decode cX4_takeOver 1 = .ok (.getfield 12, 3) := by decide +kernel
theorem dX4_takeOver_4 : decode cX4_takeOver 4 = .ok (.aload_n 1, 1) := by decide +kernel
theorem dX4_takeOver_5 : decode cX4_takeOver 5 = .ok (.getfield 12, 3) := by decide +kernel
theorem dX4_takeOver_8 : decode cX4_takeOver 8 = .ok (.invokevirtual 158, 3) := by decide +kernel
theorem dX4_takeOver_11 : decode cX4_takeOver 11 = .ok (.aload_n 0, 1) := by decide +kernel
theorem dX4_takeOver_12 : decode cX4_takeOver 12 = .ok (.getfield 21, 3) := by decide +kernel
theorem dX4_takeOver_15 : decode cX4_takeOver 15 = .ok (.aload_n 1, 1) := by decide +kernel
theorem dX4_takeOver_16 : decode cX4_takeOver 16 = .ok (.getfield 21, 3) := by decide +kernel
theorem dX4_takeOver_19 : decode cX4_takeOver 19 = .ok (.invokevirtual 162, 3) := by decide +kernel
theorem dX4_takeOver_22 : decode cX4_takeOver 22 = .ok (.aload_n 0, 1) := by decide +kernel
theorem dX4_takeOver_23 : decode cX4_takeOver 23 = .ok (.getfield 28, 3) := by decide +kernel
theorem dX4_takeOver_26 : decode cX4_takeOver 26 = .ok (.aload_n 1, 1) := by decide +kernel
theorem dX4_takeOver_27 : decode cX4_takeOver 27 = .ok (.getfield 28, 3) := by decide +kernel
theorem dX4_takeOver_30 : decode cX4_takeOver 30 = .ok (.invokevirtual 165, 3) := by decide +kernel
theorem dX4_takeOver_33 : decode cX4_takeOver 33 = .ok (.aload_n 0, 1) := by decide +kernel
theorem dX4_takeOver_34 : decode cX4_takeOver 34 = .ok (.getfield 35, 3) := by decide +kernel
theorem dX4_takeOver_37 : decode cX4_takeOver 37 = .ok (.aload_n 1, 1) := by decide +kernel
theorem dX4_takeOver_38 : decode cX4_takeOver 38 = .ok (.getfield 35, 3) := by decide +kernel
theorem dX4_takeOver_41 : decode cX4_takeOver 41 = .ok (.invokevirtual 168, 3) := by decide +kernel
theorem dX4_takeOver_44 : decode cX4_takeOver 44 = .ok (.aload_n 0, 1) := by decide +kernel
theorem dX4_takeOver_45 : decode cX4_takeOver 45 = .ok (.getfield 42, 3) := by decide +kernel
theorem dX4_takeOver_48 : decode cX4_takeOver 48 = .ok (.aload_n 1, 1) := by decide +kernel
theorem dX4_takeOver_49 : decode cX4_takeOver 49 = .ok (.getfield 42, 3) := by decide +kernel
theorem dX4_takeOver_52 : decode cX4_takeOver 52 = .ok (.invokevirtual 171, 3) := by decide +kernel
theorem dX4_takeOver_55 : decode cX4_takeOver 55 = .ok (.aload_n 0, 1) := by decide +kernel
theorem dX4_takeOver_56 : decode cX4_takeOver 56 = .ok (.aload_n 1, 1) := by decide +kernel
theorem dX4_takeOver_57 : decode cX4_takeOver 57 = .ok (.getfield 46, 3) := by decide +kernel
theorem dX4_takeOver_60 : decode cX4_takeOver 60 = .ok (.putfield 46, 3) := by decide +kernel
theorem dX4_takeOver_63 : decode cX4_takeOver 63 = .ok (.aload_n 0, 1) := by decide +kernel
theorem dX4_takeOver_64 : decode cX4_takeOver 64 = .ok (.aload_n 1, 1) := by decide +kernel
theorem dX4_takeOver_65 : decode cX4_takeOver 65 = .ok (.getfield 135, 3) := by decide +kernel
theorem dX4_takeOver_68 : decode cX4_takeOver 68 = .ok (.putfield 135, 3) := by decide +kernel
theorem dX4_takeOver_71 : decode cX4_takeOver 71 = .ok (.aload_n 0, 1) := by decide +kernel
theorem dX4_takeOver_72 : decode cX4_takeOver 72 = .ok (.aload_n 1, 1) := by decide +kernel
theorem dX4_takeOver_73 : decode cX4_takeOver 73 = .ok (.getfield 85, 3) := by decide +kernel
theorem dX4_takeOver_76 : decode cX4_takeOver 76 = .ok (.putfield 85, 3) := by decide +kernel
theorem dX4_takeOver_79 : decode cX4_takeOver 79 = .ok (.return_, 1) := by decide +kernel
theorem dX5_init_0 : decode cX5_init 0 = .ok (.aload_n 0, 1) := by decide +kernel
theorem dX5_init_1 : decode cX5_init 1 = .ok (.invokespecial 3, 3) := by decide +kernel
theorem dX5_init_4 : decode cX5_init 4 = .ok (.aload_n 0, 1) := by decide +kernel
theorem dX5_init_5 : decode cX5_init 5 = .ok (.new 9, 3) := by decide +kernel
theorem dX5_init_8 : decode cX5_init 8 = .ok (.dup, 1) := by decide +kernel
theorem dX5_init_9 : decode cX5_init 9 = .ok (.bipush 60, 2) := by decide +kernel
theorem dX5_init_11 : decode cX5_init 11 = .ok (.invokespecial 11, 3) := by decide +kernel
theorem dX5_init_14 : decode cX5_init 14 = .ok (.putfield 14, 3) := by decide +kernel
theorem dX5_init_17 : decode cX5_init 17 = .ok (.aload_n 0, 1) := by decide +kernel
theorem dX5_init_18 : decode cX5_init 18 = .ok (.new 9, 3) := by decide +kernel
theorem dX5_init_21 : decode cX5_init 21 = .ok (.dup, 1) := by decide +kernel
theorem dX5_init_22 : decode cX5_init 22 = .ok (.bipush 16, 2) := by decide +kernel
theorem dX5_init_24 : decode cX5_init 24 = .ok (.invokespecial 11, 3) := by decide +kernel
theorem dX5_init_27 : decode cX5_init 27 = .ok (.putfield 20, 3) := by decide +kernel
theorem dX5_init_30 : decode cX5_init 30 = .ok (.return_, 1) := by decide +kernel
theorem dX6_init_0 : decode cX6_init 0 = .ok (.aload_n 0, 1) := by decide +kernel
theorem dX6_init_1 : decode cX6_init 1 = .ok (.invokespecial 3, 3) := by decide +kernel
theorem dX6_init_4 : decode cX6_init 4 = .ok (.aload_n 0, 1) := by decide +kernel
theorem dX6_init_5 : decode cX6_init 5 = .ok (.bipush 48, 2) := by decide +kernel
theorem dX6_init_7 : decode cX6_init 7 = .ok (.newarray .int, 2) := by decide +kernel
theorem dX6_init_9 : decode cX6_init 9 = .ok (.putfield 9, 3) := by decide +kernel
theorem dX6_init_12 : decode cX6_init 12 = .ok (.iconst 0, 1) := by decide +kernel
theorem dX6_init_13 : decode cX6_init 13 = .ok (.istore_n 1, 1) := by decide +kernel
theorem dX6_init_14 : decode cX6_init 14 = .ok (.iload_n 1, 1) := by decide +kernel
theorem dX6_init_15 : decode cX6_init 15 = .ok (.aload_n 0, 1) := by decide +kernel
theorem dX6_init_16 : decode cX6_init 16 = .ok (.getfield 9, 3) := by decide +kernel
theorem dX6_init_19 : decode cX6_init 19 = .ok (.arraylength, 1) := by decide +kernel
theorem dX6_init_20 : decode cX6_init 20 = .ok (.if_icmp .ge 17, 3) := by decide +kernel
theorem dX6_init_23 : decode cX6_init 23 = .ok (.aload_n 0, 1) := by decide +kernel
theorem dX6_init_24 : decode cX6_init 24 = .ok (.getfield 9, 3) := by decide +kernel
theorem dX6_init_27 : decode cX6_init 27 = .ok (.iload_n 1, 1) := by decide +kernel
theorem dX6_init_28 : decode cX6_init 28 = .ok (.bipush 30, 2) := by decide +kernel
theorem dX6_init_30 : decode cX6_init 30 = .ok (.iastore, 1) := by decide +kernel
theorem dX6_init_31 : decode cX6_init 31 = .ok (.iinc 1 1, 3) := by decide +kernel
theorem dX6_init_34 : decode cX6_init 34 = .ok (.goto (-20), 3) := by decide +kernel
theorem dX6_init_37 : decode cX6_init 37 = .ok (.return_, 1) := by decide +kernel
theorem dX6_at_0 : decode cX6_at 0 = .ok (.iload_n 1, 1) := by decide +kernel
theorem dX6_at_1 : decode cX6_at 1 = .ok (.bipush 16, 2) := by decide +kernel
theorem dX6_at_3 : decode cX6_at 3 = .ok (.imul, 1) := by decide +kernel
theorem dX6_at_4 : decode cX6_at 4 = .ok (.iload_n 2, 1) := by decide +kernel
theorem dX6_at_5 : decode cX6_at 5 = .ok (.iadd, 1) := by decide +kernel
theorem dX6_at_6 : decode cX6_at 6 = .ok (.istore_n 3, 1) := by decide +kernel
theorem dX6_at_7 : decode cX6_at 7 = .ok (.iload_n 3, 1) := by decide +kernel
theorem dX6_at_8 : decode cX6_at 8 = .ok (.ifCond .lt 21, 3) := by decide +kernel
theorem dX6_at_11 : decode cX6_at 11 = .ok (.iload_n 3, 1) := by decide +kernel
theorem dX6_at_12 : decode cX6_at 12 = .ok (.aload_n 0, 1) := by decide +kernel
theorem dX6_at_13 : decode cX6_at 13 = .ok (.getfield 9, 3) := by decide +kernel
theorem dX6_at_16 : decode cX6_at 16 = .ok (.arraylength, 1) := by decide +kernel
theorem dX6_at_17 : decode cX6_at 17 = .ok (.if_icmp .ge 12, 3) := by decide +kernel
theorem dX6_at_20 : decode cX6_at 20 = .ok (.aload_n 0, 1) := by decide +kernel
theorem dX6_at_21 : decode cX6_at 21 = .ok (.getfield 9, 3) := by decide +kernel
theorem dX6_at_24 : decode cX6_at 24 = .ok (.iload_n 3, 1) := by decide +kernel
theorem dX6_at_25 : decode cX6_at 25 = .ok (.iaload, 1) := by decide +kernel
theorem dX6_at_26 : decode cX6_at 26 = .ok (.goto 4, 3) := by decide +kernel
theorem dX6_at_29 : decode cX6_at 29 = .ok (.iconst 0, 1) := by decide +kernel
theorem dX6_at_30 : decode cX6_at 30 = .ok (.ireturn, 1) := by decide +kernel
theorem dX6_put_0 : decode cX6_put 0 = .ok (.iload_n 1, 1) := by decide +kernel
theorem dX6_put_1 : decode cX6_put 1 = .ok (.bipush 16, 2) := by decide +kernel
theorem dX6_put_3 : decode cX6_put 3 = .ok (.imul, 1) := by decide +kernel
theorem dX6_put_4 : decode cX6_put 4 = .ok (.iload_n 2, 1) := by decide +kernel
theorem dX6_put_5 : decode cX6_put 5 = .ok (.iadd, 1) := by decide +kernel
theorem dX6_put_6 : decode cX6_put 6 = .ok (.istore 4, 2) := by decide +kernel
theorem dX6_put_8 : decode cX6_put 8 = .ok (.iload 4, 2) := by decide +kernel
theorem dX6_put_10 : decode cX6_put 10 = .ok (.ifCond .lt 21, 3) := by decide +kernel
theorem dX6_put_13 : decode cX6_put 13 = .ok (.iload 4, 2) := by decide +kernel
theorem dX6_put_15 : decode cX6_put 15 = .ok (.aload_n 0, 1) := by decide +kernel
theorem dX6_put_16 : decode cX6_put 16 = .ok (.getfield 9, 3) := by decide +kernel
theorem dX6_put_19 : decode cX6_put 19 = .ok (.arraylength, 1) := by decide +kernel
theorem dX6_put_20 : decode cX6_put 20 = .ok (.if_icmp .ge 11, 3) := by decide +kernel
theorem dX6_put_23 : decode cX6_put 23 = .ok (.aload_n 0, 1) := by decide +kernel
theorem dX6_put_24 : decode cX6_put 24 = .ok (.getfield 9, 3) := by decide +kernel
theorem dX6_put_27 : decode cX6_put 27 = .ok (.iload 4, 2) := by decide +kernel
theorem dX6_put_29 : decode cX6_put 29 = .ok (.iload_n 3, 1) := by decide +kernel
theorem dX6_put_30 : decode cX6_put 30 = .ok (.iastore, 1) := by decide +kernel
theorem dX6_put_31 : decode cX6_put 31 = .ok (.return_, 1) := by decide +kernel
theorem dX6_chosenAt_0 : decode cX6_chosenAt 0 = .ok (.aload_n 0, 1) := by decide +kernel
theorem dX6_chosenAt_1 : decode cX6_chosenAt 1 = .ok (.aload_n 0, 1) := by decide +kernel
theorem dX6_chosenAt_2 : decode cX6_chosenAt 2 = .ok (.getfield 15, 3) := by decide +kernel
theorem dX6_chosenAt_5 : decode cX6_chosenAt 5 = .ok (.iload_n 1, 1) := by decide +kernel
theorem dX6_chosenAt_6 : decode cX6_chosenAt 6 = .ok (.invokevirtual 19, 3) := by decide +kernel
theorem dX6_chosenAt_9 : decode cX6_chosenAt 9 = .ok (.ireturn, 1) := by decide +kernel
theorem dX6_makeAlike_0 : decode cX6_makeAlike 0 = .ok (.iconst 0, 1) := by decide +kernel
theorem dX6_makeAlike_1 : decode cX6_makeAlike 1 = .ok (.istore_n 3, 1) := by decide +kernel
theorem dX6_makeAlike_2 : decode cX6_makeAlike 2 = .ok (.iconst 0, 1) := by decide +kernel
theorem dX6_makeAlike_3 : decode cX6_makeAlike 3 = .ok (.istore 4, 2) := by decide +kernel
theorem dX6_makeAlike_5 : decode cX6_makeAlike 5 = .ok (.iload 4, 2) := by decide +kernel
theorem dX6_makeAlike_7 : decode cX6_makeAlike 7 = .ok (.bipush 16, 2) := by decide +kernel
theorem dX6_makeAlike_9 : decode cX6_makeAlike 9 = .ok (.if_icmp .ge 43, 3) := by decide +kernel
theorem dX6_makeAlike_12 : decode cX6_makeAlike 12 = .ok (.aload_n 0, 1) := by decide +kernel
theorem dX6_makeAlike_13 : decode cX6_makeAlike 13 = .ok (.iload_n 1, 1) := by decide +kernel
theorem dX6_makeAlike_14 : decode cX6_makeAlike 14 = .ok (.iload 4, 2) := by decide +kernel
theorem dX6_makeAlike_16 : decode cX6_makeAlike 16 = .ok (.invokevirtual 19, 3) := by decide +kernel
theorem dX6_makeAlike_19 : decode cX6_makeAlike 19 = .ok (.aload_n 0, 1) := by decide +kernel
theorem dX6_makeAlike_20 : decode cX6_makeAlike 20 = .ok (.iload_n 2, 1) := by decide +kernel
theorem dX6_makeAlike_21 : decode cX6_makeAlike 21 = .ok (.iload 4, 2) := by decide +kernel
theorem dX6_makeAlike_23 : decode cX6_makeAlike 23 = .ok (.invokevirtual 19, 3) := by decide +kernel
theorem dX6_makeAlike_26 : decode cX6_makeAlike 26 = .ok (.if_icmp .eq 6, 3) := by decide +kernel
theorem dX6_makeAlike_29 : decode cX6_makeAlike 29 = .ok (.iinc 3 1, 3) := by decide +kernel
theorem dX6_makeAlike_32 : decode cX6_makeAlike 32 = .ok (.aload_n 0, 1) := by decide +kernel
theorem dX6_makeAlike_33 : decode cX6_makeAlike 33 = .ok (.iload_n 2, 1) := by decide +kernel
theorem dX6_makeAlike_34 : decode cX6_makeAlike 34 = .ok (.iload 4, 2) := by decide +kernel
theorem dX6_makeAlike_36 : decode cX6_makeAlike 36 = .ok (.aload_n 0, 1) := by decide +kernel
theorem dX6_makeAlike_37 : decode cX6_makeAlike 37 = .ok (.iload_n 1, 1) := by decide +kernel
theorem dX6_makeAlike_38 : decode cX6_makeAlike 38 = .ok (.iload 4, 2) := by decide +kernel
theorem dX6_makeAlike_40 : decode cX6_makeAlike 40 = .ok (.invokevirtual 19, 3) := by decide +kernel
theorem dX6_makeAlike_43 : decode cX6_makeAlike 43 = .ok (.invokevirtual 23, 3) := by decide +kernel
theorem dX6_makeAlike_46 : decode cX6_makeAlike 46 = .ok (.iinc 4 1, 3) := by decide +kernel
theorem dX6_makeAlike_49 : decode cX6_makeAlike 49 = .ok (.goto (-44), 3) := by decide +kernel
theorem dX6_makeAlike_52 : decode cX6_makeAlike 52 = .ok (.iload_n 3, 1) := by decide +kernel
theorem dX6_makeAlike_53 : decode cX6_makeAlike 53 = .ok (.ireturn, 1) := by decide +kernel
theorem dX6_turnRound_0 : decode cX6_turnRound 0 = .ok (.iconst 0, 1) := by decide +kernel
theorem dX6_turnRound_1 : decode cX6_turnRound 1 = .ok (.istore_n 2, 1) := by decide +kernel
theorem dX6_turnRound_2 : decode cX6_turnRound 2 = .ok (.iconst 0, 1) := by decide +kernel
theorem dX6_turnRound_3 : decode cX6_turnRound 3 = .ok (.istore_n 3, 1) := by decide +kernel
theorem dX6_turnRound_4 : decode cX6_turnRound 4 = .ok (.iload_n 3, 1) := by decide +kernel
theorem dX6_turnRound_5 : decode cX6_turnRound 5 = .ok (.bipush 8, 2) := by decide +kernel
theorem dX6_turnRound_7 : decode cX6_turnRound 7 = .ok (.if_icmp .ge 60, 3) := by decide +kernel
theorem dX6_turnRound_10 : decode cX6_turnRound 10 = .ok (.bipush 15, 2) := by decide +kernel
theorem dX6_turnRound_12 : decode cX6_turnRound 12 = .ok (.iload_n 3, 1) := by decide +kernel
theorem dX6_turnRound_13 : decode cX6_turnRound 13 = .ok (.isub, 1) := by decide +kernel
theorem dX6_turnRound_14 : decode cX6_turnRound 14 = .ok (.istore 4, 2) := by decide +kernel
theorem dX6_turnRound_16 : decode cX6_turnRound 16 = .ok (.aload_n 0, 1) := by decide +kernel
theorem dX6_turnRound_17 : decode cX6_turnRound 17 = .ok (.iload_n 1, 1) := by decide +kernel
theorem dX6_turnRound_18 : decode cX6_turnRound 18 = .ok (.iload_n 3, 1) := by decide +kernel
theorem dX6_turnRound_19 : decode cX6_turnRound 19 = .ok (.invokevirtual 19, 3) := by decide +kernel
theorem dX6_turnRound_22 : decode cX6_turnRound 22 = .ok (.istore 5, 2) := by decide +kernel
theorem dX6_turnRound_24 : decode cX6_turnRound 24 = .ok (.iload 5, 2) := by decide +kernel
theorem dX6_turnRound_26 : decode cX6_turnRound 26 = .ok (.aload_n 0, 1) := by decide +kernel
theorem dX6_turnRound_27 : decode cX6_turnRound 27 = .ok (.iload_n 1, 1) := by decide +kernel
theorem dX6_turnRound_28 : decode cX6_turnRound 28 = .ok (.iload 4, 2) := by decide +kernel
theorem dX6_turnRound_30 : decode cX6_turnRound 30 = .ok (.invokevirtual 19, 3) := by decide +kernel
theorem dX6_turnRound_33 : decode cX6_turnRound 33 = .ok (.if_icmp .eq 6, 3) := by decide +kernel
theorem dX6_turnRound_36 : decode cX6_turnRound 36 = .ok (.iinc 2 2, 3) := by decide +kernel
theorem dX6_turnRound_39 : decode cX6_turnRound 39 = .ok (.aload_n 0, 1) := by decide +kernel
theorem dX6_turnRound_40 : decode cX6_turnRound 40 = .ok (.iload_n 1, 1) := by decide +kernel
theorem dX6_turnRound_41 : decode cX6_turnRound 41 = .ok (.iload_n 3, 1) := by decide +kernel
theorem dX6_turnRound_42 : decode cX6_turnRound 42 = .ok (.aload_n 0, 1) := by decide +kernel
theorem dX6_turnRound_43 : decode cX6_turnRound 43 = .ok (.iload_n 1, 1) := by decide +kernel
theorem dX6_turnRound_44 : decode cX6_turnRound 44 = .ok (.iload 4, 2) := by decide +kernel
theorem dX6_turnRound_46 : decode cX6_turnRound 46 = .ok (.invokevirtual 19, 3) := by decide +kernel
theorem dX6_turnRound_49 : decode cX6_turnRound 49 = .ok (.invokevirtual 23, 3) := by decide +kernel
theorem dX6_turnRound_52 : decode cX6_turnRound 52 = .ok (.aload_n 0, 1) := by decide +kernel
theorem dX6_turnRound_53 : decode cX6_turnRound 53 = .ok (.iload_n 1, 1) := by decide +kernel
theorem dX6_turnRound_54 : decode cX6_turnRound 54 = .ok (.iload 4, 2) := by decide +kernel
theorem dX6_turnRound_56 : decode cX6_turnRound 56 = .ok (.iload 5, 2) := by decide +kernel
theorem dX6_turnRound_58 : decode cX6_turnRound 58 = .ok (.invokevirtual 23, 3) := by decide +kernel
theorem dX6_turnRound_61 : decode cX6_turnRound 61 = .ok (.iinc 3 1, 3) := by decide +kernel
theorem dX6_turnRound_64 : decode cX6_turnRound 64 = .ok (.goto (-60), 3) := by decide +kernel
theorem dX6_turnRound_67 : decode cX6_turnRound 67 = .ok (.iload_n 2, 1) := by decide +kernel
theorem dX6_turnRound_68 : decode cX6_turnRound 68 = .ok (.ireturn, 1) := by decide +kernel
theorem dX6_takeOver_0 : decode cX6_takeOver 0 = .ok (.iconst 0, 1) := by decide +kernel
theorem dX6_takeOver_1 : decode cX6_takeOver 1 = .ok (.istore_n 2, 1) := by decide +kernel
theorem dX6_takeOver_2 : decode cX6_takeOver 2 = .ok (.iload_n 2, 1) := by decide +kernel
theorem dX6_takeOver_3 : decode cX6_takeOver 3 = .ok (.iconst 3, 1) := by decide +kernel
theorem dX6_takeOver_4 : decode cX6_takeOver 4 = .ok (.if_icmp .ge 35, 3) := by decide +kernel
theorem dX6_takeOver_7 : decode cX6_takeOver 7 = .ok (.iconst 0, 1) := by decide +kernel
theorem dX6_takeOver_8 : decode cX6_takeOver 8 = .ok (.istore_n 3, 1) := by decide +kernel
theorem dX6_takeOver_9 : decode cX6_takeOver 9 = .ok (.iload_n 3, 1) := by decide +kernel
theorem dX6_takeOver_10 : decode cX6_takeOver 10 = .ok (.bipush 16, 2) := by decide +kernel
theorem dX6_takeOver_12 : decode cX6_takeOver 12 = .ok (.if_icmp .ge 21, 3) := by decide +kernel
theorem dX6_takeOver_15 : decode cX6_takeOver 15 = .ok (.aload_n 0, 1) := by decide +kernel
theorem dX6_takeOver_16 : decode cX6_takeOver 16 = .ok (.iload_n 2, 1) := by decide +kernel
theorem dX6_takeOver_17 : decode cX6_takeOver 17 = .ok (.iload_n 3, 1) := by decide +kernel
theorem dX6_takeOver_18 : decode cX6_takeOver 18 = .ok (.aload_n 1, 1) := by decide +kernel
theorem dX6_takeOver_19 : decode cX6_takeOver 19 = .ok (.iload_n 2, 1) := by decide +kernel
theorem dX6_takeOver_20 : decode cX6_takeOver 20 = .ok (.iload_n 3, 1) := by decide +kernel
theorem dX6_takeOver_21 : decode cX6_takeOver 21 = .ok (.invokevirtual 19, 3) := by decide +kernel
theorem dX6_takeOver_24 : decode cX6_takeOver 24 = .ok (.invokevirtual 23, 3) := by decide +kernel
theorem dX6_takeOver_27 : decode cX6_takeOver 27 = .ok (.iinc 3 1, 3) := by decide +kernel
theorem dX6_takeOver_30 : decode cX6_takeOver 30 = .ok (.goto (-21), 3) := by decide +kernel
theorem dX6_takeOver_33 : decode cX6_takeOver 33 = .ok (.iinc 2 1, 3) := by decide +kernel
theorem dX6_takeOver_36 : decode cX6_takeOver 36 = .ok (.goto (-34), 3) := by decide +kernel
theorem dX6_takeOver_39 : decode cX6_takeOver 39 = .ok (.aload_n 0, 1) := by decide +kernel
theorem dX6_takeOver_40 : decode cX6_takeOver 40 = .ok (.aload_n 1, 1) := by decide +kernel
theorem dX6_takeOver_41 : decode cX6_takeOver 41 = .ok (.getfield 15, 3) := by decide +kernel
theorem dX6_takeOver_44 : decode cX6_takeOver 44 = .ok (.putfield 15, 3) := by decide +kernel
theorem dX6_takeOver_47 : decode cX6_takeOver 47 = .ok (.return_, 1) := by decide +kernel
theorem dX7_init_0 : decode cX7_init 0 = .ok (.aload_n 0, 1) := by decide +kernel
theorem dX7_init_1 : decode cX7_init 1 = .ok (.invokespecial 3, 3) := by decide +kernel
theorem dX7_init_4 : decode cX7_init 4 = .ok (.aload_n 0, 1) := by decide +kernel
theorem dX7_init_5 : decode cX7_init 5 = .ok (.new 9, 3) := by decide +kernel
theorem dX7_init_8 : decode cX7_init 8 = .ok (.dup, 1) := by decide +kernel
theorem dX7_init_9 : decode cX7_init 9 = .ok (.bipush 80, 2) := by decide +kernel
theorem dX7_init_11 : decode cX7_init 11 = .ok (.invokespecial 11, 3) := by decide +kernel
theorem dX7_init_14 : decode cX7_init 14 = .ok (.putfield 14, 3) := by decide +kernel
theorem dX7_init_17 : decode cX7_init 17 = .ok (.aload_n 0, 1) := by decide +kernel
theorem dX7_init_18 : decode cX7_init 18 = .ok (.new 9, 3) := by decide +kernel
theorem dX7_init_21 : decode cX7_init 21 = .ok (.dup, 1) := by decide +kernel
theorem dX7_init_22 : decode cX7_init 22 = .ok (.iconst 5, 1) := by decide +kernel
theorem dX7_init_23 : decode cX7_init 23 = .ok (.invokespecial 11, 3) := by decide +kernel
theorem dX7_init_26 : decode cX7_init 26 = .ok (.putfield 20, 3) := by decide +kernel
theorem dX7_init_29 : decode cX7_init 29 = .ok (.aload_n 0, 1) := by decide +kernel
theorem dX7_init_30 : decode cX7_init 30 = .ok (.new 9, 3) := by decide +kernel
theorem dX7_init_33 : decode cX7_init 33 = .ok (.dup, 1) := by decide +kernel
theorem dX7_init_34 : decode cX7_init 34 = .ok (.iconst 5, 1) := by decide +kernel
theorem dX7_init_35 : decode cX7_init 35 = .ok (.invokespecial 11, 3) := by decide +kernel
theorem dX7_init_38 : decode cX7_init 38 = .ok (.putfield 23, 3) := by decide +kernel
theorem dX7_init_41 : decode cX7_init 41 = .ok (.aload_n 0, 1) := by decide +kernel
theorem dX7_init_42 : decode cX7_init 42 = .ok (.iconst (-1), 1) := by decide +kernel
theorem dX7_init_43 : decode cX7_init 43 = .ok (.putfield 26, 3) := by decide +kernel
theorem dX7_init_46 : decode cX7_init 46 = .ok (.return_, 1) := by decide +kernel
theorem dX7_isTurning_0 : decode cX7_isTurning 0 = .ok (.aload_n 0, 1) := by decide +kernel
theorem dX7_isTurning_1 : decode cX7_isTurning 1 = .ok (.getfield 26, 3) := by decide +kernel
theorem dX7_isTurning_4 : decode cX7_isTurning 4 = .ok (.iconst (-1), 1) := by decide +kernel
theorem dX7_isTurning_5 : decode cX7_isTurning 5 = .ok (.if_icmp .eq 7, 3) := by decide +kernel
theorem dX7_isTurning_8 : decode cX7_isTurning 8 = .ok (.iconst 1, 1) := by decide +kernel
theorem dX7_isTurning_9 : decode cX7_isTurning 9 = .ok (.goto 4, 3) := by decide +kernel
theorem dX7_isTurning_12 : decode cX7_isTurning 12 = .ok (.iconst 0, 1) := by decide +kernel
theorem dX7_isTurning_13 : decode cX7_isTurning 13 = .ok (.ireturn, 1) := by decide +kernel
theorem dX7_at_0 : decode cX7_at 0 = .ok (.aload_n 0, 1) := by decide +kernel
theorem dX7_at_1 : decode cX7_at 1 = .ok (.getfield 14, 3) := by decide +kernel
theorem dX7_at_4 : decode cX7_at 4 = .ok (.iload_n 1, 1) := by decide +kernel
theorem dX7_at_5 : decode cX7_at 5 = .ok (.bipush 16, 2) := by decide +kernel
theorem dX7_at_7 : decode cX7_at 7 = .ok (.imul, 1) := by decide +kernel
theorem dX7_at_8 : decode cX7_at 8 = .ok (.iload_n 2, 1) := by decide +kernel
theorem dX7_at_9 : decode cX7_at 9 = .ok (.iadd, 1) := by decide +kernel
theorem dX7_at_10 : decode cX7_at 10 = .ok (.invokevirtual 30, 3) := by decide +kernel
theorem dX7_at_13 : decode cX7_at 13 = .ok (.ireturn, 1) := by decide +kernel
theorem dX7_thin_0 : decode cX7_thin 0 = .ok (.aload_n 0, 1) := by decide +kernel
theorem dX7_thin_1 : decode cX7_thin 1 = .ok (.getfield 14, 3) := by decide +kernel
theorem dX7_thin_4 : decode cX7_thin 4 = .ok (.iload_n 1, 1) := by decide +kernel
theorem dX7_thin_5 : decode cX7_thin 5 = .ok (.bipush 16, 2) := by decide +kernel
theorem dX7_thin_7 : decode cX7_thin 7 = .ok (.imul, 1) := by decide +kernel
theorem dX7_thin_8 : decode cX7_thin 8 = .ok (.iload_n 2, 1) := by decide +kernel
theorem dX7_thin_9 : decode cX7_thin 9 = .ok (.iadd, 1) := by decide +kernel
theorem dX7_thin_10 : decode cX7_thin 10 = .ok (.iload_n 3, 1) := by decide +kernel
theorem dX7_thin_11 : decode cX7_thin 11 = .ok (.ineg, 1) := by decide +kernel
theorem dX7_thin_12 : decode cX7_thin 12 = .ok (.invokevirtual 34, 3) := by decide +kernel
theorem dX7_thin_15 : decode cX7_thin 15 = .ok (.return_, 1) := by decide +kernel
theorem dX7_sumOf_0 : decode cX7_sumOf 0 = .ok (.iconst 0, 1) := by decide +kernel
theorem dX7_sumOf_1 : decode cX7_sumOf 1 = .ok (.istore_n 2, 1) := by decide +kernel
theorem dX7_sumOf_2 : decode cX7_sumOf 2 = .ok (.iconst 0, 1) := by decide +kernel
theorem dX7_sumOf_3 : decode cX7_sumOf 3 = .ok (.istore_n 3, 1) := by decide +kernel
theorem dX7_sumOf_4 : decode cX7_sumOf 4 = .ok (.iload_n 3, 1) := by decide +kernel
theorem dX7_sumOf_5 : decode cX7_sumOf 5 = .ok (.bipush 16, 2) := by decide +kernel
theorem dX7_sumOf_7 : decode cX7_sumOf 7 = .ok (.if_icmp .ge 18, 3) := by decide +kernel
theorem dX7_sumOf_10 : decode cX7_sumOf 10 = .ok (.iload_n 2, 1) := by decide +kernel
theorem dX7_sumOf_11 : decode cX7_sumOf 11 = .ok (.aload_n 0, 1) := by decide +kernel
theorem dX7_sumOf_12 : decode cX7_sumOf 12 = .ok (.iload_n 1, 1) := by decide +kernel
theorem dX7_sumOf_13 : decode cX7_sumOf 13 = .ok (.iload_n 3, 1) := by decide +kernel
theorem dX7_sumOf_14 : decode cX7_sumOf 14 = .ok (.invokevirtual 38, 3) := by decide +kernel
theorem dX7_sumOf_17 : decode cX7_sumOf 17 = .ok (.iadd, 1) := by decide +kernel
theorem dX7_sumOf_18 : decode cX7_sumOf 18 = .ok (.istore_n 2, 1) := by decide +kernel
theorem dX7_sumOf_19 : decode cX7_sumOf 19 = .ok (.iinc 3 1, 3) := by decide +kernel
theorem dX7_sumOf_22 : decode cX7_sumOf 22 = .ok (.goto (-18), 3) := by decide +kernel
theorem dX7_sumOf_25 : decode cX7_sumOf 25 = .ok (.iload_n 2, 1) := by decide +kernel
theorem dX7_sumOf_26 : decode cX7_sumOf 26 = .ok (.ireturn, 1) := by decide +kernel
theorem dX7_hardness_0 : decode cX7_hardness 0 = .ok (.aload_n 0, 1) := by decide +kernel
theorem dX7_hardness_1 : decode cX7_hardness 1 = .ok (.getfield 20, 3) := by decide +kernel
theorem dX7_hardness_4 : decode cX7_hardness 4 = .ok (.iload_n 1, 1) := by decide +kernel
theorem dX7_hardness_5 : decode cX7_hardness 5 = .ok (.invokevirtual 30, 3) := by decide +kernel
theorem dX7_hardness_8 : decode cX7_hardness 8 = .ok (.istore_n 2, 1) := by decide +kernel
theorem dX7_hardness_9 : decode cX7_hardness 9 = .ok (.iload_n 2, 1) := by decide +kernel
theorem dX7_hardness_10 : decode cX7_hardness 10 = .ok (.ifCond .lt 19, 3) := by decide +kernel
theorem dX7_hardness_13 : decode cX7_hardness 13 = .ok (.iload_n 2, 1) := by decide +kernel
theorem dX7_hardness_14 : decode cX7_hardness 14 = .ok (.getstatic 48, 3) := by decide +kernel
theorem dX7_hardness_17 : decode cX7_hardness 17 = .ok (.arraylength, 1) := by decide +kernel
theorem dX7_hardness_18 : decode cX7_hardness 18 = .ok (.if_icmp .ge 11, 3) := by decide +kernel
theorem dX7_hardness_21 : decode cX7_hardness 21 = .ok (.getstatic 48, 3) := by decide +kernel
theorem dX7_hardness_24 : decode cX7_hardness 24 = .ok (.iload_n 2, 1) := by decide +kernel
theorem dX7_hardness_25 : decode cX7_hardness 25 = .ok (.iaload, 1) := by decide +kernel
theorem dX7_hardness_26 : decode cX7_hardness 26 = .ok (.goto 4, 3) := by decide +kernel
theorem dX7_hardness_29 : decode cX7_hardness 29 = .ok (.iconst 0, 1) := by decide +kernel
theorem dX7_hardness_30 : decode cX7_hardness 30 = .ok (.ireturn, 1) := by decide +kernel
theorem dX7_add_0 : decode cX7_add 0 = .ok (.aload_n 0, 1) := by decide +kernel
theorem dX7_add_1 : decode cX7_add 1 = .ok (.getfield 51, 3) := by decide +kernel
theorem dX7_add_4 : decode cX7_add 4 = .ok (.istore_n 3, 1) := by decide +kernel
theorem dX7_add_5 : decode cX7_add 5 = .ok (.aload_n 0, 1) := by decide +kernel
theorem dX7_add_6 : decode cX7_add 6 = .ok (.getfield 20, 3) := by decide +kernel
theorem dX7_add_9 : decode cX7_add 9 = .ok (.iload_n 3, 1) := by decide +kernel
theorem dX7_add_10 : decode cX7_add 10 = .ok (.iload_n 1, 1) := by decide +kernel
theorem dX7_add_11 : decode cX7_add 11 = .ok (.invokevirtual 54, 3) := by decide +kernel
theorem dX7_add_14 : decode cX7_add 14 = .ok (.aload_n 0, 1) := by decide +kernel
theorem dX7_add_15 : decode cX7_add 15 = .ok (.getfield 23, 3) := by decide +kernel
theorem dX7_add_18 : decode cX7_add 18 = .ok (.iload_n 3, 1) := by decide +kernel
theorem dX7_add_19 : decode cX7_add 19 = .ok (.iconst 0, 1) := by decide +kernel
theorem dX7_add_20 : decode cX7_add 20 = .ok (.invokevirtual 54, 3) := by decide +kernel
theorem dX7_add_23 : decode cX7_add 23 = .ok (.iconst 0, 1) := by decide +kernel
theorem dX7_add_24 : decode cX7_add 24 = .ok (.istore 4, 2) := by decide +kernel
theorem dX7_add_26 : decode cX7_add 26 = .ok (.iload 4, 2) := by decide +kernel
theorem dX7_add_28 : decode cX7_add 28 = .ok (.bipush 16, 2) := by decide +kernel
theorem dX7_add_30 : decode cX7_add 30 = .ok (.if_icmp .ge 24, 3) := by decide +kernel
theorem dX7_add_33 : decode cX7_add 33 = .ok (.aload_n 0, 1) := by decide +kernel
theorem dX7_add_34 : decode cX7_add 34 = .ok (.getfield 14, 3) := by decide +kernel
theorem dX7_add_37 : decode cX7_add 37 = .ok (.iload_n 3, 1) := by decide +kernel
theorem dX7_add_38 : decode cX7_add 38 = .ok (.bipush 16, 2) := by decide +kernel
theorem dX7_add_40 : decode cX7_add 40 = .ok (.imul, 1) := by decide +kernel
theorem dX7_add_41 : decode cX7_add 41 = .ok (.iload 4, 2) := by decide +kernel
theorem dX7_add_43 : decode cX7_add 43 = .ok (.iadd, 1) := by decide +kernel
theorem dX7_add_44 : decode cX7_add 44 = .ok (.iload_n 2, 1) := by decide +kernel
theorem dX7_add_45 : decode cX7_add 45 = .ok (.invokevirtual 54, 3) := by decide +kernel
theorem dX7_add_48 : decode cX7_add 48 = .ok (.iinc 4 1, 3) := by decide +kernel
theorem dX7_add_51 : decode cX7_add 51 = .ok (.goto (-25), 3) := by decide +kernel
theorem dX7_add_54 : decode cX7_add 54 = .ok (.aload_n 0, 1) := by decide +kernel
theorem dX7_add_55 : decode cX7_add 55 = .ok (.dup, 1) := by decide +kernel
theorem dX7_add_56 : decode cX7_add 56 = .ok (.getfield 51, 3) := by decide +kernel
theorem dX7_add_59 : decode cX7_add 59 = .ok (.iconst 1, 1) := by decide +kernel
theorem dX7_add_60 : decode cX7_add 60 = .ok (.iadd, 1) := by decide +kernel
theorem dX7_add_61 : decode cX7_add 61 = .ok (.putfield 51, 3) := by decide +kernel
theorem dX7_add_64 : decode cX7_add 64 = .ok (.iload_n 3, 1) := by decide +kernel
theorem dX7_add_65 : decode cX7_add 65 = .ok (.ireturn, 1) := by decide +kernel
theorem dX7_drop_0 : decode cX7_drop 0 = .ok (.iload_n 1, 1) := by decide +kernel
theorem dX7_drop_1 : decode cX7_drop 1 = .ok (.iconst 1, 1) := by decide +kernel
theorem dX7_drop_2 : decode cX7_drop 2 = .ok (.iadd, 1) := by decide +kernel
theorem dX7_drop_3 : decode cX7_drop 3 = .ok (.istore_n 2, 1) := by decide +kernel
theorem dX7_drop_4 : decode cX7_drop 4 = .ok (.iload_n 2, 1) := by decide +kernel
theorem dX7_drop_5 : decode cX7_drop 5 = .ok (.aload_n 0, 1) := by decide +kernel
theorem dX7_drop_6 : decode cX7_drop 6 = .ok (.getfield 51, 3) := by decide +kernel
theorem dX7_drop_9 : decode cX7_drop 9 = .ok (.if_icmp .ge 14, 3) := by decide +kernel
theorem dX7_drop_12 : decode cX7_drop 12 = .ok (.aload_n 0, 1) := by decide +kernel
theorem dX7_drop_13 : decode cX7_drop 13 = .ok (.iload_n 2, 1) := by decide +kernel
theorem dX7_drop_14 : decode cX7_drop 14 = .ok (.invokevirtual 57, 3) := by decide +kernel
theorem dX7_drop_17 : decode cX7_drop 17 = .ok (.iinc 2 1, 3) := by decide +kernel
theorem dX7_drop_20 : decode cX7_drop 20 = .ok (.goto (-16), 3) := by decide +kernel
theorem dX7_drop_23 : decode cX7_drop 23 = .ok (.aload_n 0, 1) := by decide +kernel
theorem dX7_drop_24 : decode cX7_drop 24 = .ok (.dup, 1) := by decide +kernel
theorem dX7_drop_25 : decode cX7_drop 25 = .ok (.getfield 51, 3) := by decide +kernel
theorem dX7_drop_28 : decode cX7_drop 28 = .ok (.iconst 1, 1) := by decide +kernel
theorem dX7_drop_29 : decode cX7_drop 29 = .ok (.isub, 1) := by decide +kernel
theorem dX7_drop_30 : decode cX7_drop 30 = .ok (.putfield 51, 3) := by decide +kernel
theorem dX7_drop_33 : decode cX7_drop 33 = .ok (.aload_n 0, 1) := by decide +kernel
theorem dX7_drop_34 : decode cX7_drop 34 = .ok (.getfield 26, 3) := by decide +kernel
theorem dX7_drop_37 : decode cX7_drop 37 = .ok (.iload_n 1, 1) := by decide +kernel
theorem dX7_drop_38 : decode cX7_drop 38 = .ok (.if_icmp .le 13, 3) := by decide +kernel
theorem dX7_drop_41 : decode cX7_drop 41 = .ok (.aload_n 0, 1) := by decide +kernel
theorem dX7_drop_42 : decode cX7_drop 42 = .ok (.dup, 1) := by decide +kernel
theorem dX7_drop_43 : decode cX7_drop 43 = .ok (.getfield 26, 3) := by decide +kernel
theorem dX7_drop_46 : decode cX7_drop 46 = .ok (.iconst 1, 1) := by decide +kernel
theorem dX7_drop_47 : decode cX7_drop 47 = .ok (.isub, 1) := by decide +kernel
theorem dX7_drop_48 : decode cX7_drop 48 = .ok (.putfield 26, 3) := by decide +kernel
theorem dX7_drop_51 : decode cX7_drop 51 = .ok (.return_, 1) := by decide +kernel
theorem dX7_moveUp_0 : decode cX7_moveUp 0 = .ok (.aload_n 0, 1) := by decide +kernel
theorem dX7_moveUp_1 : decode cX7_moveUp 1 = .ok (.getfield 20, 3) := by decide +kernel
theorem dX7_moveUp_4 : decode cX7_moveUp 4 = .ok (.iload_n 1, 1) := by decide +kernel
theorem dX7_moveUp_5 : decode cX7_moveUp 5 = .ok (.iconst 1, 1) := by decide +kernel
theorem dX7_moveUp_6 : decode cX7_moveUp 6 = .ok (.isub, 1) := by decide +kernel
theorem dX7_moveUp_7 : decode cX7_moveUp 7 = .ok (.aload_n 0, 1) := by decide +kernel
theorem dX7_moveUp_8 : decode cX7_moveUp 8 = .ok (.getfield 20, 3) := by decide +kernel
theorem dX7_moveUp_11 : decode cX7_moveUp 11 = .ok (.iload_n 1, 1) := by decide +kernel
theorem dX7_moveUp_12 : decode cX7_moveUp 12 = .ok (.invokevirtual 30, 3) := by decide +kernel
theorem dX7_moveUp_15 : decode cX7_moveUp 15 = .ok (.invokevirtual 54, 3) := by decide +kernel
theorem dX7_moveUp_18 : decode cX7_moveUp 18 = .ok (.aload_n 0, 1) := by decide +kernel
theorem dX7_moveUp_19 : decode cX7_moveUp 19 = .ok (.getfield 23, 3) := by decide +kernel
theorem dX7_moveUp_22 : decode cX7_moveUp 22 = .ok (.iload_n 1, 1) := by decide +kernel
theorem dX7_moveUp_23 : decode cX7_moveUp 23 = .ok (.iconst 1, 1) := by decide +kernel
theorem dX7_moveUp_24 : decode cX7_moveUp 24 = .ok (.isub, 1) := by decide +kernel
theorem dX7_moveUp_25 : decode cX7_moveUp 25 = .ok (.aload_n 0, 1) := by decide +kernel
theorem dX7_moveUp_26 : decode cX7_moveUp 26 = .ok (.getfield 23, 3) := by decide +kernel
theorem dX7_moveUp_29 : decode cX7_moveUp 29 = .ok (.iload_n 1, 1) := by decide +kernel
theorem dX7_moveUp_30 : decode cX7_moveUp 30 = .ok (.invokevirtual 30, 3) := by decide +kernel
theorem dX7_moveUp_33 : decode cX7_moveUp 33 = .ok (.invokevirtual 54, 3) := by decide +kernel
theorem dX7_moveUp_36 : decode cX7_moveUp 36 = .ok (.iconst 0, 1) := by decide +kernel
theorem dX7_moveUp_37 : decode cX7_moveUp 37 = .ok (.istore_n 2, 1) := by decide +kernel
theorem dX7_moveUp_38 : decode cX7_moveUp 38 = .ok (.iload_n 2, 1) := by decide +kernel
theorem dX7_moveUp_39 : decode cX7_moveUp 39 = .ok (.bipush 16, 2) := by decide +kernel
theorem dX7_moveUp_41 : decode cX7_moveUp 41 = .ok (.if_icmp .ge 30, 3) := by decide +kernel
theorem dX7_moveUp_44 : decode cX7_moveUp 44 = .ok (.aload_n 0, 1) := by decide +kernel
theorem dX7_moveUp_45 : decode cX7_moveUp 45 = .ok (.getfield 14, 3) := by decide +kernel
theorem dX7_moveUp_48 : decode cX7_moveUp 48 = .ok (.iload_n 1, 1) := by decide +kernel
theorem dX7_moveUp_49 : decode cX7_moveUp 49 = .ok (.iconst 1, 1) := by decide +kernel
theorem dX7_moveUp_50 : decode cX7_moveUp 50 = .ok (.isub, 1) := by decide +kernel
theorem dX7_moveUp_51 : decode cX7_moveUp 51 = .ok (.bipush 16, 2) := by decide +kernel
theorem dX7_moveUp_53 : decode cX7_moveUp 53 = .ok (.imul, 1) := by decide +kernel
theorem dX7_moveUp_54 : decode cX7_moveUp 54 = .ok (.iload_n 2, 1) := by decide +kernel
theorem dX7_moveUp_55 : decode cX7_moveUp 55 = .ok (.iadd, 1) := by decide +kernel
theorem dX7_moveUp_56 : decode cX7_moveUp 56 = .ok (.aload_n 0, 1) := by decide +kernel
theorem dX7_moveUp_57 : decode cX7_moveUp 57 = .ok (.iload_n 1, 1) := by decide +kernel
theorem dX7_moveUp_58 : decode cX7_moveUp 58 = .ok (.iload_n 2, 1) := by decide +kernel
theorem dX7_moveUp_59 : decode cX7_moveUp 59 = .ok (.invokevirtual 38, 3) := by decide +kernel
theorem dX7_moveUp_62 : decode cX7_moveUp 62 = .ok (.invokevirtual 54, 3) := by decide +kernel
theorem dX7_moveUp_65 : decode cX7_moveUp 65 = .ok (.iinc 2 1, 3) := by decide +kernel
theorem dX7_moveUp_68 : decode cX7_moveUp 68 = .ok (.goto (-30), 3) := by decide +kernel
theorem dX7_moveUp_71 : decode cX7_moveUp 71 = .ok (.return_, 1) := by decide +kernel
theorem dX7_takeOver_0 : decode cX7_takeOver 0 = .ok (.aload_n 0, 1) := by decide +kernel
theorem dX7_takeOver_1 : decode cX7_takeOver 1 = .ok (.getfield 14, 3) := by decide +kernel
theorem dX7_takeOver_4 : decode cX7_takeOver 4 = .ok (.aload_n 1, 1) := by decide +kernel
theorem dX7_takeOver_5 : decode cX7_takeOver 5 = .ok (.getfield 14, 3) := by decide +kernel
theorem dX7_takeOver_8 : decode cX7_takeOver 8 = .ok (.invokevirtual 60, 3) := by decide +kernel
theorem dX7_takeOver_11 : decode cX7_takeOver 11 = .ok (.aload_n 0, 1) := by decide +kernel
theorem dX7_takeOver_12 : decode cX7_takeOver 12 = .ok (.getfield 20, 3) := by decide +kernel
theorem dX7_takeOver_15 : decode cX7_takeOver 15 = .ok (.aload_n 1, 1) := by decide +kernel
theorem dX7_takeOver_16 : decode cX7_takeOver 16 = .ok (.getfield 20, 3) := by decide +kernel
theorem dX7_takeOver_19 : decode cX7_takeOver 19 = .ok (.invokevirtual 60, 3) := by decide +kernel
theorem dX7_takeOver_22 : decode cX7_takeOver 22 = .ok (.aload_n 0, 1) := by decide +kernel
theorem dX7_takeOver_23 : decode cX7_takeOver 23 = .ok (.getfield 23, 3) := by decide +kernel
theorem dX7_takeOver_26 : decode cX7_takeOver 26 = .ok (.aload_n 1, 1) := by decide +kernel
theorem dX7_takeOver_27 : decode cX7_takeOver 27 = .ok (.getfield 23, 3) := by decide +kernel
theorem dX7_takeOver_30 : decode cX7_takeOver 30 = .ok (.invokevirtual 60, 3) := by decide +kernel
theorem dX7_takeOver_33 : decode cX7_takeOver 33 = .ok (.aload_n 0, 1) := by decide +kernel
theorem dX7_takeOver_34 : decode cX7_takeOver 34 = .ok (.aload_n 1, 1) := by decide +kernel
theorem dX7_takeOver_35 : decode cX7_takeOver 35 = .ok (.getfield 51, 3) := by decide +kernel
theorem dX7_takeOver_38 : decode cX7_takeOver 38 = .ok (.putfield 51, 3) := by decide +kernel
theorem dX7_takeOver_41 : decode cX7_takeOver 41 = .ok (.aload_n 0, 1) := by decide +kernel
theorem dX7_takeOver_42 : decode cX7_takeOver 42 = .ok (.aload_n 1, 1) := by decide +kernel
theorem dX7_takeOver_43 : decode cX7_takeOver 43 = .ok (.getfield 26, 3) := by decide +kernel
theorem dX7_takeOver_46 : decode cX7_takeOver 46 = .ok (.putfield 26, 3) := by decide +kernel
theorem dX7_takeOver_49 : decode cX7_takeOver 49 = .ok (.return_, 1) := by decide +kernel
theorem dX8_init_0 : decode cX8_init 0 = .ok (.aload_n 0, 1) := by decide +kernel
theorem dX8_init_1 : decode cX8_init 1 = .ok (.invokespecial 1, 3) := by decide +kernel
theorem dX8_init_4 : decode cX8_init 4 = .ok (.aload_n 0, 1) := by decide +kernel
theorem dX8_init_5 : decode cX8_init 5 = .ok (.iconst 0, 1) := by decide +kernel
theorem dX8_init_6 : decode cX8_init 6 = .ok (.iload_n 1, 1) := by decide +kernel
theorem dX8_init_7 : decode cX8_init 7 = .ok (.invokestatic 7, 3) := by decide +kernel
theorem dX8_init_10 : decode cX8_init 10 = .ok (.newarray .int, 2) := by decide +kernel
theorem dX8_init_12 : decode cX8_init 12 = .ok (.putfield 13, 3) := by decide +kernel
theorem dX8_init_15 : decode cX8_init 15 = .ok (.return_, 1) := by decide +kernel
theorem dX8_at_0 : decode cX8_at 0 = .ok (.iload_n 1, 1) := by decide +kernel
theorem dX8_at_1 : decode cX8_at 1 = .ok (.ifCond .lt 21, 3) := by decide +kernel
theorem dX8_at_4 : decode cX8_at 4 = .ok (.iload_n 1, 1) := by decide +kernel
theorem dX8_at_5 : decode cX8_at 5 = .ok (.aload_n 0, 1) := by decide +kernel
theorem dX8_at_6 : decode cX8_at 6 = .ok (.getfield 13, 3) := by decide +kernel
theorem dX8_at_9 : decode cX8_at 9 = .ok (.arraylength, 1) := by decide +kernel
theorem dX8_at_10 : decode cX8_at 10 = .ok (.if_icmp .ge 12, 3) := by decide +kernel
theorem dX8_at_13 : decode cX8_at 13 = .ok (.aload_n 0, 1) := by decide +kernel
theorem dX8_at_14 : decode cX8_at 14 = .ok (.getfield 13, 3) := by decide +kernel
theorem dX8_at_17 : decode cX8_at 17 = .ok (.iload_n 1, 1) := by decide +kernel
theorem dX8_at_18 : decode cX8_at 18 = .ok (.iaload, 1) := by decide +kernel
theorem dX8_at_19 : decode cX8_at 19 = .ok (.goto 4, 3) := by decide +kernel
theorem dX8_at_22 : decode cX8_at 22 = .ok (.iconst 0, 1) := by decide +kernel
theorem dX8_at_23 : decode cX8_at 23 = .ok (.ireturn, 1) := by decide +kernel
theorem dX8_put_0 : decode cX8_put 0 = .ok (.iload_n 1, 1) := by decide +kernel
theorem dX8_put_1 : decode cX8_put 1 = .ok (.ifCond .lt 19, 3) := by decide +kernel
theorem dX8_put_4 : decode cX8_put 4 = .ok (.iload_n 1, 1) := by decide +kernel
theorem dX8_put_5 : decode cX8_put 5 = .ok (.aload_n 0, 1) := by decide +kernel
theorem dX8_put_6 : decode cX8_put 6 = .ok (.getfield 13, 3) := by decide +kernel
theorem dX8_put_9 : decode cX8_put 9 = .ok (.arraylength, 1) := by decide +kernel
theorem dX8_put_10 : decode cX8_put 10 = .ok (.if_icmp .ge 10, 3) := by decide +kernel
theorem dX8_put_13 : decode cX8_put 13 = .ok (.aload_n 0, 1) := by decide +kernel
theorem dX8_put_14 : decode cX8_put 14 = .ok (.getfield 13, 3) := by decide +kernel
theorem dX8_put_17 : decode cX8_put 17 = .ok (.iload_n 1, 1) := by decide +kernel
theorem dX8_put_18 : decode cX8_put 18 = .ok (.iload_n 2, 1) := by decide +kernel
theorem dX8_put_19 : decode cX8_put 19 = .ok (.iastore, 1) := by decide +kernel
theorem dX8_put_20 : decode cX8_put 20 = .ok (.return_, 1) := by decide +kernel
theorem dX8_add_0 : decode cX8_add 0 = .ok (.aload_n 0, 1) := by decide +kernel
theorem dX8_add_1 : decode cX8_add 1 = .ok (.iload_n 1, 1) := by decide +kernel
theorem dX8_add_2 : decode cX8_add 2 = .ok (.aload_n 0, 1) := by decide +kernel
theorem dX8_add_3 : decode cX8_add 3 = .ok (.iload_n 1, 1) := by decide +kernel
theorem dX8_add_4 : decode cX8_add 4 = .ok (.invokevirtual 19, 3) := by decide +kernel
theorem dX8_add_7 : decode cX8_add 7 = .ok (.iload_n 2, 1) := by decide +kernel
theorem dX8_add_8 : decode cX8_add 8 = .ok (.iadd, 1) := by decide +kernel
theorem dX8_add_9 : decode cX8_add 9 = .ok (.invokevirtual 23, 3) := by decide +kernel
theorem dX8_add_12 : decode cX8_add 12 = .ok (.return_, 1) := by decide +kernel
theorem dX8_greatest_0 : decode cX8_greatest 0 = .ok (.iconst 0, 1) := by decide +kernel
theorem dX8_greatest_1 : decode cX8_greatest 1 = .ok (.istore_n 1, 1) := by decide +kernel
theorem dX8_greatest_2 : decode cX8_greatest 2 = .ok (.iconst 0, 1) := by decide +kernel
theorem dX8_greatest_3 : decode cX8_greatest 3 = .ok (.istore_n 2, 1) := by decide +kernel
theorem dX8_greatest_4 : decode cX8_greatest 4 = .ok (.iload_n 2, 1) := by decide +kernel
theorem dX8_greatest_5 : decode cX8_greatest 5 = .ok (.aload_n 0, 1) := by decide +kernel
theorem dX8_greatest_6 : decode cX8_greatest 6 = .ok (.getfield 13, 3) := by decide +kernel
theorem dX8_greatest_9 : decode cX8_greatest 9 = .ok (.arraylength, 1) := by decide +kernel
theorem dX8_greatest_10 : decode cX8_greatest 10 = .ok (.if_icmp .ge 20, 3) := by decide +kernel
theorem dX8_greatest_13 : decode cX8_greatest 13 = .ok (.iload_n 1, 1) := by decide +kernel
theorem dX8_greatest_14 : decode cX8_greatest 14 = .ok (.aload_n 0, 1) := by decide +kernel
theorem dX8_greatest_15 : decode cX8_greatest 15 = .ok (.getfield 13, 3) := by decide +kernel
theorem dX8_greatest_18 : decode cX8_greatest 18 = .ok (.iload_n 2, 1) := by decide +kernel
theorem dX8_greatest_19 : decode cX8_greatest 19 = .ok (.iaload, 1) := by decide +kernel
theorem dX8_greatest_20 : decode cX8_greatest 20 = .ok (.invokestatic 7, 3) := by decide +kernel
theorem dX8_greatest_23 : decode cX8_greatest 23 = .ok (.istore_n 1, 1) := by decide +kernel
theorem dX8_greatest_24 : decode cX8_greatest 24 = .ok (.iinc 2 1, 3) := by decide +kernel
theorem dX8_greatest_27 : decode cX8_greatest 27 = .ok (.goto (-23), 3) := by decide +kernel
theorem dX8_greatest_30 : decode cX8_greatest 30 = .ok (.iload_n 1, 1) := by decide +kernel
theorem dX8_greatest_31 : decode cX8_greatest 31 = .ok (.ireturn, 1) := by decide +kernel
theorem dX8_takeOver_0 : decode cX8_takeOver 0 = .ok (.iconst 0, 1) := by decide +kernel
theorem dX8_takeOver_1 : decode cX8_takeOver 1 = .ok (.istore_n 2, 1) := by decide +kernel
theorem dX8_takeOver_2 : decode cX8_takeOver 2 = .ok (.iload_n 2, 1) := by decide +kernel
theorem dX8_takeOver_3 : decode cX8_takeOver 3 = .ok (.aload_n 0, 1) := by decide +kernel
theorem dX8_takeOver_4 : decode cX8_takeOver 4 = .ok (.getfield 13, 3) := by decide +kernel
theorem dX8_takeOver_7 : decode cX8_takeOver 7 = .ok (.arraylength, 1) := by decide +kernel
theorem dX8_takeOver_8 : decode cX8_takeOver 8 = .ok (.if_icmp .ge 20, 3) := by decide +kernel
theorem dX8_takeOver_11 : decode cX8_takeOver 11 = .ok (.aload_n 0, 1) := by decide +kernel
theorem dX8_takeOver_12 : decode cX8_takeOver 12 = .ok (.getfield 13, 3) := by decide +kernel
theorem dX8_takeOver_15 : decode cX8_takeOver 15 = .ok (.iload_n 2, 1) := by decide +kernel
theorem dX8_takeOver_16 : decode cX8_takeOver 16 = .ok (.aload_n 1, 1) := by decide +kernel
theorem dX8_takeOver_17 : decode cX8_takeOver 17 = .ok (.iload_n 2, 1) := by decide +kernel
theorem dX8_takeOver_18 : decode cX8_takeOver 18 = .ok (.invokevirtual 19, 3) := by decide +kernel
theorem dX8_takeOver_21 : decode cX8_takeOver 21 = .ok (.iastore, 1) := by decide +kernel
theorem dX8_takeOver_22 : decode cX8_takeOver 22 = .ok (.iinc 2 1, 3) := by decide +kernel
theorem dX8_takeOver_25 : decode cX8_takeOver 25 = .ok (.goto (-23), 3) := by decide +kernel
theorem dX8_takeOver_28 : decode cX8_takeOver 28 = .ok (.return_, 1) := by decide +kernel
theorem dX9_init_0 : decode cX9_init 0 = .ok (.aload_n 0, 1) := by decide +kernel
theorem dX9_init_1 : decode cX9_init 1 = .ok (.invokespecial 1, 3) := by decide +kernel
theorem dX9_init_4 : decode cX9_init 4 = .ok (.aload_n 0, 1) := by decide +kernel
theorem dX9_init_5 : decode cX9_init 5 = .ok (.new 7, 3) := by decide +kernel
theorem dX9_init_8 : decode cX9_init 8 = .ok (.dup, 1) := by decide +kernel
theorem dX9_init_9 : decode cX9_init 9 = .ok (.invokespecial 9, 3) := by decide +kernel
theorem dX9_init_12 : decode cX9_init 12 = .ok (.putfield 10, 3) := by decide +kernel
theorem dX9_init_15 : decode cX9_init 15 = .ok (.aload_n 0, 1) := by decide +kernel
theorem dX9_init_16 : decode cX9_init 16 = .ok (.new 16, 3) := by decide +kernel
theorem dX9_init_19 : decode cX9_init 19 = .ok (.dup, 1) := by decide +kernel
theorem dX9_init_20 : decode cX9_init 20 = .ok (.invokespecial 18, 3) := by decide +kernel
theorem dX9_init_23 : decode cX9_init 23 = .ok (.putfield 19, 3) := by decide +kernel
theorem dX9_init_26 : decode cX9_init 26 = .ok (.aload_n 0, 1) := by decide +kernel
theorem dX9_init_27 : decode cX9_init 27 = .ok (.new 23, 3) := by decide +kernel
theorem dX9_init_30 : decode cX9_init 30 = .ok (.dup, 1) := by decide +kernel
theorem dX9_init_31 : decode cX9_init 31 = .ok (.invokespecial 25, 3) := by decide +kernel
theorem dX9_init_34 : decode cX9_init 34 = .ok (.putfield 26, 3) := by decide +kernel
theorem dX9_init_37 : decode cX9_init 37 = .ok (.aload_n 0, 1) := by decide +kernel
theorem dX9_init_38 : decode cX9_init 38 = .ok (.new 30, 3) := by decide +kernel
theorem dX9_init_41 : decode cX9_init 41 = .ok (.dup, 1) := by decide +kernel
theorem dX9_init_42 : decode cX9_init 42 = .ok (.bipush 16, 2) := by decide +kernel
theorem dX9_init_44 : decode cX9_init 44 = .ok (.invokespecial 32, 3) := by decide +kernel
theorem dX9_init_47 : decode cX9_init 47 = .ok (.putfield 35, 3) := by decide +kernel
theorem dX9_init_50 : decode cX9_init 50 = .ok (.aload_n 0, 1) := by decide +kernel
theorem dX9_init_51 : decode cX9_init 51 = .ok (.new 30, 3) := by decide +kernel
theorem dX9_init_54 : decode cX9_init 54 = .ok (.dup, 1) := by decide +kernel
theorem dX9_init_55 : decode cX9_init 55 = .ok (.bipush 16, 2) := by decide +kernel
theorem dX9_init_57 : decode cX9_init 57 = .ok (.invokespecial 32, 3) := by decide +kernel
theorem dX9_init_60 : decode cX9_init 60 = .ok (.putfield 39, 3) := by decide +kernel
theorem dX9_init_63 : decode cX9_init 63 = .ok (.return_, 1) := by decide +kernel
theorem dX9_carve_0 : decode cX9_carve 0 = .ok (.iload_n 1, 1) := by decide +kernel
theorem dX9_carve_1 : decode cX9_carve 1 = .ok (.invokestatic 42, 3) := by decide +kernel
theorem dX9_carve_4 : decode cX9_carve 4 = .ok (.iload_n 2, 1) := by decide +kernel
theorem dX9_carve_5 : decode cX9_carve 5 = .ok (.invokestatic 45, 3) := by decide +kernel
theorem dX9_carve_8 : decode cX9_carve 8 = .ok (.iload_n 3, 1) := by decide +kernel
theorem dX9_carve_9 : decode cX9_carve 9 = .ok (.iconst 5, 1) := by decide +kernel
theorem dX9_carve_10 : decode cX9_carve 10 = .ok (.bipush 99, 2) := by decide +kernel
theorem dX9_carve_12 : decode cX9_carve 12 = .ok (.invokestatic 48, 3) := by decide +kernel
theorem dX9_carve_15 : decode cX9_carve 15 = .ok (.aload_n 0, 1) := by decide +kernel
theorem dX9_carve_16 : decode cX9_carve 16 = .ok (.getfield 19, 3) := by decide +kernel
theorem dX9_carve_19 : decode cX9_carve 19 = .ok (.aload_n 0, 1) := by decide +kernel
theorem dX9_carve_20 : decode cX9_carve 20 = .ok (.getfield 10, 3) := by decide +kernel
theorem dX9_carve_23 : decode cX9_carve 23 = .ok (.invokevirtual 52, 3) := by decide +kernel
theorem dX9_carve_26 : decode cX9_carve 26 = .ok (.aload_n 0, 1) := by decide +kernel
theorem dX9_carve_27 : decode cX9_carve 27 = .ok (.getfield 10, 3) := by decide +kernel
theorem dX9_carve_30 : decode cX9_carve 30 = .ok (.getfield 56, 3) := by decide +kernel
theorem dX9_carve_33 : decode cX9_carve 33 = .ok (.iload_n 1, 1) := by decide +kernel
theorem dX9_carve_34 : decode cX9_carve 34 = .ok (.iload_n 2, 1) := by decide +kernel
theorem dX9_carve_35 : decode cX9_carve 35 = .ok (.invokevirtual 60, 3) := by decide +kernel
theorem dX9_carve_38 : decode cX9_carve 38 = .ok (.istore 4, 2) := by decide +kernel
theorem dX9_carve_40 : decode cX9_carve 40 = .ok (.aload_n 0, 1) := by decide +kernel
theorem dX9_carve_41 : decode cX9_carve 41 = .ok (.getfield 10, 3) := by decide +kernel
theorem dX9_carve_44 : decode cX9_carve 44 = .ok (.getfield 56, 3) := by decide +kernel
theorem dX9_carve_47 : decode cX9_carve 47 = .ok (.iload_n 1, 1) := by decide +kernel
theorem dX9_carve_48 : decode cX9_carve 48 = .ok (.iload_n 2, 1) := by decide +kernel
theorem dX9_carve_49 : decode cX9_carve 49 = .ok (.iload_n 3, 1) := by decide +kernel
theorem dX9_carve_50 : decode cX9_carve 50 = .ok (.invokevirtual 66, 3) := by decide +kernel
theorem dX9_carve_53 : decode cX9_carve 53 = .ok (.iload 4, 2) := by decide +kernel
theorem dX9_carve_55 : decode cX9_carve 55 = .ok (.ireturn, 1) := by decide +kernel
theorem dX9_copyMaster_0 : decode cX9_copyMaster 0 = .ok (.iload_n 1, 1) := by decide +kernel
theorem dX9_copyMaster_1 : decode cX9_copyMaster 1 = .ok (.invokestatic 42, 3) := by decide +kernel
theorem dX9_copyMaster_4 : decode cX9_copyMaster 4 = .ok (.iload_n 2, 1) := by decide +kernel
theorem dX9_copyMaster_5 : decode cX9_copyMaster 5 = .ok (.invokestatic 42, 3) := by decide +kernel
theorem dX9_copyMaster_8 : decode cX9_copyMaster 8 = .ok (.aload_n 0, 1) := by decide +kernel
theorem dX9_copyMaster_9 : decode cX9_copyMaster 9 = .ok (.getfield 19, 3) := by decide +kernel
theorem dX9_copyMaster_12 : decode cX9_copyMaster 12 = .ok (.aload_n 0, 1) := by decide +kernel
theorem dX9_copyMaster_13 : decode cX9_copyMaster 13 = .ok (.getfield 10, 3) := by decide +kernel
theorem dX9_copyMaster_16 : decode cX9_copyMaster 16 = .ok (.invokevirtual 52, 3) := by decide +kernel
theorem dX9_copyMaster_19 : decode cX9_copyMaster 19 = .ok (.aload_n 0, 1) := by decide +kernel
theorem dX9_copyMaster_20 : decode cX9_copyMaster 20 = .ok (.getfield 10, 3) := by decide +kernel
theorem dX9_copyMaster_23 : decode cX9_copyMaster 23 = .ok (.getfield 56, 3) := by decide +kernel
theorem dX9_copyMaster_26 : decode cX9_copyMaster 26 = .ok (.iload_n 1, 1) := by decide +kernel
theorem dX9_copyMaster_27 : decode cX9_copyMaster 27 = .ok (.iload_n 2, 1) := by decide +kernel
theorem dX9_copyMaster_28 : decode cX9_copyMaster 28 = .ok (.invokevirtual 69, 3) := by decide +kernel
theorem dX9_copyMaster_31 : decode cX9_copyMaster 31 = .ok (.ireturn, 1) := by decide +kernel
theorem dX9_mirrorMaster_0 : decode cX9_mirrorMaster 0 = .ok (.iload_n 1, 1) := by decide +kernel
theorem dX9_mirrorMaster_1 : decode cX9_mirrorMaster 1 = .ok (.invokestatic 42, 3) := by decide +kernel
theorem dX9_mirrorMaster_4 : decode cX9_mirrorMaster 4 = .ok (.aload_n 0, 1) := by decide +kernel
theorem dX9_mirrorMaster_5 : decode cX9_mirrorMaster 5 = .ok (.getfield 19, 3) := by decide +kernel
theorem dX9_mirrorMaster_8 : decode cX9_mirrorMaster 8 = .ok (.aload_n 0, 1) := by decide +kernel
theorem dX9_mirrorMaster_9 : decode cX9_mirrorMaster 9 = .ok (.getfield 10, 3) := by decide +kernel
theorem dX9_mirrorMaster_12 : decode cX9_mirrorMaster 12 = .ok (.invokevirtual 52, 3) := by decide +kernel
theorem dX9_mirrorMaster_15 : decode cX9_mirrorMaster 15 = .ok (.aload_n 0, 1) := by decide +kernel
theorem dX9_mirrorMaster_16 : decode cX9_mirrorMaster 16 = .ok (.getfield 10, 3) := by decide +kernel
theorem dX9_mirrorMaster_19 : decode cX9_mirrorMaster 19 = .ok (.getfield 56, 3) := by decide +kernel
theorem dX9_mirrorMaster_22 : decode cX9_mirrorMaster 22 = .ok (.iload_n 1, 1) := by decide +kernel
theorem dX9_mirrorMaster_23 : decode cX9_mirrorMaster 23 = .ok (.invokevirtual 72, 3) := by decide +kernel
theorem dX9_mirrorMaster_26 : decode cX9_mirrorMaster 26 = .ok (.ireturn, 1) := by decide +kernel
theorem dX9_chooseMaster_0 : decode cX9_chooseMaster 0 = .ok (.iload_n 1, 1) := by decide +kernel
theorem dX9_chooseMaster_1 : decode cX9_chooseMaster 1 = .ok (.invokestatic 42, 3) := by decide +kernel
theorem dX9_chooseMaster_4 : decode cX9_chooseMaster 4 = .ok (.aload_n 0, 1) := by decide +kernel
theorem dX9_chooseMaster_5 : decode cX9_chooseMaster 5 = .ok (.getfield 19, 3) := by decide +kernel
theorem dX9_chooseMaster_8 : decode cX9_chooseMaster 8 = .ok (.aload_n 0, 1) := by decide +kernel
theorem dX9_chooseMaster_9 : decode cX9_chooseMaster 9 = .ok (.getfield 10, 3) := by decide +kernel
theorem dX9_chooseMaster_12 : decode cX9_chooseMaster 12 = .ok (.invokevirtual 52, 3) := by decide +kernel
theorem dX9_chooseMaster_15 : decode cX9_chooseMaster 15 = .ok (.aload_n 0, 1) := by decide +kernel
theorem dX9_chooseMaster_16 : decode cX9_chooseMaster 16 = .ok (.getfield 10, 3) := by decide +kernel
theorem dX9_chooseMaster_19 : decode cX9_chooseMaster 19 = .ok (.getfield 56, 3) := by decide +kernel
theorem dX9_chooseMaster_22 : decode cX9_chooseMaster 22 = .ok (.getfield 76, 3) := by decide +kernel
theorem dX9_chooseMaster_25 : decode cX9_chooseMaster 25 = .ok (.istore_n 2, 1) := by decide +kernel
theorem dX9_chooseMaster_26 : decode cX9_chooseMaster 26 = .ok (.aload_n 0, 1) := by decide +kernel
theorem dX9_chooseMaster_27 : decode cX9_chooseMaster 27 = .ok (.getfield 10, 3) := by decide +kernel
theorem dX9_chooseMaster_30 : decode cX9_chooseMaster 30 = .ok (.getfield 56, 3) := by decide +kernel
theorem dX9_chooseMaster_33 : decode cX9_chooseMaster 33 = .ok (.iload_n 1, 1) := by decide +kernel
theorem dX9_chooseMaster_34 : decode cX9_chooseMaster 34 = .ok (.putfield 76, 3) := by decide +kernel
theorem dX9_chooseMaster_37 : decode cX9_chooseMaster 37 = .ok (.iload_n 2, 1) := by decide +kernel
theorem dX9_chooseMaster_38 : decode cX9_chooseMaster 38 = .ok (.ireturn, 1) := by decide +kernel
theorem dX9_fitFollower_0 : decode cX9_fitFollower 0 = .ok (.iload_n 1, 1) := by decide +kernel
theorem dX9_fitFollower_1 : decode cX9_fitFollower 1 = .ok (.iconst 0, 1) := by decide +kernel
theorem dX9_fitFollower_2 : decode cX9_fitFollower 2 = .ok (.iconst 3, 1) := by decide +kernel
theorem dX9_fitFollower_3 : decode cX9_fitFollower 3 = .ok (.invokestatic 48, 3) := by decide +kernel
theorem dX9_fitFollower_6 : decode cX9_fitFollower 6 = .ok (.aload_n 0, 1) := by decide +kernel
theorem dX9_fitFollower_7 : decode cX9_fitFollower 7 = .ok (.getfield 19, 3) := by decide +kernel
theorem dX9_fitFollower_10 : decode cX9_fitFollower 10 = .ok (.aload_n 0, 1) := by decide +kernel
theorem dX9_fitFollower_11 : decode cX9_fitFollower 11 = .ok (.getfield 10, 3) := by decide +kernel
theorem dX9_fitFollower_14 : decode cX9_fitFollower 14 = .ok (.invokevirtual 52, 3) := by decide +kernel
theorem dX9_fitFollower_17 : decode cX9_fitFollower 17 = .ok (.aload_n 0, 1) := by decide +kernel
theorem dX9_fitFollower_18 : decode cX9_fitFollower 18 = .ok (.getfield 10, 3) := by decide +kernel
theorem dX9_fitFollower_21 : decode cX9_fitFollower 21 = .ok (.getfield 80, 3) := by decide +kernel
theorem dX9_fitFollower_24 : decode cX9_fitFollower 24 = .ok (.getfield 84, 3) := by decide +kernel
theorem dX9_fitFollower_27 : decode cX9_fitFollower 27 = .ok (.istore_n 2, 1) := by decide +kernel
theorem dX9_fitFollower_28 : decode cX9_fitFollower 28 = .ok (.aload_n 0, 1) := by decide +kernel
theorem dX9_fitFollower_29 : decode cX9_fitFollower 29 = .ok (.getfield 10, 3) := by decide +kernel
theorem dX9_fitFollower_32 : decode cX9_fitFollower 32 = .ok (.getfield 80, 3) := by decide +kernel
theorem dX9_fitFollower_35 : decode cX9_fitFollower 35 = .ok (.iload_n 1, 1) := by decide +kernel
theorem dX9_fitFollower_36 : decode cX9_fitFollower 36 = .ok (.invokevirtual 89, 3) := by decide +kernel
theorem dX9_fitFollower_39 : decode cX9_fitFollower 39 = .ok (.iload_n 2, 1) := by decide +kernel
theorem dX9_fitFollower_40 : decode cX9_fitFollower 40 = .ok (.ireturn, 1) := by decide +kernel
theorem dX9_changeOffset_0 : decode cX9_changeOffset 0 = .ok (.iload_n 1, 1) := by decide +kernel
theorem dX9_changeOffset_1 : decode cX9_changeOffset 1 = .ok (.iconst 0, 1) := by decide +kernel
theorem dX9_changeOffset_2 : decode cX9_changeOffset 2 = .ok (.iconst 5, 1) := by decide +kernel
theorem dX9_changeOffset_3 : decode cX9_changeOffset 3 = .ok (.invokestatic 48, 3) := by decide +kernel
theorem dX9_changeOffset_6 : decode cX9_changeOffset 6 = .ok (.aload_n 0, 1) := by decide +kernel
theorem dX9_changeOffset_7 : decode cX9_changeOffset 7 = .ok (.getfield 19, 3) := by decide +kernel
theorem dX9_changeOffset_10 : decode cX9_changeOffset 10 = .ok (.aload_n 0, 1) := by decide +kernel
theorem dX9_changeOffset_11 : decode cX9_changeOffset 11 = .ok (.getfield 10, 3) := by decide +kernel
theorem dX9_changeOffset_14 : decode cX9_changeOffset 14 = .ok (.invokevirtual 52, 3) := by decide +kernel
theorem dX9_changeOffset_17 : decode cX9_changeOffset 17 = .ok (.aload_n 0, 1) := by decide +kernel
theorem dX9_changeOffset_18 : decode cX9_changeOffset 18 = .ok (.getfield 10, 3) := by decide +kernel
theorem dX9_changeOffset_21 : decode cX9_changeOffset 21 = .ok (.getfield 80, 3) := by decide +kernel
theorem dX9_changeOffset_24 : decode cX9_changeOffset 24 = .ok (.getfield 92, 3) := by decide +kernel
theorem dX9_changeOffset_27 : decode cX9_changeOffset 27 = .ok (.istore_n 2, 1) := by decide +kernel
theorem dX9_changeOffset_28 : decode cX9_changeOffset 28 = .ok (.aload_n 0, 1) := by decide +kernel
theorem dX9_changeOffset_29 : decode cX9_changeOffset 29 = .ok (.getfield 10, 3) := by decide +kernel
theorem dX9_changeOffset_32 : decode cX9_changeOffset 32 = .ok (.getfield 80, 3) := by decide +kernel
theorem dX9_changeOffset_35 : decode cX9_changeOffset 35 = .ok (.iload_n 1, 1) := by decide +kernel
theorem dX9_changeOffset_36 : decode cX9_changeOffset 36 = .ok (.putfield 92, 3) := by decide +kernel
theorem dX9_changeOffset_39 : decode cX9_changeOffset 39 = .ok (.iload_n 2, 1) := by decide +kernel
theorem dX9_changeOffset_40 : decode cX9_changeOffset 40 = .ok (.ireturn, 1) := by decide +kernel
theorem dX9_sharpen_0 : decode cX9_sharpen 0 = .ok (.aload_n 0, 1) := by decide +kernel
theorem dX9_sharpen_1 : decode cX9_sharpen 1 = .ok (.getfield 19, 3) := by decide +kernel
theorem dX9_sharpen_4 : decode cX9_sharpen 4 = .ok (.aload_n 0, 1) := by decide +kernel
theorem dX9_sharpen_5 : decode cX9_sharpen 5 = .ok (.getfield 10, 3) := by decide +kernel
theorem dX9_sharpen_8 : decode cX9_sharpen 8 = .ok (.invokevirtual 52, 3) := by decide +kernel
theorem dX9_sharpen_11 : decode cX9_sharpen 11 = .ok (.aload_n 0, 1) := by decide +kernel
theorem dX9_sharpen_12 : decode cX9_sharpen 12 = .ok (.getfield 10, 3) := by decide +kernel
theorem dX9_sharpen_15 : decode cX9_sharpen 15 = .ok (.getfield 95, 3) := by decide +kernel
theorem dX9_sharpen_18 : decode cX9_sharpen 18 = .ok (.getfield 99, 3) := by decide +kernel
theorem dX9_sharpen_21 : decode cX9_sharpen 21 = .ok (.istore_n 1, 1) := by decide +kernel
theorem dX9_sharpen_22 : decode cX9_sharpen 22 = .ok (.aload_n 0, 1) := by decide +kernel
theorem dX9_sharpen_23 : decode cX9_sharpen 23 = .ok (.getfield 10, 3) := by decide +kernel
theorem dX9_sharpen_26 : decode cX9_sharpen 26 = .ok (.getfield 95, 3) := by decide +kernel
theorem dX9_sharpen_29 : decode cX9_sharpen 29 = .ok (.bipush 100, 2) := by decide +kernel
theorem dX9_sharpen_31 : decode cX9_sharpen 31 = .ok (.putfield 99, 3) := by decide +kernel
theorem dX9_sharpen_34 : decode cX9_sharpen 34 = .ok (.aload_n 0, 1) := by decide +kernel
theorem dX9_sharpen_35 : decode cX9_sharpen 35 = .ok (.getfield 10, 3) := by decide +kernel
theorem dX9_sharpen_38 : decode cX9_sharpen 38 = .ok (.getfield 104, 3) := by decide +kernel
theorem dX9_sharpen_41 : decode cX9_sharpen 41 = .ok (.dup, 1) := by decide +kernel
theorem dX9_sharpen_42 : decode cX9_sharpen 42 = .ok (.getfield 108, 3) := by decide +kernel
theorem dX9_sharpen_45 : decode cX9_sharpen 45 = .ok (.iconst 1, 1) := by decide +kernel
theorem dX9_sharpen_46 : decode cX9_sharpen 46 = .ok (.iadd, 1) := by decide +kernel
theorem dX9_sharpen_47 : decode cX9_sharpen 47 = .ok (.putfield 108, 3) := by decide +kernel
theorem dX9_sharpen_50 : decode cX9_sharpen 50 = .ok (.iload_n 1, 1) := by decide +kernel
theorem dX9_sharpen_51 : decode cX9_sharpen 51 = .ok (.ireturn, 1) := by decide +kernel
theorem dX9_changeDepth_0 : decode cX9_changeDepth 0 = .ok (.iload_n 1, 1) := by decide +kernel
theorem dX9_changeDepth_1 : decode cX9_changeDepth 1 = .ok (.iconst 1, 1) := by decide +kernel
theorem dX9_changeDepth_2 : decode cX9_changeDepth 2 = .ok (.bipush 9, 2) := by decide +kernel
theorem dX9_changeDepth_4 : decode cX9_changeDepth 4 = .ok (.invokestatic 48, 3) := by decide +kernel
theorem dX9_changeDepth_7 : decode cX9_changeDepth 7 = .ok (.aload_n 0, 1) := by decide +kernel
theorem dX9_changeDepth_8 : decode cX9_changeDepth 8 = .ok (.getfield 19, 3) := by decide +kernel
theorem dX9_changeDepth_11 : decode cX9_changeDepth 11 = .ok (.aload_n 0, 1) := by decide +kernel
theorem dX9_changeDepth_12 : decode cX9_changeDepth 12 = .ok (.getfield 10, 3) := by decide +kernel
theorem dX9_changeDepth_15 : decode cX9_changeDepth 15 = .ok (.invokevirtual 52, 3) := by decide +kernel
theorem dX9_changeDepth_18 : decode cX9_changeDepth 18 = .ok (.aload_n 0, 1) := by decide +kernel
theorem dX9_changeDepth_19 : decode cX9_changeDepth 19 = .ok (.getfield 10, 3) := by decide +kernel
theorem dX9_changeDepth_22 : decode cX9_changeDepth 22 = .ok (.getfield 95, 3) := by decide +kernel
theorem dX9_changeDepth_25 : decode cX9_changeDepth 25 = .ok (.getfield 113, 3) := by decide +kernel
theorem dX9_changeDepth_28 : decode cX9_changeDepth 28 = .ok (.istore_n 2, 1) := by decide +kernel
theorem dX9_changeDepth_29 : decode cX9_changeDepth 29 = .ok (.aload_n 0, 1) := by decide +kernel
theorem dX9_changeDepth_30 : decode cX9_changeDepth 30 = .ok (.getfield 10, 3) := by decide +kernel
theorem dX9_changeDepth_33 : decode cX9_changeDepth 33 = .ok (.getfield 95, 3) := by decide +kernel
theorem dX9_changeDepth_36 : decode cX9_changeDepth 36 = .ok (.iload_n 1, 1) := by decide +kernel
theorem dX9_changeDepth_37 : decode cX9_changeDepth 37 = .ok (.putfield 113, 3) := by decide +kernel
theorem dX9_changeDepth_40 : decode cX9_changeDepth 40 = .ok (.iload_n 2, 1) := by decide +kernel
theorem dX9_changeDepth_41 : decode cX9_changeDepth 41 = .ok (.ireturn, 1) := by decide +kernel
theorem dX9_changeSpeed_0 : decode cX9_changeSpeed 0 = .ok (.iload_n 1, 1) := by decide +kernel
theorem dX9_changeSpeed_1 : decode cX9_changeSpeed 1 = .ok (.iconst 1, 1) := by decide +kernel
theorem dX9_changeSpeed_2 : decode cX9_changeSpeed 2 = .ok (.iconst 5, 1) := by decide +kernel
theorem dX9_changeSpeed_3 : decode cX9_changeSpeed 3 = .ok (.invokestatic 48, 3) := by decide +kernel
theorem dX9_changeSpeed_6 : decode cX9_changeSpeed 6 = .ok (.aload_n 0, 1) := by decide +kernel
theorem dX9_changeSpeed_7 : decode cX9_changeSpeed 7 = .ok (.getfield 19, 3) := by decide +kernel
theorem dX9_changeSpeed_10 : decode cX9_changeSpeed 10 = .ok (.aload_n 0, 1) := by decide +kernel
theorem dX9_changeSpeed_11 : decode cX9_changeSpeed 11 = .ok (.getfield 10, 3) := by decide +kernel
theorem dX9_changeSpeed_14 : decode cX9_changeSpeed 14 = .ok (.invokevirtual 52, 3) := by decide +kernel
theorem dX9_changeSpeed_17 : decode cX9_changeSpeed 17 = .ok (.aload_n 0, 1) := by decide +kernel
theorem dX9_changeSpeed_18 : decode cX9_changeSpeed 18 = .ok (.getfield 10, 3) := by decide +kernel
theorem dX9_changeSpeed_21 : decode cX9_changeSpeed 21 = .ok (.getfield 95, 3) := by decide +kernel
theorem dX9_changeSpeed_24 : decode cX9_changeSpeed 24 = .ok (.getfield 116, 3) := by decide +kernel
theorem dX9_changeSpeed_27 : decode cX9_changeSpeed 27 = .ok (.istore_n 2, 1) := by decide +kernel
theorem dX9_changeSpeed_28 : decode cX9_changeSpeed 28 = .ok (.aload_n 0, 1) := by decide +kernel
theorem dX9_changeSpeed_29 : decode cX9_changeSpeed 29 = .ok (.getfield 10, 3) := by decide +kernel
theorem dX9_changeSpeed_32 : decode cX9_changeSpeed 32 = .ok (.getfield 95, 3) := by decide +kernel
theorem dX9_changeSpeed_35 : decode cX9_changeSpeed 35 = .ok (.iload_n 1, 1) := by decide +kernel
theorem dX9_changeSpeed_36 : decode cX9_changeSpeed 36 = .ok (.putfield 116, 3) := by decide +kernel
theorem dX9_changeSpeed_39 : decode cX9_changeSpeed 39 = .ok (.iload_n 2, 1) := by decide +kernel
theorem dX9_changeSpeed_40 : decode cX9_changeSpeed 40 = .ok (.ireturn, 1) := by decide +kernel
theorem dX9_changeTolerance_0 : decode cX9_changeTolerance 0 = .ok (.iload_n 1, 1) := by decide +kernel
theorem dX9_changeTolerance_1 : decode cX9_changeTolerance 1 = .ok (.iconst 0, 1) := by decide +kernel
theorem dX9_changeTolerance_2 : decode cX9_changeTolerance 2 = .ok (.bipush 20, 2) := by decide +kernel
theorem dX9_changeTolerance_4 : decode cX9_changeTolerance 4 = .ok (.invokestatic 48, 3) := by decide +kernel
theorem dX9_changeTolerance_7 : decode cX9_changeTolerance 7 = .ok (.aload_n 0, 1) := by decide +kernel
theorem dX9_changeTolerance_8 : decode cX9_changeTolerance 8 = .ok (.getfield 19, 3) := by decide +kernel
theorem dX9_changeTolerance_11 : decode cX9_changeTolerance 11 = .ok (.aload_n 0, 1) := by decide +kernel
theorem dX9_changeTolerance_12 : decode cX9_changeTolerance 12 = .ok (.getfield 10, 3) := by decide +kernel
theorem dX9_changeTolerance_15 : decode cX9_changeTolerance 15 = .ok (.invokevirtual 52, 3) := by decide +kernel
theorem dX9_changeTolerance_18 : decode cX9_changeTolerance 18 = .ok (.aload_n 0, 1) := by decide +kernel
theorem dX9_changeTolerance_19 : decode cX9_changeTolerance 19 = .ok (.getfield 10, 3) := by decide +kernel
theorem dX9_changeTolerance_22 : decode cX9_changeTolerance 22 = .ok (.getfield 119, 3) := by decide +kernel
theorem dX9_changeTolerance_25 : decode cX9_changeTolerance 25 = .ok (.istore_n 2, 1) := by decide +kernel
theorem dX9_changeTolerance_26 : decode cX9_changeTolerance 26 = .ok (.aload_n 0, 1) := by decide +kernel
theorem dX9_changeTolerance_27 : decode cX9_changeTolerance 27 = .ok (.getfield 10, 3) := by decide +kernel
theorem dX9_changeTolerance_30 : decode cX9_changeTolerance 30 = .ok (.iload_n 1, 1) := by decide +kernel
theorem dX9_changeTolerance_31 : decode cX9_changeTolerance 31 = .ok (.putfield 119, 3) := by decide +kernel
theorem dX9_changeTolerance_34 : decode cX9_changeTolerance 34 = .ok (.iload_n 2, 1) := by decide +kernel
theorem dX9_changeTolerance_35 : decode cX9_changeTolerance 35 = .ok (.ireturn, 1) := by decide +kernel
theorem dX9_sweep_0 : decode cX9_sweep 0 = .ok (.aload_n 0, 1) := by decide +kernel
theorem dX9_sweep_1 : decode cX9_sweep 1 = .ok (.getfield 19, 3) := by decide +kernel
theorem dX9_sweep_4 : decode cX9_sweep 4 = .ok (.aload_n 0, 1) := by decide +kernel
theorem dX9_sweep_5 : decode cX9_sweep 5 = .ok (.getfield 10, 3) := by decide +kernel
theorem dX9_sweep_8 : decode cX9_sweep 8 = .ok (.invokevirtual 52, 3) := by decide +kernel
theorem dX9_sweep_11 : decode cX9_sweep 11 = .ok (.aload_n 0, 1) := by decide +kernel
theorem dX9_sweep_12 : decode cX9_sweep 12 = .ok (.getfield 10, 3) := by decide +kernel
theorem dX9_sweep_15 : decode cX9_sweep 15 = .ok (.getfield 122, 3) := by decide +kernel
theorem dX9_sweep_18 : decode cX9_sweep 18 = .ok (.istore_n 1, 1) := by decide +kernel
theorem dX9_sweep_19 : decode cX9_sweep 19 = .ok (.aload_n 0, 1) := by decide +kernel
theorem dX9_sweep_20 : decode cX9_sweep 20 = .ok (.getfield 10, 3) := by decide +kernel
theorem dX9_sweep_23 : decode cX9_sweep 23 = .ok (.iconst 0, 1) := by decide +kernel
theorem dX9_sweep_24 : decode cX9_sweep 24 = .ok (.putfield 122, 3) := by decide +kernel
theorem dX9_sweep_27 : decode cX9_sweep 27 = .ok (.aload_n 0, 1) := by decide +kernel
theorem dX9_sweep_28 : decode cX9_sweep 28 = .ok (.getfield 10, 3) := by decide +kernel
theorem dX9_sweep_31 : decode cX9_sweep 31 = .ok (.iconst 0, 1) := by decide +kernel
theorem dX9_sweep_32 : decode cX9_sweep 32 = .ok (.putfield 125, 3) := by decide +kernel
theorem dX9_sweep_35 : decode cX9_sweep 35 = .ok (.iload_n 1, 1) := by decide +kernel
theorem dX9_sweep_36 : decode cX9_sweep 36 = .ok (.ireturn, 1) := by decide +kernel
theorem dX9_addBlank_0 : decode cX9_addBlank 0 = .ok (.iload_n 1, 1) := by decide +kernel
theorem dX9_addBlank_1 : decode cX9_addBlank 1 = .ok (.iconst 3, 1) := by decide +kernel
theorem dX9_addBlank_2 : decode cX9_addBlank 2 = .ok (.invokestatic 129, 3) := by decide +kernel
theorem dX9_addBlank_5 : decode cX9_addBlank 5 = .ok (.iload_n 2, 1) := by decide +kernel
theorem dX9_addBlank_6 : decode cX9_addBlank 6 = .ok (.bipush 20, 2) := by decide +kernel
theorem dX9_addBlank_8 : decode cX9_addBlank 8 = .ok (.bipush 120, 2) := by decide +kernel
theorem dX9_addBlank_10 : decode cX9_addBlank 10 = .ok (.invokestatic 48, 3) := by decide +kernel
theorem dX9_addBlank_13 : decode cX9_addBlank 13 = .ok (.aload_n 0, 1) := by decide +kernel
theorem dX9_addBlank_14 : decode cX9_addBlank 14 = .ok (.getfield 10, 3) := by decide +kernel
theorem dX9_addBlank_17 : decode cX9_addBlank 17 = .ok (.getfield 133, 3) := by decide +kernel
theorem dX9_addBlank_20 : decode cX9_addBlank 20 = .ok (.getfield 137, 3) := by decide +kernel
theorem dX9_addBlank_23 : decode cX9_addBlank 23 = .ok (.iconst 5, 1) := by decide +kernel
theorem dX9_addBlank_24 : decode cX9_addBlank 24 = .ok (.if_icmp .ge 7, 3) := by decide +kernel
theorem dX9_addBlank_27 : decode cX9_addBlank 27 = .ok (.iconst 1, 1) := by decide +kernel
theorem dX9_addBlank_28 : decode cX9_addBlank 28 = .ok (.goto 4, 3) := by decide +kernel
theorem dX9_addBlank_31 : decode cX9_addBlank 31 = .ok (.iconst 0, 1) := by decide +kernel
theorem dX9_addBlank_32 : decode cX9_addBlank 32 = .ok (.invokestatic 142, 3) := by decide +kernel
theorem dX9_addBlank_35 : decode cX9_addBlank 35 = .ok (.aload_n 0, 1) := by decide +kernel
theorem dX9_addBlank_36 : decode cX9_addBlank 36 = .ok (.getfield 19, 3) := by decide +kernel
theorem dX9_addBlank_39 : decode cX9_addBlank 39 = .ok (.aload_n 0, 1) := by decide +kernel
theorem dX9_addBlank_40 : decode cX9_addBlank 40 = .ok (.getfield 10, 3) := by decide +kernel
theorem dX9_addBlank_43 : decode cX9_addBlank 43 = .ok (.invokevirtual 52, 3) := by decide +kernel
theorem dX9_addBlank_46 : decode cX9_addBlank 46 = .ok (.aload_n 0, 1) := by decide +kernel
theorem dX9_addBlank_47 : decode cX9_addBlank 47 = .ok (.getfield 10, 3) := by decide +kernel
theorem dX9_addBlank_50 : decode cX9_addBlank 50 = .ok (.getfield 133, 3) := by decide +kernel
theorem dX9_addBlank_53 : decode cX9_addBlank 53 = .ok (.iload_n 1, 1) := by decide +kernel
theorem dX9_addBlank_54 : decode cX9_addBlank 54 = .ok (.iload_n 2, 1) := by decide +kernel
theorem dX9_addBlank_55 : decode cX9_addBlank 55 = .ok (.invokevirtual 146, 3) := by decide +kernel
theorem dX9_addBlank_58 : decode cX9_addBlank 58 = .ok (.ireturn, 1) := by decide +kernel
theorem dX9_burn_0 : decode cX9_burn 0 = .ok (.aload_n 0, 1) := by decide +kernel
theorem dX9_burn_1 : decode cX9_burn 1 = .ok (.iload_n 1, 1) := by decide +kernel
theorem dX9_burn_2 : decode cX9_burn 2 = .ok (.invokevirtual 149, 3) := by decide +kernel
theorem dX9_burn_5 : decode cX9_burn 5 = .ok (.iload_n 1, 1) := by decide +kernel
theorem dX9_burn_6 : decode cX9_burn 6 = .ok (.aload_n 0, 1) := by decide +kernel
theorem dX9_burn_7 : decode cX9_burn 7 = .ok (.getfield 10, 3) := by decide +kernel
theorem dX9_burn_10 : decode cX9_burn 10 = .ok (.getfield 133, 3) := by decide +kernel
theorem dX9_burn_13 : decode cX9_burn 13 = .ok (.getfield 152, 3) := by decide +kernel
theorem dX9_burn_16 : decode cX9_burn 16 = .ok (.if_icmp .eq 7, 3) := by decide +kernel
theorem dX9_burn_19 : decode cX9_burn 19 = .ok (.iconst 1, 1) := by decide +kernel
theorem dX9_burn_20 : decode cX9_burn 20 = .ok (.goto 4, 3) := by decide +kernel
theorem dX9_burn_23 : decode cX9_burn 23 = .ok (.iconst 0, 1) := by decide +kernel
theorem dX9_burn_24 : decode cX9_burn 24 = .ok (.invokestatic 142, 3) := by decide +kernel
theorem dX9_burn_27 : decode cX9_burn 27 = .ok (.aload_n 0, 1) := by decide +kernel
theorem dX9_burn_28 : decode cX9_burn 28 = .ok (.getfield 19, 3) := by decide +kernel
theorem dX9_burn_31 : decode cX9_burn 31 = .ok (.aload_n 0, 1) := by decide +kernel
theorem dX9_burn_32 : decode cX9_burn 32 = .ok (.getfield 10, 3) := by decide +kernel
theorem dX9_burn_35 : decode cX9_burn 35 = .ok (.invokevirtual 52, 3) := by decide +kernel
theorem dX9_burn_38 : decode cX9_burn 38 = .ok (.aload_n 0, 1) := by decide +kernel
theorem dX9_burn_39 : decode cX9_burn 39 = .ok (.getfield 10, 3) := by decide +kernel
theorem dX9_burn_42 : decode cX9_burn 42 = .ok (.getfield 133, 3) := by decide +kernel
theorem dX9_burn_45 : decode cX9_burn 45 = .ok (.iload_n 1, 1) := by decide +kernel
theorem dX9_burn_46 : decode cX9_burn 46 = .ok (.invokevirtual 155, 3) := by decide +kernel
theorem dX9_burn_49 : decode cX9_burn 49 = .ok (.aload_n 0, 1) := by decide +kernel
theorem dX9_burn_50 : decode cX9_burn 50 = .ok (.getfield 10, 3) := by decide +kernel
theorem dX9_burn_53 : decode cX9_burn 53 = .ok (.getfield 104, 3) := by decide +kernel
theorem dX9_burn_56 : decode cX9_burn 56 = .ok (.dup, 1) := by decide +kernel
theorem dX9_burn_57 : decode cX9_burn 57 = .ok (.getfield 158, 3) := by decide +kernel
theorem dX9_burn_60 : decode cX9_burn 60 = .ok (.iconst 1, 1) := by decide +kernel
theorem dX9_burn_61 : decode cX9_burn 61 = .ok (.iadd, 1) := by decide +kernel
theorem dX9_burn_62 : decode cX9_burn 62 = .ok (.putfield 158, 3) := by decide +kernel
theorem dX9_burn_65 : decode cX9_burn 65 = .ok (.aload_n 0, 1) := by decide +kernel
theorem dX9_burn_66 : decode cX9_burn 66 = .ok (.getfield 10, 3) := by decide +kernel
theorem dX9_burn_69 : decode cX9_burn 69 = .ok (.getfield 133, 3) := by decide +kernel
theorem dX9_burn_72 : decode cX9_burn 72 = .ok (.getfield 137, 3) := by decide +kernel
theorem dX9_burn_75 : decode cX9_burn 75 = .ok (.ireturn, 1) := by decide +kernel
theorem dX9_mount_0 : decode cX9_mount 0 = .ok (.aload_n 0, 1) := by decide +kernel
theorem dX9_mount_1 : decode cX9_mount 1 = .ok (.iload_n 1, 1) := by decide +kernel
theorem dX9_mount_2 : decode cX9_mount 2 = .ok (.invokevirtual 149, 3) := by decide +kernel
theorem dX9_mount_5 : decode cX9_mount 5 = .ok (.aload_n 0, 1) := by decide +kernel
theorem dX9_mount_6 : decode cX9_mount 6 = .ok (.getfield 10, 3) := by decide +kernel
theorem dX9_mount_9 : decode cX9_mount 9 = .ok (.getfield 133, 3) := by decide +kernel
theorem dX9_mount_12 : decode cX9_mount 12 = .ok (.invokevirtual 161, 3) := by decide +kernel
theorem dX9_mount_15 : decode cX9_mount 15 = .ok (.ifCond .ne 7, 3) := by decide +kernel
theorem dX9_mount_18 : decode cX9_mount 18 = .ok (.iconst 1, 1) := by decide +kernel
theorem dX9_mount_19 : decode cX9_mount 19 = .ok (.goto 4, 3) := by decide +kernel
theorem dX9_mount_22 : decode cX9_mount 22 = .ok (.iconst 0, 1) := by decide +kernel
theorem dX9_mount_23 : decode cX9_mount 23 = .ok (.invokestatic 142, 3) := by decide +kernel
theorem dX9_mount_26 : decode cX9_mount 26 = .ok (.aload_n 0, 1) := by decide +kernel
theorem dX9_mount_27 : decode cX9_mount 27 = .ok (.getfield 19, 3) := by decide +kernel
theorem dX9_mount_30 : decode cX9_mount 30 = .ok (.aload_n 0, 1) := by decide +kernel
theorem dX9_mount_31 : decode cX9_mount 31 = .ok (.getfield 10, 3) := by decide +kernel
theorem dX9_mount_34 : decode cX9_mount 34 = .ok (.invokevirtual 52, 3) := by decide +kernel
theorem dX9_mount_37 : decode cX9_mount 37 = .ok (.aload_n 0, 1) := by decide +kernel
theorem dX9_mount_38 : decode cX9_mount 38 = .ok (.getfield 10, 3) := by decide +kernel
theorem dX9_mount_41 : decode cX9_mount 41 = .ok (.getfield 133, 3) := by decide +kernel
theorem dX9_mount_44 : decode cX9_mount 44 = .ok (.iload_n 1, 1) := by decide +kernel
theorem dX9_mount_45 : decode cX9_mount 45 = .ok (.putfield 152, 3) := by decide +kernel
theorem dX9_mount_48 : decode cX9_mount 48 = .ok (.return_, 1) := by decide +kernel
theorem dX9_takeOut_0 : decode cX9_takeOut 0 = .ok (.aload_n 0, 1) := by decide +kernel
theorem dX9_takeOut_1 : decode cX9_takeOut 1 = .ok (.invokevirtual 165, 3) := by decide +kernel
theorem dX9_takeOut_4 : decode cX9_takeOut 4 = .ok (.aload_n 0, 1) := by decide +kernel
theorem dX9_takeOut_5 : decode cX9_takeOut 5 = .ok (.getfield 19, 3) := by decide +kernel
theorem dX9_takeOut_8 : decode cX9_takeOut 8 = .ok (.aload_n 0, 1) := by decide +kernel
theorem dX9_takeOut_9 : decode cX9_takeOut 9 = .ok (.getfield 10, 3) := by decide +kernel
theorem dX9_takeOut_12 : decode cX9_takeOut 12 = .ok (.invokevirtual 52, 3) := by decide +kernel
theorem dX9_takeOut_15 : decode cX9_takeOut 15 = .ok (.aload_n 0, 1) := by decide +kernel
theorem dX9_takeOut_16 : decode cX9_takeOut 16 = .ok (.getfield 10, 3) := by decide +kernel
theorem dX9_takeOut_19 : decode cX9_takeOut 19 = .ok (.getfield 133, 3) := by decide +kernel
theorem dX9_takeOut_22 : decode cX9_takeOut 22 = .ok (.getfield 152, 3) := by decide +kernel
theorem dX9_takeOut_25 : decode cX9_takeOut 25 = .ok (.istore_n 1, 1) := by decide +kernel
theorem dX9_takeOut_26 : decode cX9_takeOut 26 = .ok (.aload_n 0, 1) := by decide +kernel
theorem dX9_takeOut_27 : decode cX9_takeOut 27 = .ok (.getfield 10, 3) := by decide +kernel
theorem dX9_takeOut_30 : decode cX9_takeOut 30 = .ok (.getfield 133, 3) := by decide +kernel
theorem dX9_takeOut_33 : decode cX9_takeOut 33 = .ok (.iconst (-1), 1) := by decide +kernel
theorem dX9_takeOut_34 : decode cX9_takeOut 34 = .ok (.putfield 152, 3) := by decide +kernel
theorem dX9_takeOut_37 : decode cX9_takeOut 37 = .ok (.iload_n 1, 1) := by decide +kernel
theorem dX9_takeOut_38 : decode cX9_takeOut 38 = .ok (.ireturn, 1) := by decide +kernel
theorem dX9_pass_0 : decode cX9_pass 0 = .ok (.aload_n 0, 1) := by decide +kernel
theorem dX9_pass_1 : decode cX9_pass 1 = .ok (.invokevirtual 168, 3) := by decide +kernel
theorem dX9_pass_4 : decode cX9_pass 4 = .ok (.aload_n 0, 1) := by decide +kernel
theorem dX9_pass_5 : decode cX9_pass 5 = .ok (.getfield 19, 3) := by decide +kernel
theorem dX9_pass_8 : decode cX9_pass 8 = .ok (.aload_n 0, 1) := by decide +kernel
theorem dX9_pass_9 : decode cX9_pass 9 = .ok (.getfield 10, 3) := by decide +kernel
theorem dX9_pass_12 : decode cX9_pass 12 = .ok (.invokevirtual 52, 3) := by decide +kernel
theorem dX9_pass_15 : decode cX9_pass 15 = .ok (.aload_n 0, 1) := by decide +kernel
theorem dX9_pass_16 : decode cX9_pass 16 = .ok (.getfield 10, 3) := by decide +kernel
theorem dX9_pass_19 : decode cX9_pass 19 = .ok (.invokevirtual 171, 3) := by decide +kernel
theorem dX9_pass_22 : decode cX9_pass 22 = .ok (.ireturn, 1) := by decide +kernel
theorem dX9_passUpTo_0 : decode cX9_passUpTo 0 = .ok (.iload_n 1, 1) := by decide +kernel
theorem dX9_passUpTo_1 : decode cX9_passUpTo 1 = .ok (.iconst 1, 1) := by decide +kernel
theorem dX9_passUpTo_2 : decode cX9_passUpTo 2 = .ok (.bipush 30, 2) := by decide +kernel
theorem dX9_passUpTo_4 : decode cX9_passUpTo 4 = .ok (.invokestatic 48, 3) := by decide +kernel
theorem dX9_passUpTo_7 : decode cX9_passUpTo 7 = .ok (.aload_n 0, 1) := by decide +kernel
theorem dX9_passUpTo_8 : decode cX9_passUpTo 8 = .ok (.invokevirtual 168, 3) := by decide +kernel
theorem dX9_passUpTo_11 : decode cX9_passUpTo 11 = .ok (.aload_n 0, 1) := by decide +kernel
theorem dX9_passUpTo_12 : decode cX9_passUpTo 12 = .ok (.getfield 19, 3) := by decide +kernel
theorem dX9_passUpTo_15 : decode cX9_passUpTo 15 = .ok (.aload_n 0, 1) := by decide +kernel
theorem dX9_passUpTo_16 : decode cX9_passUpTo 16 = .ok (.getfield 10, 3) := by decide +kernel
theorem dX9_passUpTo_19 : decode cX9_passUpTo 19 = .ok (.invokevirtual 52, 3) := by decide +kernel
theorem dX9_passUpTo_22 : decode cX9_passUpTo 22 = .ok (.iconst 0, 1) := by decide +kernel
theorem dX9_passUpTo_23 : decode cX9_passUpTo 23 = .ok (.istore_n 2, 1) := by decide +kernel
theorem dX9_passUpTo_24 : decode cX9_passUpTo 24 = .ok (.iload_n 2, 1) := by decide +kernel
theorem dX9_passUpTo_25 : decode cX9_passUpTo 25 = .ok (.iload_n 1, 1) := by decide +kernel
theorem dX9_passUpTo_26 : decode cX9_passUpTo 26 = .ok (.if_icmp .ge 47, 3) := by decide +kernel
theorem dX9_passUpTo_29 : decode cX9_passUpTo 29 = .ok (.aload_n 0, 1) := by decide +kernel
theorem dX9_passUpTo_30 : decode cX9_passUpTo 30 = .ok (.getfield 10, 3) := by decide +kernel
theorem dX9_passUpTo_33 : decode cX9_passUpTo 33 = .ok (.invokevirtual 175, 3) := by decide +kernel
theorem dX9_passUpTo_36 : decode cX9_passUpTo 36 = .ok (.ifCond .eq 37, 3) := by decide +kernel
theorem dX9_passUpTo_39 : decode cX9_passUpTo 39 = .ok (.aload_n 0, 1) := by decide +kernel
theorem dX9_passUpTo_40 : decode cX9_passUpTo 40 = .ok (.getfield 10, 3) := by decide +kernel
theorem dX9_passUpTo_43 : decode cX9_passUpTo 43 = .ok (.aload_n 0, 1) := by decide +kernel
theorem dX9_passUpTo_44 : decode cX9_passUpTo 44 = .ok (.getfield 10, 3) := by decide +kernel
theorem dX9_passUpTo_47 : decode cX9_passUpTo 47 = .ok (.getfield 133, 3) := by decide +kernel
theorem dX9_passUpTo_50 : decode cX9_passUpTo 50 = .ok (.getfield 152, 3) := by decide +kernel
theorem dX9_passUpTo_53 : decode cX9_passUpTo 53 = .ok (.invokevirtual 178, 3) := by decide +kernel
theorem dX9_passUpTo_56 : decode cX9_passUpTo 56 = .ok (.ifCond .le 17, 3) := by decide +kernel
theorem dX9_passUpTo_59 : decode cX9_passUpTo 59 = .ok (.aload_n 0, 1) := by decide +kernel
theorem dX9_passUpTo_60 : decode cX9_passUpTo 60 = .ok (.getfield 10, 3) := by decide +kernel
theorem dX9_passUpTo_63 : decode cX9_passUpTo 63 = .ok (.invokevirtual 171, 3) := by decide +kernel
theorem dX9_passUpTo_66 : decode cX9_passUpTo 66 = .ok (.pop, 1) := by decide +kernel
theorem dX9_passUpTo_67 : decode cX9_passUpTo 67 = .ok (.iinc 2 1, 3) := by decide +kernel
theorem dX9_passUpTo_70 : decode cX9_passUpTo 70 = .ok (.goto (-46), 3) := by decide +kernel
theorem dX9_passUpTo_73 : decode cX9_passUpTo 73 = .ok (.iload_n 2, 1) := by decide +kernel
theorem dX9_passUpTo_74 : decode cX9_passUpTo 74 = .ok (.ireturn, 1) := by decide +kernel
theorem dX9_sand_0 : decode cX9_sand 0 = .ok (.iload_n 1, 1) := by decide +kernel
theorem dX9_sand_1 : decode cX9_sand 1 = .ok (.iconst 1, 1) := by decide +kernel
theorem dX9_sand_2 : decode cX9_sand 2 = .ok (.iconst 3, 1) := by decide +kernel
theorem dX9_sand_3 : decode cX9_sand 3 = .ok (.invokestatic 48, 3) := by decide +kernel
theorem dX9_sand_6 : decode cX9_sand 6 = .ok (.aload_n 0, 1) := by decide +kernel
theorem dX9_sand_7 : decode cX9_sand 7 = .ok (.invokevirtual 165, 3) := by decide +kernel
theorem dX9_sand_10 : decode cX9_sand 10 = .ok (.aload_n 0, 1) := by decide +kernel
theorem dX9_sand_11 : decode cX9_sand 11 = .ok (.getfield 19, 3) := by decide +kernel
theorem dX9_sand_14 : decode cX9_sand 14 = .ok (.aload_n 0, 1) := by decide +kernel
theorem dX9_sand_15 : decode cX9_sand 15 = .ok (.getfield 10, 3) := by decide +kernel
theorem dX9_sand_18 : decode cX9_sand 18 = .ok (.invokevirtual 52, 3) := by decide +kernel
theorem dX9_sand_21 : decode cX9_sand 21 = .ok (.aload_n 0, 1) := by decide +kernel
theorem dX9_sand_22 : decode cX9_sand 22 = .ok (.getfield 10, 3) := by decide +kernel
theorem dX9_sand_25 : decode cX9_sand 25 = .ok (.iload_n 1, 1) := by decide +kernel
theorem dX9_sand_26 : decode cX9_sand 26 = .ok (.invokevirtual 181, 3) := by decide +kernel
theorem dX9_sand_29 : decode cX9_sand 29 = .ok (.ireturn, 1) := by decide +kernel
theorem dX9_undo_0 : decode cX9_undo 0 = .ok (.aload_n 0, 1) := by decide +kernel
theorem dX9_undo_1 : decode cX9_undo 1 = .ok (.getfield 19, 3) := by decide +kernel
theorem dX9_undo_4 : decode cX9_undo 4 = .ok (.getfield 224, 3) := by decide +kernel
theorem dX9_undo_7 : decode cX9_undo 7 = .ok (.ifCond .le 7, 3) := by decide +kernel
theorem dX9_undo_10 : decode cX9_undo 10 = .ok (.iconst 1, 1) := by decide +kernel
theorem dX9_undo_11 : decode cX9_undo 11 = .ok (.goto 4, 3) := by decide +kernel
theorem dX9_undo_14 : decode cX9_undo 14 = .ok (.iconst 0, 1) := by decide +kernel
theorem dX9_undo_15 : decode cX9_undo 15 = .ok (.invokestatic 142, 3) := by decide +kernel
theorem dX9_undo_18 : decode cX9_undo 18 = .ok (.aload_n 0, 1) := by decide +kernel
theorem dX9_undo_19 : decode cX9_undo 19 = .ok (.getfield 19, 3) := by decide +kernel
theorem dX9_undo_22 : decode cX9_undo 22 = .ok (.aload_n 0, 1) := by decide +kernel
theorem dX9_undo_23 : decode cX9_undo 23 = .ok (.getfield 10, 3) := by decide +kernel
theorem dX9_undo_26 : decode cX9_undo 26 = .ok (.invokevirtual 225, 3) := by decide +kernel
theorem dX9_undo_29 : decode cX9_undo 29 = .ok (.return_, 1) := by decide +kernel
theorem dX9_savedStates_0 : decode cX9_savedStates 0 = .ok (.aload_n 0, 1) := by decide +kernel
theorem dX9_savedStates_1 : decode cX9_savedStates 1 = .ok (.getfield 19, 3) := by decide +kernel
theorem dX9_savedStates_4 : decode cX9_savedStates 4 = .ok (.getfield 224, 3) := by decide +kernel
theorem dX9_savedStates_7 : decode cX9_savedStates 7 = .ok (.ireturn, 1) := by decide +kernel
theorem dX9_masterAt_0 : decode cX9_masterAt 0 = .ok (.iload_n 1, 1) := by decide +kernel
theorem dX9_masterAt_1 : decode cX9_masterAt 1 = .ok (.invokestatic 42, 3) := by decide +kernel
theorem dX9_masterAt_4 : decode cX9_masterAt 4 = .ok (.iload_n 2, 1) := by decide +kernel
theorem dX9_masterAt_5 : decode cX9_masterAt 5 = .ok (.invokestatic 45, 3) := by decide +kernel
theorem dX9_masterAt_8 : decode cX9_masterAt 8 = .ok (.aload_n 0, 1) := by decide +kernel
theorem dX9_masterAt_9 : decode cX9_masterAt 9 = .ok (.getfield 10, 3) := by decide +kernel
theorem dX9_masterAt_12 : decode cX9_masterAt 12 = .ok (.getfield 56, 3) := by decide +kernel
theorem dX9_masterAt_15 : decode cX9_masterAt 15 = .ok (.iload_n 1, 1) := by decide +kernel
theorem dX9_masterAt_16 : decode cX9_masterAt 16 = .ok (.iload_n 2, 1) := by decide +kernel
theorem dX9_masterAt_17 : decode cX9_masterAt 17 = .ok (.invokevirtual 60, 3) := by decide +kernel
theorem dX9_masterAt_20 : decode cX9_masterAt 20 = .ok (.ireturn, 1) := by decide +kernel
theorem dX9_chosenMaster_0 : decode cX9_chosenMaster 0 = .ok (.aload_n 0, 1) := by decide +kernel
theorem dX9_chosenMaster_1 : decode cX9_chosenMaster 1 = .ok (.getfield 10, 3) := by decide +kernel
theorem dX9_chosenMaster_4 : decode cX9_chosenMaster 4 = .ok (.getfield 56, 3) := by decide +kernel
theorem dX9_chosenMaster_7 : decode cX9_chosenMaster 7 = .ok (.getfield 76, 3) := by decide +kernel
theorem dX9_chosenMaster_10 : decode cX9_chosenMaster 10 = .ok (.ireturn, 1) := by decide +kernel
theorem dX9_radius_0 : decode cX9_radius 0 = .ok (.aload_n 0, 1) := by decide +kernel
theorem dX9_radius_1 : decode cX9_radius 1 = .ok (.getfield 10, 3) := by decide +kernel
theorem dX9_radius_4 : decode cX9_radius 4 = .ok (.getfield 80, 3) := by decide +kernel
theorem dX9_radius_7 : decode cX9_radius 7 = .ok (.getfield 228, 3) := by decide +kernel
theorem dX9_radius_10 : decode cX9_radius 10 = .ok (.ireturn, 1) := by decide +kernel
theorem dX9_wear_0 : decode cX9_wear 0 = .ok (.aload_n 0, 1) := by decide +kernel
theorem dX9_wear_1 : decode cX9_wear 1 = .ok (.getfield 10, 3) := by decide +kernel
theorem dX9_wear_4 : decode cX9_wear 4 = .ok (.getfield 80, 3) := by decide +kernel
theorem dX9_wear_7 : decode cX9_wear 7 = .ok (.getfield 84, 3) := by decide +kernel
theorem dX9_wear_10 : decode cX9_wear 10 = .ok (.ireturn, 1) := by decide +kernel
theorem dX9_offset_0 : decode cX9_offset 0 = .ok (.aload_n 0, 1) := by decide +kernel
theorem dX9_offset_1 : decode cX9_offset 1 = .ok (.getfield 10, 3) := by decide +kernel
theorem dX9_offset_4 : decode cX9_offset 4 = .ok (.getfield 80, 3) := by decide +kernel
theorem dX9_offset_7 : decode cX9_offset 7 = .ok (.getfield 92, 3) := by decide +kernel
theorem dX9_offset_10 : decode cX9_offset 10 = .ok (.ireturn, 1) := by decide +kernel
theorem dX9_sharpness_0 : decode cX9_sharpness 0 = .ok (.aload_n 0, 1) := by decide +kernel
theorem dX9_sharpness_1 : decode cX9_sharpness 1 = .ok (.getfield 10, 3) := by decide +kernel
theorem dX9_sharpness_4 : decode cX9_sharpness 4 = .ok (.getfield 95, 3) := by decide +kernel
theorem dX9_sharpness_7 : decode cX9_sharpness 7 = .ok (.getfield 99, 3) := by decide +kernel
theorem dX9_sharpness_10 : decode cX9_sharpness 10 = .ok (.ireturn, 1) := by decide +kernel
theorem dX9_depth_0 : decode cX9_depth 0 = .ok (.aload_n 0, 1) := by decide +kernel
theorem dX9_depth_1 : decode cX9_depth 1 = .ok (.getfield 10, 3) := by decide +kernel
theorem dX9_depth_4 : decode cX9_depth 4 = .ok (.getfield 95, 3) := by decide +kernel
theorem dX9_depth_7 : decode cX9_depth 7 = .ok (.getfield 113, 3) := by decide +kernel
theorem dX9_depth_10 : decode cX9_depth 10 = .ok (.ireturn, 1) := by decide +kernel
theorem dX9_cutDepth_0 : decode cX9_cutDepth 0 = .ok (.aload_n 0, 1) := by decide +kernel
theorem dX9_cutDepth_1 : decode cX9_cutDepth 1 = .ok (.getfield 10, 3) := by decide +kernel
theorem dX9_cutDepth_4 : decode cX9_cutDepth 4 = .ok (.getfield 95, 3) := by decide +kernel
theorem dX9_cutDepth_7 : decode cX9_cutDepth 7 = .ok (.invokevirtual 231, 3) := by decide +kernel
theorem dX9_cutDepth_10 : decode cX9_cutDepth 10 = .ok (.ireturn, 1) := by decide +kernel
theorem dX9_speed_0 : decode cX9_speed 0 = .ok (.aload_n 0, 1) := by decide +kernel
theorem dX9_speed_1 : decode cX9_speed 1 = .ok (.getfield 10, 3) := by decide +kernel
theorem dX9_speed_4 : decode cX9_speed 4 = .ok (.getfield 95, 3) := by decide +kernel
theorem dX9_speed_7 : decode cX9_speed 7 = .ok (.getfield 116, 3) := by decide +kernel
theorem dX9_speed_10 : decode cX9_speed 10 = .ok (.ireturn, 1) := by decide +kernel
theorem dX9_tolerance_0 : decode cX9_tolerance 0 = .ok (.aload_n 0, 1) := by decide +kernel
theorem dX9_tolerance_1 : decode cX9_tolerance 1 = .ok (.getfield 10, 3) := by decide +kernel
theorem dX9_tolerance_4 : decode cX9_tolerance 4 = .ok (.getfield 119, 3) := by decide +kernel
theorem dX9_tolerance_7 : decode cX9_tolerance 7 = .ok (.ireturn, 1) := by decide +kernel
theorem dX9_chips_0 : decode cX9_chips 0 = .ok (.aload_n 0, 1) := by decide +kernel
theorem dX9_chips_1 : decode cX9_chips 1 = .ok (.getfield 10, 3) := by decide +kernel
theorem dX9_chips_4 : decode cX9_chips 4 = .ok (.getfield 122, 3) := by decide +kernel
theorem dX9_chips_7 : decode cX9_chips 7 = .ok (.ireturn, 1) := by decide +kernel
theorem dX9_roomForChips_0 : decode cX9_roomForChips 0 = .ok (.sipush 200, 3) := by decide +kernel
theorem dX9_roomForChips_3 : decode cX9_roomForChips 3 = .ok (.aload_n 0, 1) := by decide +kernel
theorem dX9_roomForChips_4 : decode cX9_roomForChips 4 = .ok (.getfield 10, 3) := by decide +kernel
theorem dX9_roomForChips_7 : decode cX9_roomForChips 7 = .ok (.getfield 122, 3) := by decide +kernel
theorem dX9_roomForChips_10 : decode cX9_roomForChips 10 = .ok (.isub, 1) := by decide +kernel
theorem dX9_roomForChips_11 : decode cX9_roomForChips 11 = .ok (.ireturn, 1) := by decide +kernel
theorem dX9_isJammed_0 : decode cX9_isJammed 0 = .ok (.aload_n 0, 1) := by decide +kernel
theorem dX9_isJammed_1 : decode cX9_isJammed 1 = .ok (.getfield 10, 3) := by decide +kernel
theorem dX9_isJammed_4 : decode cX9_isJammed 4 = .ok (.getfield 125, 3) := by decide +kernel
theorem dX9_isJammed_7 : decode cX9_isJammed 7 = .ok (.ireturn, 1) := by decide +kernel
theorem dX9_pieces_0 : decode cX9_pieces 0 = .ok (.aload_n 0, 1) := by decide +kernel
theorem dX9_pieces_1 : decode cX9_pieces 1 = .ok (.getfield 10, 3) := by decide +kernel
theorem dX9_pieces_4 : decode cX9_pieces 4 = .ok (.getfield 133, 3) := by decide +kernel
theorem dX9_pieces_7 : decode cX9_pieces 7 = .ok (.getfield 137, 3) := by decide +kernel
theorem dX9_pieces_10 : decode cX9_pieces 10 = .ok (.ireturn, 1) := by decide +kernel
theorem dX9_woodOf_0 : decode cX9_woodOf 0 = .ok (.aload_n 0, 1) := by decide +kernel
theorem dX9_woodOf_1 : decode cX9_woodOf 1 = .ok (.iload_n 1, 1) := by decide +kernel
theorem dX9_woodOf_2 : decode cX9_woodOf 2 = .ok (.invokevirtual 149, 3) := by decide +kernel
theorem dX9_woodOf_5 : decode cX9_woodOf 5 = .ok (.aload_n 0, 1) := by decide +kernel
theorem dX9_woodOf_6 : decode cX9_woodOf 6 = .ok (.getfield 10, 3) := by decide +kernel
theorem dX9_woodOf_9 : decode cX9_woodOf 9 = .ok (.getfield 133, 3) := by decide +kernel
theorem dX9_woodOf_12 : decode cX9_woodOf 12 = .ok (.getfield 234, 3) := by decide +kernel
theorem dX9_woodOf_15 : decode cX9_woodOf 15 = .ok (.iload_n 1, 1) := by decide +kernel
theorem dX9_woodOf_16 : decode cX9_woodOf 16 = .ok (.invokevirtual 204, 3) := by decide +kernel
theorem dX9_woodOf_19 : decode cX9_woodOf 19 = .ok (.ireturn, 1) := by decide +kernel
theorem dX9_diameterAt_0 : decode cX9_diameterAt 0 = .ok (.aload_n 0, 1) := by decide +kernel
theorem dX9_diameterAt_1 : decode cX9_diameterAt 1 = .ok (.iload_n 1, 1) := by decide +kernel
theorem dX9_diameterAt_2 : decode cX9_diameterAt 2 = .ok (.invokevirtual 149, 3) := by decide +kernel
theorem dX9_diameterAt_5 : decode cX9_diameterAt 5 = .ok (.iload_n 2, 1) := by decide +kernel
theorem dX9_diameterAt_6 : decode cX9_diameterAt 6 = .ok (.invokestatic 45, 3) := by decide +kernel
theorem dX9_diameterAt_9 : decode cX9_diameterAt 9 = .ok (.aload_n 0, 1) := by decide +kernel
theorem dX9_diameterAt_10 : decode cX9_diameterAt 10 = .ok (.getfield 10, 3) := by decide +kernel
theorem dX9_diameterAt_13 : decode cX9_diameterAt 13 = .ok (.getfield 133, 3) := by decide +kernel
theorem dX9_diameterAt_16 : decode cX9_diameterAt 16 = .ok (.iload_n 1, 1) := by decide +kernel
theorem dX9_diameterAt_17 : decode cX9_diameterAt 17 = .ok (.iload_n 2, 1) := by decide +kernel
theorem dX9_diameterAt_18 : decode cX9_diameterAt 18 = .ok (.invokevirtual 237, 3) := by decide +kernel
theorem dX9_diameterAt_21 : decode cX9_diameterAt 21 = .ok (.ireturn, 1) := by decide +kernel
theorem dX9_passesOn_0 : decode cX9_passesOn 0 = .ok (.aload_n 0, 1) := by decide +kernel
theorem dX9_passesOn_1 : decode cX9_passesOn 1 = .ok (.iload_n 1, 1) := by decide +kernel
theorem dX9_passesOn_2 : decode cX9_passesOn 2 = .ok (.invokevirtual 149, 3) := by decide +kernel
theorem dX9_passesOn_5 : decode cX9_passesOn 5 = .ok (.aload_n 0, 1) := by decide +kernel
theorem dX9_passesOn_6 : decode cX9_passesOn 6 = .ok (.getfield 10, 3) := by decide +kernel
theorem dX9_passesOn_9 : decode cX9_passesOn 9 = .ok (.getfield 133, 3) := by decide +kernel
theorem dX9_passesOn_12 : decode cX9_passesOn 12 = .ok (.getfield 238, 3) := by decide +kernel
theorem dX9_passesOn_15 : decode cX9_passesOn 15 = .ok (.iload_n 1, 1) := by decide +kernel
theorem dX9_passesOn_16 : decode cX9_passesOn 16 = .ok (.invokevirtual 204, 3) := by decide +kernel
theorem dX9_passesOn_19 : decode cX9_passesOn 19 = .ok (.ireturn, 1) := by decide +kernel
theorem dX9_hasMounted_0 : decode cX9_hasMounted 0 = .ok (.aload_n 0, 1) := by decide +kernel
theorem dX9_hasMounted_1 : decode cX9_hasMounted 1 = .ok (.getfield 10, 3) := by decide +kernel
theorem dX9_hasMounted_4 : decode cX9_hasMounted 4 = .ok (.getfield 133, 3) := by decide +kernel
theorem dX9_hasMounted_7 : decode cX9_hasMounted 7 = .ok (.invokevirtual 161, 3) := by decide +kernel
theorem dX9_hasMounted_10 : decode cX9_hasMounted 10 = .ok (.ireturn, 1) := by decide +kernel
theorem dX9_mounted_0 : decode cX9_mounted 0 = .ok (.aload_n 0, 1) := by decide +kernel
theorem dX9_mounted_1 : decode cX9_mounted 1 = .ok (.invokevirtual 165, 3) := by decide +kernel
theorem dX9_mounted_4 : decode cX9_mounted 4 = .ok (.aload_n 0, 1) := by decide +kernel
theorem dX9_mounted_5 : decode cX9_mounted 5 = .ok (.getfield 10, 3) := by decide +kernel
theorem dX9_mounted_8 : decode cX9_mounted 8 = .ok (.getfield 133, 3) := by decide +kernel
theorem dX9_mounted_11 : decode cX9_mounted 11 = .ok (.getfield 152, 3) := by decide +kernel
theorem dX9_mounted_14 : decode cX9_mounted 14 = .ok (.ireturn, 1) := by decide +kernel
theorem dX9_passes_0 : decode cX9_passes 0 = .ok (.aload_n 0, 1) := by decide +kernel
theorem dX9_passes_1 : decode cX9_passes 1 = .ok (.getfield 10, 3) := by decide +kernel
theorem dX9_passes_4 : decode cX9_passes 4 = .ok (.getfield 104, 3) := by decide +kernel
theorem dX9_passes_7 : decode cX9_passes 7 = .ok (.getfield 244, 3) := by decide +kernel
theorem dX9_passes_10 : decode cX9_passes 10 = .ok (.ireturn, 1) := by decide +kernel
theorem dX9_woodTaken_0 : decode cX9_woodTaken 0 = .ok (.aload_n 0, 1) := by decide +kernel
theorem dX9_woodTaken_1 : decode cX9_woodTaken 1 = .ok (.getfield 10, 3) := by decide +kernel
theorem dX9_woodTaken_4 : decode cX9_woodTaken 4 = .ok (.getfield 104, 3) := by decide +kernel
theorem dX9_woodTaken_7 : decode cX9_woodTaken 7 = .ok (.getfield 247, 3) := by decide +kernel
theorem dX9_woodTaken_10 : decode cX9_woodTaken 10 = .ok (.ireturn, 1) := by decide +kernel
theorem dX9_sharpenings_0 : decode cX9_sharpenings 0 = .ok (.aload_n 0, 1) := by decide +kernel
theorem dX9_sharpenings_1 : decode cX9_sharpenings 1 = .ok (.getfield 10, 3) := by decide +kernel
theorem dX9_sharpenings_4 : decode cX9_sharpenings 4 = .ok (.getfield 104, 3) := by decide +kernel
theorem dX9_sharpenings_7 : decode cX9_sharpenings 7 = .ok (.getfield 108, 3) := by decide +kernel
theorem dX9_sharpenings_10 : decode cX9_sharpenings 10 = .ok (.ireturn, 1) := by decide +kernel
theorem dX9_jams_0 : decode cX9_jams 0 = .ok (.aload_n 0, 1) := by decide +kernel
theorem dX9_jams_1 : decode cX9_jams 1 = .ok (.getfield 10, 3) := by decide +kernel
theorem dX9_jams_4 : decode cX9_jams 4 = .ok (.getfield 104, 3) := by decide +kernel
theorem dX9_jams_7 : decode cX9_jams 7 = .ok (.getfield 250, 3) := by decide +kernel
theorem dX9_jams_10 : decode cX9_jams 10 = .ok (.ireturn, 1) := by decide +kernel
theorem dX9_burnt_0 : decode cX9_burnt 0 = .ok (.aload_n 0, 1) := by decide +kernel
theorem dX9_burnt_1 : decode cX9_burnt 1 = .ok (.getfield 10, 3) := by decide +kernel
theorem dX9_burnt_4 : decode cX9_burnt 4 = .ok (.getfield 104, 3) := by decide +kernel
theorem dX9_burnt_7 : decode cX9_burnt 7 = .ok (.getfield 158, 3) := by decide +kernel
theorem dX9_burnt_10 : decode cX9_burnt 10 = .ok (.ireturn, 1) := by decide +kernel
theorem dX9_readingByLooking_0 : decode cX9_readingByLooking 0 = .ok (.iload_n 1, 1) := by decide +kernel
theorem dX9_readingByLooking_1 : decode cX9_readingByLooking 1 = .ok (.invokestatic 45, 3) := by decide +kernel
theorem dX9_readingByLooking_4 : decode cX9_readingByLooking 4 = .ok (.aload_n 0, 1) := by decide +kernel
theorem dX9_readingByLooking_5 : decode cX9_readingByLooking 5 = .ok (.getfield 10, 3) := by decide +kernel
theorem dX9_readingByLooking_8 : decode cX9_readingByLooking 8 = .ok (.iload_n 1, 1) := by decide +kernel
theorem dX9_readingByLooking_9 : decode cX9_readingByLooking 9 = .ok (.invokevirtual 253, 3) := by decide +kernel
theorem dX9_readingByLooking_12 : decode cX9_readingByLooking 12 = .ok (.ireturn, 1) := by decide +kernel
theorem dX9_readingByQueue_0 : decode cX9_readingByQueue 0 = .ok (.iload_n 1, 1) := by decide +kernel
theorem dX9_readingByQueue_1 : decode cX9_readingByQueue 1 = .ok (.invokestatic 45, 3) := by decide +kernel
theorem dX9_readingByQueue_4 : decode cX9_readingByQueue 4 = .ok (.aload_n 0, 1) := by decide +kernel
theorem dX9_readingByQueue_5 : decode cX9_readingByQueue 5 = .ok (.iload_n 1, 1) := by decide +kernel
theorem dX9_readingByQueue_6 : decode cX9_readingByQueue 6 = .ok (.invokevirtual 256, 3) := by decide +kernel
theorem dX9_readingByQueue_9 : decode cX9_readingByQueue 9 = .ok (.ireturn, 1) := by decide +kernel
theorem dX9_targetAt_0 : decode cX9_targetAt 0 = .ok (.iload_n 1, 1) := by decide +kernel
theorem dX9_targetAt_1 : decode cX9_targetAt 1 = .ok (.invokestatic 45, 3) := by decide +kernel
theorem dX9_targetAt_4 : decode cX9_targetAt 4 = .ok (.aload_n 0, 1) := by decide +kernel
theorem dX9_targetAt_5 : decode cX9_targetAt 5 = .ok (.getfield 10, 3) := by decide +kernel
theorem dX9_targetAt_8 : decode cX9_targetAt 8 = .ok (.iload_n 1, 1) := by decide +kernel
theorem dX9_targetAt_9 : decode cX9_targetAt 9 = .ok (.invokevirtual 259, 3) := by decide +kernel
theorem dX9_targetAt_12 : decode cX9_targetAt 12 = .ok (.ireturn, 1) := by decide +kernel
theorem dX9_lostGrooves_0 : decode cX9_lostGrooves 0 = .ok (.iconst 0, 1) := by decide +kernel
theorem dX9_lostGrooves_1 : decode cX9_lostGrooves 1 = .ok (.istore_n 1, 1) := by decide +kernel
theorem dX9_lostGrooves_2 : decode cX9_lostGrooves 2 = .ok (.iconst 0, 1) := by decide +kernel
theorem dX9_lostGrooves_3 : decode cX9_lostGrooves 3 = .ok (.istore_n 2, 1) := by decide +kernel
theorem dX9_lostGrooves_4 : decode cX9_lostGrooves 4 = .ok (.iload_n 2, 1) := by decide +kernel
theorem dX9_lostGrooves_5 : decode cX9_lostGrooves 5 = .ok (.bipush 16, 2) := by decide +kernel
theorem dX9_lostGrooves_7 : decode cX9_lostGrooves 7 = .ok (.if_icmp .ge 34, 3) := by decide +kernel
theorem dX9_lostGrooves_10 : decode cX9_lostGrooves 10 = .ok (.aload_n 0, 1) := by decide +kernel
theorem dX9_lostGrooves_11 : decode cX9_lostGrooves 11 = .ok (.getfield 10, 3) := by decide +kernel
theorem dX9_lostGrooves_14 : decode cX9_lostGrooves 14 = .ok (.iload_n 2, 1) := by decide +kernel
theorem dX9_lostGrooves_15 : decode cX9_lostGrooves 15 = .ok (.invokevirtual 253, 3) := by decide +kernel
theorem dX9_lostGrooves_18 : decode cX9_lostGrooves 18 = .ok (.aload_n 0, 1) := by decide +kernel
theorem dX9_lostGrooves_19 : decode cX9_lostGrooves 19 = .ok (.getfield 10, 3) := by decide +kernel
theorem dX9_lostGrooves_22 : decode cX9_lostGrooves 22 = .ok (.getfield 56, 3) := by decide +kernel
theorem dX9_lostGrooves_25 : decode cX9_lostGrooves 25 = .ok (.iload_n 2, 1) := by decide +kernel
theorem dX9_lostGrooves_26 : decode cX9_lostGrooves 26 = .ok (.invokevirtual 262, 3) := by decide +kernel
theorem dX9_lostGrooves_29 : decode cX9_lostGrooves 29 = .ok (.if_icmp .le 6, 3) := by decide +kernel
theorem dX9_lostGrooves_32 : decode cX9_lostGrooves 32 = .ok (.iinc 1 1, 3) := by decide +kernel
theorem dX9_lostGrooves_35 : decode cX9_lostGrooves 35 = .ok (.iinc 2 1, 3) := by decide +kernel
theorem dX9_lostGrooves_38 : decode cX9_lostGrooves 38 = .ok (.goto (-34), 3) := by decide +kernel
theorem dX9_lostGrooves_41 : decode cX9_lostGrooves 41 = .ok (.iload_n 1, 1) := by decide +kernel
theorem dX9_lostGrooves_42 : decode cX9_lostGrooves 42 = .ok (.ireturn, 1) := by decide +kernel
theorem dX9_tooThick_0 : decode cX9_tooThick 0 = .ok (.aload_n 0, 1) := by decide +kernel
theorem dX9_tooThick_1 : decode cX9_tooThick 1 = .ok (.iload_n 1, 1) := by decide +kernel
theorem dX9_tooThick_2 : decode cX9_tooThick 2 = .ok (.invokevirtual 149, 3) := by decide +kernel
theorem dX9_tooThick_5 : decode cX9_tooThick 5 = .ok (.iconst 0, 1) := by decide +kernel
theorem dX9_tooThick_6 : decode cX9_tooThick 6 = .ok (.istore_n 2, 1) := by decide +kernel
theorem dX9_tooThick_7 : decode cX9_tooThick 7 = .ok (.iconst 0, 1) := by decide +kernel
theorem dX9_tooThick_8 : decode cX9_tooThick 8 = .ok (.istore_n 3, 1) := by decide +kernel
theorem dX9_tooThick_9 : decode cX9_tooThick 9 = .ok (.iload_n 3, 1) := by decide +kernel
theorem dX9_tooThick_10 : decode cX9_tooThick 10 = .ok (.bipush 16, 2) := by decide +kernel
theorem dX9_tooThick_12 : decode cX9_tooThick 12 = .ok (.if_icmp .ge 33, 3) := by decide +kernel
theorem dX9_tooThick_15 : decode cX9_tooThick 15 = .ok (.iload_n 2, 1) := by decide +kernel
theorem dX9_tooThick_16 : decode cX9_tooThick 16 = .ok (.aload_n 0, 1) := by decide +kernel
theorem dX9_tooThick_17 : decode cX9_tooThick 17 = .ok (.getfield 10, 3) := by decide +kernel
theorem dX9_tooThick_20 : decode cX9_tooThick 20 = .ok (.iload_n 1, 1) := by decide +kernel
theorem dX9_tooThick_21 : decode cX9_tooThick 21 = .ok (.aload_n 0, 1) := by decide +kernel
theorem dX9_tooThick_22 : decode cX9_tooThick 22 = .ok (.getfield 10, 3) := by decide +kernel
theorem dX9_tooThick_25 : decode cX9_tooThick 25 = .ok (.getfield 56, 3) := by decide +kernel
theorem dX9_tooThick_28 : decode cX9_tooThick 28 = .ok (.getfield 76, 3) := by decide +kernel
theorem dX9_tooThick_31 : decode cX9_tooThick 31 = .ok (.iload_n 3, 1) := by decide +kernel
theorem dX9_tooThick_32 : decode cX9_tooThick 32 = .ok (.invokevirtual 268, 3) := by decide +kernel
theorem dX9_tooThick_35 : decode cX9_tooThick 35 = .ok (.invokestatic 272, 3) := by decide +kernel
theorem dX9_tooThick_38 : decode cX9_tooThick 38 = .ok (.istore_n 2, 1) := by decide +kernel
theorem dX9_tooThick_39 : decode cX9_tooThick 39 = .ok (.iinc 3 1, 3) := by decide +kernel
theorem dX9_tooThick_42 : decode cX9_tooThick 42 = .ok (.goto (-33), 3) := by decide +kernel
theorem dX9_tooThick_45 : decode cX9_tooThick 45 = .ok (.iload_n 2, 1) := by decide +kernel
theorem dX9_tooThick_46 : decode cX9_tooThick 46 = .ok (.ireturn, 1) := by decide +kernel
theorem dX9_tooThin_0 : decode cX9_tooThin 0 = .ok (.aload_n 0, 1) := by decide +kernel
theorem dX9_tooThin_1 : decode cX9_tooThin 1 = .ok (.iload_n 1, 1) := by decide +kernel
theorem dX9_tooThin_2 : decode cX9_tooThin 2 = .ok (.invokevirtual 149, 3) := by decide +kernel
theorem dX9_tooThin_5 : decode cX9_tooThin 5 = .ok (.iconst 0, 1) := by decide +kernel
theorem dX9_tooThin_6 : decode cX9_tooThin 6 = .ok (.istore_n 2, 1) := by decide +kernel
theorem dX9_tooThin_7 : decode cX9_tooThin 7 = .ok (.iconst 0, 1) := by decide +kernel
theorem dX9_tooThin_8 : decode cX9_tooThin 8 = .ok (.istore_n 3, 1) := by decide +kernel
theorem dX9_tooThin_9 : decode cX9_tooThin 9 = .ok (.iload_n 3, 1) := by decide +kernel
theorem dX9_tooThin_10 : decode cX9_tooThin 10 = .ok (.bipush 16, 2) := by decide +kernel
theorem dX9_tooThin_12 : decode cX9_tooThin 12 = .ok (.if_icmp .ge 34, 3) := by decide +kernel
theorem dX9_tooThin_15 : decode cX9_tooThin 15 = .ok (.iload_n 2, 1) := by decide +kernel
theorem dX9_tooThin_16 : decode cX9_tooThin 16 = .ok (.aload_n 0, 1) := by decide +kernel
theorem dX9_tooThin_17 : decode cX9_tooThin 17 = .ok (.getfield 10, 3) := by decide +kernel
theorem dX9_tooThin_20 : decode cX9_tooThin 20 = .ok (.iload_n 1, 1) := by decide +kernel
theorem dX9_tooThin_21 : decode cX9_tooThin 21 = .ok (.aload_n 0, 1) := by decide +kernel
theorem dX9_tooThin_22 : decode cX9_tooThin 22 = .ok (.getfield 10, 3) := by decide +kernel
theorem dX9_tooThin_25 : decode cX9_tooThin 25 = .ok (.getfield 56, 3) := by decide +kernel
theorem dX9_tooThin_28 : decode cX9_tooThin 28 = .ok (.getfield 76, 3) := by decide +kernel
theorem dX9_tooThin_31 : decode cX9_tooThin 31 = .ok (.iload_n 3, 1) := by decide +kernel
theorem dX9_tooThin_32 : decode cX9_tooThin 32 = .ok (.invokevirtual 268, 3) := by decide +kernel
theorem dX9_tooThin_35 : decode cX9_tooThin 35 = .ok (.ineg, 1) := by decide +kernel
theorem dX9_tooThin_36 : decode cX9_tooThin 36 = .ok (.invokestatic 272, 3) := by decide +kernel
theorem dX9_tooThin_39 : decode cX9_tooThin 39 = .ok (.istore_n 2, 1) := by decide +kernel
theorem dX9_tooThin_40 : decode cX9_tooThin 40 = .ok (.iinc 3 1, 3) := by decide +kernel
theorem dX9_tooThin_43 : decode cX9_tooThin 43 = .ok (.goto (-34), 3) := by decide +kernel
theorem dX9_tooThin_46 : decode cX9_tooThin 46 = .ok (.iload_n 2, 1) := by decide +kernel
theorem dX9_tooThin_47 : decode cX9_tooThin 47 = .ok (.ireturn, 1) := by decide +kernel
theorem dX9_faultsOf_0 : decode cX9_faultsOf 0 = .ok (.aload_n 0, 1) := by decide +kernel
theorem dX9_faultsOf_1 : decode cX9_faultsOf 1 = .ok (.iload_n 1, 1) := by decide +kernel
theorem dX9_faultsOf_2 : decode cX9_faultsOf 2 = .ok (.invokevirtual 149, 3) := by decide +kernel
theorem dX9_faultsOf_5 : decode cX9_faultsOf 5 = .ok (.aload_n 0, 1) := by decide +kernel
theorem dX9_faultsOf_6 : decode cX9_faultsOf 6 = .ok (.getfield 10, 3) := by decide +kernel
theorem dX9_faultsOf_9 : decode cX9_faultsOf 9 = .ok (.iload_n 1, 1) := by decide +kernel
theorem dX9_faultsOf_10 : decode cX9_faultsOf 10 = .ok (.invokevirtual 277, 3) := by decide +kernel
theorem dX9_faultsOf_13 : decode cX9_faultsOf 13 = .ok (.ireturn, 1) := by decide +kernel
theorem dX9_isGood_0 : decode cX9_isGood 0 = .ok (.aload_n 0, 1) := by decide +kernel
theorem dX9_isGood_1 : decode cX9_isGood 1 = .ok (.iload_n 1, 1) := by decide +kernel
theorem dX9_isGood_2 : decode cX9_isGood 2 = .ok (.invokevirtual 149, 3) := by decide +kernel
theorem dX9_isGood_5 : decode cX9_isGood 5 = .ok (.aload_n 0, 1) := by decide +kernel
theorem dX9_isGood_6 : decode cX9_isGood 6 = .ok (.getfield 10, 3) := by decide +kernel
theorem dX9_isGood_9 : decode cX9_isGood 9 = .ok (.iload_n 1, 1) := by decide +kernel
theorem dX9_isGood_10 : decode cX9_isGood 10 = .ok (.invokevirtual 277, 3) := by decide +kernel
theorem dX9_isGood_13 : decode cX9_isGood 13 = .ok (.ifCond .ne 7, 3) := by decide +kernel
theorem dX9_isGood_16 : decode cX9_isGood 16 = .ok (.iconst 1, 1) := by decide +kernel
theorem dX9_isGood_17 : decode cX9_isGood 17 = .ok (.goto 4, 3) := by decide +kernel
theorem dX9_isGood_20 : decode cX9_isGood 20 = .ok (.iconst 0, 1) := by decide +kernel
theorem dX9_isGood_21 : decode cX9_isGood 21 = .ok (.ireturn, 1) := by decide +kernel
theorem dX9_mostLike_0 : decode cX9_mostLike 0 = .ok (.aload_n 0, 1) := by decide +kernel
theorem dX9_mostLike_1 : decode cX9_mostLike 1 = .ok (.iload_n 1, 1) := by decide +kernel
theorem dX9_mostLike_2 : decode cX9_mostLike 2 = .ok (.invokevirtual 149, 3) := by decide +kernel
theorem dX9_mostLike_5 : decode cX9_mostLike 5 = .ok (.iconst 0, 1) := by decide +kernel
theorem dX9_mostLike_6 : decode cX9_mostLike 6 = .ok (.istore_n 2, 1) := by decide +kernel
theorem dX9_mostLike_7 : decode cX9_mostLike 7 = .ok (.iconst 1, 1) := by decide +kernel
theorem dX9_mostLike_8 : decode cX9_mostLike 8 = .ok (.istore_n 3, 1) := by decide +kernel
theorem dX9_mostLike_9 : decode cX9_mostLike 9 = .ok (.iload_n 3, 1) := by decide +kernel
theorem dX9_mostLike_10 : decode cX9_mostLike 10 = .ok (.iconst 3, 1) := by decide +kernel
theorem dX9_mostLike_11 : decode cX9_mostLike 11 = .ok (.if_icmp .ge 32, 3) := by decide +kernel
theorem dX9_mostLike_14 : decode cX9_mostLike 14 = .ok (.aload_n 0, 1) := by decide +kernel
theorem dX9_mostLike_15 : decode cX9_mostLike 15 = .ok (.getfield 10, 3) := by decide +kernel
theorem dX9_mostLike_18 : decode cX9_mostLike 18 = .ok (.iload_n 1, 1) := by decide +kernel
theorem dX9_mostLike_19 : decode cX9_mostLike 19 = .ok (.iload_n 3, 1) := by decide +kernel
theorem dX9_mostLike_20 : decode cX9_mostLike 20 = .ok (.invokevirtual 280, 3) := by decide +kernel
theorem dX9_mostLike_23 : decode cX9_mostLike 23 = .ok (.aload_n 0, 1) := by decide +kernel
theorem dX9_mostLike_24 : decode cX9_mostLike 24 = .ok (.getfield 10, 3) := by decide +kernel
theorem dX9_mostLike_27 : decode cX9_mostLike 27 = .ok (.iload_n 1, 1) := by decide +kernel
theorem dX9_mostLike_28 : decode cX9_mostLike 28 = .ok (.iload_n 2, 1) := by decide +kernel
theorem dX9_mostLike_29 : decode cX9_mostLike 29 = .ok (.invokevirtual 280, 3) := by decide +kernel
theorem dX9_mostLike_32 : decode cX9_mostLike 32 = .ok (.if_icmp .ge 5, 3) := by decide +kernel
theorem dX9_mostLike_35 : decode cX9_mostLike 35 = .ok (.iload_n 3, 1) := by decide +kernel
theorem dX9_mostLike_36 : decode cX9_mostLike 36 = .ok (.istore_n 2, 1) := by decide +kernel
theorem dX9_mostLike_37 : decode cX9_mostLike 37 = .ok (.iinc 3 1, 3) := by decide +kernel
theorem dX9_mostLike_40 : decode cX9_mostLike 40 = .ok (.goto (-31), 3) := by decide +kernel
theorem dX9_mostLike_43 : decode cX9_mostLike 43 = .ok (.iload_n 2, 1) := by decide +kernel
theorem dX9_mostLike_44 : decode cX9_mostLike 44 = .ok (.ireturn, 1) := by decide +kernel
theorem dX9_bestCopy_0 : decode cX9_bestCopy 0 = .ok (.aload_n 0, 1) := by decide +kernel
theorem dX9_bestCopy_1 : decode cX9_bestCopy 1 = .ok (.getfield 10, 3) := by decide +kernel
theorem dX9_bestCopy_4 : decode cX9_bestCopy 4 = .ok (.getfield 133, 3) := by decide +kernel
theorem dX9_bestCopy_7 : decode cX9_bestCopy 7 = .ok (.getfield 137, 3) := by decide +kernel
theorem dX9_bestCopy_10 : decode cX9_bestCopy 10 = .ok (.ifCond .le 7, 3) := by decide +kernel
theorem dX9_bestCopy_13 : decode cX9_bestCopy 13 = .ok (.iconst 1, 1) := by decide +kernel
theorem dX9_bestCopy_14 : decode cX9_bestCopy 14 = .ok (.goto 4, 3) := by decide +kernel
theorem dX9_bestCopy_17 : decode cX9_bestCopy 17 = .ok (.iconst 0, 1) := by decide +kernel
theorem dX9_bestCopy_18 : decode cX9_bestCopy 18 = .ok (.invokestatic 142, 3) := by decide +kernel
theorem dX9_bestCopy_21 : decode cX9_bestCopy 21 = .ok (.iconst 0, 1) := by decide +kernel
theorem dX9_bestCopy_22 : decode cX9_bestCopy 22 = .ok (.istore_n 1, 1) := by decide +kernel
theorem dX9_bestCopy_23 : decode cX9_bestCopy 23 = .ok (.iconst 1, 1) := by decide +kernel
theorem dX9_bestCopy_24 : decode cX9_bestCopy 24 = .ok (.istore_n 2, 1) := by decide +kernel
theorem dX9_bestCopy_25 : decode cX9_bestCopy 25 = .ok (.iload_n 2, 1) := by decide +kernel
theorem dX9_bestCopy_26 : decode cX9_bestCopy 26 = .ok (.aload_n 0, 1) := by decide +kernel
theorem dX9_bestCopy_27 : decode cX9_bestCopy 27 = .ok (.getfield 10, 3) := by decide +kernel
theorem dX9_bestCopy_30 : decode cX9_bestCopy 30 = .ok (.getfield 133, 3) := by decide +kernel
theorem dX9_bestCopy_33 : decode cX9_bestCopy 33 = .ok (.getfield 137, 3) := by decide +kernel
theorem dX9_bestCopy_36 : decode cX9_bestCopy 36 = .ok (.if_icmp .ge 23, 3) := by decide +kernel
theorem dX9_bestCopy_39 : decode cX9_bestCopy 39 = .ok (.aload_n 0, 1) := by decide +kernel
theorem dX9_bestCopy_40 : decode cX9_bestCopy 40 = .ok (.getfield 10, 3) := by decide +kernel
theorem dX9_bestCopy_43 : decode cX9_bestCopy 43 = .ok (.iload_n 2, 1) := by decide +kernel
theorem dX9_bestCopy_44 : decode cX9_bestCopy 44 = .ok (.iload_n 1, 1) := by decide +kernel
theorem dX9_bestCopy_45 : decode cX9_bestCopy 45 = .ok (.invokevirtual 283, 3) := by decide +kernel
theorem dX9_bestCopy_48 : decode cX9_bestCopy 48 = .ok (.ifCond .eq 5, 3) := by decide +kernel
theorem dX9_bestCopy_51 : decode cX9_bestCopy 51 = .ok (.iload_n 2, 1) := by decide +kernel
theorem dX9_bestCopy_52 : decode cX9_bestCopy 52 = .ok (.istore_n 1, 1) := by decide +kernel
theorem dX9_bestCopy_53 : decode cX9_bestCopy 53 = .ok (.iinc 2 1, 3) := by decide +kernel
theorem dX9_bestCopy_56 : decode cX9_bestCopy 56 = .ok (.goto (-31), 3) := by decide +kernel
theorem dX9_bestCopy_59 : decode cX9_bestCopy 59 = .ok (.iload_n 1, 1) := by decide +kernel
theorem dX9_bestCopy_60 : decode cX9_bestCopy 60 = .ok (.ireturn, 1) := by decide +kernel
theorem dX9_isFinished_0 : decode cX9_isFinished 0 = .ok (.aload_n 0, 1) := by decide +kernel
theorem dX9_isFinished_1 : decode cX9_isFinished 1 = .ok (.invokevirtual 165, 3) := by decide +kernel
theorem dX9_isFinished_4 : decode cX9_isFinished 4 = .ok (.aload_n 0, 1) := by decide +kernel
theorem dX9_isFinished_5 : decode cX9_isFinished 5 = .ok (.getfield 10, 3) := by decide +kernel
theorem dX9_isFinished_8 : decode cX9_isFinished 8 = .ok (.aload_n 0, 1) := by decide +kernel
theorem dX9_isFinished_9 : decode cX9_isFinished 9 = .ok (.getfield 10, 3) := by decide +kernel
theorem dX9_isFinished_12 : decode cX9_isFinished 12 = .ok (.getfield 133, 3) := by decide +kernel
theorem dX9_isFinished_15 : decode cX9_isFinished 15 = .ok (.getfield 152, 3) := by decide +kernel
theorem dX9_isFinished_18 : decode cX9_isFinished 18 = .ok (.invokevirtual 178, 3) := by decide +kernel
theorem dX9_isFinished_21 : decode cX9_isFinished 21 = .ok (.ifCond .ne 7, 3) := by decide +kernel
theorem dX9_isFinished_24 : decode cX9_isFinished 24 = .ok (.iconst 1, 1) := by decide +kernel
theorem dX9_isFinished_25 : decode cX9_isFinished 25 = .ok (.goto 4, 3) := by decide +kernel
theorem dX9_isFinished_28 : decode cX9_isFinished 28 = .ok (.iconst 0, 1) := by decide +kernel
theorem dX9_isFinished_29 : decode cX9_isFinished 29 = .ok (.ireturn, 1) := by decide +kernel
theorem dX9_ifPassed_0 : decode cX9_ifPassed 0 = .ok (.aload_n 0, 1) := by decide +kernel
theorem dX9_ifPassed_1 : decode cX9_ifPassed 1 = .ok (.invokevirtual 168, 3) := by decide +kernel
theorem dX9_ifPassed_4 : decode cX9_ifPassed 4 = .ok (.aload_n 0, 1) := by decide +kernel
theorem dX9_ifPassed_5 : decode cX9_ifPassed 5 = .ok (.getfield 10, 3) := by decide +kernel
theorem dX9_ifPassed_8 : decode cX9_ifPassed 8 = .ok (.invokevirtual 286, 3) := by decide +kernel
theorem dX9_ifPassed_11 : decode cX9_ifPassed 11 = .ok (.ireturn, 1) := by decide +kernel
theorem dX9_passesBySteps_0 : decode cX9_passesBySteps 0 = .ok (.aload_n 0, 1) := by decide +kernel
theorem dX9_passesBySteps_1 : decode cX9_passesBySteps 1 = .ok (.invokevirtual 165, 3) := by decide +kernel
theorem dX9_passesBySteps_4 : decode cX9_passesBySteps 4 = .ok (.aload_n 0, 1) := by decide +kernel
theorem dX9_passesBySteps_5 : decode cX9_passesBySteps 5 = .ok (.getfield 10, 3) := by decide +kernel
theorem dX9_passesBySteps_8 : decode cX9_passesBySteps 8 = .ok (.getfield 95, 3) := by decide +kernel
theorem dX9_passesBySteps_11 : decode cX9_passesBySteps 11 = .ok (.invokevirtual 289, 3) := by decide +kernel
theorem dX9_passesBySteps_14 : decode cX9_passesBySteps 14 = .ok (.invokestatic 142, 3) := by decide +kernel
theorem dX9_passesBySteps_17 : decode cX9_passesBySteps 17 = .ok (.aload_n 0, 1) := by decide +kernel
theorem dX9_passesBySteps_18 : decode cX9_passesBySteps 18 = .ok (.invokevirtual 292, 3) := by decide +kernel
theorem dX9_passesBySteps_21 : decode cX9_passesBySteps 21 = .ok (.ireturn, 1) := by decide +kernel
theorem dX9_passesByDivision_0 : decode cX9_passesByDivision 0 = .ok (.aload_n 0, 1) := by decide +kernel
theorem dX9_passesByDivision_1 : decode cX9_passesByDivision 1 = .ok (.invokevirtual 165, 3) := by decide +kernel
theorem dX9_passesByDivision_4 : decode cX9_passesByDivision 4 = .ok (.aload_n 0, 1) := by decide +kernel
theorem dX9_passesByDivision_5 : decode cX9_passesByDivision 5 = .ok (.getfield 10, 3) := by decide +kernel
theorem dX9_passesByDivision_8 : decode cX9_passesByDivision 8 = .ok (.getfield 95, 3) := by decide +kernel
theorem dX9_passesByDivision_11 : decode cX9_passesByDivision 11 = .ok (.invokevirtual 289, 3) := by decide +kernel
theorem dX9_passesByDivision_14 : decode cX9_passesByDivision 14 = .ok (.invokestatic 142, 3) := by decide +kernel
theorem dX9_passesByDivision_17 : decode cX9_passesByDivision 17 = .ok (.aload_n 0, 1) := by decide +kernel
theorem dX9_passesByDivision_18 : decode cX9_passesByDivision 18 = .ok (.getfield 10, 3) := by decide +kernel
theorem dX9_passesByDivision_21 : decode cX9_passesByDivision 21 = .ok (.aload_n 0, 1) := by decide +kernel
theorem dX9_passesByDivision_22 : decode cX9_passesByDivision 22 = .ok (.getfield 10, 3) := by decide +kernel
theorem dX9_passesByDivision_25 : decode cX9_passesByDivision 25 = .ok (.getfield 133, 3) := by decide +kernel
theorem dX9_passesByDivision_28 : decode cX9_passesByDivision 28 = .ok (.getfield 152, 3) := by decide +kernel
theorem dX9_passesByDivision_31 : decode cX9_passesByDivision 31 = .ok (.invokevirtual 178, 3) := by decide +kernel
theorem dX9_passesByDivision_34 : decode cX9_passesByDivision 34 = .ok (.aload_n 0, 1) := by decide +kernel
theorem dX9_passesByDivision_35 : decode cX9_passesByDivision 35 = .ok (.getfield 10, 3) := by decide +kernel
theorem dX9_passesByDivision_38 : decode cX9_passesByDivision 38 = .ok (.getfield 95, 3) := by decide +kernel
theorem dX9_passesByDivision_41 : decode cX9_passesByDivision 41 = .ok (.invokevirtual 231, 3) := by decide +kernel
theorem dX9_passesByDivision_44 : decode cX9_passesByDivision 44 = .ok (.invokestatic 295, 3) := by decide +kernel
theorem dX9_passesByDivision_47 : decode cX9_passesByDivision 47 = .ok (.ireturn, 1) := by decide +kernel
theorem dX9_passesUntilBlunt_0 : decode cX9_passesUntilBlunt 0 = .ok (.aload_n 0, 1) := by decide +kernel
theorem dX9_passesUntilBlunt_1 : decode cX9_passesUntilBlunt 1 = .ok (.invokevirtual 165, 3) := by decide +kernel
theorem dX9_passesUntilBlunt_4 : decode cX9_passesUntilBlunt 4 = .ok (.aload_n 0, 1) := by decide +kernel
theorem dX9_passesUntilBlunt_5 : decode cX9_passesUntilBlunt 5 = .ok (.getfield 10, 3) := by decide +kernel
theorem dX9_passesUntilBlunt_8 : decode cX9_passesUntilBlunt 8 = .ok (.getfield 95, 3) := by decide +kernel
theorem dX9_passesUntilBlunt_11 : decode cX9_passesUntilBlunt 11 = .ok (.getfield 99, 3) := by decide +kernel
theorem dX9_passesUntilBlunt_14 : decode cX9_passesUntilBlunt 14 = .ok (.aload_n 0, 1) := by decide +kernel
theorem dX9_passesUntilBlunt_15 : decode cX9_passesUntilBlunt 15 = .ok (.getfield 10, 3) := by decide +kernel
theorem dX9_passesUntilBlunt_18 : decode cX9_passesUntilBlunt 18 = .ok (.invokevirtual 298, 3) := by decide +kernel
theorem dX9_passesUntilBlunt_21 : decode cX9_passesUntilBlunt 21 = .ok (.invokestatic 295, 3) := by decide +kernel
theorem dX9_passesUntilBlunt_24 : decode cX9_passesUntilBlunt 24 = .ok (.ireturn, 1) := by decide +kernel
theorem dX9_chipsOf_0 : decode cX9_chipsOf 0 = .ok (.aload_n 0, 1) := by decide +kernel
theorem dX9_chipsOf_1 : decode cX9_chipsOf 1 = .ok (.iload_n 1, 1) := by decide +kernel
theorem dX9_chipsOf_2 : decode cX9_chipsOf 2 = .ok (.invokevirtual 149, 3) := by decide +kernel
theorem dX9_chipsOf_5 : decode cX9_chipsOf 5 = .ok (.aload_n 0, 1) := by decide +kernel
theorem dX9_chipsOf_6 : decode cX9_chipsOf 6 = .ok (.getfield 10, 3) := by decide +kernel
theorem dX9_chipsOf_9 : decode cX9_chipsOf 9 = .ok (.iload_n 1, 1) := by decide +kernel
theorem dX9_chipsOf_10 : decode cX9_chipsOf 10 = .ok (.invokevirtual 301, 3) := by decide +kernel
theorem dX9_chipsOf_13 : decode cX9_chipsOf 13 = .ok (.ireturn, 1) := by decide +kernel
theorem dX9_meanDiameter_0 : decode cX9_meanDiameter 0 = .ok (.aload_n 0, 1) := by decide +kernel
theorem dX9_meanDiameter_1 : decode cX9_meanDiameter 1 = .ok (.iload_n 1, 1) := by decide +kernel
theorem dX9_meanDiameter_2 : decode cX9_meanDiameter 2 = .ok (.invokevirtual 149, 3) := by decide +kernel
theorem dX9_meanDiameter_5 : decode cX9_meanDiameter 5 = .ok (.aload_n 0, 1) := by decide +kernel
theorem dX9_meanDiameter_6 : decode cX9_meanDiameter 6 = .ok (.getfield 10, 3) := by decide +kernel
theorem dX9_meanDiameter_9 : decode cX9_meanDiameter 9 = .ok (.getfield 133, 3) := by decide +kernel
theorem dX9_meanDiameter_12 : decode cX9_meanDiameter 12 = .ok (.iload_n 1, 1) := by decide +kernel
theorem dX9_meanDiameter_13 : decode cX9_meanDiameter 13 = .ok (.invokevirtual 304, 3) := by decide +kernel
theorem dX9_meanDiameter_16 : decode cX9_meanDiameter 16 = .ok (.i2d, 1) := by decide +kernel
theorem dX9_meanDiameter_17 : decode cX9_meanDiameter 17 = .ok (.ldc2_w 305, 3) := by decide +kernel
theorem dX9_meanDiameter_20 : decode cX9_meanDiameter 20 = .ok (.ddiv, 1) := by decide +kernel
theorem dX9_meanDiameter_21 : decode cX9_meanDiameter 21 = .ok (.dreturn, 1) := by decide +kernel
theorem dX9_firstWaiting_0 : decode cX9_firstWaiting 0 = .ok (.aload_n 0, 1) := by decide +kernel
theorem dX9_firstWaiting_1 : decode cX9_firstWaiting 1 = .ok (.getfield 10, 3) := by decide +kernel
theorem dX9_firstWaiting_4 : decode cX9_firstWaiting 4 = .ok (.getfield 80, 3) := by decide +kernel
theorem dX9_firstWaiting_7 : decode cX9_firstWaiting 7 = .ok (.getfield 228, 3) := by decide +kernel
theorem dX9_firstWaiting_10 : decode cX9_firstWaiting 10 = .ok (.istore_n 2, 1) := by decide +kernel
theorem dX9_firstWaiting_11 : decode cX9_firstWaiting 11 = .ok (.iconst 0, 1) := by decide +kernel
theorem dX9_firstWaiting_12 : decode cX9_firstWaiting 12 = .ok (.istore_n 3, 1) := by decide +kernel
theorem dX9_firstWaiting_13 : decode cX9_firstWaiting 13 = .ok (.iconst 0, 1) := by decide +kernel
theorem dX9_firstWaiting_14 : decode cX9_firstWaiting 14 = .ok (.istore 4, 2) := by decide +kernel
theorem dX9_firstWaiting_16 : decode cX9_firstWaiting 16 = .ok (.iload_n 2, 1) := by decide +kernel
theorem dX9_firstWaiting_17 : decode cX9_firstWaiting 17 = .ok (.ineg, 1) := by decide +kernel
theorem dX9_firstWaiting_18 : decode cX9_firstWaiting 18 = .ok (.istore 5, 2) := by decide +kernel
theorem dX9_firstWaiting_20 : decode cX9_firstWaiting 20 = .ok (.iload 5, 2) := by decide +kernel
theorem dX9_firstWaiting_22 : decode cX9_firstWaiting 22 = .ok (.iload_n 1, 1) := by decide +kernel
theorem dX9_firstWaiting_23 : decode cX9_firstWaiting 23 = .ok (.if_icmp .gt 95, 3) := by decide +kernel
theorem dX9_firstWaiting_26 : decode cX9_firstWaiting 26 = .ok (.iload 5, 2) := by decide +kernel
theorem dX9_firstWaiting_28 : decode cX9_firstWaiting 28 = .ok (.iload_n 2, 1) := by decide +kernel
theorem dX9_firstWaiting_29 : decode cX9_firstWaiting 29 = .ok (.iadd, 1) := by decide +kernel
theorem dX9_firstWaiting_30 : decode cX9_firstWaiting 30 = .ok (.istore 6, 2) := by decide +kernel
theorem dX9_firstWaiting_32 : decode cX9_firstWaiting 32 = .ok (.iload 6, 2) := by decide +kernel
theorem dX9_firstWaiting_34 : decode cX9_firstWaiting 34 = .ok (.bipush 16, 2) := by decide +kernel
theorem dX9_firstWaiting_36 : decode cX9_firstWaiting 36 = .ok (.if_icmp .ge 49, 3) := by decide +kernel
theorem dX9_firstWaiting_39 : decode cX9_firstWaiting 39 = .ok (.iload 4, 2) := by decide +kernel
theorem dX9_firstWaiting_41 : decode cX9_firstWaiting 41 = .ok (.iload_n 3, 1) := by decide +kernel
theorem dX9_firstWaiting_42 : decode cX9_firstWaiting 42 = .ok (.if_icmp .le 29, 3) := by decide +kernel
theorem dX9_firstWaiting_45 : decode cX9_firstWaiting 45 = .ok (.aload_n 0, 1) := by decide +kernel
theorem dX9_firstWaiting_46 : decode cX9_firstWaiting 46 = .ok (.aload_n 0, 1) := by decide +kernel
theorem dX9_firstWaiting_47 : decode cX9_firstWaiting 47 = .ok (.getfield 35, 3) := by decide +kernel
theorem dX9_firstWaiting_50 : decode cX9_firstWaiting 50 = .ok (.iload 4, 2) := by decide +kernel
theorem dX9_firstWaiting_52 : decode cX9_firstWaiting 52 = .ok (.iconst 1, 1) := by decide +kernel
theorem dX9_firstWaiting_53 : decode cX9_firstWaiting 53 = .ok (.isub, 1) := by decide +kernel
theorem dX9_firstWaiting_54 : decode cX9_firstWaiting 54 = .ok (.invokevirtual 204, 3) := by decide +kernel
theorem dX9_firstWaiting_57 : decode cX9_firstWaiting 57 = .ok (.iload 6, 2) := by decide +kernel
theorem dX9_firstWaiting_59 : decode cX9_firstWaiting 59 = .ok (.invokevirtual 354, 3) := by decide +kernel
theorem dX9_firstWaiting_62 : decode cX9_firstWaiting 62 = .ok (.ifCond .eq 9, 3) := by decide +kernel
theorem dX9_firstWaiting_65 : decode cX9_firstWaiting 65 = .ok (.iinc 4 (-1), 3) := by decide +kernel
theorem dX9_firstWaiting_68 : decode cX9_firstWaiting 68 = .ok (.goto (-29), 3) := by decide +kernel
theorem dX9_firstWaiting_71 : decode cX9_firstWaiting 71 = .ok (.aload_n 0, 1) := by decide +kernel
theorem dX9_firstWaiting_72 : decode cX9_firstWaiting 72 = .ok (.getfield 35, 3) := by decide +kernel
theorem dX9_firstWaiting_75 : decode cX9_firstWaiting 75 = .ok (.iload 4, 2) := by decide +kernel
theorem dX9_firstWaiting_77 : decode cX9_firstWaiting 77 = .ok (.iload 6, 2) := by decide +kernel
theorem dX9_firstWaiting_79 : decode cX9_firstWaiting 79 = .ok (.invokevirtual 357, 3) := by decide +kernel
theorem dX9_firstWaiting_82 : decode cX9_firstWaiting 82 = .ok (.iinc 4 1, 3) := by decide +kernel
theorem dX9_firstWaiting_85 : decode cX9_firstWaiting 85 = .ok (.iload_n 3, 1) := by decide +kernel
theorem dX9_firstWaiting_86 : decode cX9_firstWaiting 86 = .ok (.iload 4, 2) := by decide +kernel
theorem dX9_firstWaiting_88 : decode cX9_firstWaiting 88 = .ok (.if_icmp .ge 24, 3) := by decide +kernel
theorem dX9_firstWaiting_91 : decode cX9_firstWaiting 91 = .ok (.aload_n 0, 1) := by decide +kernel
theorem dX9_firstWaiting_92 : decode cX9_firstWaiting 92 = .ok (.getfield 35, 3) := by decide +kernel
theorem dX9_firstWaiting_95 : decode cX9_firstWaiting 95 = .ok (.iload_n 3, 1) := by decide +kernel
theorem dX9_firstWaiting_96 : decode cX9_firstWaiting 96 = .ok (.invokevirtual 204, 3) := by decide +kernel
theorem dX9_firstWaiting_99 : decode cX9_firstWaiting 99 = .ok (.iload 5, 2) := by decide +kernel
theorem dX9_firstWaiting_101 : decode cX9_firstWaiting 101 = .ok (.iload_n 2, 1) := by decide +kernel
theorem dX9_firstWaiting_102 : decode cX9_firstWaiting 102 = .ok (.isub, 1) := by decide +kernel
theorem dX9_firstWaiting_103 : decode cX9_firstWaiting 103 = .ok (.if_icmp .ge 9, 3) := by decide +kernel
theorem dX9_firstWaiting_106 : decode cX9_firstWaiting 106 = .ok (.iinc 3 1, 3) := by decide +kernel
theorem dX9_firstWaiting_109 : decode cX9_firstWaiting 109 = .ok (.goto (-24), 3) := by decide +kernel
theorem dX9_firstWaiting_112 : decode cX9_firstWaiting 112 = .ok (.iinc 5 1, 3) := by decide +kernel
theorem dX9_firstWaiting_115 : decode cX9_firstWaiting 115 = .ok (.goto (-95), 3) := by decide +kernel
theorem dX9_firstWaiting_118 : decode cX9_firstWaiting 118 = .ok (.aload_n 0, 1) := by decide +kernel
theorem dX9_firstWaiting_119 : decode cX9_firstWaiting 119 = .ok (.getfield 10, 3) := by decide +kernel
theorem dX9_firstWaiting_122 : decode cX9_firstWaiting 122 = .ok (.getfield 56, 3) := by decide +kernel
theorem dX9_firstWaiting_125 : decode cX9_firstWaiting 125 = .ok (.aload_n 0, 1) := by decide +kernel
theorem dX9_firstWaiting_126 : decode cX9_firstWaiting 126 = .ok (.getfield 35, 3) := by decide +kernel
theorem dX9_firstWaiting_129 : decode cX9_firstWaiting 129 = .ok (.iload_n 3, 1) := by decide +kernel
theorem dX9_firstWaiting_130 : decode cX9_firstWaiting 130 = .ok (.invokevirtual 204, 3) := by decide +kernel
theorem dX9_firstWaiting_133 : decode cX9_firstWaiting 133 = .ok (.invokevirtual 262, 3) := by decide +kernel
theorem dX9_firstWaiting_136 : decode cX9_firstWaiting 136 = .ok (.ireturn, 1) := by decide +kernel
theorem dX9_isNotThicker_0 : decode cX9_isNotThicker 0 = .ok (.aload_n 0, 1) := by decide +kernel
theorem dX9_isNotThicker_1 : decode cX9_isNotThicker 1 = .ok (.getfield 10, 3) := by decide +kernel
theorem dX9_isNotThicker_4 : decode cX9_isNotThicker 4 = .ok (.getfield 56, 3) := by decide +kernel
theorem dX9_isNotThicker_7 : decode cX9_isNotThicker 7 = .ok (.iload_n 1, 1) := by decide +kernel
theorem dX9_isNotThicker_8 : decode cX9_isNotThicker 8 = .ok (.invokevirtual 262, 3) := by decide +kernel
theorem dX9_isNotThicker_11 : decode cX9_isNotThicker 11 = .ok (.aload_n 0, 1) := by decide +kernel
theorem dX9_isNotThicker_12 : decode cX9_isNotThicker 12 = .ok (.getfield 10, 3) := by decide +kernel
theorem dX9_isNotThicker_15 : decode cX9_isNotThicker 15 = .ok (.getfield 56, 3) := by decide +kernel
theorem dX9_isNotThicker_18 : decode cX9_isNotThicker 18 = .ok (.iload_n 2, 1) := by decide +kernel
theorem dX9_isNotThicker_19 : decode cX9_isNotThicker 19 = .ok (.invokevirtual 262, 3) := by decide +kernel
theorem dX9_isNotThicker_22 : decode cX9_isNotThicker 22 = .ok (.if_icmp .gt 7, 3) := by decide +kernel
theorem dX9_isNotThicker_25 : decode cX9_isNotThicker 25 = .ok (.iconst 1, 1) := by decide +kernel
theorem dX9_isNotThicker_26 : decode cX9_isNotThicker 26 = .ok (.goto 4, 3) := by decide +kernel
theorem dX9_isNotThicker_29 : decode cX9_isNotThicker 29 = .ok (.iconst 0, 1) := by decide +kernel
theorem dX9_isNotThicker_30 : decode cX9_isNotThicker 30 = .ok (.ireturn, 1) := by decide +kernel
theorem dX9_countPasses_0 : decode cX9_countPasses 0 = .ok (.iconst 0, 1) := by decide +kernel
theorem dX9_countPasses_1 : decode cX9_countPasses 1 = .ok (.istore_n 1, 1) := by decide +kernel
theorem dX9_countPasses_2 : decode cX9_countPasses 2 = .ok (.iload_n 1, 1) := by decide +kernel
theorem dX9_countPasses_3 : decode cX9_countPasses 3 = .ok (.bipush 16, 2) := by decide +kernel
theorem dX9_countPasses_5 : decode cX9_countPasses 5 = .ok (.if_icmp .ge 35, 3) := by decide +kernel
theorem dX9_countPasses_8 : decode cX9_countPasses 8 = .ok (.aload_n 0, 1) := by decide +kernel
theorem dX9_countPasses_9 : decode cX9_countPasses 9 = .ok (.getfield 39, 3) := by decide +kernel
theorem dX9_countPasses_12 : decode cX9_countPasses 12 = .ok (.iload_n 1, 1) := by decide +kernel
theorem dX9_countPasses_13 : decode cX9_countPasses 13 = .ok (.aload_n 0, 1) := by decide +kernel
theorem dX9_countPasses_14 : decode cX9_countPasses 14 = .ok (.getfield 10, 3) := by decide +kernel
theorem dX9_countPasses_17 : decode cX9_countPasses 17 = .ok (.aload_n 0, 1) := by decide +kernel
theorem dX9_countPasses_18 : decode cX9_countPasses 18 = .ok (.getfield 10, 3) := by decide +kernel
theorem dX9_countPasses_21 : decode cX9_countPasses 21 = .ok (.getfield 133, 3) := by decide +kernel
theorem dX9_countPasses_24 : decode cX9_countPasses 24 = .ok (.getfield 152, 3) := by decide +kernel
theorem dX9_countPasses_27 : decode cX9_countPasses 27 = .ok (.iload_n 1, 1) := by decide +kernel
theorem dX9_countPasses_28 : decode cX9_countPasses 28 = .ok (.invokevirtual 359, 3) := by decide +kernel
theorem dX9_countPasses_31 : decode cX9_countPasses 31 = .ok (.invokevirtual 357, 3) := by decide +kernel
theorem dX9_countPasses_34 : decode cX9_countPasses 34 = .ok (.iinc 1 1, 3) := by decide +kernel
theorem dX9_countPasses_37 : decode cX9_countPasses 37 = .ok (.goto (-35), 3) := by decide +kernel
theorem dX9_countPasses_40 : decode cX9_countPasses 40 = .ok (.iconst 0, 1) := by decide +kernel
theorem dX9_countPasses_41 : decode cX9_countPasses 41 = .ok (.istore_n 1, 1) := by decide +kernel
theorem dX9_countPasses_42 : decode cX9_countPasses 42 = .ok (.iload_n 1, 1) := by decide +kernel
theorem dX9_countPasses_43 : decode cX9_countPasses 43 = .ok (.sipush 1000, 3) := by decide +kernel
theorem dX9_countPasses_46 : decode cX9_countPasses 46 = .ok (.if_icmp .ge 64, 3) := by decide +kernel
theorem dX9_countPasses_49 : decode cX9_countPasses 49 = .ok (.aload_n 0, 1) := by decide +kernel
theorem dX9_countPasses_50 : decode cX9_countPasses 50 = .ok (.getfield 39, 3) := by decide +kernel
theorem dX9_countPasses_53 : decode cX9_countPasses 53 = .ok (.invokevirtual 362, 3) := by decide +kernel
theorem dX9_countPasses_56 : decode cX9_countPasses 56 = .ok (.ifCond .le 54, 3) := by decide +kernel
theorem dX9_countPasses_59 : decode cX9_countPasses 59 = .ok (.iconst 0, 1) := by decide +kernel
theorem dX9_countPasses_60 : decode cX9_countPasses 60 = .ok (.istore_n 2, 1) := by decide +kernel
theorem dX9_countPasses_61 : decode cX9_countPasses 61 = .ok (.iload_n 2, 1) := by decide +kernel
theorem dX9_countPasses_62 : decode cX9_countPasses 62 = .ok (.bipush 16, 2) := by decide +kernel
theorem dX9_countPasses_64 : decode cX9_countPasses 64 = .ok (.if_icmp .ge 40, 3) := by decide +kernel
theorem dX9_countPasses_67 : decode cX9_countPasses 67 = .ok (.aload_n 0, 1) := by decide +kernel
theorem dX9_countPasses_68 : decode cX9_countPasses 68 = .ok (.getfield 39, 3) := by decide +kernel
theorem dX9_countPasses_71 : decode cX9_countPasses 71 = .ok (.iload_n 2, 1) := by decide +kernel
theorem dX9_countPasses_72 : decode cX9_countPasses 72 = .ok (.iconst 0, 1) := by decide +kernel
theorem dX9_countPasses_73 : decode cX9_countPasses 73 = .ok (.aload_n 0, 1) := by decide +kernel
theorem dX9_countPasses_74 : decode cX9_countPasses 74 = .ok (.getfield 39, 3) := by decide +kernel
theorem dX9_countPasses_77 : decode cX9_countPasses 77 = .ok (.iload_n 2, 1) := by decide +kernel
theorem dX9_countPasses_78 : decode cX9_countPasses 78 = .ok (.invokevirtual 204, 3) := by decide +kernel
theorem dX9_countPasses_81 : decode cX9_countPasses 81 = .ok (.aload_n 0, 1) := by decide +kernel
theorem dX9_countPasses_82 : decode cX9_countPasses 82 = .ok (.getfield 10, 3) := by decide +kernel
theorem dX9_countPasses_85 : decode cX9_countPasses 85 = .ok (.getfield 95, 3) := by decide +kernel
theorem dX9_countPasses_88 : decode cX9_countPasses 88 = .ok (.invokevirtual 231, 3) := by decide +kernel
theorem dX9_countPasses_91 : decode cX9_countPasses 91 = .ok (.isub, 1) := by decide +kernel
theorem dX9_countPasses_92 : decode cX9_countPasses 92 = .ok (.invokestatic 272, 3) := by decide +kernel
theorem dX9_countPasses_95 : decode cX9_countPasses 95 = .ok (.invokevirtual 357, 3) := by decide +kernel
theorem dX9_countPasses_98 : decode cX9_countPasses 98 = .ok (.iinc 2 1, 3) := by decide +kernel
theorem dX9_countPasses_101 : decode cX9_countPasses 101 = .ok (.goto (-40), 3) := by decide +kernel
theorem dX9_countPasses_104 : decode cX9_countPasses 104 = .ok (.iinc 1 1, 3) := by decide +kernel
theorem dX9_countPasses_107 : decode cX9_countPasses 107 = .ok (.goto (-65), 3) := by decide +kernel
theorem dX9_countPasses_110 : decode cX9_countPasses 110 = .ok (.iload_n 1, 1) := by decide +kernel
theorem dX9_countPasses_111 : decode cX9_countPasses 111 = .ok (.ireturn, 1) := by decide +kernel
theorem dX9_dividedUp_0 : decode cX9_dividedUp 0 = .ok (.iload_n 1, 1) := by decide +kernel
theorem dX9_dividedUp_1 : decode cX9_dividedUp 1 = .ok (.ifCond .gt 7, 3) := by decide +kernel
theorem dX9_dividedUp_4 : decode cX9_dividedUp 4 = .ok (.iconst 0, 1) := by decide +kernel
theorem dX9_dividedUp_5 : decode cX9_dividedUp 5 = .ok (.goto 10, 3) := by decide +kernel
theorem dX9_dividedUp_8 : decode cX9_dividedUp 8 = .ok (.iload_n 0, 1) := by decide +kernel
theorem dX9_dividedUp_9 : decode cX9_dividedUp 9 = .ok (.iload_n 1, 1) := by decide +kernel
theorem dX9_dividedUp_10 : decode cX9_dividedUp 10 = .ok (.iadd, 1) := by decide +kernel
theorem dX9_dividedUp_11 : decode cX9_dividedUp 11 = .ok (.iconst 1, 1) := by decide +kernel
theorem dX9_dividedUp_12 : decode cX9_dividedUp 12 = .ok (.isub, 1) := by decide +kernel
theorem dX9_dividedUp_13 : decode cX9_dividedUp 13 = .ok (.iload_n 1, 1) := by decide +kernel
theorem dX9_dividedUp_14 : decode cX9_dividedUp 14 = .ok (.idiv, 1) := by decide +kernel
theorem dX9_dividedUp_15 : decode cX9_dividedUp 15 = .ok (.ireturn, 1) := by decide +kernel
theorem dX9_isIndex_0 : decode cX9_isIndex 0 = .ok (.iload_n 0, 1) := by decide +kernel
theorem dX9_isIndex_1 : decode cX9_isIndex 1 = .ok (.ifCond .lt 12, 3) := by decide +kernel
theorem dX9_isIndex_4 : decode cX9_isIndex 4 = .ok (.iload_n 0, 1) := by decide +kernel
theorem dX9_isIndex_5 : decode cX9_isIndex 5 = .ok (.iload_n 1, 1) := by decide +kernel
theorem dX9_isIndex_6 : decode cX9_isIndex 6 = .ok (.if_icmp .ge 7, 3) := by decide +kernel
theorem dX9_isIndex_9 : decode cX9_isIndex 9 = .ok (.iconst 1, 1) := by decide +kernel
theorem dX9_isIndex_10 : decode cX9_isIndex 10 = .ok (.goto 4, 3) := by decide +kernel
theorem dX9_isIndex_13 : decode cX9_isIndex 13 = .ok (.iconst 0, 1) := by decide +kernel
theorem dX9_isIndex_14 : decode cX9_isIndex 14 = .ok (.ireturn, 1) := by decide +kernel
theorem dX9_checkIndex_0 : decode cX9_checkIndex 0 = .ok (.iload_n 0, 1) := by decide +kernel
theorem dX9_checkIndex_1 : decode cX9_checkIndex 1 = .ok (.iload_n 1, 1) := by decide +kernel
theorem dX9_checkIndex_2 : decode cX9_checkIndex 2 = .ok (.invokestatic 209, 3) := by decide +kernel
theorem dX9_checkIndex_5 : decode cX9_checkIndex 5 = .ok (.ifCond .ne 11, 3) := by decide +kernel
theorem dX9_checkIndex_8 : decode cX9_checkIndex 8 = .ok (.new 365, 3) := by decide +kernel
theorem dX9_checkIndex_11 : decode cX9_checkIndex 11 = .ok (.dup, 1) := by decide +kernel
theorem dX9_checkIndex_12 : decode cX9_checkIndex 12 = .ok (.invokespecial 367, 3) := by decide +kernel
theorem dX9_checkIndex_15 : decode cX9_checkIndex 15 = .ok (.athrow, 1) := by decide +kernel
theorem dX9_checkIndex_16 : decode cX9_checkIndex 16 = .ok (.return_, 1) := by decide +kernel
theorem dX9_checkArgument_0 : decode cX9_checkArgument 0 = .ok (.iload_n 0, 1) := by decide +kernel
theorem dX9_checkArgument_1 : decode cX9_checkArgument 1 = .ok (.ifCond .ne 11, 3) := by decide +kernel
theorem dX9_checkArgument_4 : decode cX9_checkArgument 4 = .ok (.new 368, 3) := by decide +kernel
theorem dX9_checkArgument_7 : decode cX9_checkArgument 7 = .ok (.dup, 1) := by decide +kernel
theorem dX9_checkArgument_8 : decode cX9_checkArgument 8 = .ok (.invokespecial 370, 3) := by decide +kernel
theorem dX9_checkArgument_11 : decode cX9_checkArgument 11 = .ok (.athrow, 1) := by decide +kernel
theorem dX9_checkArgument_12 : decode cX9_checkArgument 12 = .ok (.return_, 1) := by decide +kernel
theorem dX9_checkState_0 : decode cX9_checkState 0 = .ok (.iload_n 0, 1) := by decide +kernel
theorem dX9_checkState_1 : decode cX9_checkState 1 = .ok (.ifCond .ne 11, 3) := by decide +kernel
theorem dX9_checkState_4 : decode cX9_checkState 4 = .ok (.new 371, 3) := by decide +kernel
theorem dX9_checkState_7 : decode cX9_checkState 7 = .ok (.dup, 1) := by decide +kernel
theorem dX9_checkState_8 : decode cX9_checkState 8 = .ok (.invokespecial 373, 3) := by decide +kernel
theorem dX9_checkState_11 : decode cX9_checkState 11 = .ok (.athrow, 1) := by decide +kernel
theorem dX9_checkState_12 : decode cX9_checkState 12 = .ok (.return_, 1) := by decide +kernel
theorem dX9_checkRange_0 : decode cX9_checkRange 0 = .ok (.iload_n 0, 1) := by decide +kernel
theorem dX9_checkRange_1 : decode cX9_checkRange 1 = .ok (.iload_n 1, 1) := by decide +kernel
theorem dX9_checkRange_2 : decode cX9_checkRange 2 = .ok (.if_icmp .lt 12, 3) := by decide +kernel
theorem dX9_checkRange_5 : decode cX9_checkRange 5 = .ok (.iload_n 0, 1) := by decide +kernel
theorem dX9_checkRange_6 : decode cX9_checkRange 6 = .ok (.iload_n 2, 1) := by decide +kernel
theorem dX9_checkRange_7 : decode cX9_checkRange 7 = .ok (.if_icmp .gt 7, 3) := by decide +kernel
theorem dX9_checkRange_10 : decode cX9_checkRange 10 = .ok (.iconst 1, 1) := by decide +kernel
theorem dX9_checkRange_11 : decode cX9_checkRange 11 = .ok (.goto 4, 3) := by decide +kernel
theorem dX9_checkRange_14 : decode cX9_checkRange 14 = .ok (.iconst 0, 1) := by decide +kernel
theorem dX9_checkRange_15 : decode cX9_checkRange 15 = .ok (.invokestatic 198, 3) := by decide +kernel
theorem dX9_checkRange_18 : decode cX9_checkRange 18 = .ok (.return_, 1) := by decide +kernel
theorem dX9_checkMaster_0 : decode cX9_checkMaster 0 = .ok (.iload_n 0, 1) := by decide +kernel
theorem dX9_checkMaster_1 : decode cX9_checkMaster 1 = .ok (.iconst 3, 1) := by decide +kernel
theorem dX9_checkMaster_2 : decode cX9_checkMaster 2 = .ok (.invokestatic 129, 3) := by decide +kernel
theorem dX9_checkMaster_5 : decode cX9_checkMaster 5 = .ok (.return_, 1) := by decide +kernel
theorem dX9_checkStep_0 : decode cX9_checkStep 0 = .ok (.iload_n 0, 1) := by decide +kernel
theorem dX9_checkStep_1 : decode cX9_checkStep 1 = .ok (.bipush 16, 2) := by decide +kernel
theorem dX9_checkStep_3 : decode cX9_checkStep 3 = .ok (.invokestatic 129, 3) := by decide +kernel
theorem dX9_checkStep_6 : decode cX9_checkStep 6 = .ok (.return_, 1) := by decide +kernel
theorem dX9_checkPiece_0 : decode cX9_checkPiece 0 = .ok (.iload_n 1, 1) := by decide +kernel
theorem dX9_checkPiece_1 : decode cX9_checkPiece 1 = .ok (.aload_n 0, 1) := by decide +kernel
theorem dX9_checkPiece_2 : decode cX9_checkPiece 2 = .ok (.getfield 10, 3) := by decide +kernel
theorem dX9_checkPiece_5 : decode cX9_checkPiece 5 = .ok (.getfield 133, 3) := by decide +kernel
theorem dX9_checkPiece_8 : decode cX9_checkPiece 8 = .ok (.getfield 137, 3) := by decide +kernel
theorem dX9_checkPiece_11 : decode cX9_checkPiece 11 = .ok (.invokestatic 129, 3) := by decide +kernel
theorem dX9_checkPiece_14 : decode cX9_checkPiece 14 = .ok (.return_, 1) := by decide +kernel
theorem dX9_checkMounted_0 : decode cX9_checkMounted 0 = .ok (.aload_n 0, 1) := by decide +kernel
theorem dX9_checkMounted_1 : decode cX9_checkMounted 1 = .ok (.getfield 10, 3) := by decide +kernel
theorem dX9_checkMounted_4 : decode cX9_checkMounted 4 = .ok (.getfield 133, 3) := by decide +kernel
theorem dX9_checkMounted_7 : decode cX9_checkMounted 7 = .ok (.invokevirtual 161, 3) := by decide +kernel
theorem dX9_checkMounted_10 : decode cX9_checkMounted 10 = .ok (.invokestatic 142, 3) := by decide +kernel
theorem dX9_checkMounted_13 : decode cX9_checkMounted 13 = .ok (.return_, 1) := by decide +kernel
theorem dX9_checkReady_0 : decode cX9_checkReady 0 = .ok (.aload_n 0, 1) := by decide +kernel
theorem dX9_checkReady_1 : decode cX9_checkReady 1 = .ok (.invokevirtual 165, 3) := by decide +kernel
theorem dX9_checkReady_4 : decode cX9_checkReady 4 = .ok (.aload_n 0, 1) := by decide +kernel
theorem dX9_checkReady_5 : decode cX9_checkReady 5 = .ok (.getfield 10, 3) := by decide +kernel
theorem dX9_checkReady_8 : decode cX9_checkReady 8 = .ok (.invokevirtual 175, 3) := by decide +kernel
theorem dX9_checkReady_11 : decode cX9_checkReady 11 = .ok (.invokestatic 142, 3) := by decide +kernel
theorem dX9_checkReady_14 : decode cX9_checkReady 14 = .ok (.return_, 1) := by decide +kernel
theorem dJ9_abs_0f7a4_0 : decode cJ9_abs_0f7a4 0 = .ok (.iload_n 0, 1) := by decide +kernel
theorem dJ9_abs_0f7a4_1 : decode cJ9_abs_0f7a4 1 = .ok (.ifCond .ge 8, 3) := by decide +kernel
theorem dJ9_abs_0f7a4_4 : decode cJ9_abs_0f7a4 4 = .ok (.iload_n 0, 1) := by decide +kernel
theorem dJ9_abs_0f7a4_5 : decode cJ9_abs_0f7a4 5 = .ok (.ineg, 1) := by decide +kernel
theorem dJ9_abs_0f7a4_6 : decode cJ9_abs_0f7a4 6 = .ok (.goto 4, 3) := by decide +kernel
theorem dJ9_abs_0f7a4_9 : decode cJ9_abs_0f7a4 9 = .ok (.iload_n 0, 1) := by decide +kernel
theorem dJ9_abs_0f7a4_10 : decode cJ9_abs_0f7a4 10 = .ok (.ireturn, 1) := by decide +kernel
theorem dJ9_max_7cf53_0 : decode cJ9_max_7cf53 0 = .ok (.iload_n 0, 1) := by decide +kernel
theorem dJ9_max_7cf53_1 : decode cJ9_max_7cf53 1 = .ok (.iload_n 1, 1) := by decide +kernel
theorem dJ9_max_7cf53_2 : decode cJ9_max_7cf53 2 = .ok (.if_icmp .lt 7, 3) := by decide +kernel
theorem dJ9_max_7cf53_5 : decode cJ9_max_7cf53 5 = .ok (.iload_n 0, 1) := by decide +kernel
theorem dJ9_max_7cf53_6 : decode cJ9_max_7cf53 6 = .ok (.goto 4, 3) := by decide +kernel
theorem dJ9_max_7cf53_9 : decode cJ9_max_7cf53 9 = .ok (.iload_n 1, 1) := by decide +kernel
theorem dJ9_max_7cf53_10 : decode cJ9_max_7cf53 10 = .ok (.ireturn, 1) := by decide +kernel
theorem dJ9_min_7cf53_0 : decode cJ9_min_7cf53 0 = .ok (.iload_n 0, 1) := by decide +kernel
theorem dJ9_min_7cf53_1 : decode cJ9_min_7cf53 1 = .ok (.iload_n 1, 1) := by decide +kernel
theorem dJ9_min_7cf53_2 : decode cJ9_min_7cf53 2 = .ok (.if_icmp .gt 7, 3) := by decide +kernel
theorem dJ9_min_7cf53_5 : decode cJ9_min_7cf53 5 = .ok (.iload_n 0, 1) := by decide +kernel
theorem dJ9_min_7cf53_6 : decode cJ9_min_7cf53 6 = .ok (.goto 4, 3) := by decide +kernel
theorem dJ9_min_7cf53_9 : decode cJ9_min_7cf53 9 = .ok (.iload_n 1, 1) := by decide +kernel
theorem dJ9_min_7cf53_10 : decode cJ9_min_7cf53 10 = .ok (.ireturn, 1) := by decide +kernel
theorem dL_cell_0 : decode cL_cell 0 = .ok (.iload_n 1, 1) := by decide +kernel
theorem dL_cell_1 : decode cL_cell 1 = .ok (.aload_n 0, 1) := by decide +kernel
theorem dL_cell_2 : decode cL_cell 2 = .ok (.arraylength, 1) := by decide +kernel
theorem dL_cell_3 : decode cL_cell 3 = .ok (.if_icmp .ge 9, 3) := by decide +kernel
theorem dL_cell_6 : decode cL_cell 6 = .ok (.aload_n 0, 1) := by decide +kernel
theorem dL_cell_7 : decode cL_cell 7 = .ok (.iload_n 1, 1) := by decide +kernel
theorem dL_cell_8 : decode cL_cell 8 = .ok (.iaload, 1) := by decide +kernel
theorem dL_cell_9 : decode cL_cell 9 = .ok (.goto 11, 3) := by decide +kernel
theorem dL_cell_12 : decode cL_cell 12 = .ok (.ldc 7, 2) := by decide +kernel
theorem dL_cell_14 : decode cL_cell 14 = .ok (.iload_n 1, 1) := by decide +kernel
theorem dL_cell_15 : decode cL_cell 15 = .ok (.sipush 547, 3) := by decide +kernel
theorem dL_cell_18 : decode cL_cell 18 = .ok (.iadd, 1) := by decide +kernel
theorem dL_cell_19 : decode cL_cell 19 = .ok (.imul, 1) := by decide +kernel
theorem dL_cell_20 : decode cL_cell 20 = .ok (.ireturn, 1) := by decide +kernel
theorem dL_up_0 : decode cL_up 0 = .ok (.iload_n 0, 1) := by decide +kernel
theorem dL_up_1 : decode cL_up 1 = .ok (.ldc 8, 2) := by decide +kernel
theorem dL_up_3 : decode cL_up 3 = .ok (.iand, 1) := by decide +kernel
theorem dL_up_4 : decode cL_up 4 = .ok (.iload_n 1, 1) := by decide +kernel
theorem dL_up_5 : decode cL_up 5 = .ok (.irem, 1) := by decide +kernel
theorem dL_up_6 : decode cL_up 6 = .ok (.ireturn, 1) := by decide +kernel
theorem dL_looks_0 : decode cL_looks 0 = .ok (.ldc2_w 9, 3) := by decide +kernel
theorem dL_looks_3 : decode cL_looks 3 = .ok (.ldc2_w 9, 3) := by decide +kernel
theorem dL_looks_6 : decode cL_looks 6 = .ok (.ldc2_w 11, 3) := by decide +kernel
theorem dL_looks_9 : decode cL_looks 9 = .ok (.aload_n 0, 1) := by decide +kernel
theorem dL_looks_10 : decode cL_looks 10 = .ok (.invokevirtual 13, 3) := by decide +kernel
theorem dL_looks_13 : decode cL_looks 13 = .ok (.i2l, 1) := by decide +kernel
theorem dL_looks_14 : decode cL_looks 14 = .ok (.ladd, 1) := by decide +kernel
theorem dL_looks_15 : decode cL_looks 15 = .ok (.lmul, 1) := by decide +kernel
theorem dL_looks_16 : decode cL_looks 16 = .ok (.aload_n 0, 1) := by decide +kernel
theorem dL_looks_17 : decode cL_looks 17 = .ok (.invokevirtual 19, 3) := by decide +kernel
theorem dL_looks_20 : decode cL_looks 20 = .ok (.i2l, 1) := by decide +kernel
theorem dL_looks_21 : decode cL_looks 21 = .ok (.ladd, 1) := by decide +kernel
theorem dL_looks_22 : decode cL_looks 22 = .ok (.lmul, 1) := by decide +kernel
theorem dL_looks_23 : decode cL_looks 23 = .ok (.aload_n 0, 1) := by decide +kernel
theorem dL_looks_24 : decode cL_looks 24 = .ok (.invokevirtual 22, 3) := by decide +kernel
theorem dL_looks_27 : decode cL_looks 27 = .ok (.i2l, 1) := by decide +kernel
theorem dL_looks_28 : decode cL_looks 28 = .ok (.ladd, 1) := by decide +kernel
theorem dL_looks_29 : decode cL_looks 29 = .ok (.lstore_n 1, 1) := by decide +kernel
theorem dL_looks_30 : decode cL_looks 30 = .ok (.ldc2_w 9, 3) := by decide +kernel
theorem dL_looks_33 : decode cL_looks 33 = .ok (.ldc2_w 9, 3) := by decide +kernel
theorem dL_looks_36 : decode cL_looks 36 = .ok (.ldc2_w 9, 3) := by decide +kernel
theorem dL_looks_39 : decode cL_looks 39 = .ok (.lload_n 1, 1) := by decide +kernel
theorem dL_looks_40 : decode cL_looks 40 = .ok (.lmul, 1) := by decide +kernel
theorem dL_looks_41 : decode cL_looks 41 = .ok (.aload_n 0, 1) := by decide +kernel
theorem dL_looks_42 : decode cL_looks 42 = .ok (.invokevirtual 25, 3) := by decide +kernel
theorem dL_looks_45 : decode cL_looks 45 = .ok (.i2l, 1) := by decide +kernel
theorem dL_looks_46 : decode cL_looks 46 = .ok (.ladd, 1) := by decide +kernel
theorem dL_looks_47 : decode cL_looks 47 = .ok (.lmul, 1) := by decide +kernel
theorem dL_looks_48 : decode cL_looks 48 = .ok (.aload_n 0, 1) := by decide +kernel
theorem dL_looks_49 : decode cL_looks 49 = .ok (.invokevirtual 28, 3) := by decide +kernel
theorem dL_looks_52 : decode cL_looks 52 = .ok (.i2l, 1) := by decide +kernel
theorem dL_looks_53 : decode cL_looks 53 = .ok (.ladd, 1) := by decide +kernel
theorem dL_looks_54 : decode cL_looks 54 = .ok (.lmul, 1) := by decide +kernel
theorem dL_looks_55 : decode cL_looks 55 = .ok (.aload_n 0, 1) := by decide +kernel
theorem dL_looks_56 : decode cL_looks 56 = .ok (.invokevirtual 31, 3) := by decide +kernel
theorem dL_looks_59 : decode cL_looks 59 = .ok (.i2l, 1) := by decide +kernel
theorem dL_looks_60 : decode cL_looks 60 = .ok (.ladd, 1) := by decide +kernel
theorem dL_looks_61 : decode cL_looks 61 = .ok (.lstore_n 1, 1) := by decide +kernel
theorem dL_looks_62 : decode cL_looks 62 = .ok (.ldc2_w 9, 3) := by decide +kernel
theorem dL_looks_65 : decode cL_looks 65 = .ok (.ldc2_w 9, 3) := by decide +kernel
theorem dL_looks_68 : decode cL_looks 68 = .ok (.ldc2_w 9, 3) := by decide +kernel
theorem dL_looks_71 : decode cL_looks 71 = .ok (.lload_n 1, 1) := by decide +kernel
theorem dL_looks_72 : decode cL_looks 72 = .ok (.lmul, 1) := by decide +kernel
theorem dL_looks_73 : decode cL_looks 73 = .ok (.aload_n 0, 1) := by decide +kernel
theorem dL_looks_74 : decode cL_looks 74 = .ok (.invokevirtual 34, 3) := by decide +kernel
theorem dL_looks_77 : decode cL_looks 77 = .ok (.i2l, 1) := by decide +kernel
theorem dL_looks_78 : decode cL_looks 78 = .ok (.ladd, 1) := by decide +kernel
theorem dL_looks_79 : decode cL_looks 79 = .ok (.lmul, 1) := by decide +kernel
theorem dL_looks_80 : decode cL_looks 80 = .ok (.aload_n 0, 1) := by decide +kernel
theorem dL_looks_81 : decode cL_looks 81 = .ok (.invokevirtual 37, 3) := by decide +kernel
theorem dL_looks_84 : decode cL_looks 84 = .ok (.i2l, 1) := by decide +kernel
theorem dL_looks_85 : decode cL_looks 85 = .ok (.ladd, 1) := by decide +kernel
theorem dL_looks_86 : decode cL_looks 86 = .ok (.lmul, 1) := by decide +kernel
theorem dL_looks_87 : decode cL_looks 87 = .ok (.aload_n 0, 1) := by decide +kernel
theorem dL_looks_88 : decode cL_looks 88 = .ok (.invokevirtual 40, 3) := by decide +kernel
theorem dL_looks_91 : decode cL_looks 91 = .ok (.i2l, 1) := by decide +kernel
theorem dL_looks_92 : decode cL_looks 92 = .ok (.ladd, 1) := by decide +kernel
theorem dL_looks_93 : decode cL_looks 93 = .ok (.lstore_n 1, 1) := by decide +kernel
theorem dL_looks_94 : decode cL_looks 94 = .ok (.ldc2_w 9, 3) := by decide +kernel
theorem dL_looks_97 : decode cL_looks 97 = .ok (.ldc2_w 9, 3) := by decide +kernel
theorem dL_looks_100 : decode cL_looks 100 = .ok (.ldc2_w 9, 3) := by decide +kernel
theorem dL_looks_103 : decode cL_looks 103 = .ok (.lload_n 1, 1) := by decide +kernel
theorem dL_looks_104 : decode cL_looks 104 = .ok (.lmul, 1) := by decide +kernel
theorem dL_looks_105 : decode cL_looks 105 = .ok (.aload_n 0, 1) := by decide +kernel
theorem dL_looks_106 : decode cL_looks 106 = .ok (.invokevirtual 43, 3) := by decide +kernel
theorem dL_looks_109 : decode cL_looks 109 = .ok (.i2l, 1) := by decide +kernel
theorem dL_looks_110 : decode cL_looks 110 = .ok (.ladd, 1) := by decide +kernel
theorem dL_looks_111 : decode cL_looks 111 = .ok (.lmul, 1) := by decide +kernel
theorem dL_looks_112 : decode cL_looks 112 = .ok (.aload_n 0, 1) := by decide +kernel
theorem dL_looks_113 : decode cL_looks 113 = .ok (.invokevirtual 46, 3) := by decide +kernel
theorem dL_looks_116 : decode cL_looks 116 = .ok (.i2l, 1) := by decide +kernel
theorem dL_looks_117 : decode cL_looks 117 = .ok (.ladd, 1) := by decide +kernel
theorem dL_looks_118 : decode cL_looks 118 = .ok (.lmul, 1) := by decide +kernel
theorem dL_looks_119 : decode cL_looks 119 = .ok (.aload_n 0, 1) := by decide +kernel
theorem dL_looks_120 : decode cL_looks 120 = .ok (.invokevirtual 49, 3) := by decide +kernel
theorem dL_looks_123 : decode cL_looks 123 = .ok (.i2l, 1) := by decide +kernel
theorem dL_looks_124 : decode cL_looks 124 = .ok (.ladd, 1) := by decide +kernel
theorem dL_looks_125 : decode cL_looks 125 = .ok (.lstore_n 1, 1) := by decide +kernel
theorem dL_looks_126 : decode cL_looks 126 = .ok (.ldc2_w 9, 3) := by decide +kernel
theorem dL_looks_129 : decode cL_looks 129 = .ok (.ldc2_w 9, 3) := by decide +kernel
theorem dL_looks_132 : decode cL_looks 132 = .ok (.ldc2_w 9, 3) := by decide +kernel
theorem dL_looks_135 : decode cL_looks 135 = .ok (.lload_n 1, 1) := by decide +kernel
theorem dL_looks_136 : decode cL_looks 136 = .ok (.lmul, 1) := by decide +kernel
theorem dL_looks_137 : decode cL_looks 137 = .ok (.aload_n 0, 1) := by decide +kernel
theorem dL_looks_138 : decode cL_looks 138 = .ok (.invokevirtual 52, 3) := by decide +kernel
theorem dL_looks_141 : decode cL_looks 141 = .ok (.i2l, 1) := by decide +kernel
theorem dL_looks_142 : decode cL_looks 142 = .ok (.ladd, 1) := by decide +kernel
theorem dL_looks_143 : decode cL_looks 143 = .ok (.lmul, 1) := by decide +kernel
theorem dL_looks_144 : decode cL_looks 144 = .ok (.aload_n 0, 1) := by decide +kernel
theorem dL_looks_145 : decode cL_looks 145 = .ok (.invokevirtual 55, 3) := by decide +kernel
theorem dL_looks_148 : decode cL_looks 148 = .ok (.i2l, 1) := by decide +kernel
theorem dL_looks_149 : decode cL_looks 149 = .ok (.ladd, 1) := by decide +kernel
theorem dL_looks_150 : decode cL_looks 150 = .ok (.lmul, 1) := by decide +kernel
theorem dL_looks_151 : decode cL_looks 151 = .ok (.aload_n 0, 1) := by decide +kernel
theorem dL_looks_152 : decode cL_looks 152 = .ok (.invokevirtual 58, 3) := by decide +kernel
theorem dL_looks_155 : decode cL_looks 155 = .ok (.ifCond .eq 7, 3) := by decide +kernel
theorem dL_looks_158 : decode cL_looks 158 = .ok (.iconst 1, 1) := by decide +kernel
theorem dL_looks_159 : decode cL_looks 159 = .ok (.goto 4, 3) := by decide +kernel
theorem dL_looks_162 : decode cL_looks 162 = .ok (.iconst 0, 1) := by decide +kernel
theorem dL_looks_163 : decode cL_looks 163 = .ok (.i2l, 1) := by decide +kernel
theorem dL_looks_164 : decode cL_looks 164 = .ok (.ladd, 1) := by decide +kernel
theorem dL_looks_165 : decode cL_looks 165 = .ok (.lstore_n 1, 1) := by decide +kernel
theorem dL_looks_166 : decode cL_looks 166 = .ok (.ldc2_w 9, 3) := by decide +kernel
theorem dL_looks_169 : decode cL_looks 169 = .ok (.lload_n 1, 1) := by decide +kernel
theorem dL_looks_170 : decode cL_looks 170 = .ok (.lmul, 1) := by decide +kernel
theorem dL_looks_171 : decode cL_looks 171 = .ok (.aload_n 0, 1) := by decide +kernel
theorem dL_looks_172 : decode cL_looks 172 = .ok (.invokevirtual 62, 3) := by decide +kernel
theorem dL_looks_175 : decode cL_looks 175 = .ok (.ifCond .eq 12, 3) := by decide +kernel
theorem dL_looks_178 : decode cL_looks 178 = .ok (.aload_n 0, 1) := by decide +kernel
theorem dL_looks_179 : decode cL_looks 179 = .ok (.invokevirtual 65, 3) := by decide +kernel
theorem dL_looks_182 : decode cL_looks 182 = .ok (.iconst 1, 1) := by decide +kernel
theorem dL_looks_183 : decode cL_looks 183 = .ok (.iadd, 1) := by decide +kernel
theorem dL_looks_184 : decode cL_looks 184 = .ok (.goto 4, 3) := by decide +kernel
theorem dL_looks_187 : decode cL_looks 187 = .ok (.iconst 0, 1) := by decide +kernel
theorem dL_looks_188 : decode cL_looks 188 = .ok (.i2l, 1) := by decide +kernel
theorem dL_looks_189 : decode cL_looks 189 = .ok (.ladd, 1) := by decide +kernel
theorem dL_looks_190 : decode cL_looks 190 = .ok (.lstore_n 1, 1) := by decide +kernel
theorem dL_looks_191 : decode cL_looks 191 = .ok (.iconst 0, 1) := by decide +kernel
theorem dL_looks_192 : decode cL_looks 192 = .ok (.istore_n 3, 1) := by decide +kernel
theorem dL_looks_193 : decode cL_looks 193 = .ok (.iload_n 3, 1) := by decide +kernel
theorem dL_looks_194 : decode cL_looks 194 = .ok (.bipush 48, 2) := by decide +kernel
theorem dL_looks_196 : decode cL_looks 196 = .ok (.if_icmp .ge 29, 3) := by decide +kernel
theorem dL_looks_199 : decode cL_looks 199 = .ok (.ldc2_w 9, 3) := by decide +kernel
theorem dL_looks_202 : decode cL_looks 202 = .ok (.lload_n 1, 1) := by decide +kernel
theorem dL_looks_203 : decode cL_looks 203 = .ok (.lmul, 1) := by decide +kernel
theorem dL_looks_204 : decode cL_looks 204 = .ok (.aload_n 0, 1) := by decide +kernel
theorem dL_looks_205 : decode cL_looks 205 = .ok (.iload_n 3, 1) := by decide +kernel
theorem dL_looks_206 : decode cL_looks 206 = .ok (.bipush 16, 2) := by decide +kernel
theorem dL_looks_208 : decode cL_looks 208 = .ok (.idiv, 1) := by decide +kernel
theorem dL_looks_209 : decode cL_looks 209 = .ok (.iload_n 3, 1) := by decide +kernel
theorem dL_looks_210 : decode cL_looks 210 = .ok (.bipush 16, 2) := by decide +kernel
theorem dL_looks_212 : decode cL_looks 212 = .ok (.irem, 1) := by decide +kernel
theorem dL_looks_213 : decode cL_looks 213 = .ok (.invokevirtual 68, 3) := by decide +kernel
theorem dL_looks_216 : decode cL_looks 216 = .ok (.i2l, 1) := by decide +kernel
theorem dL_looks_217 : decode cL_looks 217 = .ok (.ladd, 1) := by decide +kernel
theorem dL_looks_218 : decode cL_looks 218 = .ok (.lstore_n 1, 1) := by decide +kernel
theorem dL_looks_219 : decode cL_looks 219 = .ok (.iinc 3 1, 3) := by decide +kernel
theorem dL_looks_222 : decode cL_looks 222 = .ok (.goto (-29), 3) := by decide +kernel
theorem dL_looks_225 : decode cL_looks 225 = .ok (.iconst 0, 1) := by decide +kernel
theorem dL_looks_226 : decode cL_looks 226 = .ok (.istore_n 3, 1) := by decide +kernel
theorem dL_looks_227 : decode cL_looks 227 = .ok (.iload_n 3, 1) := by decide +kernel
theorem dL_looks_228 : decode cL_looks 228 = .ok (.bipush 16, 2) := by decide +kernel
theorem dL_looks_230 : decode cL_looks 230 = .ok (.aload_n 0, 1) := by decide +kernel
theorem dL_looks_231 : decode cL_looks 231 = .ok (.invokevirtual 72, 3) := by decide +kernel
theorem dL_looks_234 : decode cL_looks 234 = .ok (.imul, 1) := by decide +kernel
theorem dL_looks_235 : decode cL_looks 235 = .ok (.if_icmp .ge 29, 3) := by decide +kernel
theorem dL_looks_238 : decode cL_looks 238 = .ok (.ldc2_w 9, 3) := by decide +kernel
theorem dL_looks_241 : decode cL_looks 241 = .ok (.lload_n 1, 1) := by decide +kernel
theorem dL_looks_242 : decode cL_looks 242 = .ok (.lmul, 1) := by decide +kernel
theorem dL_looks_243 : decode cL_looks 243 = .ok (.aload_n 0, 1) := by decide +kernel
theorem dL_looks_244 : decode cL_looks 244 = .ok (.iload_n 3, 1) := by decide +kernel
theorem dL_looks_245 : decode cL_looks 245 = .ok (.bipush 16, 2) := by decide +kernel
theorem dL_looks_247 : decode cL_looks 247 = .ok (.idiv, 1) := by decide +kernel
theorem dL_looks_248 : decode cL_looks 248 = .ok (.iload_n 3, 1) := by decide +kernel
theorem dL_looks_249 : decode cL_looks 249 = .ok (.bipush 16, 2) := by decide +kernel
theorem dL_looks_251 : decode cL_looks 251 = .ok (.irem, 1) := by decide +kernel
theorem dL_looks_252 : decode cL_looks 252 = .ok (.invokevirtual 75, 3) := by decide +kernel
theorem dL_looks_255 : decode cL_looks 255 = .ok (.i2l, 1) := by decide +kernel
theorem dL_looks_256 : decode cL_looks 256 = .ok (.ladd, 1) := by decide +kernel
theorem dL_looks_257 : decode cL_looks 257 = .ok (.lstore_n 1, 1) := by decide +kernel
theorem dL_looks_258 : decode cL_looks 258 = .ok (.iinc 3 1, 3) := by decide +kernel
theorem dL_looks_261 : decode cL_looks 261 = .ok (.goto (-34), 3) := by decide +kernel
theorem dL_looks_264 : decode cL_looks 264 = .ok (.iconst 0, 1) := by decide +kernel
theorem dL_looks_265 : decode cL_looks 265 = .ok (.istore_n 3, 1) := by decide +kernel
theorem dL_looks_266 : decode cL_looks 266 = .ok (.iload_n 3, 1) := by decide +kernel
theorem dL_looks_267 : decode cL_looks 267 = .ok (.aload_n 0, 1) := by decide +kernel
theorem dL_looks_268 : decode cL_looks 268 = .ok (.invokevirtual 72, 3) := by decide +kernel
theorem dL_looks_271 : decode cL_looks 271 = .ok (.if_icmp .ge 33, 3) := by decide +kernel
theorem dL_looks_274 : decode cL_looks 274 = .ok (.ldc2_w 9, 3) := by decide +kernel
theorem dL_looks_277 : decode cL_looks 277 = .ok (.ldc2_w 9, 3) := by decide +kernel
theorem dL_looks_280 : decode cL_looks 280 = .ok (.lload_n 1, 1) := by decide +kernel
theorem dL_looks_281 : decode cL_looks 281 = .ok (.lmul, 1) := by decide +kernel
theorem dL_looks_282 : decode cL_looks 282 = .ok (.aload_n 0, 1) := by decide +kernel
theorem dL_looks_283 : decode cL_looks 283 = .ok (.iload_n 3, 1) := by decide +kernel
theorem dL_looks_284 : decode cL_looks 284 = .ok (.invokevirtual 78, 3) := by decide +kernel
theorem dL_looks_287 : decode cL_looks 287 = .ok (.i2l, 1) := by decide +kernel
theorem dL_looks_288 : decode cL_looks 288 = .ok (.ladd, 1) := by decide +kernel
theorem dL_looks_289 : decode cL_looks 289 = .ok (.lmul, 1) := by decide +kernel
theorem dL_looks_290 : decode cL_looks 290 = .ok (.aload_n 0, 1) := by decide +kernel
theorem dL_looks_291 : decode cL_looks 291 = .ok (.iload_n 3, 1) := by decide +kernel
theorem dL_looks_292 : decode cL_looks 292 = .ok (.invokevirtual 82, 3) := by decide +kernel
theorem dL_looks_295 : decode cL_looks 295 = .ok (.i2l, 1) := by decide +kernel
theorem dL_looks_296 : decode cL_looks 296 = .ok (.ladd, 1) := by decide +kernel
theorem dL_looks_297 : decode cL_looks 297 = .ok (.lstore_n 1, 1) := by decide +kernel
theorem dL_looks_298 : decode cL_looks 298 = .ok (.iinc 3 1, 3) := by decide +kernel
theorem dL_looks_301 : decode cL_looks 301 = .ok (.goto (-35), 3) := by decide +kernel
theorem dL_looks_304 : decode cL_looks 304 = .ok (.lload_n 1, 1) := by decide +kernel
theorem dL_looks_305 : decode cL_looks 305 = .ok (.lreturn, 1) := by decide +kernel
theorem dL_sumOf_0 : decode cL_sumOf 0 = .ok (.iconst 0, 1) := by decide +kernel
theorem dL_sumOf_1 : decode cL_sumOf 1 = .ok (.istore_n 2, 1) := by decide +kernel
theorem dL_sumOf_2 : decode cL_sumOf 2 = .ok (.iconst 0, 1) := by decide +kernel
theorem dL_sumOf_3 : decode cL_sumOf 3 = .ok (.istore_n 3, 1) := by decide +kernel
theorem dL_sumOf_4 : decode cL_sumOf 4 = .ok (.iload_n 3, 1) := by decide +kernel
theorem dL_sumOf_5 : decode cL_sumOf 5 = .ok (.bipush 16, 2) := by decide +kernel
theorem dL_sumOf_7 : decode cL_sumOf 7 = .ok (.if_icmp .ge 18, 3) := by decide +kernel
theorem dL_sumOf_10 : decode cL_sumOf 10 = .ok (.iload_n 2, 1) := by decide +kernel
theorem dL_sumOf_11 : decode cL_sumOf 11 = .ok (.aload_n 0, 1) := by decide +kernel
theorem dL_sumOf_12 : decode cL_sumOf 12 = .ok (.iload_n 1, 1) := by decide +kernel
theorem dL_sumOf_13 : decode cL_sumOf 13 = .ok (.iload_n 3, 1) := by decide +kernel
theorem dL_sumOf_14 : decode cL_sumOf 14 = .ok (.invokevirtual 75, 3) := by decide +kernel
theorem dL_sumOf_17 : decode cL_sumOf 17 = .ok (.iadd, 1) := by decide +kernel
theorem dL_sumOf_18 : decode cL_sumOf 18 = .ok (.istore_n 2, 1) := by decide +kernel
theorem dL_sumOf_19 : decode cL_sumOf 19 = .ok (.iinc 3 1, 3) := by decide +kernel
theorem dL_sumOf_22 : decode cL_sumOf 22 = .ok (.goto (-18), 3) := by decide +kernel
theorem dL_sumOf_25 : decode cL_sumOf 25 = .ok (.iload_n 2, 1) := by decide +kernel
theorem dL_sumOf_26 : decode cL_sumOf 26 = .ok (.ireturn, 1) := by decide +kernel
theorem dL_sets_0 : decode cL_sets 0 = .ok (.iload_n 1, 1) := by decide +kernel
theorem dL_sets_1 : decode cL_sets 1 = .ok (.bipush 8, 2) := by decide +kernel
theorem dL_sets_3 : decode cL_sets 3 = .ok (.invokestatic 85, 3) := by decide +kernel
theorem dL_sets_6 : decode cL_sets 6 = .ok (.tableswitch 126 0 6 #[42, 54, 67, 72, 87, 101, 114], 42) := by decide +kernel
theorem dL_sets_48 : decode cL_sets 48 = .ok (.aload_n 0, 1) := by decide +kernel
theorem dL_sets_49 : decode cL_sets 49 = .ok (.iload_n 1, 1) := by decide +kernel
theorem dL_sets_50 : decode cL_sets 50 = .ok (.iconst 3, 1) := by decide +kernel
theorem dL_sets_51 : decode cL_sets 51 = .ok (.ishr, 1) := by decide +kernel
theorem dL_sets_52 : decode cL_sets 52 = .ok (.iconst 4, 1) := by decide +kernel
theorem dL_sets_53 : decode cL_sets 53 = .ok (.invokestatic 85, 3) := by decide +kernel
theorem dL_sets_56 : decode cL_sets 56 = .ok (.invokevirtual 90, 3) := by decide +kernel
theorem dL_sets_59 : decode cL_sets 59 = .ok (.ireturn, 1) := by decide +kernel
theorem dL_sets_60 : decode cL_sets 60 = .ok (.aload_n 0, 1) := by decide +kernel
theorem dL_sets_61 : decode cL_sets 61 = .ok (.iload_n 1, 1) := by decide +kernel
theorem dL_sets_62 : decode cL_sets 62 = .ok (.iconst 3, 1) := by decide +kernel
theorem dL_sets_63 : decode cL_sets 63 = .ok (.ishr, 1) := by decide +kernel
theorem dL_sets_64 : decode cL_sets 64 = .ok (.bipush 6, 2) := by decide +kernel
theorem dL_sets_66 : decode cL_sets 66 = .ok (.invokestatic 85, 3) := by decide +kernel
theorem dL_sets_69 : decode cL_sets 69 = .ok (.invokevirtual 93, 3) := by decide +kernel
theorem dL_sets_72 : decode cL_sets 72 = .ok (.ireturn, 1) := by decide +kernel
theorem dL_sets_73 : decode cL_sets 73 = .ok (.aload_n 0, 1) := by decide +kernel
theorem dL_sets_74 : decode cL_sets 74 = .ok (.invokevirtual 96, 3) := by decide +kernel
theorem dL_sets_77 : decode cL_sets 77 = .ok (.ireturn, 1) := by decide +kernel
theorem dL_sets_78 : decode cL_sets 78 = .ok (.aload_n 0, 1) := by decide +kernel
theorem dL_sets_79 : decode cL_sets 79 = .ok (.iconst 1, 1) := by decide +kernel
theorem dL_sets_80 : decode cL_sets 80 = .ok (.iload_n 1, 1) := by decide +kernel
theorem dL_sets_81 : decode cL_sets 81 = .ok (.iconst 3, 1) := by decide +kernel
theorem dL_sets_82 : decode cL_sets 82 = .ok (.ishr, 1) := by decide +kernel
theorem dL_sets_83 : decode cL_sets 83 = .ok (.bipush 9, 2) := by decide +kernel
theorem dL_sets_85 : decode cL_sets 85 = .ok (.invokestatic 85, 3) := by decide +kernel
theorem dL_sets_88 : decode cL_sets 88 = .ok (.iadd, 1) := by decide +kernel
theorem dL_sets_89 : decode cL_sets 89 = .ok (.invokevirtual 99, 3) := by decide +kernel
theorem dL_sets_92 : decode cL_sets 92 = .ok (.ireturn, 1) := by decide +kernel
theorem dL_sets_93 : decode cL_sets 93 = .ok (.aload_n 0, 1) := by decide +kernel
theorem dL_sets_94 : decode cL_sets 94 = .ok (.iconst 1, 1) := by decide +kernel
theorem dL_sets_95 : decode cL_sets 95 = .ok (.iload_n 1, 1) := by decide +kernel
theorem dL_sets_96 : decode cL_sets 96 = .ok (.iconst 3, 1) := by decide +kernel
theorem dL_sets_97 : decode cL_sets 97 = .ok (.ishr, 1) := by decide +kernel
theorem dL_sets_98 : decode cL_sets 98 = .ok (.iconst 5, 1) := by decide +kernel
theorem dL_sets_99 : decode cL_sets 99 = .ok (.invokestatic 85, 3) := by decide +kernel
theorem dL_sets_102 : decode cL_sets 102 = .ok (.iadd, 1) := by decide +kernel
theorem dL_sets_103 : decode cL_sets 103 = .ok (.invokevirtual 102, 3) := by decide +kernel
theorem dL_sets_106 : decode cL_sets 106 = .ok (.ireturn, 1) := by decide +kernel
theorem dL_sets_107 : decode cL_sets 107 = .ok (.aload_n 0, 1) := by decide +kernel
theorem dL_sets_108 : decode cL_sets 108 = .ok (.iload_n 1, 1) := by decide +kernel
theorem dL_sets_109 : decode cL_sets 109 = .ok (.iconst 3, 1) := by decide +kernel
theorem dL_sets_110 : decode cL_sets 110 = .ok (.ishr, 1) := by decide +kernel
theorem dL_sets_111 : decode cL_sets 111 = .ok (.bipush 21, 2) := by decide +kernel
theorem dL_sets_113 : decode cL_sets 113 = .ok (.invokestatic 85, 3) := by decide +kernel
theorem dL_sets_116 : decode cL_sets 116 = .ok (.invokevirtual 105, 3) := by decide +kernel
theorem dL_sets_119 : decode cL_sets 119 = .ok (.ireturn, 1) := by decide +kernel
theorem dL_sets_120 : decode cL_sets 120 = .ok (.aload_n 0, 1) := by decide +kernel
theorem dL_sets_121 : decode cL_sets 121 = .ok (.iload_n 1, 1) := by decide +kernel
theorem dL_sets_122 : decode cL_sets 122 = .ok (.iconst 3, 1) := by decide +kernel
theorem dL_sets_123 : decode cL_sets 123 = .ok (.ishr, 1) := by decide +kernel
theorem dL_sets_124 : decode cL_sets 124 = .ok (.iconst 3, 1) := by decide +kernel
theorem dL_sets_125 : decode cL_sets 125 = .ok (.invokestatic 85, 3) := by decide +kernel
theorem dL_sets_128 : decode cL_sets 128 = .ok (.invokevirtual 108, 3) := by decide +kernel
theorem dL_sets_131 : decode cL_sets 131 = .ok (.ireturn, 1) := by decide +kernel
theorem dL_sets_132 : decode cL_sets 132 = .ok (.aload_n 0, 1) := by decide +kernel
theorem dL_sets_133 : decode cL_sets 133 = .ok (.invokevirtual 111, 3) := by decide +kernel
theorem dL_sets_136 : decode cL_sets 136 = .ok (.ireturn, 1) := by decide +kernel
theorem dL_act_0 : decode cL_act 0 = .ok (.aload_n 0, 1) := by decide +kernel
theorem dL_act_1 : decode cL_act 1 = .ok (.invokevirtual 72, 3) := by decide +kernel
theorem dL_act_4 : decode cL_act 4 = .ok (.istore_n 3, 1) := by decide +kernel
theorem dL_act_5 : decode cL_act 5 = .ok (.iload_n 1, 1) := by decide +kernel
theorem dL_act_6 : decode cL_act 6 = .ok (.bipush 20, 2) := by decide +kernel
theorem dL_act_8 : decode cL_act 8 = .ok (.invokestatic 85, 3) := by decide +kernel
theorem dL_act_11 : decode cL_act 11 = .ok (.istore 4, 2) := by decide +kernel
theorem dL_act_13 : decode cL_act 13 = .ok (.iload_n 3, 1) := by decide +kernel
theorem dL_act_14 : decode cL_act 14 = .ok (.ifCond .eq 13, 3) := by decide +kernel
theorem dL_act_17 : decode cL_act 17 = .ok (.iload 4, 2) := by decide +kernel
theorem dL_act_19 : decode cL_act 19 = .ok (.ifCond .ne 29, 3) := by decide +kernel
theorem dL_act_22 : decode cL_act 22 = .ok (.iload_n 3, 1) := by decide +kernel
theorem dL_act_23 : decode cL_act 23 = .ok (.iconst 5, 1) := by decide +kernel
theorem dL_act_24 : decode cL_act 24 = .ok (.if_icmp .ge 24, 3) := by decide +kernel
theorem dL_act_27 : decode cL_act 27 = .ok (.aload_n 0, 1) := by decide +kernel
theorem dL_act_28 : decode cL_act 28 = .ok (.iload_n 2, 1) := by decide +kernel
theorem dL_act_29 : decode cL_act 29 = .ok (.iconst 3, 1) := by decide +kernel
theorem dL_act_30 : decode cL_act 30 = .ok (.invokestatic 85, 3) := by decide +kernel
theorem dL_act_33 : decode cL_act 33 = .ok (.bipush 20, 2) := by decide +kernel
theorem dL_act_35 : decode cL_act 35 = .ok (.iload_n 2, 1) := by decide +kernel
theorem dL_act_36 : decode cL_act 36 = .ok (.iconst 2, 1) := by decide +kernel
theorem dL_act_37 : decode cL_act 37 = .ok (.ishr, 1) := by decide +kernel
theorem dL_act_38 : decode cL_act 38 = .ok (.bipush 101, 2) := by decide +kernel
theorem dL_act_40 : decode cL_act 40 = .ok (.invokestatic 85, 3) := by decide +kernel
theorem dL_act_43 : decode cL_act 43 = .ok (.iadd, 1) := by decide +kernel
theorem dL_act_44 : decode cL_act 44 = .ok (.invokevirtual 114, 3) := by decide +kernel
theorem dL_act_47 : decode cL_act 47 = .ok (.ireturn, 1) := by decide +kernel
theorem dL_act_48 : decode cL_act 48 = .ok (.iload 4, 2) := by decide +kernel
theorem dL_act_50 : decode cL_act 50 = .ok (.iconst 5, 1) := by decide +kernel
theorem dL_act_51 : decode cL_act 51 = .ok (.if_icmp .ge 74, 3) := by decide +kernel
theorem dL_act_54 : decode cL_act 54 = .ok (.iload 4, 2) := by decide +kernel
theorem dL_act_56 : decode cL_act 56 = .ok (.ifCond .ne 22, 3) := by decide +kernel
theorem dL_act_59 : decode cL_act 59 = .ok (.aload_n 0, 1) := by decide +kernel
theorem dL_act_60 : decode cL_act 60 = .ok (.iload_n 2, 1) := by decide +kernel
theorem dL_act_61 : decode cL_act 61 = .ok (.iconst 3, 1) := by decide +kernel
theorem dL_act_62 : decode cL_act 62 = .ok (.invokestatic 85, 3) := by decide +kernel
theorem dL_act_65 : decode cL_act 65 = .ok (.iload_n 2, 1) := by decide +kernel
theorem dL_act_66 : decode cL_act 66 = .ok (.iconst 2, 1) := by decide +kernel
theorem dL_act_67 : decode cL_act 67 = .ok (.ishr, 1) := by decide +kernel
theorem dL_act_68 : decode cL_act 68 = .ok (.iconst 3, 1) := by decide +kernel
theorem dL_act_69 : decode cL_act 69 = .ok (.invokestatic 85, 3) := by decide +kernel
theorem dL_act_72 : decode cL_act 72 = .ok (.invokevirtual 117, 3) := by decide +kernel
theorem dL_act_75 : decode cL_act 75 = .ok (.goto 49, 3) := by decide +kernel
theorem dL_act_78 : decode cL_act 78 = .ok (.iload 4, 2) := by decide +kernel
theorem dL_act_80 : decode cL_act 80 = .ok (.iconst 1, 1) := by decide +kernel
theorem dL_act_81 : decode cL_act 81 = .ok (.if_icmp .ne 15, 3) := by decide +kernel
theorem dL_act_84 : decode cL_act 84 = .ok (.aload_n 0, 1) := by decide +kernel
theorem dL_act_85 : decode cL_act 85 = .ok (.iload_n 2, 1) := by decide +kernel
theorem dL_act_86 : decode cL_act 86 = .ok (.iconst 3, 1) := by decide +kernel
theorem dL_act_87 : decode cL_act 87 = .ok (.invokestatic 85, 3) := by decide +kernel
theorem dL_act_90 : decode cL_act 90 = .ok (.invokevirtual 120, 3) := by decide +kernel
theorem dL_act_93 : decode cL_act 93 = .ok (.goto 31, 3) := by decide +kernel
theorem dL_act_96 : decode cL_act 96 = .ok (.aload_n 0, 1) := by decide +kernel
theorem dL_act_97 : decode cL_act 97 = .ok (.iload_n 2, 1) := by decide +kernel
theorem dL_act_98 : decode cL_act 98 = .ok (.iconst 3, 1) := by decide +kernel
theorem dL_act_99 : decode cL_act 99 = .ok (.invokestatic 85, 3) := by decide +kernel
theorem dL_act_102 : decode cL_act 102 = .ok (.iload_n 2, 1) := by decide +kernel
theorem dL_act_103 : decode cL_act 103 = .ok (.iconst 2, 1) := by decide +kernel
theorem dL_act_104 : decode cL_act 104 = .ok (.ishr, 1) := by decide +kernel
theorem dL_act_105 : decode cL_act 105 = .ok (.bipush 16, 2) := by decide +kernel
theorem dL_act_107 : decode cL_act 107 = .ok (.invokestatic 85, 3) := by decide +kernel
theorem dL_act_110 : decode cL_act 110 = .ok (.iconst 5, 1) := by decide +kernel
theorem dL_act_111 : decode cL_act 111 = .ok (.iload_n 2, 1) := by decide +kernel
theorem dL_act_112 : decode cL_act 112 = .ok (.bipush 6, 2) := by decide +kernel
theorem dL_act_114 : decode cL_act 114 = .ok (.ishr, 1) := by decide +kernel
theorem dL_act_115 : decode cL_act 115 = .ok (.bipush 95, 2) := by decide +kernel
theorem dL_act_117 : decode cL_act 117 = .ok (.invokestatic 85, 3) := by decide +kernel
theorem dL_act_120 : decode cL_act 120 = .ok (.iadd, 1) := by decide +kernel
theorem dL_act_121 : decode cL_act 121 = .ok (.invokevirtual 123, 3) := by decide +kernel
theorem dL_act_124 : decode cL_act 124 = .ok (.ireturn, 1) := by decide +kernel
theorem dL_act_125 : decode cL_act 125 = .ok (.iload 4, 2) := by decide +kernel
theorem dL_act_127 : decode cL_act 127 = .ok (.bipush 9, 2) := by decide +kernel
theorem dL_act_129 : decode cL_act 129 = .ok (.if_icmp .ge 9, 3) := by decide +kernel
theorem dL_act_132 : decode cL_act 132 = .ok (.aload_n 0, 1) := by decide +kernel
theorem dL_act_133 : decode cL_act 133 = .ok (.iload_n 2, 1) := by decide +kernel
theorem dL_act_134 : decode cL_act 134 = .ok (.invokestatic 127, 3) := by decide +kernel
theorem dL_act_137 : decode cL_act 137 = .ok (.ireturn, 1) := by decide +kernel
theorem dL_act_138 : decode cL_act 138 = .ok (.aload_n 0, 1) := by decide +kernel
theorem dL_act_139 : decode cL_act 139 = .ok (.invokevirtual 62, 3) := by decide +kernel
theorem dL_act_142 : decode cL_act 142 = .ok (.ifCond .ne 37, 3) := by decide +kernel
theorem dL_act_145 : decode cL_act 145 = .ok (.iload_n 2, 1) := by decide +kernel
theorem dL_act_146 : decode cL_act 146 = .ok (.iload_n 3, 1) := by decide +kernel
theorem dL_act_147 : decode cL_act 147 = .ok (.invokestatic 85, 3) := by decide +kernel
theorem dL_act_150 : decode cL_act 150 = .ok (.istore 5, 2) := by decide +kernel
theorem dL_act_152 : decode cL_act 152 = .ok (.iload_n 2, 1) := by decide +kernel
theorem dL_act_153 : decode cL_act 153 = .ok (.iconst 4, 1) := by decide +kernel
theorem dL_act_154 : decode cL_act 154 = .ok (.ishr, 1) := by decide +kernel
theorem dL_act_155 : decode cL_act 155 = .ok (.bipush 7, 2) := by decide +kernel
theorem dL_act_157 : decode cL_act 157 = .ok (.iand, 1) := by decide +kernel
theorem dL_act_158 : decode cL_act 158 = .ok (.ifCond .ne 10, 3) := by decide +kernel
theorem dL_act_161 : decode cL_act 161 = .ok (.aload_n 0, 1) := by decide +kernel
theorem dL_act_162 : decode cL_act 162 = .ok (.iload 5, 2) := by decide +kernel
theorem dL_act_164 : decode cL_act 164 = .ok (.invokevirtual 131, 3) := by decide +kernel
theorem dL_act_167 : decode cL_act 167 = .ok (.ireturn, 1) := by decide +kernel
theorem dL_act_168 : decode cL_act 168 = .ok (.aload_n 0, 1) := by decide +kernel
theorem dL_act_169 : decode cL_act 169 = .ok (.iload 5, 2) := by decide +kernel
theorem dL_act_171 : decode cL_act 171 = .ok (.invokevirtual 134, 3) := by decide +kernel
theorem dL_act_174 : decode cL_act 174 = .ok (.aload_n 0, 1) := by decide +kernel
theorem dL_act_175 : decode cL_act 175 = .ok (.invokevirtual 65, 3) := by decide +kernel
theorem dL_act_178 : decode cL_act 178 = .ok (.ireturn, 1) := by decide +kernel
theorem dL_act_179 : decode cL_act 179 = .ok (.iload 4, 2) := by decide +kernel
theorem dL_act_181 : decode cL_act 181 = .ok (.bipush 9, 2) := by decide +kernel
theorem dL_act_183 : decode cL_act 183 = .ok (.if_icmp .ne 8, 3) := by decide +kernel
theorem dL_act_186 : decode cL_act 186 = .ok (.aload_n 0, 1) := by decide +kernel
theorem dL_act_187 : decode cL_act 187 = .ok (.invokevirtual 138, 3) := by decide +kernel
theorem dL_act_190 : decode cL_act 190 = .ok (.ireturn, 1) := by decide +kernel
theorem dL_act_191 : decode cL_act 191 = .ok (.iload 4, 2) := by decide +kernel
theorem dL_act_193 : decode cL_act 193 = .ok (.bipush 12, 2) := by decide +kernel
theorem dL_act_195 : decode cL_act 195 = .ok (.if_icmp .lt 17, 3) := by decide +kernel
theorem dL_act_198 : decode cL_act 198 = .ok (.aload_n 0, 1) := by decide +kernel
theorem dL_act_199 : decode cL_act 199 = .ok (.invokevirtual 58, 3) := by decide +kernel
theorem dL_act_202 : decode cL_act 202 = .ok (.ifCond .ne 10, 3) := by decide +kernel
theorem dL_act_205 : decode cL_act 205 = .ok (.aload_n 0, 1) := by decide +kernel
theorem dL_act_206 : decode cL_act 206 = .ok (.invokevirtual 28, 3) := by decide +kernel
theorem dL_act_209 : decode cL_act 209 = .ok (.ifCond .ne 43, 3) := by decide +kernel
theorem dL_act_212 : decode cL_act 212 = .ok (.iload 4, 2) := by decide +kernel
theorem dL_act_214 : decode cL_act 214 = .ok (.bipush 12, 2) := by decide +kernel
theorem dL_act_216 : decode cL_act 216 = .ok (.if_icmp .ge 17, 3) := by decide +kernel
theorem dL_act_219 : decode cL_act 219 = .ok (.aload_n 0, 1) := by decide +kernel
theorem dL_act_220 : decode cL_act 220 = .ok (.iconst 1, 1) := by decide +kernel
theorem dL_act_221 : decode cL_act 221 = .ok (.iload_n 2, 1) := by decide +kernel
theorem dL_act_222 : decode cL_act 222 = .ok (.iconst 3, 1) := by decide +kernel
theorem dL_act_223 : decode cL_act 223 = .ok (.invokestatic 85, 3) := by decide +kernel
theorem dL_act_226 : decode cL_act 226 = .ok (.iadd, 1) := by decide +kernel
theorem dL_act_227 : decode cL_act 227 = .ok (.invokevirtual 141, 3) := by decide +kernel
theorem dL_act_230 : decode cL_act 230 = .ok (.goto 21, 3) := by decide +kernel
theorem dL_act_233 : decode cL_act 233 = .ok (.aload_n 0, 1) := by decide +kernel
theorem dL_act_234 : decode cL_act 234 = .ok (.invokevirtual 58, 3) := by decide +kernel
theorem dL_act_237 : decode cL_act 237 = .ok (.ifCond .eq 10, 3) := by decide +kernel
theorem dL_act_240 : decode cL_act 240 = .ok (.aload_n 0, 1) := by decide +kernel
theorem dL_act_241 : decode cL_act 241 = .ok (.invokevirtual 111, 3) := by decide +kernel
theorem dL_act_244 : decode cL_act 244 = .ok (.goto 7, 3) := by decide +kernel
theorem dL_act_247 : decode cL_act 247 = .ok (.aload_n 0, 1) := by decide +kernel
theorem dL_act_248 : decode cL_act 248 = .ok (.invokevirtual 96, 3) := by decide +kernel
theorem dL_act_251 : decode cL_act 251 = .ok (.ireturn, 1) := by decide +kernel
theorem dL_act_252 : decode cL_act 252 = .ok (.iload 4, 2) := by decide +kernel
theorem dL_act_254 : decode cL_act 254 = .ok (.bipush 18, 2) := by decide +kernel
theorem dL_act_256 : decode cL_act 256 = .ok (.if_icmp .ge 10, 3) := by decide +kernel
theorem dL_act_259 : decode cL_act 259 = .ok (.aload_n 0, 1) := by decide +kernel
theorem dL_act_260 : decode cL_act 260 = .ok (.invokevirtual 144, 3) := by decide +kernel
theorem dL_act_263 : decode cL_act 263 = .ok (.goto 15, 3) := by decide +kernel
theorem dL_act_266 : decode cL_act 266 = .ok (.aload_n 0, 1) := by decide +kernel
theorem dL_act_267 : decode cL_act 267 = .ok (.iconst 1, 1) := by decide +kernel
theorem dL_act_268 : decode cL_act 268 = .ok (.iload_n 2, 1) := by decide +kernel
theorem dL_act_269 : decode cL_act 269 = .ok (.bipush 30, 2) := by decide +kernel
theorem dL_act_271 : decode cL_act 271 = .ok (.invokestatic 85, 3) := by decide +kernel
theorem dL_act_274 : decode cL_act 274 = .ok (.iadd, 1) := by decide +kernel
theorem dL_act_275 : decode cL_act 275 = .ok (.invokevirtual 147, 3) := by decide +kernel
theorem dL_act_278 : decode cL_act 278 = .ok (.ireturn, 1) := by decide +kernel
theorem dL_areReadings_0 : decode cL_areReadings 0 = .ok (.iconst 0, 1) := by decide +kernel
theorem dL_areReadings_1 : decode cL_areReadings 1 = .ok (.istore_n 1, 1) := by decide +kernel
theorem dL_areReadings_2 : decode cL_areReadings 2 = .ok (.aload_n 0, 1) := by decide +kernel
theorem dL_areReadings_3 : decode cL_areReadings 3 = .ok (.invokevirtual 28, 3) := by decide +kernel
theorem dL_areReadings_6 : decode cL_areReadings 6 = .ok (.istore_n 2, 1) := by decide +kernel
theorem dL_areReadings_7 : decode cL_areReadings 7 = .ok (.iload_n 2, 1) := by decide +kernel
theorem dL_areReadings_8 : decode cL_areReadings 8 = .ok (.ifCond .ne 7, 3) := by decide +kernel
theorem dL_areReadings_11 : decode cL_areReadings 11 = .ok (.iconst 0, 1) := by decide +kernel
theorem dL_areReadings_12 : decode cL_areReadings 12 = .ok (.goto 24, 3) := by decide +kernel
theorem dL_areReadings_15 : decode cL_areReadings 15 = .ok (.iload_n 2, 1) := by decide +kernel
theorem dL_areReadings_16 : decode cL_areReadings 16 = .ok (.bipush 50, 2) := by decide +kernel
theorem dL_areReadings_18 : decode cL_areReadings 18 = .ok (.if_icmp .ge 14, 3) := by decide +kernel
theorem dL_areReadings_21 : decode cL_areReadings 21 = .ok (.aload_n 0, 1) := by decide +kernel
theorem dL_areReadings_22 : decode cL_areReadings 22 = .ok (.invokevirtual 31, 3) := by decide +kernel
theorem dL_areReadings_25 : decode cL_areReadings 25 = .ok (.iconst 1, 1) := by decide +kernel
theorem dL_areReadings_26 : decode cL_areReadings 26 = .ok (.iadd, 1) := by decide +kernel
theorem dL_areReadings_27 : decode cL_areReadings 27 = .ok (.iconst 2, 1) := by decide +kernel
theorem dL_areReadings_28 : decode cL_areReadings 28 = .ok (.idiv, 1) := by decide +kernel
theorem dL_areReadings_29 : decode cL_areReadings 29 = .ok (.goto 7, 3) := by decide +kernel
theorem dL_areReadings_32 : decode cL_areReadings 32 = .ok (.aload_n 0, 1) := by decide +kernel
theorem dL_areReadings_33 : decode cL_areReadings 33 = .ok (.invokevirtual 31, 3) := by decide +kernel
theorem dL_areReadings_36 : decode cL_areReadings 36 = .ok (.istore_n 3, 1) := by decide +kernel
theorem dL_areReadings_37 : decode cL_areReadings 37 = .ok (.aload_n 0, 1) := by decide +kernel
theorem dL_areReadings_38 : decode cL_areReadings 38 = .ok (.invokevirtual 150, 3) := by decide +kernel
theorem dL_areReadings_41 : decode cL_areReadings 41 = .ok (.iload_n 3, 1) := by decide +kernel
theorem dL_areReadings_42 : decode cL_areReadings 42 = .ok (.if_icmp .ne 55, 3) := by decide +kernel
theorem dL_areReadings_45 : decode cL_areReadings 45 = .ok (.aload_n 0, 1) := by decide +kernel
theorem dL_areReadings_46 : decode cL_areReadings 46 = .ok (.invokevirtual 22, 3) := by decide +kernel
theorem dL_areReadings_49 : decode cL_areReadings 49 = .ok (.ifCond .lt 48, 3) := by decide +kernel
theorem dL_areReadings_52 : decode cL_areReadings 52 = .ok (.aload_n 0, 1) := by decide +kernel
theorem dL_areReadings_53 : decode cL_areReadings 53 = .ok (.invokevirtual 22, 3) := by decide +kernel
theorem dL_areReadings_56 : decode cL_areReadings 56 = .ok (.bipush 30, 2) := by decide +kernel
theorem dL_areReadings_58 : decode cL_areReadings 58 = .ok (.if_icmp .gt 39, 3) := by decide +kernel
theorem dL_areReadings_61 : decode cL_areReadings 61 = .ok (.iload_n 2, 1) := by decide +kernel
theorem dL_areReadings_62 : decode cL_areReadings 62 = .ok (.ifCond .lt 35, 3) := by decide +kernel
theorem dL_areReadings_65 : decode cL_areReadings 65 = .ok (.iload_n 2, 1) := by decide +kernel
theorem dL_areReadings_66 : decode cL_areReadings 66 = .ok (.bipush 100, 2) := by decide +kernel
theorem dL_areReadings_68 : decode cL_areReadings 68 = .ok (.if_icmp .gt 29, 3) := by decide +kernel
theorem dL_areReadings_71 : decode cL_areReadings 71 = .ok (.aload_n 0, 1) := by decide +kernel
theorem dL_areReadings_72 : decode cL_areReadings 72 = .ok (.invokevirtual 40, 3) := by decide +kernel
theorem dL_areReadings_75 : decode cL_areReadings 75 = .ok (.aload_n 0, 1) := by decide +kernel
theorem dL_areReadings_76 : decode cL_areReadings 76 = .ok (.invokevirtual 153, 3) := by decide +kernel
theorem dL_areReadings_79 : decode cL_areReadings 79 = .ok (.iadd, 1) := by decide +kernel
theorem dL_areReadings_80 : decode cL_areReadings 80 = .ok (.sipush 200, 3) := by decide +kernel
theorem dL_areReadings_83 : decode cL_areReadings 83 = .ok (.if_icmp .ne 14, 3) := by decide +kernel
theorem dL_areReadings_86 : decode cL_areReadings 86 = .ok (.aload_n 0, 1) := by decide +kernel
theorem dL_areReadings_87 : decode cL_areReadings 87 = .ok (.invokevirtual 153, 3) := by decide +kernel
theorem dL_areReadings_90 : decode cL_areReadings 90 = .ok (.ifCond .lt 7, 3) := by decide +kernel
theorem dL_areReadings_93 : decode cL_areReadings 93 = .ok (.iconst 1, 1) := by decide +kernel
theorem dL_areReadings_94 : decode cL_areReadings 94 = .ok (.goto 4, 3) := by decide +kernel
theorem dL_areReadings_97 : decode cL_areReadings 97 = .ok (.iconst 0, 1) := by decide +kernel
theorem dL_areReadings_98 : decode cL_areReadings 98 = .ok (.istore 4, 2) := by decide +kernel
theorem dL_areReadings_100 : decode cL_areReadings 100 = .ok (.iconst 0, 1) := by decide +kernel
theorem dL_areReadings_101 : decode cL_areReadings 101 = .ok (.istore 5, 2) := by decide +kernel
theorem dL_areReadings_103 : decode cL_areReadings 103 = .ok (.iload 5, 2) := by decide +kernel
theorem dL_areReadings_105 : decode cL_areReadings 105 = .ok (.bipush 16, 2) := by decide +kernel
theorem dL_areReadings_107 : decode cL_areReadings 107 = .ok (.if_icmp .ge 139, 3) := by decide +kernel
theorem dL_areReadings_110 : decode cL_areReadings 110 = .ok (.aload_n 0, 1) := by decide +kernel
theorem dL_areReadings_111 : decode cL_areReadings 111 = .ok (.iload 5, 2) := by decide +kernel
theorem dL_areReadings_113 : decode cL_areReadings 113 = .ok (.invokevirtual 156, 3) := by decide +kernel
theorem dL_areReadings_116 : decode cL_areReadings 116 = .ok (.istore 6, 2) := by decide +kernel
theorem dL_areReadings_118 : decode cL_areReadings 118 = .ok (.aload_n 0, 1) := by decide +kernel
theorem dL_areReadings_119 : decode cL_areReadings 119 = .ok (.aload_n 0, 1) := by decide +kernel
theorem dL_areReadings_120 : decode cL_areReadings 120 = .ok (.invokevirtual 13, 3) := by decide +kernel
theorem dL_areReadings_123 : decode cL_areReadings 123 = .ok (.iload 5, 2) := by decide +kernel
theorem dL_areReadings_125 : decode cL_areReadings 125 = .ok (.invokevirtual 68, 3) := by decide +kernel
theorem dL_areReadings_128 : decode cL_areReadings 128 = .ok (.istore 7, 2) := by decide +kernel
theorem dL_areReadings_130 : decode cL_areReadings 130 = .ok (.iload 6, 2) := by decide +kernel
theorem dL_areReadings_132 : decode cL_areReadings 132 = .ok (.aload_n 0, 1) := by decide +kernel
theorem dL_areReadings_133 : decode cL_areReadings 133 = .ok (.invokevirtual 22, 3) := by decide +kernel
theorem dL_areReadings_136 : decode cL_areReadings 136 = .ok (.isub, 1) := by decide +kernel
theorem dL_areReadings_137 : decode cL_areReadings 137 = .ok (.aload_n 0, 1) := by decide +kernel
theorem dL_areReadings_138 : decode cL_areReadings 138 = .ok (.invokevirtual 25, 3) := by decide +kernel
theorem dL_areReadings_141 : decode cL_areReadings 141 = .ok (.iadd, 1) := by decide +kernel
theorem dL_areReadings_142 : decode cL_areReadings 142 = .ok (.istore 8, 2) := by decide +kernel
theorem dL_areReadings_144 : decode cL_areReadings 144 = .ok (.iload_n 1, 1) := by decide +kernel
theorem dL_areReadings_145 : decode cL_areReadings 145 = .ok (.iload 6, 2) := by decide +kernel
theorem dL_areReadings_147 : decode cL_areReadings 147 = .ok (.iload 7, 2) := by decide +kernel
theorem dL_areReadings_149 : decode cL_areReadings 149 = .ok (.if_icmp .le 7, 3) := by decide +kernel
theorem dL_areReadings_152 : decode cL_areReadings 152 = .ok (.iconst 1, 1) := by decide +kernel
theorem dL_areReadings_153 : decode cL_areReadings 153 = .ok (.goto 4, 3) := by decide +kernel
theorem dL_areReadings_156 : decode cL_areReadings 156 = .ok (.iconst 0, 1) := by decide +kernel
theorem dL_areReadings_157 : decode cL_areReadings 157 = .ok (.iadd, 1) := by decide +kernel
theorem dL_areReadings_158 : decode cL_areReadings 158 = .ok (.istore_n 1, 1) := by decide +kernel
theorem dL_areReadings_159 : decode cL_areReadings 159 = .ok (.iload 4, 2) := by decide +kernel
theorem dL_areReadings_161 : decode cL_areReadings 161 = .ok (.ifCond .eq 76, 3) := by decide +kernel
theorem dL_areReadings_164 : decode cL_areReadings 164 = .ok (.iload 6, 2) := by decide +kernel
theorem dL_areReadings_166 : decode cL_areReadings 166 = .ok (.aload_n 0, 1) := by decide +kernel
theorem dL_areReadings_167 : decode cL_areReadings 167 = .ok (.iload 5, 2) := by decide +kernel
theorem dL_areReadings_169 : decode cL_areReadings 169 = .ok (.invokevirtual 159, 3) := by decide +kernel
theorem dL_areReadings_172 : decode cL_areReadings 172 = .ok (.if_icmp .ne 65, 3) := by decide +kernel
theorem dL_areReadings_175 : decode cL_areReadings 175 = .ok (.iload 6, 2) := by decide +kernel
theorem dL_areReadings_177 : decode cL_areReadings 177 = .ok (.iload 7, 2) := by decide +kernel
theorem dL_areReadings_179 : decode cL_areReadings 179 = .ok (.if_icmp .lt 58, 3) := by decide +kernel
theorem dL_areReadings_182 : decode cL_areReadings 182 = .ok (.aload_n 0, 1) := by decide +kernel
theorem dL_areReadings_183 : decode cL_areReadings 183 = .ok (.invokevirtual 19, 3) := by decide +kernel
theorem dL_areReadings_186 : decode cL_areReadings 186 = .ok (.ifCond .gt 10, 3) := by decide +kernel
theorem dL_areReadings_189 : decode cL_areReadings 189 = .ok (.iload 6, 2) := by decide +kernel
theorem dL_areReadings_191 : decode cL_areReadings 191 = .ok (.iload 7, 2) := by decide +kernel
theorem dL_areReadings_193 : decode cL_areReadings 193 = .ok (.if_icmp .ne 44, 3) := by decide +kernel
theorem dL_areReadings_196 : decode cL_areReadings 196 = .ok (.aload_n 0, 1) := by decide +kernel
theorem dL_areReadings_197 : decode cL_areReadings 197 = .ok (.iload 5, 2) := by decide +kernel
theorem dL_areReadings_199 : decode cL_areReadings 199 = .ok (.invokevirtual 162, 3) := by decide +kernel
theorem dL_areReadings_202 : decode cL_areReadings 202 = .ok (.iload 8, 2) := by decide +kernel
theorem dL_areReadings_204 : decode cL_areReadings 204 = .ok (.iconst 1, 1) := by decide +kernel
theorem dL_areReadings_205 : decode cL_areReadings 205 = .ok (.if_icmp .ge 7, 3) := by decide +kernel
theorem dL_areReadings_208 : decode cL_areReadings 208 = .ok (.iconst 1, 1) := by decide +kernel
theorem dL_areReadings_209 : decode cL_areReadings 209 = .ok (.goto 5, 3) := by decide +kernel
theorem dL_areReadings_212 : decode cL_areReadings 212 = .ok (.iload 8, 2) := by decide +kernel
theorem dL_areReadings_214 : decode cL_areReadings 214 = .ok (.if_icmp .ne 23, 3) := by decide +kernel
theorem dL_areReadings_217 : decode cL_areReadings 217 = .ok (.aload_n 0, 1) := by decide +kernel
theorem dL_areReadings_218 : decode cL_areReadings 218 = .ok (.iload 5, 2) := by decide +kernel
theorem dL_areReadings_220 : decode cL_areReadings 220 = .ok (.invokevirtual 162, 3) := by decide +kernel
theorem dL_areReadings_223 : decode cL_areReadings 223 = .ok (.iload 7, 2) := by decide +kernel
theorem dL_areReadings_225 : decode cL_areReadings 225 = .ok (.aload_n 0, 1) := by decide +kernel
theorem dL_areReadings_226 : decode cL_areReadings 226 = .ok (.invokevirtual 22, 3) := by decide +kernel
theorem dL_areReadings_229 : decode cL_areReadings 229 = .ok (.isub, 1) := by decide +kernel
theorem dL_areReadings_230 : decode cL_areReadings 230 = .ok (.if_icmp .lt 7, 3) := by decide +kernel
theorem dL_areReadings_233 : decode cL_areReadings 233 = .ok (.iconst 1, 1) := by decide +kernel
theorem dL_areReadings_234 : decode cL_areReadings 234 = .ok (.goto 4, 3) := by decide +kernel
theorem dL_areReadings_237 : decode cL_areReadings 237 = .ok (.iconst 0, 1) := by decide +kernel
theorem dL_areReadings_238 : decode cL_areReadings 238 = .ok (.istore 4, 2) := by decide +kernel
theorem dL_areReadings_240 : decode cL_areReadings 240 = .ok (.iinc 5 1, 3) := by decide +kernel
theorem dL_areReadings_243 : decode cL_areReadings 243 = .ok (.goto (-140), 3) := by decide +kernel
theorem dL_areReadings_246 : decode cL_areReadings 246 = .ok (.iload 4, 2) := by decide +kernel
theorem dL_areReadings_248 : decode cL_areReadings 248 = .ok (.ifCond .eq 26, 3) := by decide +kernel
theorem dL_areReadings_251 : decode cL_areReadings 251 = .ok (.iload_n 1, 1) := by decide +kernel
theorem dL_areReadings_252 : decode cL_areReadings 252 = .ok (.aload_n 0, 1) := by decide +kernel
theorem dL_areReadings_253 : decode cL_areReadings 253 = .ok (.invokevirtual 165, 3) := by decide +kernel
theorem dL_areReadings_256 : decode cL_areReadings 256 = .ok (.if_icmp .ne 18, 3) := by decide +kernel
theorem dL_areReadings_259 : decode cL_areReadings 259 = .ok (.aload_n 0, 1) := by decide +kernel
theorem dL_areReadings_260 : decode cL_areReadings 260 = .ok (.invokevirtual 19, 3) := by decide +kernel
theorem dL_areReadings_263 : decode cL_areReadings 263 = .ok (.ifCond .gt 7, 3) := by decide +kernel
theorem dL_areReadings_266 : decode cL_areReadings 266 = .ok (.iload_n 1, 1) := by decide +kernel
theorem dL_areReadings_267 : decode cL_areReadings 267 = .ok (.ifCond .ne 7, 3) := by decide +kernel
theorem dL_areReadings_270 : decode cL_areReadings 270 = .ok (.iconst 1, 1) := by decide +kernel
theorem dL_areReadings_271 : decode cL_areReadings 271 = .ok (.goto 4, 3) := by decide +kernel
theorem dL_areReadings_274 : decode cL_areReadings 274 = .ok (.iconst 0, 1) := by decide +kernel
theorem dL_areReadings_275 : decode cL_areReadings 275 = .ok (.ireturn, 1) := by decide +kernel
theorem dL_arePieces_0 : decode cL_arePieces 0 = .ok (.aload_n 0, 1) := by decide +kernel
theorem dL_arePieces_1 : decode cL_arePieces 1 = .ok (.invokevirtual 72, 3) := by decide +kernel
theorem dL_arePieces_4 : decode cL_arePieces 4 = .ok (.ifCond .ne 7, 3) := by decide +kernel
theorem dL_arePieces_7 : decode cL_arePieces 7 = .ok (.iconst 0, 1) := by decide +kernel
theorem dL_arePieces_8 : decode cL_arePieces 8 = .ok (.goto 7, 3) := by decide +kernel
theorem dL_arePieces_11 : decode cL_arePieces 11 = .ok (.aload_n 0, 1) := by decide +kernel
theorem dL_arePieces_12 : decode cL_arePieces 12 = .ok (.invokevirtual 168, 3) := by decide +kernel
theorem dL_arePieces_15 : decode cL_arePieces 15 = .ok (.istore_n 1, 1) := by decide +kernel
theorem dL_arePieces_16 : decode cL_arePieces 16 = .ok (.aload_n 0, 1) := by decide +kernel
theorem dL_arePieces_17 : decode cL_arePieces 17 = .ok (.invokevirtual 72, 3) := by decide +kernel
theorem dL_arePieces_20 : decode cL_arePieces 20 = .ok (.iconst 5, 1) := by decide +kernel
theorem dL_arePieces_21 : decode cL_arePieces 21 = .ok (.if_icmp .gt 7, 3) := by decide +kernel
theorem dL_arePieces_24 : decode cL_arePieces 24 = .ok (.iconst 1, 1) := by decide +kernel
theorem dL_arePieces_25 : decode cL_arePieces 25 = .ok (.goto 4, 3) := by decide +kernel
theorem dL_arePieces_28 : decode cL_arePieces 28 = .ok (.iconst 0, 1) := by decide +kernel
theorem dL_arePieces_29 : decode cL_arePieces 29 = .ok (.istore_n 2, 1) := by decide +kernel
theorem dL_arePieces_30 : decode cL_arePieces 30 = .ok (.iconst 0, 1) := by decide +kernel
theorem dL_arePieces_31 : decode cL_arePieces 31 = .ok (.istore_n 3, 1) := by decide +kernel
theorem dL_arePieces_32 : decode cL_arePieces 32 = .ok (.iload_n 3, 1) := by decide +kernel
theorem dL_arePieces_33 : decode cL_arePieces 33 = .ok (.aload_n 0, 1) := by decide +kernel
theorem dL_arePieces_34 : decode cL_arePieces 34 = .ok (.invokevirtual 72, 3) := by decide +kernel
theorem dL_arePieces_37 : decode cL_arePieces 37 = .ok (.if_icmp .ge 275, 3) := by decide +kernel
theorem dL_arePieces_40 : decode cL_arePieces 40 = .ok (.iload_n 2, 1) := by decide +kernel
theorem dL_arePieces_41 : decode cL_arePieces 41 = .ok (.ifCond .eq 271, 3) := by decide +kernel
theorem dL_arePieces_44 : decode cL_arePieces 44 = .ok (.iconst 0, 1) := by decide +kernel
theorem dL_arePieces_45 : decode cL_arePieces 45 = .ok (.istore 4, 2) := by decide +kernel
theorem dL_arePieces_47 : decode cL_arePieces 47 = .ok (.iconst 0, 1) := by decide +kernel
theorem dL_arePieces_48 : decode cL_arePieces 48 = .ok (.istore 5, 2) := by decide +kernel
theorem dL_arePieces_50 : decode cL_arePieces 50 = .ok (.iload 5, 2) := by decide +kernel
theorem dL_arePieces_52 : decode cL_arePieces 52 = .ok (.bipush 16, 2) := by decide +kernel
theorem dL_arePieces_54 : decode cL_arePieces 54 = .ok (.if_icmp .ge 74, 3) := by decide +kernel
theorem dL_arePieces_57 : decode cL_arePieces 57 = .ok (.aload_n 0, 1) := by decide +kernel
theorem dL_arePieces_58 : decode cL_arePieces 58 = .ok (.iload_n 3, 1) := by decide +kernel
theorem dL_arePieces_59 : decode cL_arePieces 59 = .ok (.iload 5, 2) := by decide +kernel
theorem dL_arePieces_61 : decode cL_arePieces 61 = .ok (.invokevirtual 75, 3) := by decide +kernel
theorem dL_arePieces_64 : decode cL_arePieces 64 = .ok (.aload_n 0, 1) := by decide +kernel
theorem dL_arePieces_65 : decode cL_arePieces 65 = .ok (.iload 5, 2) := by decide +kernel
theorem dL_arePieces_67 : decode cL_arePieces 67 = .ok (.invokevirtual 162, 3) := by decide +kernel
theorem dL_arePieces_70 : decode cL_arePieces 70 = .ok (.isub, 1) := by decide +kernel
theorem dL_arePieces_71 : decode cL_arePieces 71 = .ok (.istore 6, 2) := by decide +kernel
theorem dL_arePieces_73 : decode cL_arePieces 73 = .ok (.iload 4, 2) := by decide +kernel
theorem dL_arePieces_75 : decode cL_arePieces 75 = .ok (.iload 6, 2) := by decide +kernel
theorem dL_arePieces_77 : decode cL_arePieces 77 = .ok (.ifCond .le 8, 3) := by decide +kernel
theorem dL_arePieces_80 : decode cL_arePieces 80 = .ok (.iload 6, 2) := by decide +kernel
theorem dL_arePieces_82 : decode cL_arePieces 82 = .ok (.goto 4, 3) := by decide +kernel
theorem dL_arePieces_85 : decode cL_arePieces 85 = .ok (.iconst 0, 1) := by decide +kernel
theorem dL_arePieces_86 : decode cL_arePieces 86 = .ok (.iadd, 1) := by decide +kernel
theorem dL_arePieces_87 : decode cL_arePieces 87 = .ok (.istore 4, 2) := by decide +kernel
theorem dL_arePieces_89 : decode cL_arePieces 89 = .ok (.iload_n 2, 1) := by decide +kernel
theorem dL_arePieces_90 : decode cL_arePieces 90 = .ok (.ifCond .eq 30, 3) := by decide +kernel
theorem dL_arePieces_93 : decode cL_arePieces 93 = .ok (.aload_n 0, 1) := by decide +kernel
theorem dL_arePieces_94 : decode cL_arePieces 94 = .ok (.iload_n 3, 1) := by decide +kernel
theorem dL_arePieces_95 : decode cL_arePieces 95 = .ok (.iload 5, 2) := by decide +kernel
theorem dL_arePieces_97 : decode cL_arePieces 97 = .ok (.invokevirtual 75, 3) := by decide +kernel
theorem dL_arePieces_100 : decode cL_arePieces 100 = .ok (.iconst 1, 1) := by decide +kernel
theorem dL_arePieces_101 : decode cL_arePieces 101 = .ok (.if_icmp .lt 19, 3) := by decide +kernel
theorem dL_arePieces_104 : decode cL_arePieces 104 = .ok (.aload_n 0, 1) := by decide +kernel
theorem dL_arePieces_105 : decode cL_arePieces 105 = .ok (.iload_n 3, 1) := by decide +kernel
theorem dL_arePieces_106 : decode cL_arePieces 106 = .ok (.iload 5, 2) := by decide +kernel
theorem dL_arePieces_108 : decode cL_arePieces 108 = .ok (.invokevirtual 75, 3) := by decide +kernel
theorem dL_arePieces_111 : decode cL_arePieces 111 = .ok (.bipush 120, 2) := by decide +kernel
theorem dL_arePieces_113 : decode cL_arePieces 113 = .ok (.if_icmp .gt 7, 3) := by decide +kernel
theorem dL_arePieces_116 : decode cL_arePieces 116 = .ok (.iconst 1, 1) := by decide +kernel
theorem dL_arePieces_117 : decode cL_arePieces 117 = .ok (.goto 4, 3) := by decide +kernel
theorem dL_arePieces_120 : decode cL_arePieces 120 = .ok (.iconst 0, 1) := by decide +kernel
theorem dL_arePieces_121 : decode cL_arePieces 121 = .ok (.istore_n 2, 1) := by decide +kernel
theorem dL_arePieces_122 : decode cL_arePieces 122 = .ok (.iinc 5 1, 3) := by decide +kernel
theorem dL_arePieces_125 : decode cL_arePieces 125 = .ok (.goto (-75), 3) := by decide +kernel
theorem dL_arePieces_128 : decode cL_arePieces 128 = .ok (.aload_n 0, 1) := by decide +kernel
theorem dL_arePieces_129 : decode cL_arePieces 129 = .ok (.iload_n 3, 1) := by decide +kernel
theorem dL_arePieces_130 : decode cL_arePieces 130 = .ok (.invokevirtual 171, 3) := by decide +kernel
theorem dL_arePieces_133 : decode cL_arePieces 133 = .ok (.aload_n 0, 1) := by decide +kernel
theorem dL_arePieces_134 : decode cL_arePieces 134 = .ok (.invokevirtual 37, 3) := by decide +kernel
theorem dL_arePieces_137 : decode cL_arePieces 137 = .ok (.if_icmp .gt 19, 3) := by decide +kernel
theorem dL_arePieces_140 : decode cL_arePieces 140 = .ok (.aload_n 0, 1) := by decide +kernel
theorem dL_arePieces_141 : decode cL_arePieces 141 = .ok (.iload_n 3, 1) := by decide +kernel
theorem dL_arePieces_142 : decode cL_arePieces 142 = .ok (.invokevirtual 174, 3) := by decide +kernel
theorem dL_arePieces_145 : decode cL_arePieces 145 = .ok (.aload_n 0, 1) := by decide +kernel
theorem dL_arePieces_146 : decode cL_arePieces 146 = .ok (.invokevirtual 37, 3) := by decide +kernel
theorem dL_arePieces_149 : decode cL_arePieces 149 = .ok (.if_icmp .gt 7, 3) := by decide +kernel
theorem dL_arePieces_152 : decode cL_arePieces 152 = .ok (.iconst 1, 1) := by decide +kernel
theorem dL_arePieces_153 : decode cL_arePieces 153 = .ok (.goto 4, 3) := by decide +kernel
theorem dL_arePieces_156 : decode cL_arePieces 156 = .ok (.iconst 0, 1) := by decide +kernel
theorem dL_arePieces_157 : decode cL_arePieces 157 = .ok (.istore 5, 2) := by decide +kernel
theorem dL_arePieces_159 : decode cL_arePieces 159 = .ok (.iload_n 2, 1) := by decide +kernel
theorem dL_arePieces_160 : decode cL_arePieces 160 = .ok (.ifCond .eq 106, 3) := by decide +kernel
theorem dL_arePieces_163 : decode cL_arePieces 163 = .ok (.aload_n 0, 1) := by decide +kernel
theorem dL_arePieces_164 : decode cL_arePieces 164 = .ok (.iload_n 3, 1) := by decide +kernel
theorem dL_arePieces_165 : decode cL_arePieces 165 = .ok (.invokevirtual 177, 3) := by decide +kernel
theorem dL_arePieces_168 : decode cL_arePieces 168 = .ok (.iload 4, 2) := by decide +kernel
theorem dL_arePieces_170 : decode cL_arePieces 170 = .ok (.if_icmp .ne 96, 3) := by decide +kernel
theorem dL_arePieces_173 : decode cL_arePieces 173 = .ok (.aload_n 0, 1) := by decide +kernel
theorem dL_arePieces_174 : decode cL_arePieces 174 = .ok (.iload_n 3, 1) := by decide +kernel
theorem dL_arePieces_175 : decode cL_arePieces 175 = .ok (.invokevirtual 171, 3) := by decide +kernel
theorem dL_arePieces_178 : decode cL_arePieces 178 = .ok (.ifCond .lt 88, 3) := by decide +kernel
theorem dL_arePieces_181 : decode cL_arePieces 181 = .ok (.aload_n 0, 1) := by decide +kernel
theorem dL_arePieces_182 : decode cL_arePieces 182 = .ok (.iload_n 3, 1) := by decide +kernel
theorem dL_arePieces_183 : decode cL_arePieces 183 = .ok (.invokevirtual 174, 3) := by decide +kernel
theorem dL_arePieces_186 : decode cL_arePieces 186 = .ok (.ifCond .lt 80, 3) := by decide +kernel
theorem dL_arePieces_189 : decode cL_arePieces 189 = .ok (.aload_n 0, 1) := by decide +kernel
theorem dL_arePieces_190 : decode cL_arePieces 190 = .ok (.iload_n 3, 1) := by decide +kernel
theorem dL_arePieces_191 : decode cL_arePieces 191 = .ok (.invokevirtual 180, 3) := by decide +kernel
theorem dL_arePieces_194 : decode cL_arePieces 194 = .ok (.aload_n 0, 1) := by decide +kernel
theorem dL_arePieces_195 : decode cL_arePieces 195 = .ok (.iload_n 3, 1) := by decide +kernel
theorem dL_arePieces_196 : decode cL_arePieces 196 = .ok (.invokevirtual 184, 3) := by decide +kernel
theorem dL_arePieces_199 : decode cL_arePieces 199 = .ok (.ifCond .ne 7, 3) := by decide +kernel
theorem dL_arePieces_202 : decode cL_arePieces 202 = .ok (.iconst 1, 1) := by decide +kernel
theorem dL_arePieces_203 : decode cL_arePieces 203 = .ok (.goto 4, 3) := by decide +kernel
theorem dL_arePieces_206 : decode cL_arePieces 206 = .ok (.iconst 0, 1) := by decide +kernel
theorem dL_arePieces_207 : decode cL_arePieces 207 = .ok (.if_icmp .ne 59, 3) := by decide +kernel
theorem dL_arePieces_210 : decode cL_arePieces 210 = .ok (.aload_n 0, 1) := by decide +kernel
theorem dL_arePieces_211 : decode cL_arePieces 211 = .ok (.iload_n 3, 1) := by decide +kernel
theorem dL_arePieces_212 : decode cL_arePieces 212 = .ok (.invokevirtual 180, 3) := by decide +kernel
theorem dL_arePieces_215 : decode cL_arePieces 215 = .ok (.iload 5, 2) := by decide +kernel
theorem dL_arePieces_217 : decode cL_arePieces 217 = .ok (.if_icmp .ne 49, 3) := by decide +kernel
theorem dL_arePieces_220 : decode cL_arePieces 220 = .ok (.aload_n 0, 1) := by decide +kernel
theorem dL_arePieces_221 : decode cL_arePieces 221 = .ok (.iload_n 1, 1) := by decide +kernel
theorem dL_arePieces_222 : decode cL_arePieces 222 = .ok (.invokevirtual 184, 3) := by decide +kernel
theorem dL_arePieces_225 : decode cL_arePieces 225 = .ok (.aload_n 0, 1) := by decide +kernel
theorem dL_arePieces_226 : decode cL_arePieces 226 = .ok (.iload_n 3, 1) := by decide +kernel
theorem dL_arePieces_227 : decode cL_arePieces 227 = .ok (.invokevirtual 184, 3) := by decide +kernel
theorem dL_arePieces_230 : decode cL_arePieces 230 = .ok (.if_icmp .gt 36, 3) := by decide +kernel
theorem dL_arePieces_233 : decode cL_arePieces 233 = .ok (.aload_n 0, 1) := by decide +kernel
theorem dL_arePieces_234 : decode cL_arePieces 234 = .ok (.iload_n 3, 1) := by decide +kernel
theorem dL_arePieces_235 : decode cL_arePieces 235 = .ok (.invokevirtual 187, 3) := by decide +kernel
theorem dL_arePieces_238 : decode cL_arePieces 238 = .ok (.aload_n 0, 1) := by decide +kernel
theorem dL_arePieces_239 : decode cL_arePieces 239 = .ok (.iload_n 3, 1) := by decide +kernel
theorem dL_arePieces_240 : decode cL_arePieces 240 = .ok (.invokestatic 191, 3) := by decide +kernel
theorem dL_arePieces_243 : decode cL_arePieces 243 = .ok (.i2d, 1) := by decide +kernel
theorem dL_arePieces_244 : decode cL_arePieces 244 = .ok (.ldc2_w 194, 3) := by decide +kernel
theorem dL_arePieces_247 : decode cL_arePieces 247 = .ok (.ddiv, 1) := by decide +kernel
theorem dL_arePieces_248 : decode cL_arePieces 248 = .ok (.dcmp .l, 1) := by decide +kernel
theorem dL_arePieces_249 : decode cL_arePieces 249 = .ok (.ifCond .ne 17, 3) := by decide +kernel
theorem dL_arePieces_252 : decode cL_arePieces 252 = .ok (.aload_n 0, 1) := by decide +kernel
theorem dL_arePieces_253 : decode cL_arePieces 253 = .ok (.iload_n 3, 1) := by decide +kernel
theorem dL_arePieces_254 : decode cL_arePieces 254 = .ok (.invokevirtual 187, 3) := by decide +kernel
theorem dL_arePieces_257 : decode cL_arePieces 257 = .ok (.dconst 1, 1) := by decide +kernel
theorem dL_arePieces_258 : decode cL_arePieces 258 = .ok (.dcmp .l, 1) := by decide +kernel
theorem dL_arePieces_259 : decode cL_arePieces 259 = .ok (.ifCond .lt 7, 3) := by decide +kernel
theorem dL_arePieces_262 : decode cL_arePieces 262 = .ok (.iconst 1, 1) := by decide +kernel
theorem dL_arePieces_263 : decode cL_arePieces 263 = .ok (.goto 4, 3) := by decide +kernel
theorem dL_arePieces_266 : decode cL_arePieces 266 = .ok (.iconst 0, 1) := by decide +kernel
theorem dL_arePieces_267 : decode cL_arePieces 267 = .ok (.istore_n 2, 1) := by decide +kernel
theorem dL_arePieces_268 : decode cL_arePieces 268 = .ok (.iload_n 2, 1) := by decide +kernel
theorem dL_arePieces_269 : decode cL_arePieces 269 = .ok (.ifCond .eq 35, 3) := by decide +kernel
theorem dL_arePieces_272 : decode cL_arePieces 272 = .ok (.aload_n 0, 1) := by decide +kernel
theorem dL_arePieces_273 : decode cL_arePieces 273 = .ok (.iload_n 3, 1) := by decide +kernel
theorem dL_arePieces_274 : decode cL_arePieces 274 = .ok (.invokevirtual 171, 3) := by decide +kernel
theorem dL_arePieces_277 : decode cL_arePieces 277 = .ok (.ifCond .gt 23, 3) := by decide +kernel
theorem dL_arePieces_280 : decode cL_arePieces 280 = .ok (.aload_n 0, 1) := by decide +kernel
theorem dL_arePieces_281 : decode cL_arePieces 281 = .ok (.iload_n 3, 1) := by decide +kernel
theorem dL_arePieces_282 : decode cL_arePieces 282 = .ok (.invokevirtual 174, 3) := by decide +kernel
theorem dL_arePieces_285 : decode cL_arePieces 285 = .ok (.ifCond .gt 15, 3) := by decide +kernel
theorem dL_arePieces_288 : decode cL_arePieces 288 = .ok (.aload_n 0, 1) := by decide +kernel
theorem dL_arePieces_289 : decode cL_arePieces 289 = .ok (.iload_n 3, 1) := by decide +kernel
theorem dL_arePieces_290 : decode cL_arePieces 290 = .ok (.invokevirtual 196, 3) := by decide +kernel
theorem dL_arePieces_293 : decode cL_arePieces 293 = .ok (.aload_n 0, 1) := by decide +kernel
theorem dL_arePieces_294 : decode cL_arePieces 294 = .ok (.invokevirtual 13, 3) := by decide +kernel
theorem dL_arePieces_297 : decode cL_arePieces 297 = .ok (.if_icmp .gt 7, 3) := by decide +kernel
theorem dL_arePieces_300 : decode cL_arePieces 300 = .ok (.iconst 1, 1) := by decide +kernel
theorem dL_arePieces_301 : decode cL_arePieces 301 = .ok (.goto 4, 3) := by decide +kernel
theorem dL_arePieces_304 : decode cL_arePieces 304 = .ok (.iconst 0, 1) := by decide +kernel
theorem dL_arePieces_305 : decode cL_arePieces 305 = .ok (.istore_n 2, 1) := by decide +kernel
theorem dL_arePieces_306 : decode cL_arePieces 306 = .ok (.iinc 3 1, 3) := by decide +kernel
theorem dL_arePieces_309 : decode cL_arePieces 309 = .ok (.goto (-277), 3) := by decide +kernel
theorem dL_arePieces_312 : decode cL_arePieces 312 = .ok (.iload_n 2, 1) := by decide +kernel
theorem dL_arePieces_313 : decode cL_arePieces 313 = .ok (.ifCond .eq 105, 3) := by decide +kernel
theorem dL_arePieces_316 : decode cL_arePieces 316 = .ok (.aload_n 0, 1) := by decide +kernel
theorem dL_arePieces_317 : decode cL_arePieces 317 = .ok (.invokevirtual 62, 3) := by decide +kernel
theorem dL_arePieces_320 : decode cL_arePieces 320 = .ok (.ifCond .eq 98, 3) := by decide +kernel
theorem dL_arePieces_323 : decode cL_arePieces 323 = .ok (.aload_n 0, 1) := by decide +kernel
theorem dL_arePieces_324 : decode cL_arePieces 324 = .ok (.invokevirtual 65, 3) := by decide +kernel
theorem dL_arePieces_327 : decode cL_arePieces 327 = .ok (.istore_n 3, 1) := by decide +kernel
theorem dL_arePieces_328 : decode cL_arePieces 328 = .ok (.aload_n 0, 1) := by decide +kernel
theorem dL_arePieces_329 : decode cL_arePieces 329 = .ok (.invokevirtual 199, 3) := by decide +kernel
theorem dL_arePieces_332 : decode cL_arePieces 332 = .ok (.aload_n 0, 1) := by decide +kernel
theorem dL_arePieces_333 : decode cL_arePieces 333 = .ok (.iload_n 3, 1) := by decide +kernel
theorem dL_arePieces_334 : decode cL_arePieces 334 = .ok (.invokevirtual 177, 3) := by decide +kernel
theorem dL_arePieces_337 : decode cL_arePieces 337 = .ok (.ifCond .ne 7, 3) := by decide +kernel
theorem dL_arePieces_340 : decode cL_arePieces 340 = .ok (.iconst 1, 1) := by decide +kernel
theorem dL_arePieces_341 : decode cL_arePieces 341 = .ok (.goto 4, 3) := by decide +kernel
theorem dL_arePieces_344 : decode cL_arePieces 344 = .ok (.iconst 0, 1) := by decide +kernel
theorem dL_arePieces_345 : decode cL_arePieces 345 = .ok (.if_icmp .ne 71, 3) := by decide +kernel
theorem dL_arePieces_348 : decode cL_arePieces 348 = .ok (.aload_n 0, 1) := by decide +kernel
theorem dL_arePieces_349 : decode cL_arePieces 349 = .ok (.invokevirtual 202, 3) := by decide +kernel
theorem dL_arePieces_352 : decode cL_arePieces 352 = .ok (.ifCond .ne 7, 3) := by decide +kernel
theorem dL_arePieces_355 : decode cL_arePieces 355 = .ok (.iconst 1, 1) := by decide +kernel
theorem dL_arePieces_356 : decode cL_arePieces 356 = .ok (.goto 4, 3) := by decide +kernel
theorem dL_arePieces_359 : decode cL_arePieces 359 = .ok (.iconst 0, 1) := by decide +kernel
theorem dL_arePieces_360 : decode cL_arePieces 360 = .ok (.aload_n 0, 1) := by decide +kernel
theorem dL_arePieces_361 : decode cL_arePieces 361 = .ok (.invokevirtual 28, 3) := by decide +kernel
theorem dL_arePieces_364 : decode cL_arePieces 364 = .ok (.ifCond .ne 7, 3) := by decide +kernel
theorem dL_arePieces_367 : decode cL_arePieces 367 = .ok (.iconst 1, 1) := by decide +kernel
theorem dL_arePieces_368 : decode cL_arePieces 368 = .ok (.goto 4, 3) := by decide +kernel
theorem dL_arePieces_371 : decode cL_arePieces 371 = .ok (.iconst 0, 1) := by decide +kernel
theorem dL_arePieces_372 : decode cL_arePieces 372 = .ok (.if_icmp .ne 44, 3) := by decide +kernel
theorem dL_arePieces_375 : decode cL_arePieces 375 = .ok (.aload_n 0, 1) := by decide +kernel
theorem dL_arePieces_376 : decode cL_arePieces 376 = .ok (.invokevirtual 28, 3) := by decide +kernel
theorem dL_arePieces_379 : decode cL_arePieces 379 = .ok (.ifCond .eq 33, 3) := by decide +kernel
theorem dL_arePieces_382 : decode cL_arePieces 382 = .ok (.aload_n 0, 1) := by decide +kernel
theorem dL_arePieces_383 : decode cL_arePieces 383 = .ok (.invokevirtual 205, 3) := by decide +kernel
theorem dL_arePieces_386 : decode cL_arePieces 386 = .ok (.aload_n 0, 1) := by decide +kernel
theorem dL_arePieces_387 : decode cL_arePieces 387 = .ok (.invokevirtual 208, 3) := by decide +kernel
theorem dL_arePieces_390 : decode cL_arePieces 390 = .ok (.if_icmp .ne 26, 3) := by decide +kernel
theorem dL_arePieces_393 : decode cL_arePieces 393 = .ok (.aload_n 0, 1) := by decide +kernel
theorem dL_arePieces_394 : decode cL_arePieces 394 = .ok (.invokevirtual 205, 3) := by decide +kernel
theorem dL_arePieces_397 : decode cL_arePieces 397 = .ok (.ifCond .ne 7, 3) := by decide +kernel
theorem dL_arePieces_400 : decode cL_arePieces 400 = .ok (.iconst 1, 1) := by decide +kernel
theorem dL_arePieces_401 : decode cL_arePieces 401 = .ok (.goto 4, 3) := by decide +kernel
theorem dL_arePieces_404 : decode cL_arePieces 404 = .ok (.iconst 0, 1) := by decide +kernel
theorem dL_arePieces_405 : decode cL_arePieces 405 = .ok (.aload_n 0, 1) := by decide +kernel
theorem dL_arePieces_406 : decode cL_arePieces 406 = .ok (.invokevirtual 199, 3) := by decide +kernel
theorem dL_arePieces_409 : decode cL_arePieces 409 = .ok (.if_icmp .ne 7, 3) := by decide +kernel
theorem dL_arePieces_412 : decode cL_arePieces 412 = .ok (.iconst 1, 1) := by decide +kernel
theorem dL_arePieces_413 : decode cL_arePieces 413 = .ok (.goto 4, 3) := by decide +kernel
theorem dL_arePieces_416 : decode cL_arePieces 416 = .ok (.iconst 0, 1) := by decide +kernel
theorem dL_arePieces_417 : decode cL_arePieces 417 = .ok (.istore_n 2, 1) := by decide +kernel
theorem dL_arePieces_418 : decode cL_arePieces 418 = .ok (.iload_n 2, 1) := by decide +kernel
theorem dL_arePieces_419 : decode cL_arePieces 419 = .ok (.ireturn, 1) := by decide +kernel
theorem dL_isCut_0 : decode cL_isCut 0 = .ok (.aload_n 0, 1) := by decide +kernel
theorem dL_isCut_1 : decode cL_isCut 1 = .ok (.invokevirtual 65, 3) := by decide +kernel
theorem dL_isCut_4 : decode cL_isCut 4 = .ok (.istore_n 2, 1) := by decide +kernel
theorem dL_isCut_5 : decode cL_isCut 5 = .ok (.bipush 16, 2) := by decide +kernel
theorem dL_isCut_7 : decode cL_isCut 7 = .ok (.newarray .int, 2) := by decide +kernel
theorem dL_isCut_9 : decode cL_isCut 9 = .ok (.astore_n 3, 1) := by decide +kernel
theorem dL_isCut_10 : decode cL_isCut 10 = .ok (.bipush 16, 2) := by decide +kernel
theorem dL_isCut_12 : decode cL_isCut 12 = .ok (.newarray .int, 2) := by decide +kernel
theorem dL_isCut_14 : decode cL_isCut 14 = .ok (.astore 4, 2) := by decide +kernel
theorem dL_isCut_16 : decode cL_isCut 16 = .ok (.aload_n 0, 1) := by decide +kernel
theorem dL_isCut_17 : decode cL_isCut 17 = .ok (.iload_n 2, 1) := by decide +kernel
theorem dL_isCut_18 : decode cL_isCut 18 = .ok (.invokestatic 191, 3) := by decide +kernel
theorem dL_isCut_21 : decode cL_isCut 21 = .ok (.istore 5, 2) := by decide +kernel
theorem dL_isCut_23 : decode cL_isCut 23 = .ok (.iconst 1, 1) := by decide +kernel
theorem dL_isCut_24 : decode cL_isCut 24 = .ok (.istore 6, 2) := by decide +kernel
theorem dL_isCut_26 : decode cL_isCut 26 = .ok (.iconst 0, 1) := by decide +kernel
theorem dL_isCut_27 : decode cL_isCut 27 = .ok (.istore 7, 2) := by decide +kernel
theorem dL_isCut_29 : decode cL_isCut 29 = .ok (.iload 7, 2) := by decide +kernel
theorem dL_isCut_31 : decode cL_isCut 31 = .ok (.bipush 16, 2) := by decide +kernel
theorem dL_isCut_33 : decode cL_isCut 33 = .ok (.if_icmp .ge 31, 3) := by decide +kernel
theorem dL_isCut_36 : decode cL_isCut 36 = .ok (.aload_n 3, 1) := by decide +kernel
theorem dL_isCut_37 : decode cL_isCut 37 = .ok (.iload 7, 2) := by decide +kernel
theorem dL_isCut_39 : decode cL_isCut 39 = .ok (.aload_n 0, 1) := by decide +kernel
theorem dL_isCut_40 : decode cL_isCut 40 = .ok (.iload_n 2, 1) := by decide +kernel
theorem dL_isCut_41 : decode cL_isCut 41 = .ok (.iload 7, 2) := by decide +kernel
theorem dL_isCut_43 : decode cL_isCut 43 = .ok (.invokevirtual 75, 3) := by decide +kernel
theorem dL_isCut_46 : decode cL_isCut 46 = .ok (.iastore, 1) := by decide +kernel
theorem dL_isCut_47 : decode cL_isCut 47 = .ok (.aload 4, 2) := by decide +kernel
theorem dL_isCut_49 : decode cL_isCut 49 = .ok (.iload 7, 2) := by decide +kernel
theorem dL_isCut_51 : decode cL_isCut 51 = .ok (.aload_n 0, 1) := by decide +kernel
theorem dL_isCut_52 : decode cL_isCut 52 = .ok (.iload 7, 2) := by decide +kernel
theorem dL_isCut_54 : decode cL_isCut 54 = .ok (.invokevirtual 162, 3) := by decide +kernel
theorem dL_isCut_57 : decode cL_isCut 57 = .ok (.iastore, 1) := by decide +kernel
theorem dL_isCut_58 : decode cL_isCut 58 = .ok (.iinc 7 1, 3) := by decide +kernel
theorem dL_isCut_61 : decode cL_isCut 61 = .ok (.goto (-32), 3) := by decide +kernel
theorem dL_isCut_64 : decode cL_isCut 64 = .ok (.aload_n 0, 1) := by decide +kernel
theorem dL_isCut_65 : decode cL_isCut 65 = .ok (.invokevirtual 58, 3) := by decide +kernel
theorem dL_isCut_68 : decode cL_isCut 68 = .ok (.ifCond .ne 278, 3) := by decide +kernel
theorem dL_isCut_71 : decode cL_isCut 71 = .ok (.aload_n 0, 1) := by decide +kernel
theorem dL_isCut_72 : decode cL_isCut 72 = .ok (.invokevirtual 28, 3) := by decide +kernel
theorem dL_isCut_75 : decode cL_isCut 75 = .ok (.ifCond .le 271, 3) := by decide +kernel
theorem dL_isCut_78 : decode cL_isCut 78 = .ok (.aload_n 0, 1) := by decide +kernel
theorem dL_isCut_79 : decode cL_isCut 79 = .ok (.invokevirtual 211, 3) := by decide +kernel
theorem dL_isCut_82 : decode cL_isCut 82 = .ok (.istore 7, 2) := by decide +kernel
theorem dL_isCut_84 : decode cL_isCut 84 = .ok (.aload_n 0, 1) := by decide +kernel
theorem dL_isCut_85 : decode cL_isCut 85 = .ok (.invokevirtual 150, 3) := by decide +kernel
theorem dL_isCut_88 : decode cL_isCut 88 = .ok (.istore 8, 2) := by decide +kernel
theorem dL_isCut_90 : decode cL_isCut 90 = .ok (.aload_n 0, 1) := by decide +kernel
theorem dL_isCut_91 : decode cL_isCut 91 = .ok (.invokevirtual 40, 3) := by decide +kernel
theorem dL_isCut_94 : decode cL_isCut 94 = .ok (.istore 9, 2) := by decide +kernel
theorem dL_isCut_96 : decode cL_isCut 96 = .ok (.aload_n 0, 1) := by decide +kernel
theorem dL_isCut_97 : decode cL_isCut 97 = .ok (.invokevirtual 46, 3) := by decide +kernel
theorem dL_isCut_100 : decode cL_isCut 100 = .ok (.istore 10, 2) := by decide +kernel
theorem dL_isCut_102 : decode cL_isCut 102 = .ok (.aload_n 0, 1) := by decide +kernel
theorem dL_isCut_103 : decode cL_isCut 103 = .ok (.invokevirtual 49, 3) := by decide +kernel
theorem dL_isCut_106 : decode cL_isCut 106 = .ok (.istore 11, 2) := by decide +kernel
theorem dL_isCut_108 : decode cL_isCut 108 = .ok (.aload_n 0, 1) := by decide +kernel
theorem dL_isCut_109 : decode cL_isCut 109 = .ok (.invokevirtual 22, 3) := by decide +kernel
theorem dL_isCut_112 : decode cL_isCut 112 = .ok (.istore 12, 2) := by decide +kernel
theorem dL_isCut_114 : decode cL_isCut 114 = .ok (.aload_n 0, 1) := by decide +kernel
theorem dL_isCut_115 : decode cL_isCut 115 = .ok (.iload_n 2, 1) := by decide +kernel
theorem dL_isCut_116 : decode cL_isCut 116 = .ok (.invokevirtual 82, 3) := by decide +kernel
theorem dL_isCut_119 : decode cL_isCut 119 = .ok (.istore 13, 2) := by decide +kernel
theorem dL_isCut_121 : decode cL_isCut 121 = .ok (.aload_n 0, 1) := by decide +kernel
theorem dL_isCut_122 : decode cL_isCut 122 = .ok (.invokevirtual 205, 3) := by decide +kernel
theorem dL_isCut_125 : decode cL_isCut 125 = .ok (.iconst 1, 1) := by decide +kernel
theorem dL_isCut_126 : decode cL_isCut 126 = .ok (.if_icmp .ne 7, 3) := by decide +kernel
theorem dL_isCut_129 : decode cL_isCut 129 = .ok (.iconst 1, 1) := by decide +kernel
theorem dL_isCut_130 : decode cL_isCut 130 = .ok (.goto 4, 3) := by decide +kernel
theorem dL_isCut_133 : decode cL_isCut 133 = .ok (.iconst 0, 1) := by decide +kernel
theorem dL_isCut_134 : decode cL_isCut 134 = .ok (.istore 14, 2) := by decide +kernel
theorem dL_isCut_136 : decode cL_isCut 136 = .ok (.aload_n 0, 1) := by decide +kernel
theorem dL_isCut_137 : decode cL_isCut 137 = .ok (.invokevirtual 144, 3) := by decide +kernel
theorem dL_isCut_140 : decode cL_isCut 140 = .ok (.iload 7, 2) := by decide +kernel
theorem dL_isCut_142 : decode cL_isCut 142 = .ok (.if_icmp .ne 98, 3) := by decide +kernel
theorem dL_isCut_145 : decode cL_isCut 145 = .ok (.aload_n 0, 1) := by decide +kernel
theorem dL_isCut_146 : decode cL_isCut 146 = .ok (.iload_n 2, 1) := by decide +kernel
theorem dL_isCut_147 : decode cL_isCut 147 = .ok (.invokestatic 191, 3) := by decide +kernel
theorem dL_isCut_150 : decode cL_isCut 150 = .ok (.iload 5, 2) := by decide +kernel
theorem dL_isCut_152 : decode cL_isCut 152 = .ok (.iload 7, 2) := by decide +kernel
theorem dL_isCut_154 : decode cL_isCut 154 = .ok (.isub, 1) := by decide +kernel
theorem dL_isCut_155 : decode cL_isCut 155 = .ok (.if_icmp .ne 85, 3) := by decide +kernel
theorem dL_isCut_158 : decode cL_isCut 158 = .ok (.aload_n 0, 1) := by decide +kernel
theorem dL_isCut_159 : decode cL_isCut 159 = .ok (.invokevirtual 40, 3) := by decide +kernel
theorem dL_isCut_162 : decode cL_isCut 162 = .ok (.iload 9, 2) := by decide +kernel
theorem dL_isCut_164 : decode cL_isCut 164 = .ok (.iload 7, 2) := by decide +kernel
theorem dL_isCut_166 : decode cL_isCut 166 = .ok (.iadd, 1) := by decide +kernel
theorem dL_isCut_167 : decode cL_isCut 167 = .ok (.if_icmp .ne 73, 3) := by decide +kernel
theorem dL_isCut_170 : decode cL_isCut 170 = .ok (.aload_n 0, 1) := by decide +kernel
theorem dL_isCut_171 : decode cL_isCut 171 = .ok (.invokevirtual 46, 3) := by decide +kernel
theorem dL_isCut_174 : decode cL_isCut 174 = .ok (.iload 10, 2) := by decide +kernel
theorem dL_isCut_176 : decode cL_isCut 176 = .ok (.iload 7, 2) := by decide +kernel
theorem dL_isCut_178 : decode cL_isCut 178 = .ok (.iadd, 1) := by decide +kernel
theorem dL_isCut_179 : decode cL_isCut 179 = .ok (.if_icmp .ne 61, 3) := by decide +kernel
theorem dL_isCut_182 : decode cL_isCut 182 = .ok (.aload_n 0, 1) := by decide +kernel
theorem dL_isCut_183 : decode cL_isCut 183 = .ok (.invokevirtual 49, 3) := by decide +kernel
theorem dL_isCut_186 : decode cL_isCut 186 = .ok (.iload 11, 2) := by decide +kernel
theorem dL_isCut_188 : decode cL_isCut 188 = .ok (.aload_n 0, 1) := by decide +kernel
theorem dL_isCut_189 : decode cL_isCut 189 = .ok (.invokevirtual 58, 3) := by decide +kernel
theorem dL_isCut_192 : decode cL_isCut 192 = .ok (.ifCond .eq 7, 3) := by decide +kernel
theorem dL_isCut_195 : decode cL_isCut 195 = .ok (.iconst 1, 1) := by decide +kernel
theorem dL_isCut_196 : decode cL_isCut 196 = .ok (.goto 4, 3) := by decide +kernel
theorem dL_isCut_199 : decode cL_isCut 199 = .ok (.iconst 0, 1) := by decide +kernel
theorem dL_isCut_200 : decode cL_isCut 200 = .ok (.iadd, 1) := by decide +kernel
theorem dL_isCut_201 : decode cL_isCut 201 = .ok (.if_icmp .ne 39, 3) := by decide +kernel
theorem dL_isCut_204 : decode cL_isCut 204 = .ok (.aload_n 0, 1) := by decide +kernel
theorem dL_isCut_205 : decode cL_isCut 205 = .ok (.invokevirtual 22, 3) := by decide +kernel
theorem dL_isCut_208 : decode cL_isCut 208 = .ok (.iload 12, 2) := by decide +kernel
theorem dL_isCut_210 : decode cL_isCut 210 = .ok (.if_icmp .lt 30, 3) := by decide +kernel
theorem dL_isCut_213 : decode cL_isCut 213 = .ok (.aload_n 0, 1) := by decide +kernel
theorem dL_isCut_214 : decode cL_isCut 214 = .ok (.invokevirtual 22, 3) := by decide +kernel
theorem dL_isCut_217 : decode cL_isCut 217 = .ok (.iload 12, 2) := by decide +kernel
theorem dL_isCut_219 : decode cL_isCut 219 = .ok (.iconst 1, 1) := by decide +kernel
theorem dL_isCut_220 : decode cL_isCut 220 = .ok (.iadd, 1) := by decide +kernel
theorem dL_isCut_221 : decode cL_isCut 221 = .ok (.if_icmp .gt 19, 3) := by decide +kernel
theorem dL_isCut_224 : decode cL_isCut 224 = .ok (.aload_n 0, 1) := by decide +kernel
theorem dL_isCut_225 : decode cL_isCut 225 = .ok (.iload_n 2, 1) := by decide +kernel
theorem dL_isCut_226 : decode cL_isCut 226 = .ok (.invokevirtual 82, 3) := by decide +kernel
theorem dL_isCut_229 : decode cL_isCut 229 = .ok (.iload 13, 2) := by decide +kernel
theorem dL_isCut_231 : decode cL_isCut 231 = .ok (.iconst 1, 1) := by decide +kernel
theorem dL_isCut_232 : decode cL_isCut 232 = .ok (.iadd, 1) := by decide +kernel
theorem dL_isCut_233 : decode cL_isCut 233 = .ok (.if_icmp .ne 7, 3) := by decide +kernel
theorem dL_isCut_236 : decode cL_isCut 236 = .ok (.iconst 1, 1) := by decide +kernel
theorem dL_isCut_237 : decode cL_isCut 237 = .ok (.goto 4, 3) := by decide +kernel
theorem dL_isCut_240 : decode cL_isCut 240 = .ok (.iconst 0, 1) := by decide +kernel
theorem dL_isCut_241 : decode cL_isCut 241 = .ok (.istore 6, 2) := by decide +kernel
theorem dL_isCut_243 : decode cL_isCut 243 = .ok (.iconst 0, 1) := by decide +kernel
theorem dL_isCut_244 : decode cL_isCut 244 = .ok (.istore 15, 2) := by decide +kernel
theorem dL_isCut_246 : decode cL_isCut 246 = .ok (.iload 15, 2) := by decide +kernel
theorem dL_isCut_248 : decode cL_isCut 248 = .ok (.bipush 16, 2) := by decide +kernel
theorem dL_isCut_250 : decode cL_isCut 250 = .ok (.if_icmp .ge 92, 3) := by decide +kernel
theorem dL_isCut_253 : decode cL_isCut 253 = .ok (.aload_n 0, 1) := by decide +kernel
theorem dL_isCut_254 : decode cL_isCut 254 = .ok (.iload_n 2, 1) := by decide +kernel
theorem dL_isCut_255 : decode cL_isCut 255 = .ok (.iload 15, 2) := by decide +kernel
theorem dL_isCut_257 : decode cL_isCut 257 = .ok (.invokevirtual 75, 3) := by decide +kernel
theorem dL_isCut_260 : decode cL_isCut 260 = .ok (.istore 16, 2) := by decide +kernel
theorem dL_isCut_262 : decode cL_isCut 262 = .ok (.iload 6, 2) := by decide +kernel
theorem dL_isCut_264 : decode cL_isCut 264 = .ok (.ifCond .eq 69, 3) := by decide +kernel
theorem dL_isCut_267 : decode cL_isCut 267 = .ok (.iload 16, 2) := by decide +kernel
theorem dL_isCut_269 : decode cL_isCut 269 = .ok (.aload_n 3, 1) := by decide +kernel
theorem dL_isCut_270 : decode cL_isCut 270 = .ok (.iload 15, 2) := by decide +kernel
theorem dL_isCut_272 : decode cL_isCut 272 = .ok (.iaload, 1) := by decide +kernel
theorem dL_isCut_273 : decode cL_isCut 273 = .ok (.if_icmp .gt 60, 3) := by decide +kernel
theorem dL_isCut_276 : decode cL_isCut 276 = .ok (.aload_n 3, 1) := by decide +kernel
theorem dL_isCut_277 : decode cL_isCut 277 = .ok (.iload 15, 2) := by decide +kernel
theorem dL_isCut_279 : decode cL_isCut 279 = .ok (.iaload, 1) := by decide +kernel
theorem dL_isCut_280 : decode cL_isCut 280 = .ok (.iload 16, 2) := by decide +kernel
theorem dL_isCut_282 : decode cL_isCut 282 = .ok (.isub, 1) := by decide +kernel
theorem dL_isCut_283 : decode cL_isCut 283 = .ok (.iload 8, 2) := by decide +kernel
theorem dL_isCut_285 : decode cL_isCut 285 = .ok (.if_icmp .gt 48, 3) := by decide +kernel
theorem dL_isCut_288 : decode cL_isCut 288 = .ok (.iload 16, 2) := by decide +kernel
theorem dL_isCut_290 : decode cL_isCut 290 = .ok (.aload 4, 2) := by decide +kernel
theorem dL_isCut_292 : decode cL_isCut 292 = .ok (.iload 15, 2) := by decide +kernel
theorem dL_isCut_294 : decode cL_isCut 294 = .ok (.iaload, 1) := by decide +kernel
theorem dL_isCut_295 : decode cL_isCut 295 = .ok (.if_icmp .ge 12, 3) := by decide +kernel
theorem dL_isCut_298 : decode cL_isCut 298 = .ok (.iload 16, 2) := by decide +kernel
theorem dL_isCut_300 : decode cL_isCut 300 = .ok (.aload_n 3, 1) := by decide +kernel
theorem dL_isCut_301 : decode cL_isCut 301 = .ok (.iload 15, 2) := by decide +kernel
theorem dL_isCut_303 : decode cL_isCut 303 = .ok (.iaload, 1) := by decide +kernel
theorem dL_isCut_304 : decode cL_isCut 304 = .ok (.if_icmp .ne 29, 3) := by decide +kernel
theorem dL_isCut_307 : decode cL_isCut 307 = .ok (.iload 14, 2) := by decide +kernel
theorem dL_isCut_309 : decode cL_isCut 309 = .ok (.ifCond .eq 20, 3) := by decide +kernel
theorem dL_isCut_312 : decode cL_isCut 312 = .ok (.aload_n 0, 1) := by decide +kernel
theorem dL_isCut_313 : decode cL_isCut 313 = .ok (.invokevirtual 58, 3) := by decide +kernel
theorem dL_isCut_316 : decode cL_isCut 316 = .ok (.ifCond .ne 13, 3) := by decide +kernel
theorem dL_isCut_319 : decode cL_isCut 319 = .ok (.iload 16, 2) := by decide +kernel
theorem dL_isCut_321 : decode cL_isCut 321 = .ok (.aload 4, 2) := by decide +kernel
theorem dL_isCut_323 : decode cL_isCut 323 = .ok (.iload 15, 2) := by decide +kernel
theorem dL_isCut_325 : decode cL_isCut 325 = .ok (.iaload, 1) := by decide +kernel
theorem dL_isCut_326 : decode cL_isCut 326 = .ok (.if_icmp .gt 7, 3) := by decide +kernel
theorem dL_isCut_329 : decode cL_isCut 329 = .ok (.iconst 1, 1) := by decide +kernel
theorem dL_isCut_330 : decode cL_isCut 330 = .ok (.goto 4, 3) := by decide +kernel
theorem dL_isCut_333 : decode cL_isCut 333 = .ok (.iconst 0, 1) := by decide +kernel
theorem dL_isCut_334 : decode cL_isCut 334 = .ok (.istore 6, 2) := by decide +kernel
theorem dL_isCut_336 : decode cL_isCut 336 = .ok (.iinc 15 1, 3) := by decide +kernel
theorem dL_isCut_339 : decode cL_isCut 339 = .ok (.goto (-93), 3) := by decide +kernel
theorem dL_isCut_342 : decode cL_isCut 342 = .ok (.aload_n 0, 1) := by decide +kernel
theorem dL_isCut_343 : decode cL_isCut 343 = .ok (.invokevirtual 214, 3) := by decide +kernel
theorem dL_isCut_346 : decode cL_isCut 346 = .ok (.aload_n 0, 1) := by decide +kernel
theorem dL_isCut_347 : decode cL_isCut 347 = .ok (.invokevirtual 40, 3) := by decide +kernel
theorem dL_isCut_350 : decode cL_isCut 350 = .ok (.istore 7, 2) := by decide +kernel
theorem dL_isCut_352 : decode cL_isCut 352 = .ok (.aload_n 0, 1) := by decide +kernel
theorem dL_isCut_353 : decode cL_isCut 353 = .ok (.iload_n 1, 1) := by decide +kernel
theorem dL_isCut_354 : decode cL_isCut 354 = .ok (.invokevirtual 141, 3) := by decide +kernel
theorem dL_isCut_357 : decode cL_isCut 357 = .ok (.istore 8, 2) := by decide +kernel
theorem dL_isCut_359 : decode cL_isCut 359 = .ok (.iload 6, 2) := by decide +kernel
theorem dL_isCut_361 : decode cL_isCut 361 = .ok (.ifCond .eq 29, 3) := by decide +kernel
theorem dL_isCut_364 : decode cL_isCut 364 = .ok (.aload_n 0, 1) := by decide +kernel
theorem dL_isCut_365 : decode cL_isCut 365 = .ok (.iload_n 2, 1) := by decide +kernel
theorem dL_isCut_366 : decode cL_isCut 366 = .ok (.invokestatic 191, 3) := by decide +kernel
theorem dL_isCut_369 : decode cL_isCut 369 = .ok (.iload 5, 2) := by decide +kernel
theorem dL_isCut_371 : decode cL_isCut 371 = .ok (.iload 8, 2) := by decide +kernel
theorem dL_isCut_373 : decode cL_isCut 373 = .ok (.isub, 1) := by decide +kernel
theorem dL_isCut_374 : decode cL_isCut 374 = .ok (.if_icmp .ne 16, 3) := by decide +kernel
theorem dL_isCut_377 : decode cL_isCut 377 = .ok (.aload_n 0, 1) := by decide +kernel
theorem dL_isCut_378 : decode cL_isCut 378 = .ok (.invokevirtual 40, 3) := by decide +kernel
theorem dL_isCut_381 : decode cL_isCut 381 = .ok (.iload 7, 2) := by decide +kernel
theorem dL_isCut_383 : decode cL_isCut 383 = .ok (.if_icmp .ne 7, 3) := by decide +kernel
theorem dL_isCut_386 : decode cL_isCut 386 = .ok (.iconst 1, 1) := by decide +kernel
theorem dL_isCut_387 : decode cL_isCut 387 = .ok (.goto 4, 3) := by decide +kernel
theorem dL_isCut_390 : decode cL_isCut 390 = .ok (.iconst 0, 1) := by decide +kernel
theorem dL_isCut_391 : decode cL_isCut 391 = .ok (.istore 6, 2) := by decide +kernel
theorem dL_isCut_393 : decode cL_isCut 393 = .ok (.iconst 0, 1) := by decide +kernel
theorem dL_isCut_394 : decode cL_isCut 394 = .ok (.istore 9, 2) := by decide +kernel
theorem dL_isCut_396 : decode cL_isCut 396 = .ok (.iload 9, 2) := by decide +kernel
theorem dL_isCut_398 : decode cL_isCut 398 = .ok (.bipush 16, 2) := by decide +kernel
theorem dL_isCut_400 : decode cL_isCut 400 = .ok (.if_icmp .ge 69, 3) := by decide +kernel
theorem dL_isCut_403 : decode cL_isCut 403 = .ok (.aload_n 0, 1) := by decide +kernel
theorem dL_isCut_404 : decode cL_isCut 404 = .ok (.iload_n 2, 1) := by decide +kernel
theorem dL_isCut_405 : decode cL_isCut 405 = .ok (.iload 9, 2) := by decide +kernel
theorem dL_isCut_407 : decode cL_isCut 407 = .ok (.invokevirtual 75, 3) := by decide +kernel
theorem dL_isCut_410 : decode cL_isCut 410 = .ok (.istore 10, 2) := by decide +kernel
theorem dL_isCut_412 : decode cL_isCut 412 = .ok (.iload 6, 2) := by decide +kernel
theorem dL_isCut_414 : decode cL_isCut 414 = .ok (.ifCond .eq 46, 3) := by decide +kernel
theorem dL_isCut_417 : decode cL_isCut 417 = .ok (.aload_n 3, 1) := by decide +kernel
theorem dL_isCut_418 : decode cL_isCut 418 = .ok (.iload 9, 2) := by decide +kernel
theorem dL_isCut_420 : decode cL_isCut 420 = .ok (.iaload, 1) := by decide +kernel
theorem dL_isCut_421 : decode cL_isCut 421 = .ok (.iload 10, 2) := by decide +kernel
theorem dL_isCut_423 : decode cL_isCut 423 = .ok (.isub, 1) := by decide +kernel
theorem dL_isCut_424 : decode cL_isCut 424 = .ok (.iload_n 1, 1) := by decide +kernel
theorem dL_isCut_425 : decode cL_isCut 425 = .ok (.if_icmp .gt 35, 3) := by decide +kernel
theorem dL_isCut_428 : decode cL_isCut 428 = .ok (.iload 10, 2) := by decide +kernel
theorem dL_isCut_430 : decode cL_isCut 430 = .ok (.aload_n 3, 1) := by decide +kernel
theorem dL_isCut_431 : decode cL_isCut 431 = .ok (.iload 9, 2) := by decide +kernel
theorem dL_isCut_433 : decode cL_isCut 433 = .ok (.iaload, 1) := by decide +kernel
theorem dL_isCut_434 : decode cL_isCut 434 = .ok (.if_icmp .gt 26, 3) := by decide +kernel
theorem dL_isCut_437 : decode cL_isCut 437 = .ok (.iload 10, 2) := by decide +kernel
theorem dL_isCut_439 : decode cL_isCut 439 = .ok (.aload 4, 2) := by decide +kernel
theorem dL_isCut_441 : decode cL_isCut 441 = .ok (.iload 9, 2) := by decide +kernel
theorem dL_isCut_443 : decode cL_isCut 443 = .ok (.iaload, 1) := by decide +kernel
theorem dL_isCut_444 : decode cL_isCut 444 = .ok (.if_icmp .ge 12, 3) := by decide +kernel
theorem dL_isCut_447 : decode cL_isCut 447 = .ok (.iload 10, 2) := by decide +kernel
theorem dL_isCut_449 : decode cL_isCut 449 = .ok (.aload_n 3, 1) := by decide +kernel
theorem dL_isCut_450 : decode cL_isCut 450 = .ok (.iload 9, 2) := by decide +kernel
theorem dL_isCut_452 : decode cL_isCut 452 = .ok (.iaload, 1) := by decide +kernel
theorem dL_isCut_453 : decode cL_isCut 453 = .ok (.if_icmp .ne 7, 3) := by decide +kernel
theorem dL_isCut_456 : decode cL_isCut 456 = .ok (.iconst 1, 1) := by decide +kernel
theorem dL_isCut_457 : decode cL_isCut 457 = .ok (.goto 4, 3) := by decide +kernel
theorem dL_isCut_460 : decode cL_isCut 460 = .ok (.iconst 0, 1) := by decide +kernel
theorem dL_isCut_461 : decode cL_isCut 461 = .ok (.istore 6, 2) := by decide +kernel
theorem dL_isCut_463 : decode cL_isCut 463 = .ok (.iinc 9 1, 3) := by decide +kernel
theorem dL_isCut_466 : decode cL_isCut 466 = .ok (.goto (-70), 3) := by decide +kernel
theorem dL_isCut_469 : decode cL_isCut 469 = .ok (.aload_n 0, 1) := by decide +kernel
theorem dL_isCut_470 : decode cL_isCut 470 = .ok (.invokevirtual 214, 3) := by decide +kernel
theorem dL_isCut_473 : decode cL_isCut 473 = .ok (.iload 6, 2) := by decide +kernel
theorem dL_isCut_475 : decode cL_isCut 475 = .ok (.ireturn, 1) := by decide +kernel
theorem dL_isAhead_0 : decode cL_isAhead 0 = .ok (.aload_n 0, 1) := by decide +kernel
theorem dL_isAhead_1 : decode cL_isAhead 1 = .ok (.invokestatic 217, 3) := by decide +kernel
theorem dL_isAhead_4 : decode cL_isAhead 4 = .ok (.lstore 4, 2) := by decide +kernel
theorem dL_isAhead_6 : decode cL_isAhead 6 = .ok (.aload_n 0, 1) := by decide +kernel
theorem dL_isAhead_7 : decode cL_isAhead 7 = .ok (.invokevirtual 62, 3) := by decide +kernel
theorem dL_isAhead_10 : decode cL_isAhead 10 = .ok (.ifCond .eq 11, 3) := by decide +kernel
theorem dL_isAhead_13 : decode cL_isAhead 13 = .ok (.aload_n 0, 1) := by decide +kernel
theorem dL_isAhead_14 : decode cL_isAhead 14 = .ok (.iload_n 3, 1) := by decide +kernel
theorem dL_isAhead_15 : decode cL_isAhead 15 = .ok (.invokestatic 221, 3) := by decide +kernel
theorem dL_isAhead_18 : decode cL_isAhead 18 = .ok (.ifCond .eq 7, 3) := by decide +kernel
theorem dL_isAhead_21 : decode cL_isAhead 21 = .ok (.iconst 1, 1) := by decide +kernel
theorem dL_isAhead_22 : decode cL_isAhead 22 = .ok (.goto 4, 3) := by decide +kernel
theorem dL_isAhead_25 : decode cL_isAhead 25 = .ok (.iconst 0, 1) := by decide +kernel
theorem dL_isAhead_26 : decode cL_isAhead 26 = .ok (.istore 6, 2) := by decide +kernel
theorem dL_isAhead_28 : decode cL_isAhead 28 = .ok (.iload 6, 2) := by decide +kernel
theorem dL_isAhead_30 : decode cL_isAhead 30 = .ok (.ifCond .eq 12, 3) := by decide +kernel
theorem dL_isAhead_33 : decode cL_isAhead 33 = .ok (.aload_n 0, 1) := by decide +kernel
theorem dL_isAhead_34 : decode cL_isAhead 34 = .ok (.iload_n 1, 1) := by decide +kernel
theorem dL_isAhead_35 : decode cL_isAhead 35 = .ok (.iload_n 2, 1) := by decide +kernel
theorem dL_isAhead_36 : decode cL_isAhead 36 = .ok (.invokevirtual 117, 3) := by decide +kernel
theorem dL_isAhead_39 : decode cL_isAhead 39 = .ok (.goto 4, 3) := by decide +kernel
theorem dL_isAhead_42 : decode cL_isAhead 42 = .ok (.iconst 0, 1) := by decide +kernel
theorem dL_isAhead_43 : decode cL_isAhead 43 = .ok (.istore 7, 2) := by decide +kernel
theorem dL_isAhead_45 : decode cL_isAhead 45 = .ok (.iconst 0, 1) := by decide +kernel
theorem dL_isAhead_46 : decode cL_isAhead 46 = .ok (.istore 8, 2) := by decide +kernel
theorem dL_isAhead_48 : decode cL_isAhead 48 = .ok (.iload 8, 2) := by decide +kernel
theorem dL_isAhead_50 : decode cL_isAhead 50 = .ok (.bipush 16, 2) := by decide +kernel
theorem dL_isAhead_52 : decode cL_isAhead 52 = .ok (.if_icmp .ge 38, 3) := by decide +kernel
theorem dL_isAhead_55 : decode cL_isAhead 55 = .ok (.iload 6, 2) := by decide +kernel
theorem dL_isAhead_57 : decode cL_isAhead 57 = .ok (.ifCond .eq 24, 3) := by decide +kernel
theorem dL_isAhead_60 : decode cL_isAhead 60 = .ok (.aload_n 0, 1) := by decide +kernel
theorem dL_isAhead_61 : decode cL_isAhead 61 = .ok (.iload_n 1, 1) := by decide +kernel
theorem dL_isAhead_62 : decode cL_isAhead 62 = .ok (.iload 8, 2) := by decide +kernel
theorem dL_isAhead_64 : decode cL_isAhead 64 = .ok (.invokevirtual 68, 3) := by decide +kernel
theorem dL_isAhead_67 : decode cL_isAhead 67 = .ok (.aload_n 0, 1) := by decide +kernel
theorem dL_isAhead_68 : decode cL_isAhead 68 = .ok (.iload_n 2, 1) := by decide +kernel
theorem dL_isAhead_69 : decode cL_isAhead 69 = .ok (.iload 8, 2) := by decide +kernel
theorem dL_isAhead_71 : decode cL_isAhead 71 = .ok (.invokevirtual 68, 3) := by decide +kernel
theorem dL_isAhead_74 : decode cL_isAhead 74 = .ok (.if_icmp .ne 7, 3) := by decide +kernel
theorem dL_isAhead_77 : decode cL_isAhead 77 = .ok (.iconst 1, 1) := by decide +kernel
theorem dL_isAhead_78 : decode cL_isAhead 78 = .ok (.goto 4, 3) := by decide +kernel
theorem dL_isAhead_81 : decode cL_isAhead 81 = .ok (.iconst 0, 1) := by decide +kernel
theorem dL_isAhead_82 : decode cL_isAhead 82 = .ok (.istore 6, 2) := by decide +kernel
theorem dL_isAhead_84 : decode cL_isAhead 84 = .ok (.iinc 8 1, 3) := by decide +kernel
theorem dL_isAhead_87 : decode cL_isAhead 87 = .ok (.goto (-39), 3) := by decide +kernel
theorem dL_isAhead_90 : decode cL_isAhead 90 = .ok (.aload_n 0, 1) := by decide +kernel
theorem dL_isAhead_91 : decode cL_isAhead 91 = .ok (.invokevirtual 214, 3) := by decide +kernel
theorem dL_isAhead_94 : decode cL_isAhead 94 = .ok (.iload 6, 2) := by decide +kernel
theorem dL_isAhead_96 : decode cL_isAhead 96 = .ok (.ifCond .eq 45, 3) := by decide +kernel
theorem dL_isAhead_99 : decode cL_isAhead 99 = .ok (.iload 7, 2) := by decide +kernel
theorem dL_isAhead_101 : decode cL_isAhead 101 = .ok (.ifCond .lt 40, 3) := by decide +kernel
theorem dL_isAhead_104 : decode cL_isAhead 104 = .ok (.aload_n 0, 1) := by decide +kernel
theorem dL_isAhead_105 : decode cL_isAhead 105 = .ok (.invokestatic 217, 3) := by decide +kernel
theorem dL_isAhead_108 : decode cL_isAhead 108 = .ok (.lload 4, 2) := by decide +kernel
theorem dL_isAhead_110 : decode cL_isAhead 110 = .ok (.lcmp, 1) := by decide +kernel
theorem dL_isAhead_111 : decode cL_isAhead 111 = .ok (.ifCond .ne 30, 3) := by decide +kernel
theorem dL_isAhead_114 : decode cL_isAhead 114 = .ok (.aload_n 0, 1) := by decide +kernel
theorem dL_isAhead_115 : decode cL_isAhead 115 = .ok (.iload_n 1, 1) := by decide +kernel
theorem dL_isAhead_116 : decode cL_isAhead 116 = .ok (.invokevirtual 120, 3) := by decide +kernel
theorem dL_isAhead_119 : decode cL_isAhead 119 = .ok (.aload_n 0, 1) := by decide +kernel
theorem dL_isAhead_120 : decode cL_isAhead 120 = .ok (.iload_n 1, 1) := by decide +kernel
theorem dL_isAhead_121 : decode cL_isAhead 121 = .ok (.invokevirtual 120, 3) := by decide +kernel
theorem dL_isAhead_124 : decode cL_isAhead 124 = .ok (.if_icmp .ne 17, 3) := by decide +kernel
theorem dL_isAhead_127 : decode cL_isAhead 127 = .ok (.aload_n 0, 1) := by decide +kernel
theorem dL_isAhead_128 : decode cL_isAhead 128 = .ok (.invokestatic 217, 3) := by decide +kernel
theorem dL_isAhead_131 : decode cL_isAhead 131 = .ok (.lload 4, 2) := by decide +kernel
theorem dL_isAhead_133 : decode cL_isAhead 133 = .ok (.lcmp, 1) := by decide +kernel
theorem dL_isAhead_134 : decode cL_isAhead 134 = .ok (.ifCond .ne 7, 3) := by decide +kernel
theorem dL_isAhead_137 : decode cL_isAhead 137 = .ok (.iconst 1, 1) := by decide +kernel
theorem dL_isAhead_138 : decode cL_isAhead 138 = .ok (.goto 4, 3) := by decide +kernel
theorem dL_isAhead_141 : decode cL_isAhead 141 = .ok (.iconst 0, 1) := by decide +kernel
theorem dL_isAhead_142 : decode cL_isAhead 142 = .ok (.istore 6, 2) := by decide +kernel
theorem dL_isAhead_144 : decode cL_isAhead 144 = .ok (.aload_n 0, 1) := by decide +kernel
theorem dL_isAhead_145 : decode cL_isAhead 145 = .ok (.invokevirtual 214, 3) := by decide +kernel
theorem dL_isAhead_148 : decode cL_isAhead 148 = .ok (.aload_n 0, 1) := by decide +kernel
theorem dL_isAhead_149 : decode cL_isAhead 149 = .ok (.invokevirtual 214, 3) := by decide +kernel
theorem dL_isAhead_152 : decode cL_isAhead 152 = .ok (.aload_n 0, 1) := by decide +kernel
theorem dL_isAhead_153 : decode cL_isAhead 153 = .ok (.invokevirtual 22, 3) := by decide +kernel
theorem dL_isAhead_156 : decode cL_isAhead 156 = .ok (.istore 8, 2) := by decide +kernel
theorem dL_isAhead_158 : decode cL_isAhead 158 = .ok (.iload 6, 2) := by decide +kernel
theorem dL_isAhead_160 : decode cL_isAhead 160 = .ok (.ifCond .eq 32, 3) := by decide +kernel
theorem dL_isAhead_163 : decode cL_isAhead 163 = .ok (.aload_n 0, 1) := by decide +kernel
theorem dL_isAhead_164 : decode cL_isAhead 164 = .ok (.iload_n 3, 1) := by decide +kernel
theorem dL_isAhead_165 : decode cL_isAhead 165 = .ok (.invokevirtual 90, 3) := by decide +kernel
theorem dL_isAhead_168 : decode cL_isAhead 168 = .ok (.iload 8, 2) := by decide +kernel
theorem dL_isAhead_170 : decode cL_isAhead 170 = .ok (.if_icmp .ne 22, 3) := by decide +kernel
theorem dL_isAhead_173 : decode cL_isAhead 173 = .ok (.aload_n 0, 1) := by decide +kernel
theorem dL_isAhead_174 : decode cL_isAhead 174 = .ok (.invokevirtual 22, 3) := by decide +kernel
theorem dL_isAhead_177 : decode cL_isAhead 177 = .ok (.ifCond .ne 15, 3) := by decide +kernel
theorem dL_isAhead_180 : decode cL_isAhead 180 = .ok (.aload_n 0, 1) := by decide +kernel
theorem dL_isAhead_181 : decode cL_isAhead 181 = .ok (.invokevirtual 19, 3) := by decide +kernel
theorem dL_isAhead_184 : decode cL_isAhead 184 = .ok (.iload_n 3, 1) := by decide +kernel
theorem dL_isAhead_185 : decode cL_isAhead 185 = .ok (.if_icmp .ne 7, 3) := by decide +kernel
theorem dL_isAhead_188 : decode cL_isAhead 188 = .ok (.iconst 1, 1) := by decide +kernel
theorem dL_isAhead_189 : decode cL_isAhead 189 = .ok (.goto 4, 3) := by decide +kernel
theorem dL_isAhead_192 : decode cL_isAhead 192 = .ok (.iconst 0, 1) := by decide +kernel
theorem dL_isAhead_193 : decode cL_isAhead 193 = .ok (.istore 6, 2) := by decide +kernel
theorem dL_isAhead_195 : decode cL_isAhead 195 = .ok (.aload_n 0, 1) := by decide +kernel
theorem dL_isAhead_196 : decode cL_isAhead 196 = .ok (.invokevirtual 214, 3) := by decide +kernel
theorem dL_isAhead_199 : decode cL_isAhead 199 = .ok (.iload 6, 2) := by decide +kernel
theorem dL_isAhead_201 : decode cL_isAhead 201 = .ok (.ifCond .eq 17, 3) := by decide +kernel
theorem dL_isAhead_204 : decode cL_isAhead 204 = .ok (.aload_n 0, 1) := by decide +kernel
theorem dL_isAhead_205 : decode cL_isAhead 205 = .ok (.invokestatic 217, 3) := by decide +kernel
theorem dL_isAhead_208 : decode cL_isAhead 208 = .ok (.lload 4, 2) := by decide +kernel
theorem dL_isAhead_210 : decode cL_isAhead 210 = .ok (.lcmp, 1) := by decide +kernel
theorem dL_isAhead_211 : decode cL_isAhead 211 = .ok (.ifCond .ne 7, 3) := by decide +kernel
theorem dL_isAhead_214 : decode cL_isAhead 214 = .ok (.iconst 1, 1) := by decide +kernel
theorem dL_isAhead_215 : decode cL_isAhead 215 = .ok (.goto 4, 3) := by decide +kernel
theorem dL_isAhead_218 : decode cL_isAhead 218 = .ok (.iconst 0, 1) := by decide +kernel
theorem dL_isAhead_219 : decode cL_isAhead 219 = .ok (.ireturn, 1) := by decide +kernel
theorem dL_law_0 : decode cL_law 0 = .ok (.new 14, 3) := by decide +kernel
theorem dL_law_3 : decode cL_law 3 = .ok (.dup, 1) := by decide +kernel
theorem dL_law_4 : decode cL_law 4 = .ok (.invokespecial 225, 3) := by decide +kernel
theorem dL_law_7 : decode cL_law 7 = .ok (.astore_n 1, 1) := by decide +kernel
theorem dL_law_8 : decode cL_law 8 = .ok (.aload_n 1, 1) := by decide +kernel
theorem dL_law_9 : decode cL_law 9 = .ok (.invokestatic 226, 3) := by decide +kernel
theorem dL_law_12 : decode cL_law 12 = .ok (.ifCond .eq 14, 3) := by decide +kernel
theorem dL_law_15 : decode cL_law 15 = .ok (.aload_n 1, 1) := by decide +kernel
theorem dL_law_16 : decode cL_law 16 = .ok (.invokestatic 230, 3) := by decide +kernel
theorem dL_law_19 : decode cL_law 19 = .ok (.ifCond .eq 7, 3) := by decide +kernel
theorem dL_law_22 : decode cL_law 22 = .ok (.iconst 1, 1) := by decide +kernel
theorem dL_law_23 : decode cL_law 23 = .ok (.goto 4, 3) := by decide +kernel
theorem dL_law_26 : decode cL_law 26 = .ok (.iconst 0, 1) := by decide +kernel
theorem dL_law_27 : decode cL_law 27 = .ok (.istore_n 2, 1) := by decide +kernel
theorem dL_law_28 : decode cL_law 28 = .ok (.iconst 0, 1) := by decide +kernel
theorem dL_law_29 : decode cL_law 29 = .ok (.istore_n 3, 1) := by decide +kernel
theorem dL_law_30 : decode cL_law 30 = .ok (.iload_n 3, 1) := by decide +kernel
theorem dL_law_31 : decode cL_law 31 = .ok (.bipush 50, 2) := by decide +kernel
theorem dL_law_33 : decode cL_law 33 = .ok (.if_icmp .ge 217, 3) := by decide +kernel
theorem dL_law_36 : decode cL_law 36 = .ok (.iload_n 2, 1) := by decide +kernel
theorem dL_law_37 : decode cL_law 37 = .ok (.ifCond .eq 213, 3) := by decide +kernel
theorem dL_law_40 : decode cL_law 40 = .ok (.aload_n 0, 1) := by decide +kernel
theorem dL_law_41 : decode cL_law 41 = .ok (.iconst 2, 1) := by decide +kernel
theorem dL_law_42 : decode cL_law 42 = .ok (.iload_n 3, 1) := by decide +kernel
theorem dL_law_43 : decode cL_law 43 = .ok (.imul, 1) := by decide +kernel
theorem dL_law_44 : decode cL_law 44 = .ok (.invokestatic 233, 3) := by decide +kernel
theorem dL_law_47 : decode cL_law 47 = .ok (.istore 4, 2) := by decide +kernel
theorem dL_law_49 : decode cL_law 49 = .ok (.aload_n 0, 1) := by decide +kernel
theorem dL_law_50 : decode cL_law 50 = .ok (.iconst 2, 1) := by decide +kernel
theorem dL_law_51 : decode cL_law 51 = .ok (.iload_n 3, 1) := by decide +kernel
theorem dL_law_52 : decode cL_law 52 = .ok (.imul, 1) := by decide +kernel
theorem dL_law_53 : decode cL_law 53 = .ok (.iconst 1, 1) := by decide +kernel
theorem dL_law_54 : decode cL_law 54 = .ok (.iadd, 1) := by decide +kernel
theorem dL_law_55 : decode cL_law 55 = .ok (.invokestatic 233, 3) := by decide +kernel
theorem dL_law_58 : decode cL_law 58 = .ok (.istore 5, 2) := by decide +kernel
theorem dL_law_60 : decode cL_law 60 = .ok (.aload_n 1, 1) := by decide +kernel
theorem dL_law_61 : decode cL_law 61 = .ok (.invokestatic 217, 3) := by decide +kernel
theorem dL_law_64 : decode cL_law 64 = .ok (.lstore 6, 2) := by decide +kernel
theorem dL_law_66 : decode cL_law 66 = .ok (.aload_n 1, 1) := by decide +kernel
theorem dL_law_67 : decode cL_law 67 = .ok (.invokevirtual 237, 3) := by decide +kernel
theorem dL_law_70 : decode cL_law 70 = .ok (.istore 8, 2) := by decide +kernel
theorem dL_law_72 : decode cL_law 72 = .ok (.aload_n 1, 1) := by decide +kernel
theorem dL_law_73 : decode cL_law 73 = .ok (.iload 4, 2) := by decide +kernel
theorem dL_law_75 : decode cL_law 75 = .ok (.iload 5, 2) := by decide +kernel
theorem dL_law_77 : decode cL_law 77 = .ok (.invokestatic 240, 3) := by decide +kernel
theorem dL_law_80 : decode cL_law 80 = .ok (.istore 9, 2) := by decide +kernel
theorem dL_law_82 : decode cL_law 82 = .ok (.iload 9, 2) := by decide +kernel
theorem dL_law_84 : decode cL_law 84 = .ok (.ifCond .lt 30, 3) := by decide +kernel
theorem dL_law_87 : decode cL_law 87 = .ok (.aload_n 1, 1) := by decide +kernel
theorem dL_law_88 : decode cL_law 88 = .ok (.invokevirtual 237, 3) := by decide +kernel
theorem dL_law_91 : decode cL_law 91 = .ok (.iload 8, 2) := by decide +kernel
theorem dL_law_93 : decode cL_law 93 = .ok (.bipush 6, 2) := by decide +kernel
theorem dL_law_95 : decode cL_law 95 = .ok (.if_icmp .ge 10, 3) := by decide +kernel
theorem dL_law_98 : decode cL_law 98 = .ok (.iload 8, 2) := by decide +kernel
theorem dL_law_100 : decode cL_law 100 = .ok (.iconst 1, 1) := by decide +kernel
theorem dL_law_101 : decode cL_law 101 = .ok (.iadd, 1) := by decide +kernel
theorem dL_law_102 : decode cL_law 102 = .ok (.goto 5, 3) := by decide +kernel
theorem dL_law_105 : decode cL_law 105 = .ok (.bipush 6, 2) := by decide +kernel
theorem dL_law_107 : decode cL_law 107 = .ok (.if_icmp .ne 7, 3) := by decide +kernel
theorem dL_law_110 : decode cL_law 110 = .ok (.iconst 1, 1) := by decide +kernel
theorem dL_law_111 : decode cL_law 111 = .ok (.goto 4, 3) := by decide +kernel
theorem dL_law_114 : decode cL_law 114 = .ok (.iconst 0, 1) := by decide +kernel
theorem dL_law_115 : decode cL_law 115 = .ok (.istore_n 2, 1) := by decide +kernel
theorem dL_law_116 : decode cL_law 116 = .ok (.iload_n 2, 1) := by decide +kernel
theorem dL_law_117 : decode cL_law 117 = .ok (.ifCond .eq 62, 3) := by decide +kernel
theorem dL_law_120 : decode cL_law 120 = .ok (.iload 4, 2) := by decide +kernel
theorem dL_law_122 : decode cL_law 122 = .ok (.bipush 8, 2) := by decide +kernel
theorem dL_law_124 : decode cL_law 124 = .ok (.ishr, 1) := by decide +kernel
theorem dL_law_125 : decode cL_law 125 = .ok (.iconst 3, 1) := by decide +kernel
theorem dL_law_126 : decode cL_law 126 = .ok (.iand, 1) := by decide +kernel
theorem dL_law_127 : decode cL_law 127 = .ok (.ifCond .ne 52, 3) := by decide +kernel
theorem dL_law_130 : decode cL_law 130 = .ok (.aload_n 1, 1) := by decide +kernel
theorem dL_law_131 : decode cL_law 131 = .ok (.invokestatic 217, 3) := by decide +kernel
theorem dL_law_134 : decode cL_law 134 = .ok (.lstore 10, 2) := by decide +kernel
theorem dL_law_136 : decode cL_law 136 = .ok (.aload_n 1, 1) := by decide +kernel
theorem dL_law_137 : decode cL_law 137 = .ok (.invokevirtual 214, 3) := by decide +kernel
theorem dL_law_140 : decode cL_law 140 = .ok (.aload_n 1, 1) := by decide +kernel
theorem dL_law_141 : decode cL_law 141 = .ok (.invokestatic 217, 3) := by decide +kernel
theorem dL_law_144 : decode cL_law 144 = .ok (.lload 6, 2) := by decide +kernel
theorem dL_law_146 : decode cL_law 146 = .ok (.lcmp, 1) := by decide +kernel
theorem dL_law_147 : decode cL_law 147 = .ok (.ifCond .ne 30, 3) := by decide +kernel
theorem dL_law_150 : decode cL_law 150 = .ok (.aload_n 1, 1) := by decide +kernel
theorem dL_law_151 : decode cL_law 151 = .ok (.iload 4, 2) := by decide +kernel
theorem dL_law_153 : decode cL_law 153 = .ok (.iload 5, 2) := by decide +kernel
theorem dL_law_155 : decode cL_law 155 = .ok (.invokestatic 240, 3) := by decide +kernel
theorem dL_law_158 : decode cL_law 158 = .ok (.iload 9, 2) := by decide +kernel
theorem dL_law_160 : decode cL_law 160 = .ok (.if_icmp .ne 17, 3) := by decide +kernel
theorem dL_law_163 : decode cL_law 163 = .ok (.aload_n 1, 1) := by decide +kernel
theorem dL_law_164 : decode cL_law 164 = .ok (.invokestatic 217, 3) := by decide +kernel
theorem dL_law_167 : decode cL_law 167 = .ok (.lload 10, 2) := by decide +kernel
theorem dL_law_169 : decode cL_law 169 = .ok (.lcmp, 1) := by decide +kernel
theorem dL_law_170 : decode cL_law 170 = .ok (.ifCond .ne 7, 3) := by decide +kernel
theorem dL_law_173 : decode cL_law 173 = .ok (.iconst 1, 1) := by decide +kernel
theorem dL_law_174 : decode cL_law 174 = .ok (.goto 4, 3) := by decide +kernel
theorem dL_law_177 : decode cL_law 177 = .ok (.iconst 0, 1) := by decide +kernel
theorem dL_law_178 : decode cL_law 178 = .ok (.istore_n 2, 1) := by decide +kernel
theorem dL_law_179 : decode cL_law 179 = .ok (.iload_n 2, 1) := by decide +kernel
theorem dL_law_180 : decode cL_law 180 = .ok (.ifCond .eq 62, 3) := by decide +kernel
theorem dL_law_183 : decode cL_law 183 = .ok (.aload_n 1, 1) := by decide +kernel
theorem dL_law_184 : decode cL_law 184 = .ok (.invokestatic 226, 3) := by decide +kernel
theorem dL_law_187 : decode cL_law 187 = .ok (.ifCond .eq 55, 3) := by decide +kernel
theorem dL_law_190 : decode cL_law 190 = .ok (.aload_n 1, 1) := by decide +kernel
theorem dL_law_191 : decode cL_law 191 = .ok (.invokestatic 230, 3) := by decide +kernel
theorem dL_law_194 : decode cL_law 194 = .ok (.ifCond .eq 48, 3) := by decide +kernel
theorem dL_law_197 : decode cL_law 197 = .ok (.iload_n 3, 1) := by decide +kernel
theorem dL_law_198 : decode cL_law 198 = .ok (.iconst 3, 1) := by decide +kernel
theorem dL_law_199 : decode cL_law 199 = .ok (.irem, 1) := by decide +kernel
theorem dL_law_200 : decode cL_law 200 = .ok (.iconst 1, 1) := by decide +kernel
theorem dL_law_201 : decode cL_law 201 = .ok (.if_icmp .ne 37, 3) := by decide +kernel
theorem dL_law_204 : decode cL_law 204 = .ok (.aload_n 1, 1) := by decide +kernel
theorem dL_law_205 : decode cL_law 205 = .ok (.iload 4, 2) := by decide +kernel
theorem dL_law_207 : decode cL_law 207 = .ok (.iconst 5, 1) := by decide +kernel
theorem dL_law_208 : decode cL_law 208 = .ok (.ishr, 1) := by decide +kernel
theorem dL_law_209 : decode cL_law 209 = .ok (.iconst 3, 1) := by decide +kernel
theorem dL_law_210 : decode cL_law 210 = .ok (.invokestatic 85, 3) := by decide +kernel
theorem dL_law_213 : decode cL_law 213 = .ok (.iload 5, 2) := by decide +kernel
theorem dL_law_215 : decode cL_law 215 = .ok (.iconst 5, 1) := by decide +kernel
theorem dL_law_216 : decode cL_law 216 = .ok (.ishr, 1) := by decide +kernel
theorem dL_law_217 : decode cL_law 217 = .ok (.iconst 3, 1) := by decide +kernel
theorem dL_law_218 : decode cL_law 218 = .ok (.invokestatic 85, 3) := by decide +kernel
theorem dL_law_221 : decode cL_law 221 = .ok (.iconst 1, 1) := by decide +kernel
theorem dL_law_222 : decode cL_law 222 = .ok (.iload 5, 2) := by decide +kernel
theorem dL_law_224 : decode cL_law 224 = .ok (.bipush 9, 2) := by decide +kernel
theorem dL_law_226 : decode cL_law 226 = .ok (.ishr, 1) := by decide +kernel
theorem dL_law_227 : decode cL_law 227 = .ok (.iconst 3, 1) := by decide +kernel
theorem dL_law_228 : decode cL_law 228 = .ok (.invokestatic 85, 3) := by decide +kernel
theorem dL_law_231 : decode cL_law 231 = .ok (.iadd, 1) := by decide +kernel
theorem dL_law_232 : decode cL_law 232 = .ok (.invokestatic 244, 3) := by decide +kernel
theorem dL_law_235 : decode cL_law 235 = .ok (.ifCond .eq 7, 3) := by decide +kernel
theorem dL_law_238 : decode cL_law 238 = .ok (.iconst 1, 1) := by decide +kernel
theorem dL_law_239 : decode cL_law 239 = .ok (.goto 4, 3) := by decide +kernel
theorem dL_law_242 : decode cL_law 242 = .ok (.iconst 0, 1) := by decide +kernel
theorem dL_law_243 : decode cL_law 243 = .ok (.istore_n 2, 1) := by decide +kernel
theorem dL_law_244 : decode cL_law 244 = .ok (.iinc 3 1, 3) := by decide +kernel
theorem dL_law_247 : decode cL_law 247 = .ok (.goto (-217), 3) := by decide +kernel
theorem dL_law_250 : decode cL_law 250 = .ok (.iload_n 2, 1) := by decide +kernel
theorem dL_law_251 : decode cL_law 251 = .ok (.ireturn, 1) := by decide +kernel
