theorem dX0_init_0 : decode cX0_init 0 = .ok (.aload_n 0, 1) := by decide +kernel
theorem dX0_init_1 : decode cX0_init 1 = .ok (.invokespecial 3, 3) := by decide +kernel
theorem dX0_init_4 : decode cX0_init 4 = .ok (.aload_n 0, 1) := by decide +kernel
theorem dX0_init_5 : decode cX0_init 5 = .ok (.bipush 8, 2) := by decide +kernel
theorem dX0_init_7 : decode cX0_init 7 = .ok (.anewarray 9, 3) := by decide +kernel
theorem dX0_init_10 : decode cX0_init 10 = .ok (.putfield 11, 3) := by decide +kernel
theorem dX0_init_13 : decode cX0_init 13 = .ok (.aload_n 0, 1) := by decide +kernel
theorem dX0_init_14 : decode cX0_init 14 = .ok (.iconst 0, 1) := by decide +kernel
theorem dX0_init_15 : decode cX0_init 15 = .ok (.putfield 17, 3) := by decide +kernel
theorem dX0_init_18 : decode cX0_init 18 = .ok (.aload_n 0, 1) := by decide +kernel
theorem dX0_init_19 : decode cX0_init 19 = .ok (.iconst 0, 1) := by decide +kernel
theorem dX0_init_20 : decode cX0_init 20 = .ok (.putfield 21, 3) := by decide +kernel
theorem dX0_init_23 : decode cX0_init 23 = .ok (.iconst 0, 1) := by decide +kernel
theorem dX0_init_24 : decode cX0_init 24 = .ok (.istore_n 1, 1) := by decide +kernel
theorem dX0_init_25 : decode cX0_init 25 = .ok (.iload_n 1, 1) := by decide +kernel
theorem dX0_init_26 : decode cX0_init 26 = .ok (.aload_n 0, 1) := by decide +kernel
theorem dX0_init_27 : decode cX0_init 27 = .ok (.getfield 11, 3) := by decide +kernel
theorem dX0_init_30 : decode cX0_init 30 = .ok (.arraylength, 1) := by decide +kernel
theorem dX0_init_31 : decode cX0_init 31 = .ok (.if_icmp .ge 22, 3) := by decide +kernel
theorem dX0_init_34 : decode cX0_init 34 = .ok (.aload_n 0, 1) := by decide +kernel
theorem dX0_init_35 : decode cX0_init 35 = .ok (.getfield 11, 3) := by decide +kernel
theorem dX0_init_38 : decode cX0_init 38 = .ok (.iload_n 1, 1) := by decide +kernel
theorem dX0_init_39 : decode cX0_init 39 = .ok (.new 9, 3) := by decide +kernel
theorem dX0_init_42 : decode cX0_init 42 = .ok (.dup, 1) := by decide +kernel
theorem dX0_init_43 : decode cX0_init 43 = .ok (.invokespecial 24, 3) := by decide +kernel
theorem dX0_init_46 : decode cX0_init 46 = .ok (.aastore, 1) := by decide +kernel
theorem dX0_init_47 : decode cX0_init 47 = .ok (.iinc 1 1, 3) := by decide +kernel
theorem dX0_init_50 : decode cX0_init 50 = .ok (.goto (-25), 3) := by decide +kernel
theorem dX0_init_53 : decode cX0_init 53 = .ok (.return_, 1) := by decide +kernel
theorem dX0_size_0 : decode cX0_size 0 = .ok (.aload_n 0, 1) := by decide +kernel
theorem dX0_size_1 : decode cX0_size 1 = .ok (.getfield 21, 3) := by decide +kernel
theorem dX0_size_4 : decode cX0_size 4 = .ok (.ireturn, 1) := by decide +kernel
theorem dX0_clear_0 : decode cX0_clear 0 = .ok (.aload_n 0, 1) := by decide +kernel
theorem dX0_clear_1 : decode cX0_clear 1 = .ok (.iconst 0, 1) := by decide +kernel
theorem dX0_clear_2 : decode cX0_clear 2 = .ok (.putfield 21, 3) := by decide +kernel
theorem dX0_clear_5 : decode cX0_clear 5 = .ok (.return_, 1) := by decide +kernel
theorem dX0_slotAt_0 : decode cX0_slotAt 0 = .ok (.iload_n 1, 1) := by decide +kernel
theorem dX0_slotAt_1 : decode cX0_slotAt 1 = .ok (.ifCond .lt 21, 3) := by decide +kernel
theorem dX0_slotAt_4 : decode cX0_slotAt 4 = .ok (.iload_n 1, 1) := by decide +kernel
theorem dX0_slotAt_5 : decode cX0_slotAt 5 = .ok (.aload_n 0, 1) := by decide +kernel
theorem dX0_slotAt_6 : decode cX0_slotAt 6 = .ok (.getfield 11, 3) := by decide +kernel
theorem dX0_slotAt_9 : decode cX0_slotAt 9 = .ok (.arraylength, 1) := by decide +kernel
theorem dX0_slotAt_10 : decode cX0_slotAt 10 = .ok (.if_icmp .ge 12, 3) := by decide +kernel
theorem dX0_slotAt_13 : decode cX0_slotAt 13 = .ok (.aload_n 0, 1) := by decide +kernel
theorem dX0_slotAt_14 : decode cX0_slotAt 14 = .ok (.getfield 11, 3) := by decide +kernel
theorem dX0_slotAt_17 : decode cX0_slotAt 17 = .ok (.iload_n 1, 1) := by decide +kernel
theorem dX0_slotAt_18 : decode cX0_slotAt 18 = .ok (.aaload, 1) := by decide +kernel
theorem dX0_slotAt_19 : decode cX0_slotAt 19 = .ok (.goto 4, 3) := by decide +kernel
theorem dX0_slotAt_22 : decode cX0_slotAt 22 = .ok (.aconst_null, 1) := by decide +kernel
theorem dX0_slotAt_23 : decode cX0_slotAt 23 = .ok (.areturn, 1) := by decide +kernel
theorem dX0_keep_0 : decode cX0_keep 0 = .ok (.aload_n 0, 1) := by decide +kernel
theorem dX0_keep_1 : decode cX0_keep 1 = .ok (.aload_n 0, 1) := by decide +kernel
theorem dX0_keep_2 : decode cX0_keep 2 = .ok (.getfield 17, 3) := by decide +kernel
theorem dX0_keep_5 : decode cX0_keep 5 = .ok (.invokevirtual 25, 3) := by decide +kernel
theorem dX0_keep_8 : decode cX0_keep 8 = .ok (.astore_n 2, 1) := by decide +kernel
theorem dX0_keep_9 : decode cX0_keep 9 = .ok (.aload_n 2, 1) := by decide +kernel
theorem dX0_keep_10 : decode cX0_keep 10 = .ok (.ifnull 48, 3) := by decide +kernel
theorem dX0_keep_13 : decode cX0_keep 13 = .ok (.aload_n 2, 1) := by decide +kernel
theorem dX0_keep_14 : decode cX0_keep 14 = .ok (.aload_n 1, 1) := by decide +kernel
theorem dX0_keep_15 : decode cX0_keep 15 = .ok (.invokevirtual 29, 3) := by decide +kernel
theorem dX0_keep_18 : decode cX0_keep 18 = .ok (.aload_n 0, 1) := by decide +kernel
theorem dX0_keep_19 : decode cX0_keep 19 = .ok (.aload_n 0, 1) := by decide +kernel
theorem dX0_keep_20 : decode cX0_keep 20 = .ok (.getfield 17, 3) := by decide +kernel
theorem dX0_keep_23 : decode cX0_keep 23 = .ok (.iconst 1, 1) := by decide +kernel
theorem dX0_keep_24 : decode cX0_keep 24 = .ok (.iadd, 1) := by decide +kernel
theorem dX0_keep_25 : decode cX0_keep 25 = .ok (.bipush 8, 2) := by decide +kernel
theorem dX0_keep_27 : decode cX0_keep 27 = .ok (.if_icmp .ge 12, 3) := by decide +kernel
theorem dX0_keep_30 : decode cX0_keep 30 = .ok (.aload_n 0, 1) := by decide +kernel
theorem dX0_keep_31 : decode cX0_keep 31 = .ok (.getfield 17, 3) := by decide +kernel
theorem dX0_keep_34 : decode cX0_keep 34 = .ok (.iconst 1, 1) := by decide +kernel
theorem dX0_keep_35 : decode cX0_keep 35 = .ok (.iadd, 1) := by decide +kernel
theorem dX0_keep_36 : decode cX0_keep 36 = .ok (.goto 4, 3) := by decide +kernel
theorem dX0_keep_39 : decode cX0_keep 39 = .ok (.iconst 0, 1) := by decide +kernel
theorem dX0_keep_40 : decode cX0_keep 40 = .ok (.putfield 17, 3) := by decide +kernel
theorem dX0_keep_43 : decode cX0_keep 43 = .ok (.aload_n 0, 1) := by decide +kernel
theorem dX0_keep_44 : decode cX0_keep 44 = .ok (.aload_n 0, 1) := by decide +kernel
theorem dX0_keep_45 : decode cX0_keep 45 = .ok (.getfield 21, 3) := by decide +kernel
theorem dX0_keep_48 : decode cX0_keep 48 = .ok (.iconst 1, 1) := by decide +kernel
theorem dX0_keep_49 : decode cX0_keep 49 = .ok (.iadd, 1) := by decide +kernel
theorem dX0_keep_50 : decode cX0_keep 50 = .ok (.bipush 8, 2) := by decide +kernel
theorem dX0_keep_52 : decode cX0_keep 52 = .ok (.invokestatic 33, 3) := by decide +kernel
theorem dX0_keep_55 : decode cX0_keep 55 = .ok (.putfield 21, 3) := by decide +kernel
theorem dX0_keep_58 : decode cX0_keep 58 = .ok (.return_, 1) := by decide +kernel
theorem dX0_takeBack_0 : decode cX0_takeBack 0 = .ok (.aload_n 0, 1) := by decide +kernel
theorem dX0_takeBack_1 : decode cX0_takeBack 1 = .ok (.getfield 17, 3) := by decide +kernel
theorem dX0_takeBack_4 : decode cX0_takeBack 4 = .ok (.ifCond .le 12, 3) := by decide +kernel
theorem dX0_takeBack_7 : decode cX0_takeBack 7 = .ok (.aload_n 0, 1) := by decide +kernel
theorem dX0_takeBack_8 : decode cX0_takeBack 8 = .ok (.getfield 17, 3) := by decide +kernel
theorem dX0_takeBack_11 : decode cX0_takeBack 11 = .ok (.iconst 1, 1) := by decide +kernel
theorem dX0_takeBack_12 : decode cX0_takeBack 12 = .ok (.isub, 1) := by decide +kernel
theorem dX0_takeBack_13 : decode cX0_takeBack 13 = .ok (.goto 5, 3) := by decide +kernel
theorem dX0_takeBack_16 : decode cX0_takeBack 16 = .ok (.bipush 7, 2) := by decide +kernel
theorem dX0_takeBack_18 : decode cX0_takeBack 18 = .ok (.istore_n 2, 1) := by decide +kernel
theorem dX0_takeBack_19 : decode cX0_takeBack 19 = .ok (.aload_n 0, 1) := by decide +kernel
theorem dX0_takeBack_20 : decode cX0_takeBack 20 = .ok (.iload_n 2, 1) := by decide +kernel
theorem dX0_takeBack_21 : decode cX0_takeBack 21 = .ok (.invokevirtual 25, 3) := by decide +kernel
theorem dX0_takeBack_24 : decode cX0_takeBack 24 = .ok (.astore_n 3, 1) := by decide +kernel
theorem dX0_takeBack_25 : decode cX0_takeBack 25 = .ok (.aload_n 3, 1) := by decide +kernel
theorem dX0_takeBack_26 : decode cX0_takeBack 26 = .ok (.ifnull 30, 3) := by decide +kernel
theorem dX0_takeBack_29 : decode cX0_takeBack 29 = .ok (.aload_n 0, 1) := by decide +kernel
theorem dX0_takeBack_30 : decode cX0_takeBack 30 = .ok (.getfield 21, 3) := by decide +kernel
theorem dX0_takeBack_33 : decode cX0_takeBack 33 = .ok (.ifCond .le 23, 3) := by decide +kernel
theorem dX0_takeBack_36 : decode cX0_takeBack 36 = .ok (.aload_n 1, 1) := by decide +kernel
theorem dX0_takeBack_37 : decode cX0_takeBack 37 = .ok (.aload_n 3, 1) := by decide +kernel
theorem dX0_takeBack_38 : decode cX0_takeBack 38 = .ok (.invokevirtual 29, 3) := by decide +kernel
theorem dX0_takeBack_41 : decode cX0_takeBack 41 = .ok (.aload_n 0, 1) := by decide +kernel
theorem dX0_takeBack_42 : decode cX0_takeBack 42 = .ok (.iload_n 2, 1) := by decide +kernel
theorem dX0_takeBack_43 : decode cX0_takeBack 43 = .ok (.putfield 17, 3) := by decide +kernel
theorem dX0_takeBack_46 : decode cX0_takeBack 46 = .ok (.aload_n 0, 1) := by decide +kernel
theorem dX0_takeBack_47 : decode cX0_takeBack 47 = .ok (.dup, 1) := by decide +kernel
theorem dX0_takeBack_48 : decode cX0_takeBack 48 = .ok (.getfield 21, 3) := by decide +kernel
theorem dX0_takeBack_51 : decode cX0_takeBack 51 = .ok (.iconst 1, 1) := by decide +kernel
theorem dX0_takeBack_52 : decode cX0_takeBack 52 = .ok (.isub, 1) := by decide +kernel
theorem dX0_takeBack_53 : decode cX0_takeBack 53 = .ok (.putfield 21, 3) := by decide +kernel
theorem dX0_takeBack_56 : decode cX0_takeBack 56 = .ok (.return_, 1) := by decide +kernel
theorem dX1_init_0 : decode cX1_init 0 = .ok (.aload_n 0, 1) := by decide +kernel
theorem dX1_init_1 : decode cX1_init 1 = .ok (.invokespecial 3, 3) := by decide +kernel
theorem dX1_init_4 : decode cX1_init 4 = .ok (.aload_n 0, 1) := by decide +kernel
theorem dX1_init_5 : decode cX1_init 5 = .ok (.new 9, 3) := by decide +kernel
theorem dX1_init_8 : decode cX1_init 8 = .ok (.dup, 1) := by decide +kernel
theorem dX1_init_9 : decode cX1_init 9 = .ok (.bipush 12, 2) := by decide +kernel
theorem dX1_init_11 : decode cX1_init 11 = .ok (.invokespecial 11, 3) := by decide +kernel
theorem dX1_init_14 : decode cX1_init 14 = .ok (.putfield 14, 3) := by decide +kernel
theorem dX1_init_17 : decode cX1_init 17 = .ok (.aload_n 0, 1) := by decide +kernel
theorem dX1_init_18 : decode cX1_init 18 = .ok (.new 9, 3) := by decide +kernel
theorem dX1_init_21 : decode cX1_init 21 = .ok (.dup, 1) := by decide +kernel
theorem dX1_init_22 : decode cX1_init 22 = .ok (.bipush 12, 2) := by decide +kernel
theorem dX1_init_24 : decode cX1_init 24 = .ok (.invokespecial 11, 3) := by decide +kernel
theorem dX1_init_27 : decode cX1_init 27 = .ok (.putfield 20, 3) := by decide +kernel
theorem dX1_init_30 : decode cX1_init 30 = .ok (.aload_n 0, 1) := by decide +kernel
theorem dX1_init_31 : decode cX1_init 31 = .ok (.new 9, 3) := by decide +kernel
theorem dX1_init_34 : decode cX1_init 34 = .ok (.dup, 1) := by decide +kernel
theorem dX1_init_35 : decode cX1_init 35 = .ok (.bipush 12, 2) := by decide +kernel
theorem dX1_init_37 : decode cX1_init 37 = .ok (.invokespecial 11, 3) := by decide +kernel
theorem dX1_init_40 : decode cX1_init 40 = .ok (.putfield 23, 3) := by decide +kernel
theorem dX1_init_43 : decode cX1_init 43 = .ok (.aload_n 0, 1) := by decide +kernel
theorem dX1_init_44 : decode cX1_init 44 = .ok (.new 9, 3) := by decide +kernel
theorem dX1_init_47 : decode cX1_init 47 = .ok (.dup, 1) := by decide +kernel
theorem dX1_init_48 : decode cX1_init 48 = .ok (.bipush 12, 2) := by decide +kernel
theorem dX1_init_50 : decode cX1_init 50 = .ok (.invokespecial 11, 3) := by decide +kernel
theorem dX1_init_53 : decode cX1_init 53 = .ok (.putfield 26, 3) := by decide +kernel
theorem dX1_init_56 : decode cX1_init 56 = .ok (.aload_n 0, 1) := by decide +kernel
theorem dX1_init_57 : decode cX1_init 57 = .ok (.iconst 0, 1) := by decide +kernel
theorem dX1_init_58 : decode cX1_init 58 = .ok (.putfield 29, 3) := by decide +kernel
theorem dX1_init_61 : decode cX1_init 61 = .ok (.return_, 1) := by decide +kernel
theorem dX1_clear_0 : decode cX1_clear 0 = .ok (.aload_n 0, 1) := by decide +kernel
theorem dX1_clear_1 : decode cX1_clear 1 = .ok (.iconst 0, 1) := by decide +kernel
theorem dX1_clear_2 : decode cX1_clear 2 = .ok (.putfield 29, 3) := by decide +kernel
theorem dX1_clear_5 : decode cX1_clear 5 = .ok (.return_, 1) := by decide +kernel
theorem dX1_copyFrom_0 : decode cX1_copyFrom 0 = .ok (.aload_n 0, 1) := by decide +kernel
theorem dX1_copyFrom_1 : decode cX1_copyFrom 1 = .ok (.getfield 14, 3) := by decide +kernel
theorem dX1_copyFrom_4 : decode cX1_copyFrom 4 = .ok (.aload_n 1, 1) := by decide +kernel
theorem dX1_copyFrom_5 : decode cX1_copyFrom 5 = .ok (.getfield 14, 3) := by decide +kernel
theorem dX1_copyFrom_8 : decode cX1_copyFrom 8 = .ok (.invokevirtual 33, 3) := by decide +kernel
theorem dX1_copyFrom_11 : decode cX1_copyFrom 11 = .ok (.aload_n 0, 1) := by decide +kernel
theorem dX1_copyFrom_12 : decode cX1_copyFrom 12 = .ok (.getfield 20, 3) := by decide +kernel
theorem dX1_copyFrom_15 : decode cX1_copyFrom 15 = .ok (.aload_n 1, 1) := by decide +kernel
theorem dX1_copyFrom_16 : decode cX1_copyFrom 16 = .ok (.getfield 20, 3) := by decide +kernel
theorem dX1_copyFrom_19 : decode cX1_copyFrom 19 = .ok (.invokevirtual 33, 3) := by decide +kernel
theorem dX1_copyFrom_22 : decode cX1_copyFrom 22 = .ok (.aload_n 0, 1) := by decide +kernel
theorem dX1_copyFrom_23 : decode cX1_copyFrom 23 = .ok (.getfield 23, 3) := by decide +kernel
theorem dX1_copyFrom_26 : decode cX1_copyFrom 26 = .ok (.aload_n 1, 1) := by decide +kernel
theorem dX1_copyFrom_27 : decode cX1_copyFrom 27 = .ok (.getfield 23, 3) := by decide +kernel
theorem dX1_copyFrom_30 : decode cX1_copyFrom 30 = .ok (.invokevirtual 33, 3) := by decide +kernel
theorem dX1_copyFrom_33 : decode cX1_copyFrom 33 = .ok (.aload_n 0, 1) := by decide +kernel
theorem dX1_copyFrom_34 : decode cX1_copyFrom 34 = .ok (.getfield 26, 3) := by decide +kernel
theorem dX1_copyFrom_37 : decode cX1_copyFrom 37 = .ok (.aload_n 1, 1) := by decide +kernel
theorem dX1_copyFrom_38 : decode cX1_copyFrom 38 = .ok (.getfield 26, 3) := by decide +kernel
theorem dX1_copyFrom_41 : decode cX1_copyFrom 41 = .ok (.invokevirtual 33, 3) := by decide +kernel
theorem dX1_copyFrom_44 : decode cX1_copyFrom 44 = .ok (.aload_n 0, 1) := by decide +kernel
theorem dX1_copyFrom_45 : decode cX1_copyFrom 45 = .ok (.aload_n 1, 1) := by decide +kernel
theorem dX1_copyFrom_46 : decode cX1_copyFrom 46 = .ok (.getfield 29, 3) := by decide +kernel
theorem dX1_copyFrom_49 : decode cX1_copyFrom 49 = .ok (.putfield 29, 3) := by decide +kernel
theorem dX1_copyFrom_52 : decode cX1_copyFrom 52 = .ok (.return_, 1) := by decide +kernel
theorem dX1_size_0 : decode cX1_size 0 = .ok (.aload_n 0, 1) := by decide +kernel
theorem dX1_size_1 : decode cX1_size 1 = .ok (.getfield 29, 3) := by decide +kernel
theorem dX1_size_4 : decode cX1_size 4 = .ok (.ireturn, 1) := by decide +kernel
theorem dX1_takesRange_0 : decode cX1_takesRange 0 = .ok (.aload_n 0, 1) := by decide +kernel
theorem dX1_takesRange_1 : decode cX1_takesRange 1 = .ok (.getfield 29, 3) := by decide +kernel
theorem dX1_takesRange_4 : decode cX1_takesRange 4 = .ok (.bipush 12, 2) := by decide +kernel
theorem dX1_takesRange_6 : decode cX1_takesRange 6 = .ok (.if_icmp .ge 7, 3) := by decide +kernel
theorem dX1_takesRange_9 : decode cX1_takesRange 9 = .ok (.iconst 1, 1) := by decide +kernel
theorem dX1_takesRange_10 : decode cX1_takesRange 10 = .ok (.goto 4, 3) := by decide +kernel
theorem dX1_takesRange_13 : decode cX1_takesRange 13 = .ok (.iconst 0, 1) := by decide +kernel
theorem dX1_takesRange_14 : decode cX1_takesRange 14 = .ok (.ireturn, 1) := by decide +kernel
theorem dX1_add_0 : decode cX1_add 0 = .ok (.aload_n 0, 1) := by decide +kernel
theorem dX1_add_1 : decode cX1_add 1 = .ok (.invokevirtual 37, 3) := by decide +kernel
theorem dX1_add_4 : decode cX1_add 4 = .ok (.ifCond .eq 62, 3) := by decide +kernel
theorem dX1_add_7 : decode cX1_add 7 = .ok (.aload_n 0, 1) := by decide +kernel
theorem dX1_add_8 : decode cX1_add 8 = .ok (.getfield 14, 3) := by decide +kernel
theorem dX1_add_11 : decode cX1_add 11 = .ok (.aload_n 0, 1) := by decide +kernel
theorem dX1_add_12 : decode cX1_add 12 = .ok (.getfield 29, 3) := by decide +kernel
theorem dX1_add_15 : decode cX1_add 15 = .ok (.iload_n 1, 1) := by decide +kernel
theorem dX1_add_16 : decode cX1_add 16 = .ok (.invokevirtual 41, 3) := by decide +kernel
theorem dX1_add_19 : decode cX1_add 19 = .ok (.aload_n 0, 1) := by decide +kernel
theorem dX1_add_20 : decode cX1_add 20 = .ok (.getfield 20, 3) := by decide +kernel
theorem dX1_add_23 : decode cX1_add 23 = .ok (.aload_n 0, 1) := by decide +kernel
theorem dX1_add_24 : decode cX1_add 24 = .ok (.getfield 29, 3) := by decide +kernel
theorem dX1_add_27 : decode cX1_add 27 = .ok (.iload_n 2, 1) := by decide +kernel
theorem dX1_add_28 : decode cX1_add 28 = .ok (.invokevirtual 41, 3) := by decide +kernel
theorem dX1_add_31 : decode cX1_add 31 = .ok (.aload_n 0, 1) := by decide +kernel
theorem dX1_add_32 : decode cX1_add 32 = .ok (.getfield 23, 3) := by decide +kernel
theorem dX1_add_35 : decode cX1_add 35 = .ok (.aload_n 0, 1) := by decide +kernel
theorem dX1_add_36 : decode cX1_add 36 = .ok (.getfield 29, 3) := by decide +kernel
theorem dX1_add_39 : decode cX1_add 39 = .ok (.iload_n 3, 1) := by decide +kernel
theorem dX1_add_40 : decode cX1_add 40 = .ok (.invokevirtual 41, 3) := by decide +kernel
theorem dX1_add_43 : decode cX1_add 43 = .ok (.aload_n 0, 1) := by decide +kernel
theorem dX1_add_44 : decode cX1_add 44 = .ok (.getfield 26, 3) := by decide +kernel
theorem dX1_add_47 : decode cX1_add 47 = .ok (.aload_n 0, 1) := by decide +kernel
theorem dX1_add_48 : decode cX1_add 48 = .ok (.getfield 29, 3) := by decide +kernel
theorem dX1_add_51 : decode cX1_add 51 = .ok (.iload 4, 2) := by decide +kernel
theorem dX1_add_53 : decode cX1_add 53 = .ok (.invokevirtual 41, 3) := by decide +kernel
theorem dX1_add_56 : decode cX1_add 56 = .ok (.aload_n 0, 1) := by decide +kernel
theorem dX1_add_57 : decode cX1_add 57 = .ok (.dup, 1) := by decide +kernel
theorem dX1_add_58 : decode cX1_add 58 = .ok (.getfield 29, 3) := by decide +kernel
theorem dX1_add_61 : decode cX1_add 61 = .ok (.iconst 1, 1) := by decide +kernel
theorem dX1_add_62 : decode cX1_add 62 = .ok (.iadd, 1) := by decide +kernel
theorem dX1_add_63 : decode cX1_add 63 = .ok (.putfield 29, 3) := by decide +kernel
theorem dX1_add_66 : decode cX1_add 66 = .ok (.return_, 1) := by decide +kernel
theorem dX1_rangeOf_0 : decode cX1_rangeOf 0 = .ok (.aload_n 0, 1) := by decide +kernel
theorem dX1_rangeOf_1 : decode cX1_rangeOf 1 = .ok (.getfield 29, 3) := by decide +kernel
theorem dX1_rangeOf_4 : decode cX1_rangeOf 4 = .ok (.iconst 1, 1) := by decide +kernel
theorem dX1_rangeOf_5 : decode cX1_rangeOf 5 = .ok (.isub, 1) := by decide +kernel
theorem dX1_rangeOf_6 : decode cX1_rangeOf 6 = .ok (.istore_n 2, 1) := by decide +kernel
theorem dX1_rangeOf_7 : decode cX1_rangeOf 7 = .ok (.iload_n 2, 1) := by decide +kernel
theorem dX1_rangeOf_8 : decode cX1_rangeOf 8 = .ok (.ifCond .lt 35, 3) := by decide +kernel
theorem dX1_rangeOf_11 : decode cX1_rangeOf 11 = .ok (.aload_n 0, 1) := by decide +kernel
theorem dX1_rangeOf_12 : decode cX1_rangeOf 12 = .ok (.getfield 14, 3) := by decide +kernel
theorem dX1_rangeOf_15 : decode cX1_rangeOf 15 = .ok (.iload_n 2, 1) := by decide +kernel
theorem dX1_rangeOf_16 : decode cX1_rangeOf 16 = .ok (.invokevirtual 45, 3) := by decide +kernel
theorem dX1_rangeOf_19 : decode cX1_rangeOf 19 = .ok (.iload_n 1, 1) := by decide +kernel
theorem dX1_rangeOf_20 : decode cX1_rangeOf 20 = .ok (.if_icmp .gt 17, 3) := by decide +kernel
theorem dX1_rangeOf_23 : decode cX1_rangeOf 23 = .ok (.iload_n 1, 1) := by decide +kernel
theorem dX1_rangeOf_24 : decode cX1_rangeOf 24 = .ok (.aload_n 0, 1) := by decide +kernel
theorem dX1_rangeOf_25 : decode cX1_rangeOf 25 = .ok (.getfield 20, 3) := by decide +kernel
theorem dX1_rangeOf_28 : decode cX1_rangeOf 28 = .ok (.iload_n 2, 1) := by decide +kernel
theorem dX1_rangeOf_29 : decode cX1_rangeOf 29 = .ok (.invokevirtual 45, 3) := by decide +kernel
theorem dX1_rangeOf_32 : decode cX1_rangeOf 32 = .ok (.if_icmp .gt 5, 3) := by decide +kernel
theorem dX1_rangeOf_35 : decode cX1_rangeOf 35 = .ok (.iload_n 2, 1) := by decide +kernel
theorem dX1_rangeOf_36 : decode cX1_rangeOf 36 = .ok (.ireturn, 1) := by decide +kernel
theorem dX1_rangeOf_37 : decode cX1_rangeOf 37 = .ok (.iinc 2 (-1), 3) := by decide +kernel
theorem dX1_rangeOf_40 : decode cX1_rangeOf 40 = .ok (.goto (-33), 3) := by decide +kernel
theorem dX1_rangeOf_43 : decode cX1_rangeOf 43 = .ok (.iconst (-1), 1) := by decide +kernel
theorem dX1_rangeOf_44 : decode cX1_rangeOf 44 = .ok (.ireturn, 1) := by decide +kernel
theorem dX1_write_0 : decode cX1_write 0 = .ok (.aload_n 0, 1) := by decide +kernel
theorem dX1_write_1 : decode cX1_write 1 = .ok (.iload_n 1, 1) := by decide +kernel
theorem dX1_write_2 : decode cX1_write 2 = .ok (.invokevirtual 49, 3) := by decide +kernel
theorem dX1_write_5 : decode cX1_write 5 = .ok (.istore 4, 2) := by decide +kernel
theorem dX1_write_7 : decode cX1_write 7 = .ok (.iload 4, 2) := by decide +kernel
theorem dX1_write_9 : decode cX1_write 9 = .ok (.iconst (-1), 1) := by decide +kernel
theorem dX1_write_10 : decode cX1_write 10 = .ok (.if_icmp .ne 4, 3) := by decide +kernel
theorem dX1_write_13 : decode cX1_write 13 = .ok (.return_, 1) := by decide +kernel
theorem dX1_write_14 : decode cX1_write 14 = .ok (.iload_n 1, 1) := by decide +kernel
theorem dX1_write_15 : decode cX1_write 15 = .ok (.aload_n 0, 1) := by decide +kernel
theorem dX1_write_16 : decode cX1_write 16 = .ok (.getfield 14, 3) := by decide +kernel
theorem dX1_write_19 : decode cX1_write 19 = .ok (.iload 4, 2) := by decide +kernel
theorem dX1_write_21 : decode cX1_write 21 = .ok (.invokevirtual 45, 3) := by decide +kernel
theorem dX1_write_24 : decode cX1_write 24 = .ok (.isub, 1) := by decide +kernel
theorem dX1_write_25 : decode cX1_write 25 = .ok (.istore 5, 2) := by decide +kernel
theorem dX1_write_27 : decode cX1_write 27 = .ok (.aload_n 0, 1) := by decide +kernel
theorem dX1_write_28 : decode cX1_write 28 = .ok (.getfield 26, 3) := by decide +kernel
theorem dX1_write_31 : decode cX1_write 31 = .ok (.iload 4, 2) := by decide +kernel
theorem dX1_write_33 : decode cX1_write 33 = .ok (.invokevirtual 45, 3) := by decide +kernel
theorem dX1_write_36 : decode cX1_write 36 = .ok (.istore 6, 2) := by decide +kernel
theorem dX1_write_38 : decode cX1_write 38 = .ok (.iload 6, 2) := by decide +kernel
theorem dX1_write_40 : decode cX1_write 40 = .ok (.iconst 2, 1) := by decide +kernel
theorem dX1_write_41 : decode cX1_write 41 = .ok (.iload 5, 2) := by decide +kernel
theorem dX1_write_43 : decode cX1_write 43 = .ok (.imul, 1) := by decide +kernel
theorem dX1_write_44 : decode cX1_write 44 = .ok (.iadd, 1) := by decide +kernel
theorem dX1_write_45 : decode cX1_write 45 = .ok (.iload_n 2, 1) := by decide +kernel
theorem dX1_write_46 : decode cX1_write 46 = .ok (.iadd, 1) := by decide +kernel
theorem dX1_write_47 : decode cX1_write 47 = .ok (.istore 7, 2) := by decide +kernel
theorem dX1_write_49 : decode cX1_write 49 = .ok (.aload_n 0, 1) := by decide +kernel
theorem dX1_write_50 : decode cX1_write 50 = .ok (.getfield 23, 3) := by decide +kernel
theorem dX1_write_53 : decode cX1_write 53 = .ok (.iload 4, 2) := by decide +kernel
theorem dX1_write_55 : decode cX1_write 55 = .ok (.invokevirtual 45, 3) := by decide +kernel
theorem dX1_write_58 : decode cX1_write 58 = .ok (.istore 8, 2) := by decide +kernel
theorem dX1_write_60 : decode cX1_write 60 = .ok (.iload 8, 2) := by decide +kernel
theorem dX1_write_62 : decode cX1_write 62 = .ok (.ifCond .ne 30, 3) := by decide +kernel
theorem dX1_write_65 : decode cX1_write 65 = .ok (.aload_n 3, 1) := by decide +kernel
theorem dX1_write_66 : decode cX1_write 66 = .ok (.iload 6, 2) := by decide +kernel
theorem dX1_write_68 : decode cX1_write 68 = .ok (.iload 5, 2) := by decide +kernel
theorem dX1_write_70 : decode cX1_write 70 = .ok (.iadd, 1) := by decide +kernel
theorem dX1_write_71 : decode cX1_write 71 = .ok (.invokevirtual 52, 3) := by decide +kernel
theorem dX1_write_74 : decode cX1_write 74 = .ok (.aload_n 3, 1) := by decide +kernel
theorem dX1_write_75 : decode cX1_write 75 = .ok (.iload_n 2, 1) := by decide +kernel
theorem dX1_write_76 : decode cX1_write 76 = .ok (.ifCond .ne 8, 3) := by decide +kernel
theorem dX1_write_79 : decode cX1_write 79 = .ok (.bipush 114, 2) := by decide +kernel
theorem dX1_write_81 : decode cX1_write 81 = .ok (.goto 5, 3) := by decide +kernel
theorem dX1_write_84 : decode cX1_write 84 = .ok (.bipush 118, 2) := by decide +kernel
theorem dX1_write_86 : decode cX1_write 86 = .ok (.invokevirtual 57, 3) := by decide +kernel
theorem dX1_write_89 : decode cX1_write 89 = .ok (.goto 30, 3) := by decide +kernel
theorem dX1_write_92 : decode cX1_write 92 = .ok (.iload 8, 2) := by decide +kernel
theorem dX1_write_94 : decode cX1_write 94 = .ok (.iconst 1, 1) := by decide +kernel
theorem dX1_write_95 : decode cX1_write 95 = .ok (.if_icmp .ne 12, 3) := by decide +kernel
theorem dX1_write_98 : decode cX1_write 98 = .ok (.aload_n 3, 1) := by decide +kernel
theorem dX1_write_99 : decode cX1_write 99 = .ok (.iload 7, 2) := by decide +kernel
theorem dX1_write_101 : decode cX1_write 101 = .ok (.invokevirtual 52, 3) := by decide +kernel
theorem dX1_write_104 : decode cX1_write 104 = .ok (.goto 15, 3) := by decide +kernel
theorem dX1_write_107 : decode cX1_write 107 = .ok (.iload 8, 2) := by decide +kernel
theorem dX1_write_109 : decode cX1_write 109 = .ok (.iconst 2, 1) := by decide +kernel
theorem dX1_write_110 : decode cX1_write 110 = .ok (.if_icmp .ne 9, 3) := by decide +kernel
theorem dX1_write_113 : decode cX1_write 113 = .ok (.aload_n 3, 1) := by decide +kernel
theorem dX1_write_114 : decode cX1_write 114 = .ok (.iload 7, 2) := by decide +kernel
theorem dX1_write_116 : decode cX1_write 116 = .ok (.invokevirtual 60, 3) := by decide +kernel
theorem dX1_write_119 : decode cX1_write 119 = .ok (.return_, 1) := by decide +kernel
theorem dX2_init_0 : decode cX2_init 0 = .ok (.aload_n 0, 1) := by decide +kernel
theorem dX2_init_1 : decode cX2_init 1 = .ok (.invokespecial 3, 3) := by decide +kernel
theorem dX2_init_4 : decode cX2_init 4 = .ok (.aload_n 0, 1) := by decide +kernel
theorem dX2_init_5 : decode cX2_init 5 = .ok (.new 9, 3) := by decide +kernel
theorem dX2_init_8 : decode cX2_init 8 = .ok (.dup, 1) := by decide +kernel
theorem dX2_init_9 : decode cX2_init 9 = .ok (.sipush 144, 3) := by decide +kernel
theorem dX2_init_12 : decode cX2_init 12 = .ok (.invokespecial 11, 3) := by decide +kernel
theorem dX2_init_15 : decode cX2_init 15 = .ok (.putfield 14, 3) := by decide +kernel
theorem dX2_init_18 : decode cX2_init 18 = .ok (.aload_n 0, 1) := by decide +kernel
theorem dX2_init_19 : decode cX2_init 19 = .ok (.new 9, 3) := by decide +kernel
theorem dX2_init_22 : decode cX2_init 22 = .ok (.dup, 1) := by decide +kernel
theorem dX2_init_23 : decode cX2_init 23 = .ok (.sipush 144, 3) := by decide +kernel
theorem dX2_init_26 : decode cX2_init 26 = .ok (.invokespecial 11, 3) := by decide +kernel
theorem dX2_init_29 : decode cX2_init 29 = .ok (.putfield 20, 3) := by decide +kernel
theorem dX2_init_32 : decode cX2_init 32 = .ok (.aload_n 0, 1) := by decide +kernel
theorem dX2_init_33 : decode cX2_init 33 = .ok (.new 9, 3) := by decide +kernel
theorem dX2_init_36 : decode cX2_init 36 = .ok (.dup, 1) := by decide +kernel
theorem dX2_init_37 : decode cX2_init 37 = .ok (.sipush 144, 3) := by decide +kernel
theorem dX2_init_40 : decode cX2_init 40 = .ok (.invokespecial 11, 3) := by decide +kernel
theorem dX2_init_43 : decode cX2_init 43 = .ok (.putfield 23, 3) := by decide +kernel
theorem dX2_init_46 : decode cX2_init 46 = .ok (.aload_n 0, 1) := by decide +kernel
theorem dX2_init_47 : decode cX2_init 47 = .ok (.new 9, 3) := by decide +kernel
theorem dX2_init_50 : decode cX2_init 50 = .ok (.dup, 1) := by decide +kernel
theorem dX2_init_51 : decode cX2_init 51 = .ok (.sipush 144, 3) := by decide +kernel
theorem dX2_init_54 : decode cX2_init 54 = .ok (.invokespecial 11, 3) := by decide +kernel
theorem dX2_init_57 : decode cX2_init 57 = .ok (.putfield 26, 3) := by decide +kernel
theorem dX2_init_60 : decode cX2_init 60 = .ok (.aload_n 0, 1) := by decide +kernel
theorem dX2_init_61 : decode cX2_init 61 = .ok (.new 9, 3) := by decide +kernel
theorem dX2_init_64 : decode cX2_init 64 = .ok (.dup, 1) := by decide +kernel
theorem dX2_init_65 : decode cX2_init 65 = .ok (.bipush 120, 2) := by decide +kernel
theorem dX2_init_67 : decode cX2_init 67 = .ok (.invokespecial 11, 3) := by decide +kernel
theorem dX2_init_70 : decode cX2_init 70 = .ok (.putfield 29, 3) := by decide +kernel
theorem dX2_init_73 : decode cX2_init 73 = .ok (.aload_n 0, 1) := by decide +kernel
theorem dX2_init_74 : decode cX2_init 74 = .ok (.new 9, 3) := by decide +kernel
theorem dX2_init_77 : decode cX2_init 77 = .ok (.dup, 1) := by decide +kernel
theorem dX2_init_78 : decode cX2_init 78 = .ok (.bipush 24, 2) := by decide +kernel
theorem dX2_init_80 : decode cX2_init 80 = .ok (.invokespecial 11, 3) := by decide +kernel
theorem dX2_init_83 : decode cX2_init 83 = .ok (.putfield 32, 3) := by decide +kernel
theorem dX2_init_86 : decode cX2_init 86 = .ok (.aload_n 0, 1) := by decide +kernel
theorem dX2_init_87 : decode cX2_init 87 = .ok (.iconst 0, 1) := by decide +kernel
theorem dX2_init_88 : decode cX2_init 88 = .ok (.putfield 35, 3) := by decide +kernel
theorem dX2_init_91 : decode cX2_init 91 = .ok (.return_, 1) := by decide +kernel
theorem dX2_follow_0 : decode cX2_follow 0 = .ok (.aload_n 0, 1) := by decide +kernel
theorem dX2_follow_1 : decode cX2_follow 1 = .ok (.iconst 0, 1) := by decide +kernel
theorem dX2_follow_2 : decode cX2_follow 2 = .ok (.putfield 35, 3) := by decide +kernel
theorem dX2_follow_5 : decode cX2_follow 5 = .ok (.aload_n 0, 1) := by decide +kernel
theorem dX2_follow_6 : decode cX2_follow 6 = .ok (.getfield 29, 3) := by decide +kernel
theorem dX2_follow_9 : decode cX2_follow 9 = .ok (.iconst (-1), 1) := by decide +kernel
theorem dX2_follow_10 : decode cX2_follow 10 = .ok (.invokevirtual 39, 3) := by decide +kernel
theorem dX2_follow_13 : decode cX2_follow 13 = .ok (.aload_n 0, 1) := by decide +kernel
theorem dX2_follow_14 : decode cX2_follow 14 = .ok (.getfield 32, 3) := by decide +kernel
theorem dX2_follow_17 : decode cX2_follow 17 = .ok (.iconst (-1), 1) := by decide +kernel
theorem dX2_follow_18 : decode cX2_follow 18 = .ok (.invokevirtual 39, 3) := by decide +kernel
theorem dX2_follow_21 : decode cX2_follow 21 = .ok (.iconst 0, 1) := by decide +kernel
theorem dX2_follow_22 : decode cX2_follow 22 = .ok (.istore_n 2, 1) := by decide +kernel
theorem dX2_follow_23 : decode cX2_follow 23 = .ok (.iload_n 2, 1) := by decide +kernel
theorem dX2_follow_24 : decode cX2_follow 24 = .ok (.aload_n 1, 1) := by decide +kernel
theorem dX2_follow_25 : decode cX2_follow 25 = .ok (.invokevirtual 42, 3) := by decide +kernel
theorem dX2_follow_28 : decode cX2_follow 28 = .ok (.if_icmp .ge 31, 3) := by decide +kernel
theorem dX2_follow_31 : decode cX2_follow 31 = .ok (.aload_n 1, 1) := by decide +kernel
theorem dX2_follow_32 : decode cX2_follow 32 = .ok (.iload_n 2, 1) := by decide +kernel
theorem dX2_follow_33 : decode cX2_follow 33 = .ok (.invokevirtual 48, 3) := by decide +kernel
theorem dX2_follow_36 : decode cX2_follow 36 = .ok (.ifCond .eq 17, 3) := by decide +kernel
theorem dX2_follow_39 : decode cX2_follow 39 = .ok (.aload_n 0, 1) := by decide +kernel
theorem dX2_follow_40 : decode cX2_follow 40 = .ok (.aload_n 1, 1) := by decide +kernel
theorem dX2_follow_41 : decode cX2_follow 41 = .ok (.iload_n 2, 1) := by decide +kernel
theorem dX2_follow_42 : decode cX2_follow 42 = .ok (.iconst 0, 1) := by decide +kernel
theorem dX2_follow_43 : decode cX2_follow 43 = .ok (.invokevirtual 52, 3) := by decide +kernel
theorem dX2_follow_46 : decode cX2_follow 46 = .ok (.aload_n 0, 1) := by decide +kernel
theorem dX2_follow_47 : decode cX2_follow 47 = .ok (.aload_n 1, 1) := by decide +kernel
theorem dX2_follow_48 : decode cX2_follow 48 = .ok (.iload_n 2, 1) := by decide +kernel
theorem dX2_follow_49 : decode cX2_follow 49 = .ok (.iconst 1, 1) := by decide +kernel
theorem dX2_follow_50 : decode cX2_follow 50 = .ok (.invokevirtual 52, 3) := by decide +kernel
theorem dX2_follow_53 : decode cX2_follow 53 = .ok (.iinc 2 1, 3) := by decide +kernel
theorem dX2_follow_56 : decode cX2_follow 56 = .ok (.goto (-33), 3) := by decide +kernel
theorem dX2_follow_59 : decode cX2_follow 59 = .ok (.return_, 1) := by decide +kernel
theorem dX2_addSide_0 : decode cX2_addSide 0 = .ok (.aload_n 0, 1) := by decide +kernel
theorem dX2_addSide_1 : decode cX2_addSide 1 = .ok (.getfield 29, 3) := by decide +kernel
theorem dX2_addSide_4 : decode cX2_addSide 4 = .ok (.iconst 2, 1) := by decide +kernel
theorem dX2_addSide_5 : decode cX2_addSide 5 = .ok (.iload_n 2, 1) := by decide +kernel
theorem dX2_addSide_6 : decode cX2_addSide 6 = .ok (.imul, 1) := by decide +kernel
theorem dX2_addSide_7 : decode cX2_addSide 7 = .ok (.iload_n 3, 1) := by decide +kernel
theorem dX2_addSide_8 : decode cX2_addSide 8 = .ok (.iadd, 1) := by decide +kernel
theorem dX2_addSide_9 : decode cX2_addSide 9 = .ok (.aload_n 0, 1) := by decide +kernel
theorem dX2_addSide_10 : decode cX2_addSide 10 = .ok (.getfield 35, 3) := by decide +kernel
theorem dX2_addSide_13 : decode cX2_addSide 13 = .ok (.invokevirtual 56, 3) := by decide +kernel
theorem dX2_addSide_16 : decode cX2_addSide 16 = .ok (.aload_n 0, 1) := by decide +kernel
theorem dX2_addSide_17 : decode cX2_addSide 17 = .ok (.iload_n 2, 1) := by decide +kernel
theorem dX2_addSide_18 : decode cX2_addSide 18 = .ok (.iload_n 3, 1) := by decide +kernel
theorem dX2_addSide_19 : decode cX2_addSide 19 = .ok (.iconst (-1), 1) := by decide +kernel
theorem dX2_addSide_20 : decode cX2_addSide 20 = .ok (.iconst (-1), 1) := by decide +kernel
theorem dX2_addSide_21 : decode cX2_addSide 21 = .ok (.invokevirtual 60, 3) := by decide +kernel
theorem dX2_addSide_24 : decode cX2_addSide 24 = .ok (.iconst 0, 1) := by decide +kernel
theorem dX2_addSide_25 : decode cX2_addSide 25 = .ok (.istore 4, 2) := by decide +kernel
theorem dX2_addSide_27 : decode cX2_addSide 27 = .ok (.iload 4, 2) := by decide +kernel
theorem dX2_addSide_29 : decode cX2_addSide 29 = .ok (.aload_n 1, 1) := by decide +kernel
theorem dX2_addSide_30 : decode cX2_addSide 30 = .ok (.invokevirtual 64, 3) := by decide +kernel
theorem dX2_addSide_33 : decode cX2_addSide 33 = .ok (.if_icmp .ge 68, 3) := by decide +kernel
theorem dX2_addSide_36 : decode cX2_addSide 36 = .ok (.aload_n 1, 1) := by decide +kernel
theorem dX2_addSide_37 : decode cX2_addSide 37 = .ok (.iload 4, 2) := by decide +kernel
theorem dX2_addSide_39 : decode cX2_addSide 39 = .ok (.iload_n 2, 1) := by decide +kernel
theorem dX2_addSide_40 : decode cX2_addSide 40 = .ok (.iload_n 3, 1) := by decide +kernel
theorem dX2_addSide_41 : decode cX2_addSide 41 = .ok (.invokevirtual 67, 3) := by decide +kernel
theorem dX2_addSide_44 : decode cX2_addSide 44 = .ok (.ifCond .eq 51, 3) := by decide +kernel
theorem dX2_addSide_47 : decode cX2_addSide 47 = .ok (.iconst 0, 1) := by decide +kernel
theorem dX2_addSide_48 : decode cX2_addSide 48 = .ok (.istore 5, 2) := by decide +kernel
theorem dX2_addSide_50 : decode cX2_addSide 50 = .ok (.iload 5, 2) := by decide +kernel
theorem dX2_addSide_52 : decode cX2_addSide 52 = .ok (.aload_n 1, 1) := by decide +kernel
theorem dX2_addSide_53 : decode cX2_addSide 53 = .ok (.iload 4, 2) := by decide +kernel
theorem dX2_addSide_55 : decode cX2_addSide 55 = .ok (.invokevirtual 71, 3) := by decide +kernel
theorem dX2_addSide_58 : decode cX2_addSide 58 = .ok (.if_icmp .ge 37, 3) := by decide +kernel
theorem dX2_addSide_61 : decode cX2_addSide 61 = .ok (.aload_n 0, 1) := by decide +kernel
theorem dX2_addSide_62 : decode cX2_addSide 62 = .ok (.getfield 32, 3) := by decide +kernel
theorem dX2_addSide_65 : decode cX2_addSide 65 = .ok (.iconst 2, 1) := by decide +kernel
theorem dX2_addSide_66 : decode cX2_addSide 66 = .ok (.iload 4, 2) := by decide +kernel
theorem dX2_addSide_68 : decode cX2_addSide 68 = .ok (.imul, 1) := by decide +kernel
theorem dX2_addSide_69 : decode cX2_addSide 69 = .ok (.iload 5, 2) := by decide +kernel
theorem dX2_addSide_71 : decode cX2_addSide 71 = .ok (.iadd, 1) := by decide +kernel
theorem dX2_addSide_72 : decode cX2_addSide 72 = .ok (.aload_n 0, 1) := by decide +kernel
theorem dX2_addSide_73 : decode cX2_addSide 73 = .ok (.getfield 35, 3) := by decide +kernel
theorem dX2_addSide_76 : decode cX2_addSide 76 = .ok (.invokevirtual 56, 3) := by decide +kernel
theorem dX2_addSide_79 : decode cX2_addSide 79 = .ok (.aload_n 0, 1) := by decide +kernel
theorem dX2_addSide_80 : decode cX2_addSide 80 = .ok (.iload_n 2, 1) := by decide +kernel
theorem dX2_addSide_81 : decode cX2_addSide 81 = .ok (.iload_n 3, 1) := by decide +kernel
theorem dX2_addSide_82 : decode cX2_addSide 82 = .ok (.iload 4, 2) := by decide +kernel
theorem dX2_addSide_84 : decode cX2_addSide 84 = .ok (.iload 5, 2) := by decide +kernel
theorem dX2_addSide_86 : decode cX2_addSide 86 = .ok (.invokevirtual 60, 3) := by decide +kernel
theorem dX2_addSide_89 : decode cX2_addSide 89 = .ok (.iinc 5 1, 3) := by decide +kernel
theorem dX2_addSide_92 : decode cX2_addSide 92 = .ok (.goto (-42), 3) := by decide +kernel
theorem dX2_addSide_95 : decode cX2_addSide 95 = .ok (.iinc 4 1, 3) := by decide +kernel
theorem dX2_addSide_98 : decode cX2_addSide 98 = .ok (.goto (-71), 3) := by decide +kernel
theorem dX2_addSide_101 : decode cX2_addSide 101 = .ok (.return_, 1) := by decide +kernel
theorem dX2_add_0 : decode cX2_add 0 = .ok (.aload_n 0, 1) := by decide +kernel
theorem dX2_add_1 : decode cX2_add 1 = .ok (.getfield 14, 3) := by decide +kernel
theorem dX2_add_4 : decode cX2_add 4 = .ok (.aload_n 0, 1) := by decide +kernel
theorem dX2_add_5 : decode cX2_add 5 = .ok (.getfield 35, 3) := by decide +kernel
theorem dX2_add_8 : decode cX2_add 8 = .ok (.iload_n 1, 1) := by decide +kernel
theorem dX2_add_9 : decode cX2_add 9 = .ok (.invokevirtual 56, 3) := by decide +kernel
theorem dX2_add_12 : decode cX2_add 12 = .ok (.aload_n 0, 1) := by decide +kernel
theorem dX2_add_13 : decode cX2_add 13 = .ok (.getfield 20, 3) := by decide +kernel
theorem dX2_add_16 : decode cX2_add 16 = .ok (.aload_n 0, 1) := by decide +kernel
theorem dX2_add_17 : decode cX2_add 17 = .ok (.getfield 35, 3) := by decide +kernel
theorem dX2_add_20 : decode cX2_add 20 = .ok (.iload_n 2, 1) := by decide +kernel
theorem dX2_add_21 : decode cX2_add 21 = .ok (.invokevirtual 56, 3) := by decide +kernel
theorem dX2_add_24 : decode cX2_add 24 = .ok (.aload_n 0, 1) := by decide +kernel
theorem dX2_add_25 : decode cX2_add 25 = .ok (.getfield 23, 3) := by decide +kernel
theorem dX2_add_28 : decode cX2_add 28 = .ok (.aload_n 0, 1) := by decide +kernel
theorem dX2_add_29 : decode cX2_add 29 = .ok (.getfield 35, 3) := by decide +kernel
theorem dX2_add_32 : decode cX2_add 32 = .ok (.iload_n 3, 1) := by decide +kernel
theorem dX2_add_33 : decode cX2_add 33 = .ok (.invokevirtual 56, 3) := by decide +kernel
theorem dX2_add_36 : decode cX2_add 36 = .ok (.aload_n 0, 1) := by decide +kernel
theorem dX2_add_37 : decode cX2_add 37 = .ok (.getfield 26, 3) := by decide +kernel
theorem dX2_add_40 : decode cX2_add 40 = .ok (.aload_n 0, 1) := by decide +kernel
theorem dX2_add_41 : decode cX2_add 41 = .ok (.getfield 35, 3) := by decide +kernel
theorem dX2_add_44 : decode cX2_add 44 = .ok (.iload 4, 2) := by decide +kernel
theorem dX2_add_46 : decode cX2_add 46 = .ok (.invokevirtual 56, 3) := by decide +kernel
theorem dX2_add_49 : decode cX2_add 49 = .ok (.aload_n 0, 1) := by decide +kernel
theorem dX2_add_50 : decode cX2_add 50 = .ok (.dup, 1) := by decide +kernel
theorem dX2_add_51 : decode cX2_add 51 = .ok (.getfield 35, 3) := by decide +kernel
theorem dX2_add_54 : decode cX2_add 54 = .ok (.iconst 1, 1) := by decide +kernel
theorem dX2_add_55 : decode cX2_add 55 = .ok (.iadd, 1) := by decide +kernel
theorem dX2_add_56 : decode cX2_add 56 = .ok (.putfield 35, 3) := by decide +kernel
theorem dX2_add_59 : decode cX2_add 59 = .ok (.return_, 1) := by decide +kernel
theorem dX2_size_0 : decode cX2_size 0 = .ok (.aload_n 0, 1) := by decide +kernel
theorem dX2_size_1 : decode cX2_size 1 = .ok (.getfield 35, 3) := by decide +kernel
theorem dX2_size_4 : decode cX2_size 4 = .ok (.ireturn, 1) := by decide +kernel
theorem dX2_leafAt_0 : decode cX2_leafAt 0 = .ok (.aload_n 0, 1) := by decide +kernel
theorem dX2_leafAt_1 : decode cX2_leafAt 1 = .ok (.getfield 14, 3) := by decide +kernel
theorem dX2_leafAt_4 : decode cX2_leafAt 4 = .ok (.iload_n 1, 1) := by decide +kernel
theorem dX2_leafAt_5 : decode cX2_leafAt 5 = .ok (.invokevirtual 75, 3) := by decide +kernel
theorem dX2_leafAt_8 : decode cX2_leafAt 8 = .ok (.ireturn, 1) := by decide +kernel
theorem dX2_leafSideAt_0 : decode cX2_leafSideAt 0 = .ok (.aload_n 0, 1) := by decide +kernel
theorem dX2_leafSideAt_1 : decode cX2_leafSideAt 1 = .ok (.getfield 20, 3) := by decide +kernel
theorem dX2_leafSideAt_4 : decode cX2_leafSideAt 4 = .ok (.iload_n 1, 1) := by decide +kernel
theorem dX2_leafSideAt_5 : decode cX2_leafSideAt 5 = .ok (.invokevirtual 75, 3) := by decide +kernel
theorem dX2_leafSideAt_8 : decode cX2_leafSideAt 8 = .ok (.ireturn, 1) := by decide +kernel
theorem dX2_slipAt_0 : decode cX2_slipAt 0 = .ok (.aload_n 0, 1) := by decide +kernel
theorem dX2_slipAt_1 : decode cX2_slipAt 1 = .ok (.getfield 23, 3) := by decide +kernel
theorem dX2_slipAt_4 : decode cX2_slipAt 4 = .ok (.iload_n 1, 1) := by decide +kernel
theorem dX2_slipAt_5 : decode cX2_slipAt 5 = .ok (.invokevirtual 75, 3) := by decide +kernel
theorem dX2_slipAt_8 : decode cX2_slipAt 8 = .ok (.ireturn, 1) := by decide +kernel
theorem dX2_slipSideAt_0 : decode cX2_slipSideAt 0 = .ok (.aload_n 0, 1) := by decide +kernel
theorem dX2_slipSideAt_1 : decode cX2_slipSideAt 1 = .ok (.getfield 26, 3) := by decide +kernel
theorem dX2_slipSideAt_4 : decode cX2_slipSideAt 4 = .ok (.iload_n 1, 1) := by decide +kernel
theorem dX2_slipSideAt_5 : decode cX2_slipSideAt 5 = .ok (.invokevirtual 75, 3) := by decide +kernel
theorem dX2_slipSideAt_8 : decode cX2_slipSideAt 8 = .ok (.ireturn, 1) := by decide +kernel
theorem dX2_placeOfLeaf_0 : decode cX2_placeOfLeaf 0 = .ok (.iload_n 1, 1) := by decide +kernel
theorem dX2_placeOfLeaf_1 : decode cX2_placeOfLeaf 1 = .ok (.iconst (-1), 1) := by decide +kernel
theorem dX2_placeOfLeaf_2 : decode cX2_placeOfLeaf 2 = .ok (.if_icmp .ne 7, 3) := by decide +kernel
theorem dX2_placeOfLeaf_5 : decode cX2_placeOfLeaf 5 = .ok (.iconst (-1), 1) := by decide +kernel
theorem dX2_placeOfLeaf_6 : decode cX2_placeOfLeaf 6 = .ok (.goto 15, 3) := by decide +kernel
theorem dX2_placeOfLeaf_9 : decode cX2_placeOfLeaf 9 = .ok (.aload_n 0, 1) := by decide +kernel
theorem dX2_placeOfLeaf_10 : decode cX2_placeOfLeaf 10 = .ok (.getfield 29, 3) := by decide +kernel
theorem dX2_placeOfLeaf_13 : decode cX2_placeOfLeaf 13 = .ok (.iconst 2, 1) := by decide +kernel
theorem dX2_placeOfLeaf_14 : decode cX2_placeOfLeaf 14 = .ok (.iload_n 1, 1) := by decide +kernel
theorem dX2_placeOfLeaf_15 : decode cX2_placeOfLeaf 15 = .ok (.imul, 1) := by decide +kernel
theorem dX2_placeOfLeaf_16 : decode cX2_placeOfLeaf 16 = .ok (.iload_n 2, 1) := by decide +kernel
theorem dX2_placeOfLeaf_17 : decode cX2_placeOfLeaf 17 = .ok (.iadd, 1) := by decide +kernel
theorem dX2_placeOfLeaf_18 : decode cX2_placeOfLeaf 18 = .ok (.invokevirtual 75, 3) := by decide +kernel
theorem dX2_placeOfLeaf_21 : decode cX2_placeOfLeaf 21 = .ok (.ireturn, 1) := by decide +kernel
theorem dX2_placeOfSlip_0 : decode cX2_placeOfSlip 0 = .ok (.aload_n 0, 1) := by decide +kernel
theorem dX2_placeOfSlip_1 : decode cX2_placeOfSlip 1 = .ok (.getfield 32, 3) := by decide +kernel
theorem dX2_placeOfSlip_4 : decode cX2_placeOfSlip 4 = .ok (.iconst 2, 1) := by decide +kernel
theorem dX2_placeOfSlip_5 : decode cX2_placeOfSlip 5 = .ok (.iload_n 1, 1) := by decide +kernel
theorem dX2_placeOfSlip_6 : decode cX2_placeOfSlip 6 = .ok (.imul, 1) := by decide +kernel
theorem dX2_placeOfSlip_7 : decode cX2_placeOfSlip 7 = .ok (.iload_n 2, 1) := by decide +kernel
theorem dX2_placeOfSlip_8 : decode cX2_placeOfSlip 8 = .ok (.iadd, 1) := by decide +kernel
theorem dX2_placeOfSlip_9 : decode cX2_placeOfSlip 9 = .ok (.invokevirtual 75, 3) := by decide +kernel
theorem dX2_placeOfSlip_12 : decode cX2_placeOfSlip 12 = .ok (.ireturn, 1) := by decide +kernel
theorem dX3_init_0 : decode cX3_init 0 = .ok (.aload_n 0, 1) := by decide +kernel
theorem dX3_init_1 : decode cX3_init 1 = .ok (.invokespecial 1, 3) := by decide +kernel
theorem dX3_init_4 : decode cX3_init 4 = .ok (.aload_n 0, 1) := by decide +kernel
theorem dX3_init_5 : decode cX3_init 5 = .ok (.iload_n 1, 1) := by decide +kernel
theorem dX3_init_6 : decode cX3_init 6 = .ok (.ifCond .le 7, 3) := by decide +kernel
theorem dX3_init_9 : decode cX3_init 9 = .ok (.iload_n 1, 1) := by decide +kernel
theorem dX3_init_10 : decode cX3_init 10 = .ok (.goto 4, 3) := by decide +kernel
theorem dX3_init_13 : decode cX3_init 13 = .ok (.iconst 0, 1) := by decide +kernel
theorem dX3_init_14 : decode cX3_init 14 = .ok (.newarray .int, 2) := by decide +kernel
theorem dX3_init_16 : decode cX3_init 16 = .ok (.putfield 7, 3) := by decide +kernel
theorem dX3_init_19 : decode cX3_init 19 = .ok (.return_, 1) := by decide +kernel
theorem dX3_at_0 : decode cX3_at 0 = .ok (.iload_n 1, 1) := by decide +kernel
theorem dX3_at_1 : decode cX3_at 1 = .ok (.ifCond .lt 21, 3) := by decide +kernel
theorem dX3_at_4 : decode cX3_at 4 = .ok (.iload_n 1, 1) := by decide +kernel
theorem dX3_at_5 : decode cX3_at 5 = .ok (.aload_n 0, 1) := by decide +kernel
theorem dX3_at_6 : decode cX3_at 6 = .ok (.getfield 7, 3) := by decide +kernel
theorem dX3_at_9 : decode cX3_at 9 = .ok (.arraylength, 1) := by decide +kernel
theorem dX3_at_10 : decode cX3_at 10 = .ok (.if_icmp .ge 12, 3) := by decide +kernel
theorem dX3_at_13 : decode cX3_at 13 = .ok (.aload_n 0, 1) := by decide +kernel
theorem dX3_at_14 : decode cX3_at 14 = .ok (.getfield 7, 3) := by decide +kernel
theorem dX3_at_17 : decode cX3_at 17 = .ok (.iload_n 1, 1) := by decide +kernel
theorem dX3_at_18 : decode cX3_at 18 = .ok (.iaload, 1) := by decide +kernel
theorem dX3_at_19 : decode cX3_at 19 = .ok (.goto 4, 3) := by decide +kernel
theorem dX3_at_22 : decode cX3_at 22 = .ok (.iconst 0, 1) := by decide +kernel
theorem dX3_at_23 : decode cX3_at 23 = .ok (.ireturn, 1) := by decide +kernel
theorem dX3_put_0 : decode cX3_put 0 = .ok (.iload_n 1, 1) := by decide +kernel
theorem dX3_put_1 : decode cX3_put 1 = .ok (.ifCond .lt 19, 3) := by decide +kernel
theorem dX3_put_4 : decode cX3_put 4 = .ok (.iload_n 1, 1) := by decide +kernel
theorem dX3_put_5 : decode cX3_put 5 = .ok (.aload_n 0, 1) := by decide +kernel
theorem dX3_put_6 : decode cX3_put 6 = .ok (.getfield 7, 3) := by decide +kernel
theorem dX3_put_9 : decode cX3_put 9 = .ok (.arraylength, 1) := by decide +kernel
theorem dX3_put_10 : decode cX3_put 10 = .ok (.if_icmp .ge 10, 3) := by decide +kernel
theorem dX3_put_13 : decode cX3_put 13 = .ok (.aload_n 0, 1) := by decide +kernel
theorem dX3_put_14 : decode cX3_put 14 = .ok (.getfield 7, 3) := by decide +kernel
theorem dX3_put_17 : decode cX3_put 17 = .ok (.iload_n 1, 1) := by decide +kernel
theorem dX3_put_18 : decode cX3_put 18 = .ok (.iload_n 2, 1) := by decide +kernel
theorem dX3_put_19 : decode cX3_put 19 = .ok (.iastore, 1) := by decide +kernel
theorem dX3_put_20 : decode cX3_put 20 = .ok (.return_, 1) := by decide +kernel
theorem dX3_fill_0 : decode cX3_fill 0 = .ok (.aload_n 0, 1) := by decide +kernel
theorem dX3_fill_1 : decode cX3_fill 1 = .ok (.getfield 7, 3) := by decide +kernel
theorem dX3_fill_4 : decode cX3_fill 4 = .ok (.iload_n 1, 1) := by decide +kernel
theorem dX3_fill_5 : decode cX3_fill 5 = .ok (.invokestatic 13, 3) := by decide +kernel
theorem dX3_fill_8 : decode cX3_fill 8 = .ok (.return_, 1) := by decide +kernel
theorem dX3_copyFrom_0 : decode cX3_copyFrom 0 = .ok (.aload_n 0, 1) := by decide +kernel
theorem dX3_copyFrom_1 : decode cX3_copyFrom 1 = .ok (.getfield 7, 3) := by decide +kernel
theorem dX3_copyFrom_4 : decode cX3_copyFrom 4 = .ok (.arraylength, 1) := by decide +kernel
theorem dX3_copyFrom_5 : decode cX3_copyFrom 5 = .ok (.aload_n 1, 1) := by decide +kernel
theorem dX3_copyFrom_6 : decode cX3_copyFrom 6 = .ok (.getfield 7, 3) := by decide +kernel
theorem dX3_copyFrom_9 : decode cX3_copyFrom 9 = .ok (.arraylength, 1) := by decide +kernel
theorem dX3_copyFrom_10 : decode cX3_copyFrom 10 = .ok (.invokestatic 19, 3) := by decide +kernel
theorem dX3_copyFrom_13 : decode cX3_copyFrom 13 = .ok (.istore_n 2, 1) := by decide +kernel
theorem dX3_copyFrom_14 : decode cX3_copyFrom 14 = .ok (.aload_n 1, 1) := by decide +kernel
theorem dX3_copyFrom_15 : decode cX3_copyFrom 15 = .ok (.getfield 7, 3) := by decide +kernel
theorem dX3_copyFrom_18 : decode cX3_copyFrom 18 = .ok (.iconst 0, 1) := by decide +kernel
theorem dX3_copyFrom_19 : decode cX3_copyFrom 19 = .ok (.aload_n 0, 1) := by decide +kernel
theorem dX3_copyFrom_20 : decode cX3_copyFrom 20 = .ok (.getfield 7, 3) := by decide +kernel
theorem dX3_copyFrom_23 : decode cX3_copyFrom 23 = .ok (.iconst 0, 1) := by decide +kernel
theorem dX3_copyFrom_24 : decode cX3_copyFrom 24 = .ok (.iload_n 2, 1) := by decide +kernel
theorem dX3_copyFrom_25 : decode cX3_copyFrom 25 = .ok (.invokestatic 25, 3) := by decide +kernel
theorem dX3_copyFrom_28 : decode cX3_copyFrom 28 = .ok (.return_, 1) := by decide +kernel
theorem dX4_init_0 : decode cX4_init 0 = .ok (.aload_n 0, 1) := by decide +kernel
theorem dX4_init_1 : decode cX4_init 1 = .ok (.invokespecial 3, 3) := by decide +kernel
theorem dX4_init_4 : decode cX4_init 4 = .ok (.aload_n 0, 1) := by decide +kernel
theorem dX4_init_5 : decode cX4_init 5 = .ok (.new 9, 3) := by decide +kernel
theorem dX4_init_8 : decode cX4_init 8 = .ok (.dup, 1) := by decide +kernel
theorem dX4_init_9 : decode cX4_init 9 = .ok (.bipush 60, 2) := by decide +kernel
theorem dX4_init_11 : decode cX4_init 11 = .ok (.invokespecial 11, 3) := by decide +kernel
theorem dX4_init_14 : decode cX4_init 14 = .ok (.putfield 14, 3) := by decide +kernel
theorem dX4_init_17 : decode cX4_init 17 = .ok (.aload_n 0, 1) := by decide +kernel
theorem dX4_init_18 : decode cX4_init 18 = .ok (.new 9, 3) := by decide +kernel
theorem dX4_init_21 : decode cX4_init 21 = .ok (.dup, 1) := by decide +kernel
theorem dX4_init_22 : decode cX4_init 22 = .ok (.bipush 60, 2) := by decide +kernel
theorem dX4_init_24 : decode cX4_init 24 = .ok (.invokespecial 11, 3) := by decide +kernel
theorem dX4_init_27 : decode cX4_init 27 = .ok (.putfield 20, 3) := by decide +kernel
theorem dX4_init_30 : decode cX4_init 30 = .ok (.aload_n 0, 1) := by decide +kernel
theorem dX4_init_31 : decode cX4_init 31 = .ok (.new 9, 3) := by decide +kernel
theorem dX4_init_34 : decode cX4_init 34 = .ok (.dup, 1) := by decide +kernel
theorem dX4_init_35 : decode cX4_init 35 = .ok (.sipush 144, 3) := by decide +kernel
theorem dX4_init_38 : decode cX4_init 38 = .ok (.invokespecial 11, 3) := by decide +kernel
theorem dX4_init_41 : decode cX4_init 41 = .ok (.putfield 23, 3) := by decide +kernel
theorem dX4_init_44 : decode cX4_init 44 = .ok (.aload_n 0, 1) := by decide +kernel
theorem dX4_init_45 : decode cX4_init 45 = .ok (.new 9, 3) := by decide +kernel
theorem dX4_init_48 : decode cX4_init 48 = .ok (.dup, 1) := by decide +kernel
theorem dX4_init_49 : decode cX4_init 49 = .ok (.bipush 60, 2) := by decide +kernel
theorem dX4_init_51 : decode cX4_init 51 = .ok (.invokespecial 11, 3) := by decide +kernel
theorem dX4_init_54 : decode cX4_init 54 = .ok (.putfield 26, 3) := by decide +kernel
theorem dX4_init_57 : decode cX4_init 57 = .ok (.aload_n 0, 1) := by decide +kernel
theorem dX4_init_58 : decode cX4_init 58 = .ok (.new 9, 3) := by decide +kernel
theorem dX4_init_61 : decode cX4_init 61 = .ok (.dup, 1) := by decide +kernel
theorem dX4_init_62 : decode cX4_init 62 = .ok (.bipush 60, 2) := by decide +kernel
theorem dX4_init_64 : decode cX4_init 64 = .ok (.invokespecial 11, 3) := by decide +kernel
theorem dX4_init_67 : decode cX4_init 67 = .ok (.putfield 29, 3) := by decide +kernel
theorem dX4_init_70 : decode cX4_init 70 = .ok (.aload_n 0, 1) := by decide +kernel
theorem dX4_init_71 : decode cX4_init 71 = .ok (.iconst 0, 1) := by decide +kernel
theorem dX4_init_72 : decode cX4_init 72 = .ok (.putfield 32, 3) := by decide +kernel
theorem dX4_init_75 : decode cX4_init 75 = .ok (.return_, 1) := by decide +kernel
theorem dX4_follow_0 : decode cX4_follow 0 = .ok (.aload_n 0, 1) := by decide +kernel
theorem dX4_follow_1 : decode cX4_follow 1 = .ok (.aload_n 1, 1) := by decide +kernel
theorem dX4_follow_2 : decode cX4_follow 2 = .ok (.invokevirtual 36, 3) := by decide +kernel
theorem dX4_follow_5 : decode cX4_follow 5 = .ok (.putfield 32, 3) := by decide +kernel
theorem dX4_follow_8 : decode cX4_follow 8 = .ok (.iconst 0, 1) := by decide +kernel
theorem dX4_follow_9 : decode cX4_follow 9 = .ok (.istore_n 3, 1) := by decide +kernel
theorem dX4_follow_10 : decode cX4_follow 10 = .ok (.iload_n 3, 1) := by decide +kernel
theorem dX4_follow_11 : decode cX4_follow 11 = .ok (.aload_n 0, 1) := by decide +kernel
theorem dX4_follow_12 : decode cX4_follow 12 = .ok (.getfield 32, 3) := by decide +kernel
theorem dX4_follow_15 : decode cX4_follow 15 = .ok (.if_icmp .ge 95, 3) := by decide +kernel
theorem dX4_follow_18 : decode cX4_follow 18 = .ok (.aload_n 1, 1) := by decide +kernel
theorem dX4_follow_19 : decode cX4_follow 19 = .ok (.iload_n 3, 1) := by decide +kernel
theorem dX4_follow_20 : decode cX4_follow 20 = .ok (.invokevirtual 41, 3) := by decide +kernel
theorem dX4_follow_23 : decode cX4_follow 23 = .ok (.istore 4, 2) := by decide +kernel
theorem dX4_follow_25 : decode cX4_follow 25 = .ok (.aload_n 1, 1) := by decide +kernel
theorem dX4_follow_26 : decode cX4_follow 26 = .ok (.iload_n 3, 1) := by decide +kernel
theorem dX4_follow_27 : decode cX4_follow 27 = .ok (.invokevirtual 45, 3) := by decide +kernel
theorem dX4_follow_30 : decode cX4_follow 30 = .ok (.istore 5, 2) := by decide +kernel
theorem dX4_follow_32 : decode cX4_follow 32 = .ok (.aload_n 1, 1) := by decide +kernel
theorem dX4_follow_33 : decode cX4_follow 33 = .ok (.iload_n 3, 1) := by decide +kernel
theorem dX4_follow_34 : decode cX4_follow 34 = .ok (.invokevirtual 48, 3) := by decide +kernel
theorem dX4_follow_37 : decode cX4_follow 37 = .ok (.istore 6, 2) := by decide +kernel
theorem dX4_follow_39 : decode cX4_follow 39 = .ok (.iload 6, 2) := by decide +kernel
theorem dX4_follow_41 : decode cX4_follow 41 = .ok (.iconst 1, 1) := by decide +kernel
theorem dX4_follow_42 : decode cX4_follow 42 = .ok (.if_icmp .ne 25, 3) := by decide +kernel
theorem dX4_follow_45 : decode cX4_follow 45 = .ok (.aload_n 0, 1) := by decide +kernel
theorem dX4_follow_46 : decode cX4_follow 46 = .ok (.iload_n 3, 1) := by decide +kernel
theorem dX4_follow_47 : decode cX4_follow 47 = .ok (.aload_n 2, 1) := by decide +kernel
theorem dX4_follow_48 : decode cX4_follow 48 = .ok (.iload 4, 2) := by decide +kernel
theorem dX4_follow_50 : decode cX4_follow 50 = .ok (.iconst 1, 1) := by decide +kernel
theorem dX4_follow_51 : decode cX4_follow 51 = .ok (.invokevirtual 51, 3) := by decide +kernel
theorem dX4_follow_54 : decode cX4_follow 54 = .ok (.aload_n 2, 1) := by decide +kernel
theorem dX4_follow_55 : decode cX4_follow 55 = .ok (.iload 5, 2) := by decide +kernel
theorem dX4_follow_57 : decode cX4_follow 57 = .ok (.iconst 0, 1) := by decide +kernel
theorem dX4_follow_58 : decode cX4_follow 58 = .ok (.invokevirtual 51, 3) := by decide +kernel
theorem dX4_follow_61 : decode cX4_follow 61 = .ok (.invokevirtual 57, 3) := by decide +kernel
theorem dX4_follow_64 : decode cX4_follow 64 = .ok (.goto 40, 3) := by decide +kernel
theorem dX4_follow_67 : decode cX4_follow 67 = .ok (.iload 6, 2) := by decide +kernel
theorem dX4_follow_69 : decode cX4_follow 69 = .ok (.iconst 2, 1) := by decide +kernel
theorem dX4_follow_70 : decode cX4_follow 70 = .ok (.if_icmp .ne 20, 3) := by decide +kernel
theorem dX4_follow_73 : decode cX4_follow 73 = .ok (.aload_n 0, 1) := by decide +kernel
theorem dX4_follow_74 : decode cX4_follow 74 = .ok (.iload_n 3, 1) := by decide +kernel
theorem dX4_follow_75 : decode cX4_follow 75 = .ok (.aload_n 2, 1) := by decide +kernel
theorem dX4_follow_76 : decode cX4_follow 76 = .ok (.iload 4, 2) := by decide +kernel
theorem dX4_follow_78 : decode cX4_follow 78 = .ok (.iload 5, 2) := by decide +kernel
theorem dX4_follow_80 : decode cX4_follow 80 = .ok (.invokevirtual 61, 3) := by decide +kernel
theorem dX4_follow_83 : decode cX4_follow 83 = .ok (.iconst (-1), 1) := by decide +kernel
theorem dX4_follow_84 : decode cX4_follow 84 = .ok (.invokevirtual 57, 3) := by decide +kernel
theorem dX4_follow_87 : decode cX4_follow 87 = .ok (.goto 17, 3) := by decide +kernel
theorem dX4_follow_90 : decode cX4_follow 90 = .ok (.aload_n 0, 1) := by decide +kernel
theorem dX4_follow_91 : decode cX4_follow 91 = .ok (.iload_n 3, 1) := by decide +kernel
theorem dX4_follow_92 : decode cX4_follow 92 = .ok (.aload_n 2, 1) := by decide +kernel
theorem dX4_follow_93 : decode cX4_follow 93 = .ok (.iload 4, 2) := by decide +kernel
theorem dX4_follow_95 : decode cX4_follow 95 = .ok (.iload 5, 2) := by decide +kernel
theorem dX4_follow_97 : decode cX4_follow 97 = .ok (.invokevirtual 51, 3) := by decide +kernel
theorem dX4_follow_100 : decode cX4_follow 100 = .ok (.iconst (-1), 1) := by decide +kernel
theorem dX4_follow_101 : decode cX4_follow 101 = .ok (.invokevirtual 57, 3) := by decide +kernel
theorem dX4_follow_104 : decode cX4_follow 104 = .ok (.iinc 3 1, 3) := by decide +kernel
theorem dX4_follow_107 : decode cX4_follow 107 = .ok (.goto (-97), 3) := by decide +kernel
theorem dX4_follow_110 : decode cX4_follow 110 = .ok (.return_, 1) := by decide +kernel
theorem dX4_putPlaces_0 : decode cX4_putPlaces 0 = .ok (.aload_n 0, 1) := by decide +kernel
theorem dX4_putPlaces_1 : decode cX4_putPlaces 1 = .ok (.getfield 14, 3) := by decide +kernel
theorem dX4_putPlaces_4 : decode cX4_putPlaces 4 = .ok (.iload_n 1, 1) := by decide +kernel
theorem dX4_putPlaces_5 : decode cX4_putPlaces 5 = .ok (.iload_n 2, 1) := by decide +kernel
theorem dX4_putPlaces_6 : decode cX4_putPlaces 6 = .ok (.iconst (-1), 1) := by decide +kernel
theorem dX4_putPlaces_7 : decode cX4_putPlaces 7 = .ok (.if_icmp .ne 7, 3) := by decide +kernel
theorem dX4_putPlaces_10 : decode cX4_putPlaces 10 = .ok (.iload_n 3, 1) := by decide +kernel
theorem dX4_putPlaces_11 : decode cX4_putPlaces 11 = .ok (.goto 4, 3) := by decide +kernel
theorem dX4_putPlaces_14 : decode cX4_putPlaces 14 = .ok (.iload_n 2, 1) := by decide +kernel
theorem dX4_putPlaces_15 : decode cX4_putPlaces 15 = .ok (.invokevirtual 64, 3) := by decide +kernel
theorem dX4_putPlaces_18 : decode cX4_putPlaces 18 = .ok (.aload_n 0, 1) := by decide +kernel
theorem dX4_putPlaces_19 : decode cX4_putPlaces 19 = .ok (.getfield 20, 3) := by decide +kernel
theorem dX4_putPlaces_22 : decode cX4_putPlaces 22 = .ok (.iload_n 1, 1) := by decide +kernel
theorem dX4_putPlaces_23 : decode cX4_putPlaces 23 = .ok (.iload_n 2, 1) := by decide +kernel
theorem dX4_putPlaces_24 : decode cX4_putPlaces 24 = .ok (.iconst (-1), 1) := by decide +kernel
theorem dX4_putPlaces_25 : decode cX4_putPlaces 25 = .ok (.if_icmp .ne 7, 3) := by decide +kernel
theorem dX4_putPlaces_28 : decode cX4_putPlaces 28 = .ok (.iconst (-1), 1) := by decide +kernel
theorem dX4_putPlaces_29 : decode cX4_putPlaces 29 = .ok (.goto 4, 3) := by decide +kernel
theorem dX4_putPlaces_32 : decode cX4_putPlaces 32 = .ok (.iload_n 3, 1) := by decide +kernel
theorem dX4_putPlaces_33 : decode cX4_putPlaces 33 = .ok (.invokevirtual 64, 3) := by decide +kernel
theorem dX4_putPlaces_36 : decode cX4_putPlaces 36 = .ok (.return_, 1) := by decide +kernel
theorem dX4_firstOf_0 : decode cX4_firstOf 0 = .ok (.aload_n 0, 1) := by decide +kernel
theorem dX4_firstOf_1 : decode cX4_firstOf 1 = .ok (.getfield 14, 3) := by decide +kernel
theorem dX4_firstOf_4 : decode cX4_firstOf 4 = .ok (.iload_n 1, 1) := by decide +kernel
theorem dX4_firstOf_5 : decode cX4_firstOf 5 = .ok (.invokevirtual 68, 3) := by decide +kernel
theorem dX4_firstOf_8 : decode cX4_firstOf 8 = .ok (.ireturn, 1) := by decide +kernel
theorem dX4_secondOf_0 : decode cX4_secondOf 0 = .ok (.aload_n 0, 1) := by decide +kernel
theorem dX4_secondOf_1 : decode cX4_secondOf 1 = .ok (.getfield 20, 3) := by decide +kernel
theorem dX4_secondOf_4 : decode cX4_secondOf 4 = .ok (.iload_n 1, 1) := by decide +kernel
theorem dX4_secondOf_5 : decode cX4_secondOf 5 = .ok (.invokevirtual 68, 3) := by decide +kernel
theorem dX4_secondOf_8 : decode cX4_secondOf 8 = .ok (.ireturn, 1) := by decide +kernel
theorem dX4_isPlaced_0 : decode cX4_isPlaced 0 = .ok (.aload_n 0, 1) := by decide +kernel
theorem dX4_isPlaced_1 : decode cX4_isPlaced 1 = .ok (.getfield 14, 3) := by decide +kernel
theorem dX4_isPlaced_4 : decode cX4_isPlaced 4 = .ok (.iload_n 1, 1) := by decide +kernel
theorem dX4_isPlaced_5 : decode cX4_isPlaced 5 = .ok (.invokevirtual 68, 3) := by decide +kernel
theorem dX4_isPlaced_8 : decode cX4_isPlaced 8 = .ok (.iconst (-1), 1) := by decide +kernel
theorem dX4_isPlaced_9 : decode cX4_isPlaced 9 = .ok (.if_icmp .eq 7, 3) := by decide +kernel
theorem dX4_isPlaced_12 : decode cX4_isPlaced 12 = .ok (.iconst 1, 1) := by decide +kernel
theorem dX4_isPlaced_13 : decode cX4_isPlaced 13 = .ok (.goto 4, 3) := by decide +kernel
theorem dX4_isPlaced_16 : decode cX4_isPlaced 16 = .ok (.iconst 0, 1) := by decide +kernel
theorem dX4_isPlaced_17 : decode cX4_isPlaced 17 = .ok (.ireturn, 1) := by decide +kernel
theorem dX4_countShowing_0 : decode cX4_countShowing 0 = .ok (.iconst 0, 1) := by decide +kernel
theorem dX4_countShowing_1 : decode cX4_countShowing 1 = .ok (.istore_n 2, 1) := by decide +kernel
theorem dX4_countShowing_2 : decode cX4_countShowing 2 = .ok (.iconst 0, 1) := by decide +kernel
theorem dX4_countShowing_3 : decode cX4_countShowing 3 = .ok (.istore_n 3, 1) := by decide +kernel
theorem dX4_countShowing_4 : decode cX4_countShowing 4 = .ok (.iload_n 3, 1) := by decide +kernel
theorem dX4_countShowing_5 : decode cX4_countShowing 5 = .ok (.aload_n 0, 1) := by decide +kernel
theorem dX4_countShowing_6 : decode cX4_countShowing 6 = .ok (.getfield 32, 3) := by decide +kernel
theorem dX4_countShowing_9 : decode cX4_countShowing 9 = .ok (.if_icmp .ge 36, 3) := by decide +kernel
theorem dX4_countShowing_12 : decode cX4_countShowing 12 = .ok (.aload_n 0, 1) := by decide +kernel
theorem dX4_countShowing_13 : decode cX4_countShowing 13 = .ok (.getfield 14, 3) := by decide +kernel
theorem dX4_countShowing_16 : decode cX4_countShowing 16 = .ok (.iload_n 3, 1) := by decide +kernel
theorem dX4_countShowing_17 : decode cX4_countShowing 17 = .ok (.invokevirtual 68, 3) := by decide +kernel
theorem dX4_countShowing_20 : decode cX4_countShowing 20 = .ok (.iload_n 1, 1) := by decide +kernel
theorem dX4_countShowing_21 : decode cX4_countShowing 21 = .ok (.if_icmp .eq 15, 3) := by decide +kernel
theorem dX4_countShowing_24 : decode cX4_countShowing 24 = .ok (.aload_n 0, 1) := by decide +kernel
theorem dX4_countShowing_25 : decode cX4_countShowing 25 = .ok (.getfield 20, 3) := by decide +kernel
theorem dX4_countShowing_28 : decode cX4_countShowing 28 = .ok (.iload_n 3, 1) := by decide +kernel
theorem dX4_countShowing_29 : decode cX4_countShowing 29 = .ok (.invokevirtual 68, 3) := by decide +kernel
theorem dX4_countShowing_32 : decode cX4_countShowing 32 = .ok (.iload_n 1, 1) := by decide +kernel
theorem dX4_countShowing_33 : decode cX4_countShowing 33 = .ok (.if_icmp .ne 6, 3) := by decide +kernel
theorem dX4_countShowing_36 : decode cX4_countShowing 36 = .ok (.iinc 2 1, 3) := by decide +kernel
theorem dX4_countShowing_39 : decode cX4_countShowing 39 = .ok (.iinc 3 1, 3) := by decide +kernel
theorem dX4_countShowing_42 : decode cX4_countShowing 42 = .ok (.goto (-38), 3) := by decide +kernel
theorem dX4_countShowing_45 : decode cX4_countShowing 45 = .ok (.iload_n 2, 1) := by decide +kernel
theorem dX4_countShowing_46 : decode cX4_countShowing 46 = .ok (.ireturn, 1) := by decide +kernel
theorem dX4_countNeedless_0 : decode cX4_countNeedless 0 = .ok (.aload_n 0, 1) := by decide +kernel
theorem dX4_countNeedless_1 : decode cX4_countNeedless 1 = .ok (.getfield 23, 3) := by decide +kernel
theorem dX4_countNeedless_4 : decode cX4_countNeedless 4 = .ok (.iconst 0, 1) := by decide +kernel
theorem dX4_countNeedless_5 : decode cX4_countNeedless 5 = .ok (.invokevirtual 71, 3) := by decide +kernel
theorem dX4_countNeedless_8 : decode cX4_countNeedless 8 = .ok (.iconst 0, 1) := by decide +kernel
theorem dX4_countNeedless_9 : decode cX4_countNeedless 9 = .ok (.istore_n 1, 1) := by decide +kernel
theorem dX4_countNeedless_10 : decode cX4_countNeedless 10 = .ok (.iload_n 1, 1) := by decide +kernel
theorem dX4_countNeedless_11 : decode cX4_countNeedless 11 = .ok (.aload_n 0, 1) := by decide +kernel
theorem dX4_countNeedless_12 : decode cX4_countNeedless 12 = .ok (.getfield 32, 3) := by decide +kernel
theorem dX4_countNeedless_15 : decode cX4_countNeedless 15 = .ok (.if_icmp .ge 15, 3) := by decide +kernel
theorem dX4_countNeedless_18 : decode cX4_countNeedless 18 = .ok (.aload_n 0, 1) := by decide +kernel
theorem dX4_countNeedless_19 : decode cX4_countNeedless 19 = .ok (.iload_n 1, 1) := by decide +kernel
theorem dX4_countNeedless_20 : decode cX4_countNeedless 20 = .ok (.iconst 1, 1) := by decide +kernel
theorem dX4_countNeedless_21 : decode cX4_countNeedless 21 = .ok (.invokevirtual 74, 3) := by decide +kernel
theorem dX4_countNeedless_24 : decode cX4_countNeedless 24 = .ok (.iinc 1 1, 3) := by decide +kernel
theorem dX4_countNeedless_27 : decode cX4_countNeedless 27 = .ok (.goto (-17), 3) := by decide +kernel
theorem dX4_countNeedless_30 : decode cX4_countNeedless 30 = .ok (.iconst 0, 1) := by decide +kernel
theorem dX4_countNeedless_31 : decode cX4_countNeedless 31 = .ok (.istore_n 1, 1) := by decide +kernel
theorem dX4_countNeedless_32 : decode cX4_countNeedless 32 = .ok (.aload_n 0, 1) := by decide +kernel
theorem dX4_countNeedless_33 : decode cX4_countNeedless 33 = .ok (.getfield 32, 3) := by decide +kernel
theorem dX4_countNeedless_36 : decode cX4_countNeedless 36 = .ok (.iconst 1, 1) := by decide +kernel
theorem dX4_countNeedless_37 : decode cX4_countNeedless 37 = .ok (.isub, 1) := by decide +kernel
theorem dX4_countNeedless_38 : decode cX4_countNeedless 38 = .ok (.istore_n 2, 1) := by decide +kernel
theorem dX4_countNeedless_39 : decode cX4_countNeedless 39 = .ok (.iload_n 2, 1) := by decide +kernel
theorem dX4_countNeedless_40 : decode cX4_countNeedless 40 = .ok (.ifCond .lt 48, 3) := by decide +kernel
theorem dX4_countNeedless_43 : decode cX4_countNeedless 43 = .ok (.aload_n 0, 1) := by decide +kernel
theorem dX4_countNeedless_44 : decode cX4_countNeedless 44 = .ok (.aload_n 0, 1) := by decide +kernel
theorem dX4_countNeedless_45 : decode cX4_countNeedless 45 = .ok (.getfield 14, 3) := by decide +kernel
theorem dX4_countNeedless_48 : decode cX4_countNeedless 48 = .ok (.iload_n 2, 1) := by decide +kernel
theorem dX4_countNeedless_49 : decode cX4_countNeedless 49 = .ok (.invokevirtual 68, 3) := by decide +kernel
theorem dX4_countNeedless_52 : decode cX4_countNeedless 52 = .ok (.invokevirtual 77, 3) := by decide +kernel
theorem dX4_countNeedless_55 : decode cX4_countNeedless 55 = .ok (.ifCond .eq 27, 3) := by decide +kernel
theorem dX4_countNeedless_58 : decode cX4_countNeedless 58 = .ok (.aload_n 0, 1) := by decide +kernel
theorem dX4_countNeedless_59 : decode cX4_countNeedless 59 = .ok (.aload_n 0, 1) := by decide +kernel
theorem dX4_countNeedless_60 : decode cX4_countNeedless 60 = .ok (.getfield 20, 3) := by decide +kernel
theorem dX4_countNeedless_63 : decode cX4_countNeedless 63 = .ok (.iload_n 2, 1) := by decide +kernel
theorem dX4_countNeedless_64 : decode cX4_countNeedless 64 = .ok (.invokevirtual 68, 3) := by decide +kernel
theorem dX4_countNeedless_67 : decode cX4_countNeedless 67 = .ok (.invokevirtual 77, 3) := by decide +kernel
theorem dX4_countNeedless_70 : decode cX4_countNeedless 70 = .ok (.ifCond .eq 12, 3) := by decide +kernel
theorem dX4_countNeedless_73 : decode cX4_countNeedless 73 = .ok (.aload_n 0, 1) := by decide +kernel
theorem dX4_countNeedless_74 : decode cX4_countNeedless 74 = .ok (.iload_n 2, 1) := by decide +kernel
theorem dX4_countNeedless_75 : decode cX4_countNeedless 75 = .ok (.iconst (-1), 1) := by decide +kernel
theorem dX4_countNeedless_76 : decode cX4_countNeedless 76 = .ok (.invokevirtual 74, 3) := by decide +kernel
theorem dX4_countNeedless_79 : decode cX4_countNeedless 79 = .ok (.iinc 1 1, 3) := by decide +kernel
theorem dX4_countNeedless_82 : decode cX4_countNeedless 82 = .ok (.iinc 2 (-1), 3) := by decide +kernel
theorem dX4_countNeedless_85 : decode cX4_countNeedless 85 = .ok (.goto (-46), 3) := by decide +kernel
theorem dX4_countNeedless_88 : decode cX4_countNeedless 88 = .ok (.iload_n 1, 1) := by decide +kernel
theorem dX4_countNeedless_89 : decode cX4_countNeedless 89 = .ok (.ireturn, 1) := by decide +kernel
theorem dX4_addCover_0 : decode cX4_addCover 0 = .ok (.aload_n 0, 1) := by decide +kernel
theorem dX4_addCover_1 : decode cX4_addCover 1 = .ok (.getfield 14, 3) := by decide +kernel
theorem dX4_addCover_4 : decode cX4_addCover 4 = .ok (.iload_n 1, 1) := by decide +kernel
theorem dX4_addCover_5 : decode cX4_addCover 5 = .ok (.invokevirtual 68, 3) := by decide +kernel
theorem dX4_addCover_8 : decode cX4_addCover 8 = .ok (.istore_n 3, 1) := by decide +kernel
theorem dX4_addCover_9 : decode cX4_addCover 9 = .ok (.aload_n 0, 1) := by decide +kernel
theorem dX4_addCover_10 : decode cX4_addCover 10 = .ok (.getfield 20, 3) := by decide +kernel
theorem dX4_addCover_13 : decode cX4_addCover 13 = .ok (.iload_n 1, 1) := by decide +kernel
theorem dX4_addCover_14 : decode cX4_addCover 14 = .ok (.invokevirtual 68, 3) := by decide +kernel
theorem dX4_addCover_17 : decode cX4_addCover 17 = .ok (.istore 4, 2) := by decide +kernel
theorem dX4_addCover_19 : decode cX4_addCover 19 = .ok (.aload_n 0, 1) := by decide +kernel
theorem dX4_addCover_20 : decode cX4_addCover 20 = .ok (.getfield 23, 3) := by decide +kernel
theorem dX4_addCover_23 : decode cX4_addCover 23 = .ok (.iload_n 3, 1) := by decide +kernel
theorem dX4_addCover_24 : decode cX4_addCover 24 = .ok (.aload_n 0, 1) := by decide +kernel
theorem dX4_addCover_25 : decode cX4_addCover 25 = .ok (.getfield 23, 3) := by decide +kernel
theorem dX4_addCover_28 : decode cX4_addCover 28 = .ok (.iload_n 3, 1) := by decide +kernel
theorem dX4_addCover_29 : decode cX4_addCover 29 = .ok (.invokevirtual 68, 3) := by decide +kernel
theorem dX4_addCover_32 : decode cX4_addCover 32 = .ok (.iload_n 2, 1) := by decide +kernel
theorem dX4_addCover_33 : decode cX4_addCover 33 = .ok (.iadd, 1) := by decide +kernel
theorem dX4_addCover_34 : decode cX4_addCover 34 = .ok (.invokevirtual 64, 3) := by decide +kernel
theorem dX4_addCover_37 : decode cX4_addCover 37 = .ok (.aload_n 0, 1) := by decide +kernel
theorem dX4_addCover_38 : decode cX4_addCover 38 = .ok (.getfield 23, 3) := by decide +kernel
theorem dX4_addCover_41 : decode cX4_addCover 41 = .ok (.iload 4, 2) := by decide +kernel
theorem dX4_addCover_43 : decode cX4_addCover 43 = .ok (.aload_n 0, 1) := by decide +kernel
theorem dX4_addCover_44 : decode cX4_addCover 44 = .ok (.getfield 23, 3) := by decide +kernel
theorem dX4_addCover_47 : decode cX4_addCover 47 = .ok (.iload 4, 2) := by decide +kernel
theorem dX4_addCover_49 : decode cX4_addCover 49 = .ok (.invokevirtual 68, 3) := by decide +kernel
theorem dX4_addCover_52 : decode cX4_addCover 52 = .ok (.iload_n 2, 1) := by decide +kernel
theorem dX4_addCover_53 : decode cX4_addCover 53 = .ok (.iadd, 1) := by decide +kernel
theorem dX4_addCover_54 : decode cX4_addCover 54 = .ok (.invokevirtual 64, 3) := by decide +kernel
theorem dX4_addCover_57 : decode cX4_addCover 57 = .ok (.return_, 1) := by decide +kernel
theorem dX4_isCoveredTwice_0 : decode cX4_isCoveredTwice 0 = .ok (.iload_n 1, 1) := by decide +kernel
theorem dX4_isCoveredTwice_1 : decode cX4_isCoveredTwice 1 = .ok (.iconst (-1), 1) := by decide +kernel
theorem dX4_isCoveredTwice_2 : decode cX4_isCoveredTwice 2 = .ok (.if_icmp .eq 15, 3) := by decide +kernel
theorem dX4_isCoveredTwice_5 : decode cX4_isCoveredTwice 5 = .ok (.aload_n 0, 1) := by decide +kernel
theorem dX4_isCoveredTwice_6 : decode cX4_isCoveredTwice 6 = .ok (.getfield 23, 3) := by decide +kernel
theorem dX4_isCoveredTwice_9 : decode cX4_isCoveredTwice 9 = .ok (.iload_n 1, 1) := by decide +kernel
theorem dX4_isCoveredTwice_10 : decode cX4_isCoveredTwice 10 = .ok (.invokevirtual 68, 3) := by decide +kernel
theorem dX4_isCoveredTwice_13 : decode cX4_isCoveredTwice 13 = .ok (.iconst 1, 1) := by decide +kernel
theorem dX4_isCoveredTwice_14 : decode cX4_isCoveredTwice 14 = .ok (.if_icmp .le 7, 3) := by decide +kernel
theorem dX4_isCoveredTwice_17 : decode cX4_isCoveredTwice 17 = .ok (.iconst 1, 1) := by decide +kernel
theorem dX4_isCoveredTwice_18 : decode cX4_isCoveredTwice 18 = .ok (.goto 4, 3) := by decide +kernel
theorem dX4_isCoveredTwice_21 : decode cX4_isCoveredTwice 21 = .ok (.iconst 0, 1) := by decide +kernel
theorem dX4_isCoveredTwice_22 : decode cX4_isCoveredTwice 22 = .ok (.ireturn, 1) := by decide +kernel
theorem dX4_isInversion_0 : decode cX4_isInversion 0 = .ok (.aload_n 0, 1) := by decide +kernel
theorem dX4_isInversion_1 : decode cX4_isInversion 1 = .ok (.iload_n 1, 1) := by decide +kernel
theorem dX4_isInversion_2 : decode cX4_isInversion 2 = .ok (.invokevirtual 81, 3) := by decide +kernel
theorem dX4_isInversion_5 : decode cX4_isInversion 5 = .ok (.ifCond .eq 34, 3) := by decide +kernel
theorem dX4_isInversion_8 : decode cX4_isInversion 8 = .ok (.aload_n 0, 1) := by decide +kernel
theorem dX4_isInversion_9 : decode cX4_isInversion 9 = .ok (.iload_n 2, 1) := by decide +kernel
theorem dX4_isInversion_10 : decode cX4_isInversion 10 = .ok (.invokevirtual 81, 3) := by decide +kernel
theorem dX4_isInversion_13 : decode cX4_isInversion 13 = .ok (.ifCond .eq 26, 3) := by decide +kernel
theorem dX4_isInversion_16 : decode cX4_isInversion 16 = .ok (.aload_n 0, 1) := by decide +kernel
theorem dX4_isInversion_17 : decode cX4_isInversion 17 = .ok (.getfield 14, 3) := by decide +kernel
theorem dX4_isInversion_20 : decode cX4_isInversion 20 = .ok (.iload_n 2, 1) := by decide +kernel
theorem dX4_isInversion_21 : decode cX4_isInversion 21 = .ok (.invokevirtual 68, 3) := by decide +kernel
theorem dX4_isInversion_24 : decode cX4_isInversion 24 = .ok (.aload_n 0, 1) := by decide +kernel
theorem dX4_isInversion_25 : decode cX4_isInversion 25 = .ok (.getfield 14, 3) := by decide +kernel
theorem dX4_isInversion_28 : decode cX4_isInversion 28 = .ok (.iload_n 1, 1) := by decide +kernel
theorem dX4_isInversion_29 : decode cX4_isInversion 29 = .ok (.invokevirtual 68, 3) := by decide +kernel
theorem dX4_isInversion_32 : decode cX4_isInversion 32 = .ok (.if_icmp .ge 7, 3) := by decide +kernel
theorem dX4_isInversion_35 : decode cX4_isInversion 35 = .ok (.iconst 1, 1) := by decide +kernel
theorem dX4_isInversion_36 : decode cX4_isInversion 36 = .ok (.goto 4, 3) := by decide +kernel
theorem dX4_isInversion_39 : decode cX4_isInversion 39 = .ok (.iconst 0, 1) := by decide +kernel
theorem dX4_isInversion_40 : decode cX4_isInversion 40 = .ok (.ireturn, 1) := by decide +kernel
theorem dX4_countInversions_0 : decode cX4_countInversions 0 = .ok (.iconst 0, 1) := by decide +kernel
theorem dX4_countInversions_1 : decode cX4_countInversions 1 = .ok (.istore_n 1, 1) := by decide +kernel
theorem dX4_countInversions_2 : decode cX4_countInversions 2 = .ok (.iconst 1, 1) := by decide +kernel
theorem dX4_countInversions_3 : decode cX4_countInversions 3 = .ok (.istore_n 2, 1) := by decide +kernel
theorem dX4_countInversions_4 : decode cX4_countInversions 4 = .ok (.iload_n 2, 1) := by decide +kernel
theorem dX4_countInversions_5 : decode cX4_countInversions 5 = .ok (.aload_n 0, 1) := by decide +kernel
theorem dX4_countInversions_6 : decode cX4_countInversions 6 = .ok (.getfield 32, 3) := by decide +kernel
theorem dX4_countInversions_9 : decode cX4_countInversions 9 = .ok (.if_icmp .ge 34, 3) := by decide +kernel
theorem dX4_countInversions_12 : decode cX4_countInversions 12 = .ok (.iconst 0, 1) := by decide +kernel
theorem dX4_countInversions_13 : decode cX4_countInversions 13 = .ok (.istore_n 3, 1) := by decide +kernel
theorem dX4_countInversions_14 : decode cX4_countInversions 14 = .ok (.iload_n 3, 1) := by decide +kernel
theorem dX4_countInversions_15 : decode cX4_countInversions 15 = .ok (.iload_n 2, 1) := by decide +kernel
theorem dX4_countInversions_16 : decode cX4_countInversions 16 = .ok (.if_icmp .ge 21, 3) := by decide +kernel
theorem dX4_countInversions_19 : decode cX4_countInversions 19 = .ok (.aload_n 0, 1) := by decide +kernel
theorem dX4_countInversions_20 : decode cX4_countInversions 20 = .ok (.iload_n 3, 1) := by decide +kernel
theorem dX4_countInversions_21 : decode cX4_countInversions 21 = .ok (.iload_n 2, 1) := by decide +kernel
theorem dX4_countInversions_22 : decode cX4_countInversions 22 = .ok (.invokevirtual 84, 3) := by decide +kernel
theorem dX4_countInversions_25 : decode cX4_countInversions 25 = .ok (.ifCond .eq 6, 3) := by decide +kernel
theorem dX4_countInversions_28 : decode cX4_countInversions 28 = .ok (.iinc 1 1, 3) := by decide +kernel
theorem dX4_countInversions_31 : decode cX4_countInversions 31 = .ok (.iinc 3 1, 3) := by decide +kernel
theorem dX4_countInversions_34 : decode cX4_countInversions 34 = .ok (.goto (-20), 3) := by decide +kernel
theorem dX4_countInversions_37 : decode cX4_countInversions 37 = .ok (.iinc 2 1, 3) := by decide +kernel
theorem dX4_countInversions_40 : decode cX4_countInversions 40 = .ok (.goto (-36), 3) := by decide +kernel
theorem dX4_countInversions_43 : decode cX4_countInversions 43 = .ok (.iload_n 1, 1) := by decide +kernel
theorem dX4_countInversions_44 : decode cX4_countInversions 44 = .ok (.ireturn, 1) := by decide +kernel
theorem dX4_firstFalling_0 : decode cX4_firstFalling 0 = .ok (.iconst 1, 1) := by decide +kernel
theorem dX4_firstFalling_1 : decode cX4_firstFalling 1 = .ok (.istore_n 1, 1) := by decide +kernel
theorem dX4_firstFalling_2 : decode cX4_firstFalling 2 = .ok (.iload_n 1, 1) := by decide +kernel
theorem dX4_firstFalling_3 : decode cX4_firstFalling 3 = .ok (.aload_n 0, 1) := by decide +kernel
theorem dX4_firstFalling_4 : decode cX4_firstFalling 4 = .ok (.getfield 32, 3) := by decide +kernel
theorem dX4_firstFalling_7 : decode cX4_firstFalling 7 = .ok (.if_icmp .ge 33, 3) := by decide +kernel
theorem dX4_firstFalling_10 : decode cX4_firstFalling 10 = .ok (.iconst 0, 1) := by decide +kernel
theorem dX4_firstFalling_11 : decode cX4_firstFalling 11 = .ok (.istore_n 2, 1) := by decide +kernel
theorem dX4_firstFalling_12 : decode cX4_firstFalling 12 = .ok (.iload_n 2, 1) := by decide +kernel
theorem dX4_firstFalling_13 : decode cX4_firstFalling 13 = .ok (.iload_n 1, 1) := by decide +kernel
theorem dX4_firstFalling_14 : decode cX4_firstFalling 14 = .ok (.if_icmp .ge 20, 3) := by decide +kernel
theorem dX4_firstFalling_17 : decode cX4_firstFalling 17 = .ok (.aload_n 0, 1) := by decide +kernel
theorem dX4_firstFalling_18 : decode cX4_firstFalling 18 = .ok (.iload_n 2, 1) := by decide +kernel
theorem dX4_firstFalling_19 : decode cX4_firstFalling 19 = .ok (.iload_n 1, 1) := by decide +kernel
theorem dX4_firstFalling_20 : decode cX4_firstFalling 20 = .ok (.invokevirtual 84, 3) := by decide +kernel
theorem dX4_firstFalling_23 : decode cX4_firstFalling 23 = .ok (.ifCond .eq 5, 3) := by decide +kernel
theorem dX4_firstFalling_26 : decode cX4_firstFalling 26 = .ok (.iload_n 1, 1) := by decide +kernel
theorem dX4_firstFalling_27 : decode cX4_firstFalling 27 = .ok (.ireturn, 1) := by decide +kernel
theorem dX4_firstFalling_28 : decode cX4_firstFalling 28 = .ok (.iinc 2 1, 3) := by decide +kernel
theorem dX4_firstFalling_31 : decode cX4_firstFalling 31 = .ok (.goto (-19), 3) := by decide +kernel
theorem dX4_firstFalling_34 : decode cX4_firstFalling 34 = .ok (.iinc 1 1, 3) := by decide +kernel
theorem dX4_firstFalling_37 : decode cX4_firstFalling 37 = .ok (.goto (-35), 3) := by decide +kernel
theorem dX4_firstFalling_40 : decode cX4_firstFalling 40 = .ok (.iconst (-1), 1) := by decide +kernel
theorem dX4_firstFalling_41 : decode cX4_firstFalling 41 = .ok (.ireturn, 1) := by decide +kernel
theorem dX4_countMoves_0 : decode cX4_countMoves 0 = .ok (.iconst 0, 1) := by decide +kernel
theorem dX4_countMoves_1 : decode cX4_countMoves 1 = .ok (.istore_n 1, 1) := by decide +kernel
theorem dX4_countMoves_2 : decode cX4_countMoves 2 = .ok (.iconst 0, 1) := by decide +kernel
theorem dX4_countMoves_3 : decode cX4_countMoves 3 = .ok (.istore_n 2, 1) := by decide +kernel
theorem dX4_countMoves_4 : decode cX4_countMoves 4 = .ok (.iconst 0, 1) := by decide +kernel
theorem dX4_countMoves_5 : decode cX4_countMoves 5 = .ok (.istore_n 3, 1) := by decide +kernel
theorem dX4_countMoves_6 : decode cX4_countMoves 6 = .ok (.iload_n 3, 1) := by decide +kernel
theorem dX4_countMoves_7 : decode cX4_countMoves 7 = .ok (.aload_n 0, 1) := by decide +kernel
theorem dX4_countMoves_8 : decode cX4_countMoves 8 = .ok (.getfield 32, 3) := by decide +kernel
theorem dX4_countMoves_11 : decode cX4_countMoves 11 = .ok (.if_icmp .ge 46, 3) := by decide +kernel
theorem dX4_countMoves_14 : decode cX4_countMoves 14 = .ok (.aload_n 0, 1) := by decide +kernel
theorem dX4_countMoves_15 : decode cX4_countMoves 15 = .ok (.iload_n 3, 1) := by decide +kernel
theorem dX4_countMoves_16 : decode cX4_countMoves 16 = .ok (.invokevirtual 81, 3) := by decide +kernel
theorem dX4_countMoves_19 : decode cX4_countMoves 19 = .ok (.ifCond .eq 32, 3) := by decide +kernel
theorem dX4_countMoves_22 : decode cX4_countMoves 22 = .ok (.iconst 1, 1) := by decide +kernel
theorem dX4_countMoves_23 : decode cX4_countMoves 23 = .ok (.aload_n 0, 1) := by decide +kernel
theorem dX4_countMoves_24 : decode cX4_countMoves 24 = .ok (.iload_n 3, 1) := by decide +kernel
theorem dX4_countMoves_25 : decode cX4_countMoves 25 = .ok (.invokevirtual 88, 3) := by decide +kernel
theorem dX4_countMoves_28 : decode cX4_countMoves 28 = .ok (.iadd, 1) := by decide +kernel
theorem dX4_countMoves_29 : decode cX4_countMoves 29 = .ok (.istore 4, 2) := by decide +kernel
theorem dX4_countMoves_31 : decode cX4_countMoves 31 = .ok (.aload_n 0, 1) := by decide +kernel
theorem dX4_countMoves_32 : decode cX4_countMoves 32 = .ok (.getfield 26, 3) := by decide +kernel
theorem dX4_countMoves_35 : decode cX4_countMoves 35 = .ok (.iload_n 3, 1) := by decide +kernel
theorem dX4_countMoves_36 : decode cX4_countMoves 36 = .ok (.iload 4, 2) := by decide +kernel
theorem dX4_countMoves_38 : decode cX4_countMoves 38 = .ok (.invokevirtual 64, 3) := by decide +kernel
theorem dX4_countMoves_41 : decode cX4_countMoves 41 = .ok (.iload_n 2, 1) := by decide +kernel
theorem dX4_countMoves_42 : decode cX4_countMoves 42 = .ok (.iload 4, 2) := by decide +kernel
theorem dX4_countMoves_44 : decode cX4_countMoves 44 = .ok (.invokestatic 91, 3) := by decide +kernel
theorem dX4_countMoves_47 : decode cX4_countMoves 47 = .ok (.istore_n 2, 1) := by decide +kernel
theorem dX4_countMoves_48 : decode cX4_countMoves 48 = .ok (.iinc 1 1, 3) := by decide +kernel
theorem dX4_countMoves_51 : decode cX4_countMoves 51 = .ok (.iinc 3 1, 3) := by decide +kernel
theorem dX4_countMoves_54 : decode cX4_countMoves 54 = .ok (.goto (-48), 3) := by decide +kernel
theorem dX4_countMoves_57 : decode cX4_countMoves 57 = .ok (.iload_n 1, 1) := by decide +kernel
theorem dX4_countMoves_58 : decode cX4_countMoves 58 = .ok (.iload_n 2, 1) := by decide +kernel
theorem dX4_countMoves_59 : decode cX4_countMoves 59 = .ok (.isub, 1) := by decide +kernel
theorem dX4_countMoves_60 : decode cX4_countMoves 60 = .ok (.ireturn, 1) := by decide +kernel
theorem dX4_longestChainBefore_0 : decode cX4_longestChainBefore 0 = .ok (.iconst 0, 1) := by decide +kernel
theorem dX4_longestChainBefore_1 : decode cX4_longestChainBefore 1 = .ok (.istore_n 2, 1) := by decide +kernel
theorem dX4_longestChainBefore_2 : decode cX4_longestChainBefore 2 = .ok (.iconst 0, 1) := by decide +kernel
theorem dX4_longestChainBefore_3 : decode cX4_longestChainBefore 3 = .ok (.istore_n 3, 1) := by decide +kernel
theorem dX4_longestChainBefore_4 : decode cX4_longestChainBefore 4 = .ok (.iload_n 3, 1) := by decide +kernel
theorem dX4_longestChainBefore_5 : decode cX4_longestChainBefore 5 = .ok (.iload_n 1, 1) := by decide +kernel
theorem dX4_longestChainBefore_6 : decode cX4_longestChainBefore 6 = .ok (.if_icmp .ge 39, 3) := by decide +kernel
theorem dX4_longestChainBefore_9 : decode cX4_longestChainBefore 9 = .ok (.aload_n 0, 1) := by decide +kernel
theorem dX4_longestChainBefore_10 : decode cX4_longestChainBefore 10 = .ok (.iload_n 3, 1) := by decide +kernel
theorem dX4_longestChainBefore_11 : decode cX4_longestChainBefore 11 = .ok (.invokevirtual 81, 3) := by decide +kernel
theorem dX4_longestChainBefore_14 : decode cX4_longestChainBefore 14 = .ok (.ifCond .eq 25, 3) := by decide +kernel
theorem dX4_longestChainBefore_17 : decode cX4_longestChainBefore 17 = .ok (.aload_n 0, 1) := by decide +kernel
theorem dX4_longestChainBefore_18 : decode cX4_longestChainBefore 18 = .ok (.iload_n 3, 1) := by decide +kernel
theorem dX4_longestChainBefore_19 : decode cX4_longestChainBefore 19 = .ok (.iload_n 1, 1) := by decide +kernel
theorem dX4_longestChainBefore_20 : decode cX4_longestChainBefore 20 = .ok (.invokevirtual 84, 3) := by decide +kernel
theorem dX4_longestChainBefore_23 : decode cX4_longestChainBefore 23 = .ok (.ifCond .ne 16, 3) := by decide +kernel
theorem dX4_longestChainBefore_26 : decode cX4_longestChainBefore 26 = .ok (.iload_n 2, 1) := by decide +kernel
theorem dX4_longestChainBefore_27 : decode cX4_longestChainBefore 27 = .ok (.aload_n 0, 1) := by decide +kernel
theorem dX4_longestChainBefore_28 : decode cX4_longestChainBefore 28 = .ok (.getfield 26, 3) := by decide +kernel
theorem dX4_longestChainBefore_31 : decode cX4_longestChainBefore 31 = .ok (.iload_n 3, 1) := by decide +kernel
theorem dX4_longestChainBefore_32 : decode cX4_longestChainBefore 32 = .ok (.invokevirtual 68, 3) := by decide +kernel
theorem dX4_longestChainBefore_35 : decode cX4_longestChainBefore 35 = .ok (.invokestatic 91, 3) := by decide +kernel
theorem dX4_longestChainBefore_38 : decode cX4_longestChainBefore 38 = .ok (.istore_n 2, 1) := by decide +kernel
theorem dX4_longestChainBefore_39 : decode cX4_longestChainBefore 39 = .ok (.iinc 3 1, 3) := by decide +kernel
theorem dX4_longestChainBefore_42 : decode cX4_longestChainBefore 42 = .ok (.goto (-38), 3) := by decide +kernel
theorem dX4_longestChainBefore_45 : decode cX4_longestChainBefore 45 = .ok (.iload_n 2, 1) := by decide +kernel
theorem dX4_longestChainBefore_46 : decode cX4_longestChainBefore 46 = .ok (.ireturn, 1) := by decide +kernel
theorem dX4_longestRising_0 : decode cX4_longestRising 0 = .ok (.iconst 0, 1) := by decide +kernel
theorem dX4_longestRising_1 : decode cX4_longestRising 1 = .ok (.istore_n 1, 1) := by decide +kernel
theorem dX4_longestRising_2 : decode cX4_longestRising 2 = .ok (.iconst 0, 1) := by decide +kernel
theorem dX4_longestRising_3 : decode cX4_longestRising 3 = .ok (.istore_n 2, 1) := by decide +kernel
theorem dX4_longestRising_4 : decode cX4_longestRising 4 = .ok (.iconst (-1), 1) := by decide +kernel
theorem dX4_longestRising_5 : decode cX4_longestRising 5 = .ok (.istore_n 3, 1) := by decide +kernel
theorem dX4_longestRising_6 : decode cX4_longestRising 6 = .ok (.iconst 0, 1) := by decide +kernel
theorem dX4_longestRising_7 : decode cX4_longestRising 7 = .ok (.istore 4, 2) := by decide +kernel
theorem dX4_longestRising_9 : decode cX4_longestRising 9 = .ok (.iload 4, 2) := by decide +kernel
theorem dX4_longestRising_11 : decode cX4_longestRising 11 = .ok (.aload_n 0, 1) := by decide +kernel
theorem dX4_longestRising_12 : decode cX4_longestRising 12 = .ok (.getfield 32, 3) := by decide +kernel
theorem dX4_longestRising_15 : decode cX4_longestRising 15 = .ok (.if_icmp .ge 55, 3) := by decide +kernel
theorem dX4_longestRising_18 : decode cX4_longestRising 18 = .ok (.aload_n 0, 1) := by decide +kernel
theorem dX4_longestRising_19 : decode cX4_longestRising 19 = .ok (.iload 4, 2) := by decide +kernel
theorem dX4_longestRising_21 : decode cX4_longestRising 21 = .ok (.invokevirtual 81, 3) := by decide +kernel
theorem dX4_longestRising_24 : decode cX4_longestRising 24 = .ok (.ifCond .eq 40, 3) := by decide +kernel
theorem dX4_longestRising_27 : decode cX4_longestRising 27 = .ok (.aload_n 0, 1) := by decide +kernel
theorem dX4_longestRising_28 : decode cX4_longestRising 28 = .ok (.getfield 14, 3) := by decide +kernel
theorem dX4_longestRising_31 : decode cX4_longestRising 31 = .ok (.iload 4, 2) := by decide +kernel
theorem dX4_longestRising_33 : decode cX4_longestRising 33 = .ok (.invokevirtual 68, 3) := by decide +kernel
theorem dX4_longestRising_36 : decode cX4_longestRising 36 = .ok (.iload_n 3, 1) := by decide +kernel
theorem dX4_longestRising_37 : decode cX4_longestRising 37 = .ok (.if_icmp .ge 7, 3) := by decide +kernel
theorem dX4_longestRising_40 : decode cX4_longestRising 40 = .ok (.iconst 1, 1) := by decide +kernel
theorem dX4_longestRising_41 : decode cX4_longestRising 41 = .ok (.goto 6, 3) := by decide +kernel
theorem dX4_longestRising_44 : decode cX4_longestRising 44 = .ok (.iload_n 2, 1) := by decide +kernel
theorem dX4_longestRising_45 : decode cX4_longestRising 45 = .ok (.iconst 1, 1) := by decide +kernel
theorem dX4_longestRising_46 : decode cX4_longestRising 46 = .ok (.iadd, 1) := by decide +kernel
theorem dX4_longestRising_47 : decode cX4_longestRising 47 = .ok (.istore_n 2, 1) := by decide +kernel
theorem dX4_longestRising_48 : decode cX4_longestRising 48 = .ok (.aload_n 0, 1) := by decide +kernel
theorem dX4_longestRising_49 : decode cX4_longestRising 49 = .ok (.getfield 14, 3) := by decide +kernel
theorem dX4_longestRising_52 : decode cX4_longestRising 52 = .ok (.iload 4, 2) := by decide +kernel
theorem dX4_longestRising_54 : decode cX4_longestRising 54 = .ok (.invokevirtual 68, 3) := by decide +kernel
theorem dX4_longestRising_57 : decode cX4_longestRising 57 = .ok (.istore_n 3, 1) := by decide +kernel
theorem dX4_longestRising_58 : decode cX4_longestRising 58 = .ok (.iload_n 1, 1) := by decide +kernel
theorem dX4_longestRising_59 : decode cX4_longestRising 59 = .ok (.iload_n 2, 1) := by decide +kernel
theorem dX4_longestRising_60 : decode cX4_longestRising 60 = .ok (.invokestatic 91, 3) := by decide +kernel
theorem dX4_longestRising_63 : decode cX4_longestRising 63 = .ok (.istore_n 1, 1) := by decide +kernel
theorem dX4_longestRising_64 : decode cX4_longestRising 64 = .ok (.iinc 4 1, 3) := by decide +kernel
theorem dX4_longestRising_67 : decode cX4_longestRising 67 = .ok (.goto (-58), 3) := by decide +kernel
theorem dX4_longestRising_70 : decode cX4_longestRising 70 = .ok (.iload_n 1, 1) := by decide +kernel
theorem dX4_longestRising_71 : decode cX4_longestRising 71 = .ok (.ireturn, 1) := by decide +kernel
theorem dX4_rankScans_0 : decode cX4_rankScans 0 = .ok (.iconst 0, 1) := by decide +kernel
theorem dX4_rankScans_1 : decode cX4_rankScans 1 = .ok (.istore_n 1, 1) := by decide +kernel
theorem dX4_rankScans_2 : decode cX4_rankScans 2 = .ok (.iload_n 1, 1) := by decide +kernel
theorem dX4_rankScans_3 : decode cX4_rankScans 3 = .ok (.aload_n 0, 1) := by decide +kernel
theorem dX4_rankScans_4 : decode cX4_rankScans 4 = .ok (.getfield 32, 3) := by decide +kernel
theorem dX4_rankScans_7 : decode cX4_rankScans 7 = .ok (.if_icmp .ge 70, 3) := by decide +kernel
theorem dX4_rankScans_10 : decode cX4_rankScans 10 = .ok (.iload_n 1, 1) := by decide +kernel
theorem dX4_rankScans_11 : decode cX4_rankScans 11 = .ok (.istore_n 2, 1) := by decide +kernel
theorem dX4_rankScans_12 : decode cX4_rankScans 12 = .ok (.iload_n 2, 1) := by decide +kernel
theorem dX4_rankScans_13 : decode cX4_rankScans 13 = .ok (.ifCond .le 49, 3) := by decide +kernel
theorem dX4_rankScans_16 : decode cX4_rankScans 16 = .ok (.aload_n 0, 1) := by decide +kernel
theorem dX4_rankScans_17 : decode cX4_rankScans 17 = .ok (.aload_n 0, 1) := by decide +kernel
theorem dX4_rankScans_18 : decode cX4_rankScans 18 = .ok (.getfield 29, 3) := by decide +kernel
theorem dX4_rankScans_21 : decode cX4_rankScans 21 = .ok (.iload_n 2, 1) := by decide +kernel
theorem dX4_rankScans_22 : decode cX4_rankScans 22 = .ok (.iconst 1, 1) := by decide +kernel
theorem dX4_rankScans_23 : decode cX4_rankScans 23 = .ok (.isub, 1) := by decide +kernel
theorem dX4_rankScans_24 : decode cX4_rankScans 24 = .ok (.invokevirtual 68, 3) := by decide +kernel
theorem dX4_rankScans_27 : decode cX4_rankScans 27 = .ok (.invokevirtual 96, 3) := by decide +kernel
theorem dX4_rankScans_30 : decode cX4_rankScans 30 = .ok (.aload_n 0, 1) := by decide +kernel
theorem dX4_rankScans_31 : decode cX4_rankScans 31 = .ok (.iload_n 1, 1) := by decide +kernel
theorem dX4_rankScans_32 : decode cX4_rankScans 32 = .ok (.invokevirtual 96, 3) := by decide +kernel
theorem dX4_rankScans_35 : decode cX4_rankScans 35 = .ok (.if_icmp .le 27, 3) := by decide +kernel
theorem dX4_rankScans_38 : decode cX4_rankScans 38 = .ok (.aload_n 0, 1) := by decide +kernel
theorem dX4_rankScans_39 : decode cX4_rankScans 39 = .ok (.getfield 29, 3) := by decide +kernel
theorem dX4_rankScans_42 : decode cX4_rankScans 42 = .ok (.iload_n 2, 1) := by decide +kernel
theorem dX4_rankScans_43 : decode cX4_rankScans 43 = .ok (.aload_n 0, 1) := by decide +kernel
theorem dX4_rankScans_44 : decode cX4_rankScans 44 = .ok (.getfield 29, 3) := by decide +kernel
theorem dX4_rankScans_47 : decode cX4_rankScans 47 = .ok (.iload_n 2, 1) := by decide +kernel
theorem dX4_rankScans_48 : decode cX4_rankScans 48 = .ok (.iconst 1, 1) := by decide +kernel
theorem dX4_rankScans_49 : decode cX4_rankScans 49 = .ok (.isub, 1) := by decide +kernel
theorem dX4_rankScans_50 : decode cX4_rankScans 50 = .ok (.invokevirtual 68, 3) := by decide +kernel
theorem dX4_rankScans_53 : decode cX4_rankScans 53 = .ok (.invokevirtual 64, 3) := by decide +kernel
theorem dX4_rankScans_56 : decode cX4_rankScans 56 = .ok (.iinc 2 (-1), 3) := by decide +kernel
theorem dX4_rankScans_59 : decode cX4_rankScans 59 = .ok (.goto (-47), 3) := by decide +kernel
theorem dX4_rankScans_62 : decode cX4_rankScans 62 = .ok (.aload_n 0, 1) := by decide +kernel
theorem dX4_rankScans_63 : decode cX4_rankScans 63 = .ok (.getfield 29, 3) := by decide +kernel
theorem dX4_rankScans_66 : decode cX4_rankScans 66 = .ok (.iload_n 2, 1) := by decide +kernel
theorem dX4_rankScans_67 : decode cX4_rankScans 67 = .ok (.iload_n 1, 1) := by decide +kernel
theorem dX4_rankScans_68 : decode cX4_rankScans 68 = .ok (.invokevirtual 64, 3) := by decide +kernel
theorem dX4_rankScans_71 : decode cX4_rankScans 71 = .ok (.iinc 1 1, 3) := by decide +kernel
theorem dX4_rankScans_74 : decode cX4_rankScans 74 = .ok (.goto (-72), 3) := by decide +kernel
theorem dX4_rankScans_77 : decode cX4_rankScans 77 = .ok (.iconst 0, 1) := by decide +kernel
theorem dX4_rankScans_78 : decode cX4_rankScans 78 = .ok (.istore_n 1, 1) := by decide +kernel
theorem dX4_rankScans_79 : decode cX4_rankScans 79 = .ok (.iconst 0, 1) := by decide +kernel
theorem dX4_rankScans_80 : decode cX4_rankScans 80 = .ok (.istore_n 2, 1) := by decide +kernel
theorem dX4_rankScans_81 : decode cX4_rankScans 81 = .ok (.iload_n 2, 1) := by decide +kernel
theorem dX4_rankScans_82 : decode cX4_rankScans 82 = .ok (.aload_n 0, 1) := by decide +kernel
theorem dX4_rankScans_83 : decode cX4_rankScans 83 = .ok (.getfield 32, 3) := by decide +kernel
theorem dX4_rankScans_86 : decode cX4_rankScans 86 = .ok (.if_icmp .ge 24, 3) := by decide +kernel
theorem dX4_rankScans_89 : decode cX4_rankScans 89 = .ok (.aload_n 0, 1) := by decide +kernel
theorem dX4_rankScans_90 : decode cX4_rankScans 90 = .ok (.getfield 29, 3) := by decide +kernel
theorem dX4_rankScans_93 : decode cX4_rankScans 93 = .ok (.iload_n 2, 1) := by decide +kernel
theorem dX4_rankScans_94 : decode cX4_rankScans 94 = .ok (.invokevirtual 68, 3) := by decide +kernel
theorem dX4_rankScans_97 : decode cX4_rankScans 97 = .ok (.iload_n 2, 1) := by decide +kernel
theorem dX4_rankScans_98 : decode cX4_rankScans 98 = .ok (.if_icmp .eq 6, 3) := by decide +kernel
theorem dX4_rankScans_101 : decode cX4_rankScans 101 = .ok (.iinc 1 1, 3) := by decide +kernel
theorem dX4_rankScans_104 : decode cX4_rankScans 104 = .ok (.iinc 2 1, 3) := by decide +kernel
theorem dX4_rankScans_107 : decode cX4_rankScans 107 = .ok (.goto (-26), 3) := by decide +kernel
theorem dX4_rankScans_110 : decode cX4_rankScans 110 = .ok (.iload_n 1, 1) := by decide +kernel
theorem dX4_rankScans_111 : decode cX4_rankScans 111 = .ok (.ireturn, 1) := by decide +kernel
theorem dX4_sortKey_0 : decode cX4_sortKey 0 = .ok (.aload_n 0, 1) := by decide +kernel
theorem dX4_sortKey_1 : decode cX4_sortKey 1 = .ok (.iload_n 1, 1) := by decide +kernel
theorem dX4_sortKey_2 : decode cX4_sortKey 2 = .ok (.invokevirtual 81, 3) := by decide +kernel
theorem dX4_sortKey_5 : decode cX4_sortKey 5 = .ok (.ifCond .eq 14, 3) := by decide +kernel
theorem dX4_sortKey_8 : decode cX4_sortKey 8 = .ok (.aload_n 0, 1) := by decide +kernel
theorem dX4_sortKey_9 : decode cX4_sortKey 9 = .ok (.getfield 14, 3) := by decide +kernel
theorem dX4_sortKey_12 : decode cX4_sortKey 12 = .ok (.iload_n 1, 1) := by decide +kernel
theorem dX4_sortKey_13 : decode cX4_sortKey 13 = .ok (.invokevirtual 68, 3) := by decide +kernel
theorem dX4_sortKey_16 : decode cX4_sortKey 16 = .ok (.goto 6, 3) := by decide +kernel
theorem dX4_sortKey_19 : decode cX4_sortKey 19 = .ok (.sipush 144, 3) := by decide +kernel
theorem dX4_sortKey_22 : decode cX4_sortKey 22 = .ok (.ireturn, 1) := by decide +kernel
theorem dX5_init_0 : decode cX5_init 0 = .ok (.aload_n 0, 1) := by decide +kernel
theorem dX5_init_1 : decode cX5_init 1 = .ok (.invokespecial 3, 3) := by decide +kernel
theorem dX5_init_4 : decode cX5_init 4 = .ok (.aload_n 0, 1) := by decide +kernel
theorem dX5_init_5 : decode cX5_init 5 = .ok (.new 9, 3) := by decide +kernel
theorem dX5_init_8 : decode cX5_init 8 = .ok (.dup, 1) := by decide +kernel
theorem dX5_init_9 : decode cX5_init 9 = .ok (.bipush 60, 2) := by decide +kernel
theorem dX5_init_11 : decode cX5_init 11 = .ok (.invokespecial 11, 3) := by decide +kernel
theorem dX5_init_14 : decode cX5_init 14 = .ok (.putfield 14, 3) := by decide +kernel
theorem dX5_init_17 : decode cX5_init 17 = .ok (.aload_n 0, 1) := by decide +kernel
theorem dX5_init_18 : decode cX5_init 18 = .ok (.new 9, 3) := by decide +kernel
theorem dX5_init_21 : decode cX5_init 21 = .ok (.dup, 1) := by decide +kernel
theorem dX5_init_22 : decode cX5_init 22 = .ok (.bipush 60, 2) := by decide +kernel
theorem dX5_init_24 : decode cX5_init 24 = .ok (.invokespecial 11, 3) := by decide +kernel
theorem dX5_init_27 : decode cX5_init 27 = .ok (.putfield 20, 3) := by decide +kernel
theorem dX5_init_30 : decode cX5_init 30 = .ok (.aload_n 0, 1) := by decide +kernel
theorem dX5_init_31 : decode cX5_init 31 = .ok (.new 9, 3) := by decide +kernel
theorem dX5_init_34 : decode cX5_init 34 = .ok (.dup, 1) := by decide +kernel
theorem dX5_init_35 : decode cX5_init 35 = .ok (.bipush 60, 2) := by decide +kernel
theorem dX5_init_37 : decode cX5_init 37 = .ok (.invokespecial 11, 3) := by decide +kernel
theorem dX5_init_40 : decode cX5_init 40 = .ok (.putfield 23, 3) := by decide +kernel
theorem dX5_init_43 : decode cX5_init 43 = .ok (.aload_n 0, 1) := by decide +kernel
theorem dX5_init_44 : decode cX5_init 44 = .ok (.iconst 0, 1) := by decide +kernel
theorem dX5_init_45 : decode cX5_init 45 = .ok (.putfield 26, 3) := by decide +kernel
theorem dX5_init_48 : decode cX5_init 48 = .ok (.return_, 1) := by decide +kernel
theorem dX5_clear_0 : decode cX5_clear 0 = .ok (.aload_n 0, 1) := by decide +kernel
theorem dX5_clear_1 : decode cX5_clear 1 = .ok (.iconst 0, 1) := by decide +kernel
theorem dX5_clear_2 : decode cX5_clear 2 = .ok (.putfield 26, 3) := by decide +kernel
theorem dX5_clear_5 : decode cX5_clear 5 = .ok (.return_, 1) := by decide +kernel
theorem dX5_copyFrom_0 : decode cX5_copyFrom 0 = .ok (.aload_n 0, 1) := by decide +kernel
theorem dX5_copyFrom_1 : decode cX5_copyFrom 1 = .ok (.getfield 14, 3) := by decide +kernel
theorem dX5_copyFrom_4 : decode cX5_copyFrom 4 = .ok (.aload_n 1, 1) := by decide +kernel
theorem dX5_copyFrom_5 : decode cX5_copyFrom 5 = .ok (.getfield 14, 3) := by decide +kernel
theorem dX5_copyFrom_8 : decode cX5_copyFrom 8 = .ok (.invokevirtual 30, 3) := by decide +kernel
theorem dX5_copyFrom_11 : decode cX5_copyFrom 11 = .ok (.aload_n 0, 1) := by decide +kernel
theorem dX5_copyFrom_12 : decode cX5_copyFrom 12 = .ok (.getfield 20, 3) := by decide +kernel
theorem dX5_copyFrom_15 : decode cX5_copyFrom 15 = .ok (.aload_n 1, 1) := by decide +kernel
theorem dX5_copyFrom_16 : decode cX5_copyFrom 16 = .ok (.getfield 20, 3) := by decide +kernel
theorem dX5_copyFrom_19 : decode cX5_copyFrom 19 = .ok (.invokevirtual 30, 3) := by decide +kernel
theorem dX5_copyFrom_22 : decode cX5_copyFrom 22 = .ok (.aload_n 0, 1) := by decide +kernel
theorem dX5_copyFrom_23 : decode cX5_copyFrom 23 = .ok (.getfield 23, 3) := by decide +kernel
theorem dX5_copyFrom_26 : decode cX5_copyFrom 26 = .ok (.aload_n 1, 1) := by decide +kernel
theorem dX5_copyFrom_27 : decode cX5_copyFrom 27 = .ok (.getfield 23, 3) := by decide +kernel
theorem dX5_copyFrom_30 : decode cX5_copyFrom 30 = .ok (.invokevirtual 30, 3) := by decide +kernel
theorem dX5_copyFrom_33 : decode cX5_copyFrom 33 = .ok (.aload_n 0, 1) := by decide +kernel
theorem dX5_copyFrom_34 : decode cX5_copyFrom 34 = .ok (.aload_n 1, 1) := by decide +kernel
theorem dX5_copyFrom_35 : decode cX5_copyFrom 35 = .ok (.getfield 26, 3) := by decide +kernel
theorem dX5_copyFrom_38 : decode cX5_copyFrom 38 = .ok (.putfield 26, 3) := by decide +kernel
theorem dX5_copyFrom_41 : decode cX5_copyFrom 41 = .ok (.return_, 1) := by decide +kernel
theorem dX5_size_0 : decode cX5_size 0 = .ok (.aload_n 0, 1) := by decide +kernel
theorem dX5_size_1 : decode cX5_size 1 = .ok (.getfield 26, 3) := by decide +kernel
theorem dX5_size_4 : decode cX5_size 4 = .ok (.ireturn, 1) := by decide +kernel
theorem dX5_takesScan_0 : decode cX5_takesScan 0 = .ok (.aload_n 0, 1) := by decide +kernel
theorem dX5_takesScan_1 : decode cX5_takesScan 1 = .ok (.getfield 26, 3) := by decide +kernel
theorem dX5_takesScan_4 : decode cX5_takesScan 4 = .ok (.bipush 60, 2) := by decide +kernel
theorem dX5_takesScan_6 : decode cX5_takesScan 6 = .ok (.if_icmp .ge 7, 3) := by decide +kernel
theorem dX5_takesScan_9 : decode cX5_takesScan 9 = .ok (.iconst 1, 1) := by decide +kernel
theorem dX5_takesScan_10 : decode cX5_takesScan 10 = .ok (.goto 4, 3) := by decide +kernel
theorem dX5_takesScan_13 : decode cX5_takesScan 13 = .ok (.iconst 0, 1) := by decide +kernel
theorem dX5_takesScan_14 : decode cX5_takesScan 14 = .ok (.ireturn, 1) := by decide +kernel
theorem dX5_kindOf_0 : decode cX5_kindOf 0 = .ok (.aload_n 0, 1) := by decide +kernel
theorem dX5_kindOf_1 : decode cX5_kindOf 1 = .ok (.getfield 14, 3) := by decide +kernel
theorem dX5_kindOf_4 : decode cX5_kindOf 4 = .ok (.iload_n 1, 1) := by decide +kernel
theorem dX5_kindOf_5 : decode cX5_kindOf 5 = .ok (.invokevirtual 34, 3) := by decide +kernel
theorem dX5_kindOf_8 : decode cX5_kindOf 8 = .ok (.ireturn, 1) := by decide +kernel
theorem dX5_firstOf_0 : decode cX5_firstOf 0 = .ok (.aload_n 0, 1) := by decide +kernel
theorem dX5_firstOf_1 : decode cX5_firstOf 1 = .ok (.getfield 20, 3) := by decide +kernel
theorem dX5_firstOf_4 : decode cX5_firstOf 4 = .ok (.iload_n 1, 1) := by decide +kernel
theorem dX5_firstOf_5 : decode cX5_firstOf 5 = .ok (.invokevirtual 34, 3) := by decide +kernel
theorem dX5_firstOf_8 : decode cX5_firstOf 8 = .ok (.ireturn, 1) := by decide +kernel
theorem dX5_secondOf_0 : decode cX5_secondOf 0 = .ok (.aload_n 0, 1) := by decide +kernel
theorem dX5_secondOf_1 : decode cX5_secondOf 1 = .ok (.getfield 23, 3) := by decide +kernel
theorem dX5_secondOf_4 : decode cX5_secondOf 4 = .ok (.iload_n 1, 1) := by decide +kernel
theorem dX5_secondOf_5 : decode cX5_secondOf 5 = .ok (.invokevirtual 34, 3) := by decide +kernel
theorem dX5_secondOf_8 : decode cX5_secondOf 8 = .ok (.ireturn, 1) := by decide +kernel
theorem dX5_put_0 : decode cX5_put 0 = .ok (.aload_n 0, 1) := by decide +kernel
theorem dX5_put_1 : decode cX5_put 1 = .ok (.getfield 14, 3) := by decide +kernel
theorem dX5_put_4 : decode cX5_put 4 = .ok (.iload_n 1, 1) := by decide +kernel
theorem dX5_put_5 : decode cX5_put 5 = .ok (.iload_n 2, 1) := by decide +kernel
theorem dX5_put_6 : decode cX5_put 6 = .ok (.invokevirtual 38, 3) := by decide +kernel
theorem dX5_put_9 : decode cX5_put 9 = .ok (.aload_n 0, 1) := by decide +kernel
theorem dX5_put_10 : decode cX5_put 10 = .ok (.getfield 20, 3) := by decide +kernel
theorem dX5_put_13 : decode cX5_put 13 = .ok (.iload_n 1, 1) := by decide +kernel
theorem dX5_put_14 : decode cX5_put 14 = .ok (.iload_n 3, 1) := by decide +kernel
theorem dX5_put_15 : decode cX5_put 15 = .ok (.invokevirtual 38, 3) := by decide +kernel
theorem dX5_put_18 : decode cX5_put 18 = .ok (.aload_n 0, 1) := by decide +kernel
theorem dX5_put_19 : decode cX5_put 19 = .ok (.getfield 23, 3) := by decide +kernel
theorem dX5_put_22 : decode cX5_put 22 = .ok (.iload_n 1, 1) := by decide +kernel
theorem dX5_put_23 : decode cX5_put 23 = .ok (.iload 4, 2) := by decide +kernel
theorem dX5_put_25 : decode cX5_put 25 = .ok (.invokevirtual 38, 3) := by decide +kernel
theorem dX5_put_28 : decode cX5_put 28 = .ok (.return_, 1) := by decide +kernel
theorem dX5_putFrom_0 : decode cX5_putFrom 0 = .ok (.aload_n 0, 1) := by decide +kernel
theorem dX5_putFrom_1 : decode cX5_putFrom 1 = .ok (.iload_n 3, 1) := by decide +kernel
theorem dX5_putFrom_2 : decode cX5_putFrom 2 = .ok (.aload_n 1, 1) := by decide +kernel
theorem dX5_putFrom_3 : decode cX5_putFrom 3 = .ok (.iload_n 2, 1) := by decide +kernel
theorem dX5_putFrom_4 : decode cX5_putFrom 4 = .ok (.invokevirtual 42, 3) := by decide +kernel
theorem dX5_putFrom_7 : decode cX5_putFrom 7 = .ok (.aload_n 1, 1) := by decide +kernel
theorem dX5_putFrom_8 : decode cX5_putFrom 8 = .ok (.iload_n 2, 1) := by decide +kernel
theorem dX5_putFrom_9 : decode cX5_putFrom 9 = .ok (.invokevirtual 45, 3) := by decide +kernel
theorem dX5_putFrom_12 : decode cX5_putFrom 12 = .ok (.aload_n 1, 1) := by decide +kernel
theorem dX5_putFrom_13 : decode cX5_putFrom 13 = .ok (.iload_n 2, 1) := by decide +kernel
theorem dX5_putFrom_14 : decode cX5_putFrom 14 = .ok (.invokevirtual 48, 3) := by decide +kernel
theorem dX5_putFrom_17 : decode cX5_putFrom 17 = .ok (.invokevirtual 51, 3) := by decide +kernel
theorem dX5_putFrom_20 : decode cX5_putFrom 20 = .ok (.return_, 1) := by decide +kernel
theorem dX5_add_0 : decode cX5_add 0 = .ok (.aload_n 0, 1) := by decide +kernel
theorem dX5_add_1 : decode cX5_add 1 = .ok (.invokevirtual 54, 3) := by decide +kernel
theorem dX5_add_4 : decode cX5_add 4 = .ok (.ifCond .eq 24, 3) := by decide +kernel
theorem dX5_add_7 : decode cX5_add 7 = .ok (.aload_n 0, 1) := by decide +kernel
theorem dX5_add_8 : decode cX5_add 8 = .ok (.aload_n 0, 1) := by decide +kernel
theorem dX5_add_9 : decode cX5_add 9 = .ok (.getfield 26, 3) := by decide +kernel
theorem dX5_add_12 : decode cX5_add 12 = .ok (.iload_n 1, 1) := by decide +kernel
theorem dX5_add_13 : decode cX5_add 13 = .ok (.iload_n 2, 1) := by decide +kernel
theorem dX5_add_14 : decode cX5_add 14 = .ok (.iload_n 3, 1) := by decide +kernel
theorem dX5_add_15 : decode cX5_add 15 = .ok (.invokevirtual 51, 3) := by decide +kernel
theorem dX5_add_18 : decode cX5_add 18 = .ok (.aload_n 0, 1) := by decide +kernel
theorem dX5_add_19 : decode cX5_add 19 = .ok (.dup, 1) := by decide +kernel
theorem dX5_add_20 : decode cX5_add 20 = .ok (.getfield 26, 3) := by decide +kernel
theorem dX5_add_23 : decode cX5_add 23 = .ok (.iconst 1, 1) := by decide +kernel
theorem dX5_add_24 : decode cX5_add 24 = .ok (.iadd, 1) := by decide +kernel
theorem dX5_add_25 : decode cX5_add 25 = .ok (.putfield 26, 3) := by decide +kernel
theorem dX5_add_28 : decode cX5_add 28 = .ok (.return_, 1) := by decide +kernel
theorem dX5_shift_0 : decode cX5_shift 0 = .ok (.aload_n 0, 1) := by decide +kernel
theorem dX5_shift_1 : decode cX5_shift 1 = .ok (.iload_n 1, 1) := by decide +kernel
theorem dX5_shift_2 : decode cX5_shift 2 = .ok (.invokevirtual 42, 3) := by decide +kernel
theorem dX5_shift_5 : decode cX5_shift 5 = .ok (.istore_n 3, 1) := by decide +kernel
theorem dX5_shift_6 : decode cX5_shift 6 = .ok (.aload_n 0, 1) := by decide +kernel
theorem dX5_shift_7 : decode cX5_shift 7 = .ok (.iload_n 1, 1) := by decide +kernel
theorem dX5_shift_8 : decode cX5_shift 8 = .ok (.invokevirtual 45, 3) := by decide +kernel
theorem dX5_shift_11 : decode cX5_shift 11 = .ok (.istore 4, 2) := by decide +kernel
theorem dX5_shift_13 : decode cX5_shift 13 = .ok (.aload_n 0, 1) := by decide +kernel
theorem dX5_shift_14 : decode cX5_shift 14 = .ok (.iload_n 1, 1) := by decide +kernel
theorem dX5_shift_15 : decode cX5_shift 15 = .ok (.invokevirtual 48, 3) := by decide +kernel
theorem dX5_shift_18 : decode cX5_shift 18 = .ok (.istore 5, 2) := by decide +kernel
theorem dX5_shift_20 : decode cX5_shift 20 = .ok (.iload_n 1, 1) := by decide +kernel
theorem dX5_shift_21 : decode cX5_shift 21 = .ok (.istore 6, 2) := by decide +kernel
theorem dX5_shift_23 : decode cX5_shift 23 = .ok (.iload 6, 2) := by decide +kernel
theorem dX5_shift_25 : decode cX5_shift 25 = .ok (.iload_n 2, 1) := by decide +kernel
theorem dX5_shift_26 : decode cX5_shift 26 = .ok (.if_icmp .ge 20, 3) := by decide +kernel
theorem dX5_shift_29 : decode cX5_shift 29 = .ok (.aload_n 0, 1) := by decide +kernel
theorem dX5_shift_30 : decode cX5_shift 30 = .ok (.aload_n 0, 1) := by decide +kernel
theorem dX5_shift_31 : decode cX5_shift 31 = .ok (.iload 6, 2) := by decide +kernel
theorem dX5_shift_33 : decode cX5_shift 33 = .ok (.iconst 1, 1) := by decide +kernel
theorem dX5_shift_34 : decode cX5_shift 34 = .ok (.iadd, 1) := by decide +kernel
theorem dX5_shift_35 : decode cX5_shift 35 = .ok (.iload 6, 2) := by decide +kernel
theorem dX5_shift_37 : decode cX5_shift 37 = .ok (.invokevirtual 58, 3) := by decide +kernel
theorem dX5_shift_40 : decode cX5_shift 40 = .ok (.iinc 6 1, 3) := by decide +kernel
theorem dX5_shift_43 : decode cX5_shift 43 = .ok (.goto (-20), 3) := by decide +kernel
theorem dX5_shift_46 : decode cX5_shift 46 = .ok (.iload_n 1, 1) := by decide +kernel
theorem dX5_shift_47 : decode cX5_shift 47 = .ok (.istore 6, 2) := by decide +kernel
theorem dX5_shift_49 : decode cX5_shift 49 = .ok (.iload 6, 2) := by decide +kernel
theorem dX5_shift_51 : decode cX5_shift 51 = .ok (.iload_n 2, 1) := by decide +kernel
theorem dX5_shift_52 : decode cX5_shift 52 = .ok (.if_icmp .le 20, 3) := by decide +kernel
theorem dX5_shift_55 : decode cX5_shift 55 = .ok (.aload_n 0, 1) := by decide +kernel
theorem dX5_shift_56 : decode cX5_shift 56 = .ok (.aload_n 0, 1) := by decide +kernel
theorem dX5_shift_57 : decode cX5_shift 57 = .ok (.iload 6, 2) := by decide +kernel
theorem dX5_shift_59 : decode cX5_shift 59 = .ok (.iconst 1, 1) := by decide +kernel
theorem dX5_shift_60 : decode cX5_shift 60 = .ok (.isub, 1) := by decide +kernel
theorem dX5_shift_61 : decode cX5_shift 61 = .ok (.iload 6, 2) := by decide +kernel
theorem dX5_shift_63 : decode cX5_shift 63 = .ok (.invokevirtual 58, 3) := by decide +kernel
theorem dX5_shift_66 : decode cX5_shift 66 = .ok (.iinc 6 (-1), 3) := by decide +kernel
theorem dX5_shift_69 : decode cX5_shift 69 = .ok (.goto (-20), 3) := by decide +kernel
theorem dX5_shift_72 : decode cX5_shift 72 = .ok (.aload_n 0, 1) := by decide +kernel
theorem dX5_shift_73 : decode cX5_shift 73 = .ok (.iload_n 2, 1) := by decide +kernel
theorem dX5_shift_74 : decode cX5_shift 74 = .ok (.iload_n 3, 1) := by decide +kernel
theorem dX5_shift_75 : decode cX5_shift 75 = .ok (.iload 4, 2) := by decide +kernel
theorem dX5_shift_77 : decode cX5_shift 77 = .ok (.iload 5, 2) := by decide +kernel
theorem dX5_shift_79 : decode cX5_shift 79 = .ok (.invokevirtual 51, 3) := by decide +kernel
theorem dX5_shift_82 : decode cX5_shift 82 = .ok (.return_, 1) := by decide +kernel
theorem dX5_dropAt_0 : decode cX5_dropAt 0 = .ok (.iload_n 1, 1) := by decide +kernel
theorem dX5_dropAt_1 : decode cX5_dropAt 1 = .ok (.ifCond .lt 32, 3) := by decide +kernel
theorem dX5_dropAt_4 : decode cX5_dropAt 4 = .ok (.iload_n 1, 1) := by decide +kernel
theorem dX5_dropAt_5 : decode cX5_dropAt 5 = .ok (.aload_n 0, 1) := by decide +kernel
theorem dX5_dropAt_6 : decode cX5_dropAt 6 = .ok (.getfield 26, 3) := by decide +kernel
theorem dX5_dropAt_9 : decode cX5_dropAt 9 = .ok (.if_icmp .ge 24, 3) := by decide +kernel
theorem dX5_dropAt_12 : decode cX5_dropAt 12 = .ok (.aload_n 0, 1) := by decide +kernel
theorem dX5_dropAt_13 : decode cX5_dropAt 13 = .ok (.iload_n 1, 1) := by decide +kernel
theorem dX5_dropAt_14 : decode cX5_dropAt 14 = .ok (.aload_n 0, 1) := by decide +kernel
theorem dX5_dropAt_15 : decode cX5_dropAt 15 = .ok (.getfield 26, 3) := by decide +kernel
theorem dX5_dropAt_18 : decode cX5_dropAt 18 = .ok (.iconst 1, 1) := by decide +kernel
theorem dX5_dropAt_19 : decode cX5_dropAt 19 = .ok (.isub, 1) := by decide +kernel
theorem dX5_dropAt_20 : decode cX5_dropAt 20 = .ok (.invokevirtual 62, 3) := by decide +kernel
theorem dX5_dropAt_23 : decode cX5_dropAt 23 = .ok (.aload_n 0, 1) := by decide +kernel
theorem dX5_dropAt_24 : decode cX5_dropAt 24 = .ok (.dup, 1) := by decide +kernel
theorem dX5_dropAt_25 : decode cX5_dropAt 25 = .ok (.getfield 26, 3) := by decide +kernel
theorem dX5_dropAt_28 : decode cX5_dropAt 28 = .ok (.iconst 1, 1) := by decide +kernel
theorem dX5_dropAt_29 : decode cX5_dropAt 29 = .ok (.isub, 1) := by decide +kernel
theorem dX5_dropAt_30 : decode cX5_dropAt 30 = .ok (.putfield 26, 3) := by decide +kernel
theorem dX5_dropAt_33 : decode cX5_dropAt 33 = .ok (.return_, 1) := by decide +kernel
theorem dX5_arrange_0 : decode cX5_arrange 0 = .ok (.iconst 0, 1) := by decide +kernel
theorem dX5_arrange_1 : decode cX5_arrange 1 = .ok (.istore_n 3, 1) := by decide +kernel
theorem dX5_arrange_2 : decode cX5_arrange 2 = .ok (.iload_n 3, 1) := by decide +kernel
theorem dX5_arrange_3 : decode cX5_arrange 3 = .ok (.aload_n 0, 1) := by decide +kernel
theorem dX5_arrange_4 : decode cX5_arrange 4 = .ok (.getfield 26, 3) := by decide +kernel
theorem dX5_arrange_7 : decode cX5_arrange 7 = .ok (.if_icmp .ge 20, 3) := by decide +kernel
theorem dX5_arrange_10 : decode cX5_arrange 10 = .ok (.aload_n 0, 1) := by decide +kernel
theorem dX5_arrange_11 : decode cX5_arrange 11 = .ok (.aload_n 1, 1) := by decide +kernel
theorem dX5_arrange_12 : decode cX5_arrange 12 = .ok (.aload_n 2, 1) := by decide +kernel
theorem dX5_arrange_13 : decode cX5_arrange 13 = .ok (.iload_n 3, 1) := by decide +kernel
theorem dX5_arrange_14 : decode cX5_arrange 14 = .ok (.invokevirtual 34, 3) := by decide +kernel
theorem dX5_arrange_17 : decode cX5_arrange 17 = .ok (.iload_n 3, 1) := by decide +kernel
theorem dX5_arrange_18 : decode cX5_arrange 18 = .ok (.invokevirtual 58, 3) := by decide +kernel
theorem dX5_arrange_21 : decode cX5_arrange 21 = .ok (.iinc 3 1, 3) := by decide +kernel
theorem dX5_arrange_24 : decode cX5_arrange 24 = .ok (.goto (-22), 3) := by decide +kernel
theorem dX5_arrange_27 : decode cX5_arrange 27 = .ok (.return_, 1) := by decide +kernel
theorem dX6_init_0 : decode cX6_init 0 = .ok (.aload_n 0, 1) := by decide +kernel
theorem dX6_init_1 : decode cX6_init 1 = .ok (.invokespecial 3, 3) := by decide +kernel
theorem dX6_init_4 : decode cX6_init 4 = .ok (.aload_n 0, 1) := by decide +kernel
theorem dX6_init_5 : decode cX6_init 5 = .ok (.new 9, 3) := by decide +kernel
theorem dX6_init_8 : decode cX6_init 8 = .ok (.dup, 1) := by decide +kernel
theorem dX6_init_9 : decode cX6_init 9 = .ok (.invokespecial 11, 3) := by decide +kernel
theorem dX6_init_12 : decode cX6_init 12 = .ok (.putfield 12, 3) := by decide +kernel
theorem dX6_init_15 : decode cX6_init 15 = .ok (.aload_n 0, 1) := by decide +kernel
theorem dX6_init_16 : decode cX6_init 16 = .ok (.new 18, 3) := by decide +kernel
theorem dX6_init_19 : decode cX6_init 19 = .ok (.dup, 1) := by decide +kernel
theorem dX6_init_20 : decode cX6_init 20 = .ok (.sipush 600, 3) := by decide +kernel
theorem dX6_init_23 : decode cX6_init 23 = .ok (.invokespecial 20, 3) := by decide +kernel
theorem dX6_init_26 : decode cX6_init 26 = .ok (.putfield 23, 3) := by decide +kernel
theorem dX6_init_29 : decode cX6_init 29 = .ok (.aload_n 0, 1) := by decide +kernel
theorem dX6_init_30 : decode cX6_init 30 = .ok (.iconst 0, 1) := by decide +kernel
theorem dX6_init_31 : decode cX6_init 31 = .ok (.putfield 27, 3) := by decide +kernel
theorem dX6_init_34 : decode cX6_init 34 = .ok (.aload_n 0, 1) := by decide +kernel
theorem dX6_init_35 : decode cX6_init 35 = .ok (.iconst 0, 1) := by decide +kernel
theorem dX6_init_36 : decode cX6_init 36 = .ok (.putfield 31, 3) := by decide +kernel
theorem dX6_init_39 : decode cX6_init 39 = .ok (.aload_n 0, 1) := by decide +kernel
theorem dX6_init_40 : decode cX6_init 40 = .ok (.iconst 0, 1) := by decide +kernel
theorem dX6_init_41 : decode cX6_init 41 = .ok (.putfield 34, 3) := by decide +kernel
theorem dX6_init_44 : decode cX6_init 44 = .ok (.aload_n 0, 1) := by decide +kernel
theorem dX6_init_45 : decode cX6_init 45 = .ok (.iconst (-1), 1) := by decide +kernel
theorem dX6_init_46 : decode cX6_init 46 = .ok (.putfield 37, 3) := by decide +kernel
theorem dX6_init_49 : decode cX6_init 49 = .ok (.return_, 1) := by decide +kernel
theorem dX6_firstError_0 : decode cX6_firstError 0 = .ok (.aload_n 0, 1) := by decide +kernel
theorem dX6_firstError_1 : decode cX6_firstError 1 = .ok (.getfield 12, 3) := by decide +kernel
theorem dX6_firstError_4 : decode cX6_firstError 4 = .ok (.invokevirtual 40, 3) := by decide +kernel
theorem dX6_firstError_7 : decode cX6_firstError 7 = .ok (.aload_n 0, 1) := by decide +kernel
theorem dX6_firstError_8 : decode cX6_firstError 8 = .ok (.iconst 0, 1) := by decide +kernel
theorem dX6_firstError_9 : decode cX6_firstError 9 = .ok (.putfield 34, 3) := by decide +kernel
theorem dX6_firstError_12 : decode cX6_firstError 12 = .ok (.aload_n 0, 1) := by decide +kernel
theorem dX6_firstError_13 : decode cX6_firstError 13 = .ok (.invokevirtual 43, 3) := by decide +kernel
theorem dX6_firstError_16 : decode cX6_firstError 16 = .ok (.aload_n 0, 1) := by decide +kernel
theorem dX6_firstError_17 : decode cX6_firstError 17 = .ok (.invokevirtual 46, 3) := by decide +kernel
theorem dX6_firstError_20 : decode cX6_firstError 20 = .ok (.istore_n 1, 1) := by decide +kernel
theorem dX6_firstError_21 : decode cX6_firstError 21 = .ok (.iconst 0, 1) := by decide +kernel
theorem dX6_firstError_22 : decode cX6_firstError 22 = .ok (.istore_n 2, 1) := by decide +kernel
theorem dX6_firstError_23 : decode cX6_firstError 23 = .ok (.iload_n 2, 1) := by decide +kernel
theorem dX6_firstError_24 : decode cX6_firstError 24 = .ok (.aload_n 0, 1) := by decide +kernel
theorem dX6_firstError_25 : decode cX6_firstError 25 = .ok (.getfield 23, 3) := by decide +kernel
theorem dX6_firstError_28 : decode cX6_firstError 28 = .ok (.invokevirtual 50, 3) := by decide +kernel
theorem dX6_firstError_31 : decode cX6_firstError 31 = .ok (.if_icmp .ge 29, 3) := by decide +kernel
theorem dX6_firstError_34 : decode cX6_firstError 34 = .ok (.iload_n 1, 1) := by decide +kernel
theorem dX6_firstError_35 : decode cX6_firstError 35 = .ok (.ifCond .eq 25, 3) := by decide +kernel
theorem dX6_firstError_38 : decode cX6_firstError 38 = .ok (.aload_n 0, 1) := by decide +kernel
theorem dX6_firstError_39 : decode cX6_firstError 39 = .ok (.invokevirtual 54, 3) := by decide +kernel
theorem dX6_firstError_42 : decode cX6_firstError 42 = .ok (.ifCond .eq 18, 3) := by decide +kernel
theorem dX6_firstError_45 : decode cX6_firstError 45 = .ok (.aload_n 0, 1) := by decide +kernel
theorem dX6_firstError_46 : decode cX6_firstError 46 = .ok (.invokevirtual 43, 3) := by decide +kernel
theorem dX6_firstError_49 : decode cX6_firstError 49 = .ok (.aload_n 0, 1) := by decide +kernel
theorem dX6_firstError_50 : decode cX6_firstError 50 = .ok (.invokevirtual 46, 3) := by decide +kernel
theorem dX6_firstError_53 : decode cX6_firstError 53 = .ok (.istore_n 1, 1) := by decide +kernel
theorem dX6_firstError_54 : decode cX6_firstError 54 = .ok (.iinc 2 1, 3) := by decide +kernel
theorem dX6_firstError_57 : decode cX6_firstError 57 = .ok (.goto (-34), 3) := by decide +kernel
theorem dX6_firstError_60 : decode cX6_firstError 60 = .ok (.iload_n 1, 1) := by decide +kernel
theorem dX6_firstError_61 : decode cX6_firstError 61 = .ok (.ifCond .eq 14, 3) := by decide +kernel
theorem dX6_firstError_64 : decode cX6_firstError 64 = .ok (.aload_n 0, 1) := by decide +kernel
theorem dX6_firstError_65 : decode cX6_firstError 65 = .ok (.getfield 27, 3) := by decide +kernel
theorem dX6_firstError_68 : decode cX6_firstError 68 = .ok (.ifCond .ne 7, 3) := by decide +kernel
theorem dX6_firstError_71 : decode cX6_firstError 71 = .ok (.iconst (-1), 1) := by decide +kernel
theorem dX6_firstError_72 : decode cX6_firstError 72 = .ok (.goto 7, 3) := by decide +kernel
theorem dX6_firstError_75 : decode cX6_firstError 75 = .ok (.aload_n 0, 1) := by decide +kernel
theorem dX6_firstError_76 : decode cX6_firstError 76 = .ok (.getfield 31, 3) := by decide +kernel
theorem dX6_firstError_79 : decode cX6_firstError 79 = .ok (.ireturn, 1) := by decide +kernel
theorem dX6_readStatement_0 : decode cX6_readStatement 0 = .ok (.aload_n 0, 1) := by decide +kernel
theorem dX6_readStatement_1 : decode cX6_readStatement 1 = .ok (.ldc 57, 2) := by decide +kernel
theorem dX6_readStatement_3 : decode cX6_readStatement 3 = .ok (.invokevirtual 59, 3) := by decide +kernel
theorem dX6_readStatement_6 : decode cX6_readStatement 6 = .ok (.ifCond .eq 8, 3) := by decide +kernel
theorem dX6_readStatement_9 : decode cX6_readStatement 9 = .ok (.aload_n 0, 1) := by decide +kernel
theorem dX6_readStatement_10 : decode cX6_readStatement 10 = .ok (.invokevirtual 63, 3) := by decide +kernel
theorem dX6_readStatement_13 : decode cX6_readStatement 13 = .ok (.ireturn, 1) := by decide +kernel
theorem dX6_readStatement_14 : decode cX6_readStatement 14 = .ok (.aload_n 0, 1) := by decide +kernel
theorem dX6_readStatement_15 : decode cX6_readStatement 15 = .ok (.getfield 12, 3) := by decide +kernel
theorem dX6_readStatement_18 : decode cX6_readStatement 18 = .ok (.getfield 66, 3) := by decide +kernel
theorem dX6_readStatement_21 : decode cX6_readStatement 21 = .ok (.invokevirtual 70, 3) := by decide +kernel
theorem dX6_readStatement_24 : decode cX6_readStatement 24 = .ok (.ifCond .ne 5, 3) := by decide +kernel
theorem dX6_readStatement_27 : decode cX6_readStatement 27 = .ok (.iconst 0, 1) := by decide +kernel
theorem dX6_readStatement_28 : decode cX6_readStatement 28 = .ok (.ireturn, 1) := by decide +kernel
theorem dX6_readStatement_29 : decode cX6_readStatement 29 = .ok (.aload_n 0, 1) := by decide +kernel
theorem dX6_readStatement_30 : decode cX6_readStatement 30 = .ok (.ldc 75, 2) := by decide +kernel
theorem dX6_readStatement_32 : decode cX6_readStatement 32 = .ok (.invokevirtual 59, 3) := by decide +kernel
theorem dX6_readStatement_35 : decode cX6_readStatement 35 = .ok (.ifCond .eq 8, 3) := by decide +kernel
theorem dX6_readStatement_38 : decode cX6_readStatement 38 = .ok (.aload_n 0, 1) := by decide +kernel
theorem dX6_readStatement_39 : decode cX6_readStatement 39 = .ok (.invokevirtual 77, 3) := by decide +kernel
theorem dX6_readStatement_42 : decode cX6_readStatement 42 = .ok (.ireturn, 1) := by decide +kernel
theorem dX6_readStatement_43 : decode cX6_readStatement 43 = .ok (.aload_n 0, 1) := by decide +kernel
theorem dX6_readStatement_44 : decode cX6_readStatement 44 = .ok (.ldc 80, 2) := by decide +kernel
theorem dX6_readStatement_46 : decode cX6_readStatement 46 = .ok (.invokevirtual 59, 3) := by decide +kernel
theorem dX6_readStatement_49 : decode cX6_readStatement 49 = .ok (.ifCond .eq 8, 3) := by decide +kernel
theorem dX6_readStatement_52 : decode cX6_readStatement 52 = .ok (.aload_n 0, 1) := by decide +kernel
theorem dX6_readStatement_53 : decode cX6_readStatement 53 = .ok (.invokevirtual 82, 3) := by decide +kernel
theorem dX6_readStatement_56 : decode cX6_readStatement 56 = .ok (.ireturn, 1) := by decide +kernel
theorem dX6_readStatement_57 : decode cX6_readStatement 57 = .ok (.aload_n 0, 1) := by decide +kernel
theorem dX6_readStatement_58 : decode cX6_readStatement 58 = .ok (.ldc 85, 2) := by decide +kernel
theorem dX6_readStatement_60 : decode cX6_readStatement 60 = .ok (.invokevirtual 59, 3) := by decide +kernel
theorem dX6_readStatement_63 : decode cX6_readStatement 63 = .ok (.ifCond .eq 14, 3) := by decide +kernel
theorem dX6_readStatement_66 : decode cX6_readStatement 66 = .ok (.aload_n 0, 1) := by decide +kernel
theorem dX6_readStatement_67 : decode cX6_readStatement 67 = .ok (.invokevirtual 87, 3) := by decide +kernel
theorem dX6_readStatement_70 : decode cX6_readStatement 70 = .ok (.ifCond .eq 7, 3) := by decide +kernel
theorem dX6_readStatement_73 : decode cX6_readStatement 73 = .ok (.iconst 1, 1) := by decide +kernel
theorem dX6_readStatement_74 : decode cX6_readStatement 74 = .ok (.goto 4, 3) := by decide +kernel
theorem dX6_readStatement_77 : decode cX6_readStatement 77 = .ok (.iconst 0, 1) := by decide +kernel
theorem dX6_readStatement_78 : decode cX6_readStatement 78 = .ok (.ireturn, 1) := by decide +kernel
theorem dX6_readQuire_0 : decode cX6_readQuire 0 = .ok (.aload_n 0, 1) := by decide +kernel
theorem dX6_readQuire_1 : decode cX6_readQuire 1 = .ok (.getfield 12, 3) := by decide +kernel
theorem dX6_readQuire_4 : decode cX6_readQuire 4 = .ok (.getfield 66, 3) := by decide +kernel
theorem dX6_readQuire_7 : decode cX6_readQuire 7 = .ok (.invokevirtual 90, 3) := by decide +kernel
theorem dX6_readQuire_10 : decode cX6_readQuire 10 = .ok (.ifCond .ne 5, 3) := by decide +kernel
theorem dX6_readQuire_13 : decode cX6_readQuire 13 = .ok (.iconst 0, 1) := by decide +kernel
theorem dX6_readQuire_14 : decode cX6_readQuire 14 = .ok (.ireturn, 1) := by decide +kernel
theorem dX6_readQuire_15 : decode cX6_readQuire 15 = .ok (.aload_n 0, 1) := by decide +kernel
theorem dX6_readQuire_16 : decode cX6_readQuire 16 = .ok (.invokevirtual 43, 3) := by decide +kernel
theorem dX6_readQuire_19 : decode cX6_readQuire 19 = .ok (.aload_n 0, 1) := by decide +kernel
theorem dX6_readQuire_20 : decode cX6_readQuire 20 = .ok (.getfield 12, 3) := by decide +kernel
theorem dX6_readQuire_23 : decode cX6_readQuire 23 = .ok (.getfield 66, 3) := by decide +kernel
theorem dX6_readQuire_26 : decode cX6_readQuire 26 = .ok (.aload_n 0, 1) := by decide +kernel
theorem dX6_readQuire_27 : decode cX6_readQuire 27 = .ok (.getfield 37, 3) := by decide +kernel
theorem dX6_readQuire_30 : decode cX6_readQuire 30 = .ok (.invokevirtual 93, 3) := by decide +kernel
theorem dX6_readQuire_33 : decode cX6_readQuire 33 = .ok (.ifCond .ne 5, 3) := by decide +kernel
theorem dX6_readQuire_36 : decode cX6_readQuire 36 = .ok (.iconst 0, 1) := by decide +kernel
theorem dX6_readQuire_37 : decode cX6_readQuire 37 = .ok (.ireturn, 1) := by decide +kernel
theorem dX6_readQuire_38 : decode cX6_readQuire 38 = .ok (.aload_n 0, 1) := by decide +kernel
theorem dX6_readQuire_39 : decode cX6_readQuire 39 = .ok (.getfield 12, 3) := by decide +kernel
theorem dX6_readQuire_42 : decode cX6_readQuire 42 = .ok (.getfield 66, 3) := by decide +kernel
theorem dX6_readQuire_45 : decode cX6_readQuire 45 = .ok (.aload_n 0, 1) := by decide +kernel
theorem dX6_readQuire_46 : decode cX6_readQuire 46 = .ok (.getfield 37, 3) := by decide +kernel
theorem dX6_readQuire_49 : decode cX6_readQuire 49 = .ok (.invokevirtual 97, 3) := by decide +kernel
theorem dX6_readQuire_52 : decode cX6_readQuire 52 = .ok (.aload_n 0, 1) := by decide +kernel
theorem dX6_readQuire_53 : decode cX6_readQuire 53 = .ok (.invokevirtual 43, 3) := by decide +kernel
theorem dX6_readQuire_56 : decode cX6_readQuire 56 = .ok (.iconst 1, 1) := by decide +kernel
theorem dX6_readQuire_57 : decode cX6_readQuire 57 = .ok (.ireturn, 1) := by decide +kernel
theorem dX6_readMissing_0 : decode cX6_readMissing 0 = .ok (.aload_n 0, 1) := by decide +kernel
theorem dX6_readMissing_1 : decode cX6_readMissing 1 = .ok (.invokevirtual 43, 3) := by decide +kernel
theorem dX6_readMissing_4 : decode cX6_readMissing 4 = .ok (.aload_n 0, 1) := by decide +kernel
theorem dX6_readMissing_5 : decode cX6_readMissing 5 = .ok (.getfield 37, 3) := by decide +kernel
theorem dX6_readMissing_8 : decode cX6_readMissing 8 = .ok (.istore_n 1, 1) := by decide +kernel
theorem dX6_readMissing_9 : decode cX6_readMissing 9 = .ok (.aload_n 0, 1) := by decide +kernel
theorem dX6_readMissing_10 : decode cX6_readMissing 10 = .ok (.getfield 12, 3) := by decide +kernel
theorem dX6_readMissing_13 : decode cX6_readMissing 13 = .ok (.getfield 66, 3) := by decide +kernel
theorem dX6_readMissing_16 : decode cX6_readMissing 16 = .ok (.iload_n 1, 1) := by decide +kernel
theorem dX6_readMissing_17 : decode cX6_readMissing 17 = .ok (.invokevirtual 100, 3) := by decide +kernel
theorem dX6_readMissing_20 : decode cX6_readMissing 20 = .ok (.ifCond .eq 18, 3) := by decide +kernel
theorem dX6_readMissing_23 : decode cX6_readMissing 23 = .ok (.aload_n 0, 1) := by decide +kernel
theorem dX6_readMissing_24 : decode cX6_readMissing 24 = .ok (.getfield 12, 3) := by decide +kernel
theorem dX6_readMissing_27 : decode cX6_readMissing 27 = .ok (.getfield 66, 3) := by decide +kernel
theorem dX6_readMissing_30 : decode cX6_readMissing 30 = .ok (.iload_n 1, 1) := by decide +kernel
theorem dX6_readMissing_31 : decode cX6_readMissing 31 = .ok (.iload_n 1, 1) := by decide +kernel
theorem dX6_readMissing_32 : decode cX6_readMissing 32 = .ok (.invokevirtual 103, 3) := by decide +kernel
theorem dX6_readMissing_35 : decode cX6_readMissing 35 = .ok (.ifCond .eq 5, 3) := by decide +kernel
theorem dX6_readMissing_38 : decode cX6_readMissing 38 = .ok (.iconst 0, 1) := by decide +kernel
theorem dX6_readMissing_39 : decode cX6_readMissing 39 = .ok (.ireturn, 1) := by decide +kernel
theorem dX6_readMissing_40 : decode cX6_readMissing 40 = .ok (.aload_n 0, 1) := by decide +kernel
theorem dX6_readMissing_41 : decode cX6_readMissing 41 = .ok (.invokevirtual 43, 3) := by decide +kernel
theorem dX6_readMissing_44 : decode cX6_readMissing 44 = .ok (.iload_n 1, 1) := by decide +kernel
theorem dX6_readMissing_45 : decode cX6_readMissing 45 = .ok (.istore_n 2, 1) := by decide +kernel
theorem dX6_readMissing_46 : decode cX6_readMissing 46 = .ok (.aload_n 0, 1) := by decide +kernel
theorem dX6_readMissing_47 : decode cX6_readMissing 47 = .ok (.getfield 27, 3) := by decide +kernel
theorem dX6_readMissing_50 : decode cX6_readMissing 50 = .ok (.iconst 2, 1) := by decide +kernel
theorem dX6_readMissing_51 : decode cX6_readMissing 51 = .ok (.if_icmp .ne 48, 3) := by decide +kernel
theorem dX6_readMissing_54 : decode cX6_readMissing 54 = .ok (.aload_n 0, 1) := by decide +kernel
theorem dX6_readMissing_55 : decode cX6_readMissing 55 = .ok (.getfield 37, 3) := by decide +kernel
theorem dX6_readMissing_58 : decode cX6_readMissing 58 = .ok (.istore_n 2, 1) := by decide +kernel
theorem dX6_readMissing_59 : decode cX6_readMissing 59 = .ok (.aload_n 0, 1) := by decide +kernel
theorem dX6_readMissing_60 : decode cX6_readMissing 60 = .ok (.getfield 12, 3) := by decide +kernel
theorem dX6_readMissing_63 : decode cX6_readMissing 63 = .ok (.getfield 66, 3) := by decide +kernel
theorem dX6_readMissing_66 : decode cX6_readMissing 66 = .ok (.iload_n 2, 1) := by decide +kernel
theorem dX6_readMissing_67 : decode cX6_readMissing 67 = .ok (.invokevirtual 100, 3) := by decide +kernel
theorem dX6_readMissing_70 : decode cX6_readMissing 70 = .ok (.ifCond .eq 23, 3) := by decide +kernel
theorem dX6_readMissing_73 : decode cX6_readMissing 73 = .ok (.iload_n 2, 1) := by decide +kernel
theorem dX6_readMissing_74 : decode cX6_readMissing 74 = .ok (.iload_n 1, 1) := by decide +kernel
theorem dX6_readMissing_75 : decode cX6_readMissing 75 = .ok (.if_icmp .lt 18, 3) := by decide +kernel
theorem dX6_readMissing_78 : decode cX6_readMissing 78 = .ok (.aload_n 0, 1) := by decide +kernel
theorem dX6_readMissing_79 : decode cX6_readMissing 79 = .ok (.getfield 12, 3) := by decide +kernel
theorem dX6_readMissing_82 : decode cX6_readMissing 82 = .ok (.getfield 66, 3) := by decide +kernel
theorem dX6_readMissing_85 : decode cX6_readMissing 85 = .ok (.iload_n 1, 1) := by decide +kernel
theorem dX6_readMissing_86 : decode cX6_readMissing 86 = .ok (.iload_n 2, 1) := by decide +kernel
theorem dX6_readMissing_87 : decode cX6_readMissing 87 = .ok (.invokevirtual 103, 3) := by decide +kernel
theorem dX6_readMissing_90 : decode cX6_readMissing 90 = .ok (.ifCond .eq 5, 3) := by decide +kernel
theorem dX6_readMissing_93 : decode cX6_readMissing 93 = .ok (.iconst 0, 1) := by decide +kernel
theorem dX6_readMissing_94 : decode cX6_readMissing 94 = .ok (.ireturn, 1) := by decide +kernel
theorem dX6_readMissing_95 : decode cX6_readMissing 95 = .ok (.aload_n 0, 1) := by decide +kernel
theorem dX6_readMissing_96 : decode cX6_readMissing 96 = .ok (.invokevirtual 43, 3) := by decide +kernel
theorem dX6_readMissing_99 : decode cX6_readMissing 99 = .ok (.iload_n 1, 1) := by decide +kernel
theorem dX6_readMissing_100 : decode cX6_readMissing 100 = .ok (.istore_n 3, 1) := by decide +kernel
theorem dX6_readMissing_101 : decode cX6_readMissing 101 = .ok (.iload_n 3, 1) := by decide +kernel
theorem dX6_readMissing_102 : decode cX6_readMissing 102 = .ok (.iload_n 2, 1) := by decide +kernel
theorem dX6_readMissing_103 : decode cX6_readMissing 103 = .ok (.if_icmp .gt 21, 3) := by decide +kernel
theorem dX6_readMissing_106 : decode cX6_readMissing 106 = .ok (.aload_n 0, 1) := by decide +kernel
theorem dX6_readMissing_107 : decode cX6_readMissing 107 = .ok (.getfield 12, 3) := by decide +kernel
theorem dX6_readMissing_110 : decode cX6_readMissing 110 = .ok (.getfield 66, 3) := by decide +kernel
theorem dX6_readMissing_113 : decode cX6_readMissing 113 = .ok (.iload_n 3, 1) := by decide +kernel
theorem dX6_readMissing_114 : decode cX6_readMissing 114 = .ok (.iconst 1, 1) := by decide +kernel
theorem dX6_readMissing_115 : decode cX6_readMissing 115 = .ok (.invokevirtual 107, 3) := by decide +kernel
theorem dX6_readMissing_118 : decode cX6_readMissing 118 = .ok (.iinc 3 1, 3) := by decide +kernel
theorem dX6_readMissing_121 : decode cX6_readMissing 121 = .ok (.goto (-20), 3) := by decide +kernel
theorem dX6_readMissing_124 : decode cX6_readMissing 124 = .ok (.iconst 1, 1) := by decide +kernel
theorem dX6_readMissing_125 : decode cX6_readMissing 125 = .ok (.ireturn, 1) := by decide +kernel
theorem dX6_readSlip_0 : decode cX6_readSlip 0 = .ok (.aload_n 0, 1) := by decide +kernel
theorem dX6_readSlip_1 : decode cX6_readSlip 1 = .ok (.getfield 12, 3) := by decide +kernel
theorem dX6_readSlip_4 : decode cX6_readSlip 4 = .ok (.getfield 66, 3) := by decide +kernel
theorem dX6_readSlip_7 : decode cX6_readSlip 7 = .ok (.invokevirtual 111, 3) := by decide +kernel
theorem dX6_readSlip_10 : decode cX6_readSlip 10 = .ok (.ifCond .ne 5, 3) := by decide +kernel
theorem dX6_readSlip_13 : decode cX6_readSlip 13 = .ok (.iconst 0, 1) := by decide +kernel
theorem dX6_readSlip_14 : decode cX6_readSlip 14 = .ok (.ireturn, 1) := by decide +kernel
theorem dX6_readSlip_15 : decode cX6_readSlip 15 = .ok (.aload_n 0, 1) := by decide +kernel
theorem dX6_readSlip_16 : decode cX6_readSlip 16 = .ok (.invokevirtual 43, 3) := by decide +kernel
theorem dX6_readSlip_19 : decode cX6_readSlip 19 = .ok (.aload_n 0, 1) := by decide +kernel
theorem dX6_readSlip_20 : decode cX6_readSlip 20 = .ok (.getfield 37, 3) := by decide +kernel
theorem dX6_readSlip_23 : decode cX6_readSlip 23 = .ok (.istore_n 1, 1) := by decide +kernel
theorem dX6_readSlip_24 : decode cX6_readSlip 24 = .ok (.aload_n 0, 1) := by decide +kernel
theorem dX6_readSlip_25 : decode cX6_readSlip 25 = .ok (.getfield 12, 3) := by decide +kernel
theorem dX6_readSlip_28 : decode cX6_readSlip 28 = .ok (.getfield 66, 3) := by decide +kernel
theorem dX6_readSlip_31 : decode cX6_readSlip 31 = .ok (.iload_n 1, 1) := by decide +kernel
theorem dX6_readSlip_32 : decode cX6_readSlip 32 = .ok (.invokevirtual 114, 3) := by decide +kernel
theorem dX6_readSlip_35 : decode cX6_readSlip 35 = .ok (.ifCond .ne 5, 3) := by decide +kernel
theorem dX6_readSlip_38 : decode cX6_readSlip 38 = .ok (.iconst 0, 1) := by decide +kernel
theorem dX6_readSlip_39 : decode cX6_readSlip 39 = .ok (.ireturn, 1) := by decide +kernel
theorem dX6_readSlip_40 : decode cX6_readSlip 40 = .ok (.aload_n 0, 1) := by decide +kernel
theorem dX6_readSlip_41 : decode cX6_readSlip 41 = .ok (.invokevirtual 43, 3) := by decide +kernel
theorem dX6_readSlip_44 : decode cX6_readSlip 44 = .ok (.aload_n 0, 1) := by decide +kernel
theorem dX6_readSlip_45 : decode cX6_readSlip 45 = .ok (.invokevirtual 117, 3) := by decide +kernel
theorem dX6_readSlip_48 : decode cX6_readSlip 48 = .ok (.istore_n 2, 1) := by decide +kernel
theorem dX6_readSlip_49 : decode cX6_readSlip 49 = .ok (.iload_n 2, 1) := by decide +kernel
theorem dX6_readSlip_50 : decode cX6_readSlip 50 = .ok (.iconst (-1), 1) := by decide +kernel
theorem dX6_readSlip_51 : decode cX6_readSlip 51 = .ok (.if_icmp .ne 5, 3) := by decide +kernel
theorem dX6_readSlip_54 : decode cX6_readSlip 54 = .ok (.iconst 0, 1) := by decide +kernel
theorem dX6_readSlip_55 : decode cX6_readSlip 55 = .ok (.ireturn, 1) := by decide +kernel
theorem dX6_readSlip_56 : decode cX6_readSlip 56 = .ok (.aload_n 0, 1) := by decide +kernel
theorem dX6_readSlip_57 : decode cX6_readSlip 57 = .ok (.invokevirtual 43, 3) := by decide +kernel
theorem dX6_readSlip_60 : decode cX6_readSlip 60 = .ok (.aload_n 0, 1) := by decide +kernel
theorem dX6_readSlip_61 : decode cX6_readSlip 61 = .ok (.getfield 37, 3) := by decide +kernel
theorem dX6_readSlip_64 : decode cX6_readSlip 64 = .ok (.invokestatic 120, 3) := by decide +kernel
theorem dX6_readSlip_67 : decode cX6_readSlip 67 = .ok (.ifCond .ne 5, 3) := by decide +kernel
theorem dX6_readSlip_70 : decode cX6_readSlip 70 = .ok (.iconst 0, 1) := by decide +kernel
theorem dX6_readSlip_71 : decode cX6_readSlip 71 = .ok (.ireturn, 1) := by decide +kernel
theorem dX6_readSlip_72 : decode cX6_readSlip 72 = .ok (.aload_n 0, 1) := by decide +kernel
theorem dX6_readSlip_73 : decode cX6_readSlip 73 = .ok (.getfield 12, 3) := by decide +kernel
theorem dX6_readSlip_76 : decode cX6_readSlip 76 = .ok (.getfield 66, 3) := by decide +kernel
theorem dX6_readSlip_79 : decode cX6_readSlip 79 = .ok (.iload_n 1, 1) := by decide +kernel
theorem dX6_readSlip_80 : decode cX6_readSlip 80 = .ok (.iload_n 2, 1) := by decide +kernel
theorem dX6_readSlip_81 : decode cX6_readSlip 81 = .ok (.aload_n 0, 1) := by decide +kernel
theorem dX6_readSlip_82 : decode cX6_readSlip 82 = .ok (.getfield 37, 3) := by decide +kernel
theorem dX6_readSlip_85 : decode cX6_readSlip 85 = .ok (.invokevirtual 123, 3) := by decide +kernel
theorem dX6_readSlip_88 : decode cX6_readSlip 88 = .ok (.aload_n 0, 1) := by decide +kernel
theorem dX6_readSlip_89 : decode cX6_readSlip 89 = .ok (.invokevirtual 43, 3) := by decide +kernel
theorem dX6_readSlip_92 : decode cX6_readSlip 92 = .ok (.iconst 1, 1) := by decide +kernel
theorem dX6_readSlip_93 : decode cX6_readSlip 93 = .ok (.ireturn, 1) := by decide +kernel
theorem dX6_readLabel_0 : decode cX6_readLabel 0 = .ok (.aload_n 0, 1) := by decide +kernel
theorem dX6_readLabel_1 : decode cX6_readLabel 1 = .ok (.getfield 12, 3) := by decide +kernel
theorem dX6_readLabel_4 : decode cX6_readLabel 4 = .ok (.getfield 127, 3) := by decide +kernel
theorem dX6_readLabel_7 : decode cX6_readLabel 7 = .ok (.invokevirtual 131, 3) := by decide +kernel
theorem dX6_readLabel_10 : decode cX6_readLabel 10 = .ok (.ifCond .ne 5, 3) := by decide +kernel
theorem dX6_readLabel_13 : decode cX6_readLabel 13 = .ok (.iconst 0, 1) := by decide +kernel
theorem dX6_readLabel_14 : decode cX6_readLabel 14 = .ok (.ireturn, 1) := by decide +kernel
theorem dX6_readLabel_15 : decode cX6_readLabel 15 = .ok (.aload_n 0, 1) := by decide +kernel
theorem dX6_readLabel_16 : decode cX6_readLabel 16 = .ok (.invokevirtual 43, 3) := by decide +kernel
theorem dX6_readLabel_19 : decode cX6_readLabel 19 = .ok (.aload_n 0, 1) := by decide +kernel
theorem dX6_readLabel_20 : decode cX6_readLabel 20 = .ok (.getfield 37, 3) := by decide +kernel
theorem dX6_readLabel_23 : decode cX6_readLabel 23 = .ok (.istore_n 1, 1) := by decide +kernel
theorem dX6_readLabel_24 : decode cX6_readLabel 24 = .ok (.aload_n 0, 1) := by decide +kernel
theorem dX6_readLabel_25 : decode cX6_readLabel 25 = .ok (.getfield 12, 3) := by decide +kernel
theorem dX6_readLabel_28 : decode cX6_readLabel 28 = .ok (.getfield 66, 3) := by decide +kernel
theorem dX6_readLabel_31 : decode cX6_readLabel 31 = .ok (.iload_n 1, 1) := by decide +kernel
theorem dX6_readLabel_32 : decode cX6_readLabel 32 = .ok (.invokevirtual 100, 3) := by decide +kernel
theorem dX6_readLabel_35 : decode cX6_readLabel 35 = .ok (.ifCond .ne 5, 3) := by decide +kernel
theorem dX6_readLabel_38 : decode cX6_readLabel 38 = .ok (.iconst 0, 1) := by decide +kernel
theorem dX6_readLabel_39 : decode cX6_readLabel 39 = .ok (.ireturn, 1) := by decide +kernel
theorem dX6_readLabel_40 : decode cX6_readLabel 40 = .ok (.aload_n 0, 1) := by decide +kernel
theorem dX6_readLabel_41 : decode cX6_readLabel 41 = .ok (.invokevirtual 43, 3) := by decide +kernel
theorem dX6_readLabel_44 : decode cX6_readLabel 44 = .ok (.aload_n 0, 1) := by decide +kernel
theorem dX6_readLabel_45 : decode cX6_readLabel 45 = .ok (.getfield 37, 3) := by decide +kernel
theorem dX6_readLabel_48 : decode cX6_readLabel 48 = .ok (.istore_n 2, 1) := by decide +kernel
theorem dX6_readLabel_49 : decode cX6_readLabel 49 = .ok (.aload_n 0, 1) := by decide +kernel
theorem dX6_readLabel_50 : decode cX6_readLabel 50 = .ok (.getfield 12, 3) := by decide +kernel
theorem dX6_readLabel_53 : decode cX6_readLabel 53 = .ok (.getfield 66, 3) := by decide +kernel
theorem dX6_readLabel_56 : decode cX6_readLabel 56 = .ok (.iload_n 2, 1) := by decide +kernel
theorem dX6_readLabel_57 : decode cX6_readLabel 57 = .ok (.invokevirtual 100, 3) := by decide +kernel
theorem dX6_readLabel_60 : decode cX6_readLabel 60 = .ok (.ifCond .eq 8, 3) := by decide +kernel
theorem dX6_readLabel_63 : decode cX6_readLabel 63 = .ok (.iload_n 2, 1) := by decide +kernel
theorem dX6_readLabel_64 : decode cX6_readLabel 64 = .ok (.iload_n 1, 1) := by decide +kernel
theorem dX6_readLabel_65 : decode cX6_readLabel 65 = .ok (.if_icmp .ge 5, 3) := by decide +kernel
theorem dX6_readLabel_68 : decode cX6_readLabel 68 = .ok (.iconst 0, 1) := by decide +kernel
theorem dX6_readLabel_69 : decode cX6_readLabel 69 = .ok (.ireturn, 1) := by decide +kernel
theorem dX6_readLabel_70 : decode cX6_readLabel 70 = .ok (.aload_n 0, 1) := by decide +kernel
theorem dX6_readLabel_71 : decode cX6_readLabel 71 = .ok (.invokevirtual 43, 3) := by decide +kernel
theorem dX6_readLabel_74 : decode cX6_readLabel 74 = .ok (.aload_n 0, 1) := by decide +kernel
theorem dX6_readLabel_75 : decode cX6_readLabel 75 = .ok (.invokevirtual 136, 3) := by decide +kernel
theorem dX6_readLabel_78 : decode cX6_readLabel 78 = .ok (.istore_n 3, 1) := by decide +kernel
theorem dX6_readLabel_79 : decode cX6_readLabel 79 = .ok (.iload_n 3, 1) := by decide +kernel
theorem dX6_readLabel_80 : decode cX6_readLabel 80 = .ok (.iconst (-1), 1) := by decide +kernel
theorem dX6_readLabel_81 : decode cX6_readLabel 81 = .ok (.if_icmp .ne 5, 3) := by decide +kernel
theorem dX6_readLabel_84 : decode cX6_readLabel 84 = .ok (.iconst 0, 1) := by decide +kernel
theorem dX6_readLabel_85 : decode cX6_readLabel 85 = .ok (.ireturn, 1) := by decide +kernel
theorem dX6_readLabel_86 : decode cX6_readLabel 86 = .ok (.aload_n 0, 1) := by decide +kernel
theorem dX6_readLabel_87 : decode cX6_readLabel 87 = .ok (.invokevirtual 43, 3) := by decide +kernel
theorem dX6_readLabel_90 : decode cX6_readLabel 90 = .ok (.aload_n 0, 1) := by decide +kernel
theorem dX6_readLabel_91 : decode cX6_readLabel 91 = .ok (.getfield 37, 3) := by decide +kernel
theorem dX6_readLabel_94 : decode cX6_readLabel 94 = .ok (.invokestatic 139, 3) := by decide +kernel
theorem dX6_readLabel_97 : decode cX6_readLabel 97 = .ok (.ifCond .ne 5, 3) := by decide +kernel
theorem dX6_readLabel_100 : decode cX6_readLabel 100 = .ok (.iconst 0, 1) := by decide +kernel
theorem dX6_readLabel_101 : decode cX6_readLabel 101 = .ok (.ireturn, 1) := by decide +kernel
theorem dX6_readLabel_102 : decode cX6_readLabel 102 = .ok (.aload_n 0, 1) := by decide +kernel
theorem dX6_readLabel_103 : decode cX6_readLabel 103 = .ok (.getfield 12, 3) := by decide +kernel
theorem dX6_readLabel_106 : decode cX6_readLabel 106 = .ok (.getfield 127, 3) := by decide +kernel
theorem dX6_readLabel_109 : decode cX6_readLabel 109 = .ok (.iload_n 1, 1) := by decide +kernel
theorem dX6_readLabel_110 : decode cX6_readLabel 110 = .ok (.iload_n 2, 1) := by decide +kernel
theorem dX6_readLabel_111 : decode cX6_readLabel 111 = .ok (.iload_n 3, 1) := by decide +kernel
theorem dX6_readLabel_112 : decode cX6_readLabel 112 = .ok (.aload_n 0, 1) := by decide +kernel
theorem dX6_readLabel_113 : decode cX6_readLabel 113 = .ok (.getfield 37, 3) := by decide +kernel
theorem dX6_readLabel_116 : decode cX6_readLabel 116 = .ok (.invokevirtual 142, 3) := by decide +kernel
theorem dX6_readLabel_119 : decode cX6_readLabel 119 = .ok (.aload_n 0, 1) := by decide +kernel
theorem dX6_readLabel_120 : decode cX6_readLabel 120 = .ok (.invokevirtual 43, 3) := by decide +kernel
theorem dX6_readLabel_123 : decode cX6_readLabel 123 = .ok (.iconst 1, 1) := by decide +kernel
theorem dX6_readLabel_124 : decode cX6_readLabel 124 = .ok (.ireturn, 1) := by decide +kernel
theorem dX6_sideNamed_0 : decode cX6_sideNamed 0 = .ok (.aload_n 0, 1) := by decide +kernel
theorem dX6_sideNamed_1 : decode cX6_sideNamed 1 = .ok (.ldc 146, 2) := by decide +kernel
theorem dX6_sideNamed_3 : decode cX6_sideNamed 3 = .ok (.invokevirtual 59, 3) := by decide +kernel
theorem dX6_sideNamed_6 : decode cX6_sideNamed 6 = .ok (.ifCond .eq 5, 3) := by decide +kernel
theorem dX6_sideNamed_9 : decode cX6_sideNamed 9 = .ok (.iconst 0, 1) := by decide +kernel
theorem dX6_sideNamed_10 : decode cX6_sideNamed 10 = .ok (.ireturn, 1) := by decide +kernel
theorem dX6_sideNamed_11 : decode cX6_sideNamed 11 = .ok (.aload_n 0, 1) := by decide +kernel
theorem dX6_sideNamed_12 : decode cX6_sideNamed 12 = .ok (.ldc 148, 2) := by decide +kernel
theorem dX6_sideNamed_14 : decode cX6_sideNamed 14 = .ok (.invokevirtual 59, 3) := by decide +kernel
theorem dX6_sideNamed_17 : decode cX6_sideNamed 17 = .ok (.ifCond .eq 7, 3) := by decide +kernel
theorem dX6_sideNamed_20 : decode cX6_sideNamed 20 = .ok (.iconst 1, 1) := by decide +kernel
theorem dX6_sideNamed_21 : decode cX6_sideNamed 21 = .ok (.goto 4, 3) := by decide +kernel
theorem dX6_sideNamed_24 : decode cX6_sideNamed 24 = .ok (.iconst (-1), 1) := by decide +kernel
theorem dX6_sideNamed_25 : decode cX6_sideNamed 25 = .ok (.ireturn, 1) := by decide +kernel
theorem dX6_styleNamed_0 : decode cX6_styleNamed 0 = .ok (.aload_n 0, 1) := by decide +kernel
theorem dX6_styleNamed_1 : decode cX6_styleNamed 1 = .ok (.ldc 150, 2) := by decide +kernel
theorem dX6_styleNamed_3 : decode cX6_styleNamed 3 = .ok (.invokevirtual 59, 3) := by decide +kernel
theorem dX6_styleNamed_6 : decode cX6_styleNamed 6 = .ok (.ifCond .eq 5, 3) := by decide +kernel
theorem dX6_styleNamed_9 : decode cX6_styleNamed 9 = .ok (.iconst 0, 1) := by decide +kernel
theorem dX6_styleNamed_10 : decode cX6_styleNamed 10 = .ok (.ireturn, 1) := by decide +kernel
theorem dX6_styleNamed_11 : decode cX6_styleNamed 11 = .ok (.aload_n 0, 1) := by decide +kernel
theorem dX6_styleNamed_12 : decode cX6_styleNamed 12 = .ok (.ldc 152, 2) := by decide +kernel
theorem dX6_styleNamed_14 : decode cX6_styleNamed 14 = .ok (.invokevirtual 59, 3) := by decide +kernel
theorem dX6_styleNamed_17 : decode cX6_styleNamed 17 = .ok (.ifCond .eq 5, 3) := by decide +kernel
theorem dX6_styleNamed_20 : decode cX6_styleNamed 20 = .ok (.iconst 1, 1) := by decide +kernel
theorem dX6_styleNamed_21 : decode cX6_styleNamed 21 = .ok (.ireturn, 1) := by decide +kernel
theorem dX6_styleNamed_22 : decode cX6_styleNamed 22 = .ok (.aload_n 0, 1) := by decide +kernel
theorem dX6_styleNamed_23 : decode cX6_styleNamed 23 = .ok (.ldc 154, 2) := by decide +kernel
theorem dX6_styleNamed_25 : decode cX6_styleNamed 25 = .ok (.invokevirtual 59, 3) := by decide +kernel
theorem dX6_styleNamed_28 : decode cX6_styleNamed 28 = .ok (.ifCond .eq 5, 3) := by decide +kernel
theorem dX6_styleNamed_31 : decode cX6_styleNamed 31 = .ok (.iconst 2, 1) := by decide +kernel
theorem dX6_styleNamed_32 : decode cX6_styleNamed 32 = .ok (.ireturn, 1) := by decide +kernel
theorem dX6_styleNamed_33 : decode cX6_styleNamed 33 = .ok (.aload_n 0, 1) := by decide +kernel
theorem dX6_styleNamed_34 : decode cX6_styleNamed 34 = .ok (.ldc 156, 2) := by decide +kernel
theorem dX6_styleNamed_36 : decode cX6_styleNamed 36 = .ok (.invokevirtual 59, 3) := by decide +kernel
theorem dX6_styleNamed_39 : decode cX6_styleNamed 39 = .ok (.ifCond .eq 7, 3) := by decide +kernel
theorem dX6_styleNamed_42 : decode cX6_styleNamed 42 = .ok (.iconst 3, 1) := by decide +kernel
theorem dX6_styleNamed_43 : decode cX6_styleNamed 43 = .ok (.goto 4, 3) := by decide +kernel
theorem dX6_styleNamed_46 : decode cX6_styleNamed 46 = .ok (.iconst (-1), 1) := by decide +kernel
theorem dX6_styleNamed_47 : decode cX6_styleNamed 47 = .ok (.ireturn, 1) := by decide +kernel
theorem dX6_nextToken_0 : decode cX6_nextToken 0 = .ok (.aload_n 0, 1) := by decide +kernel
theorem dX6_nextToken_1 : decode cX6_nextToken 1 = .ok (.aload_n 0, 1) := by decide +kernel
theorem dX6_nextToken_2 : decode cX6_nextToken 2 = .ok (.getfield 34, 3) := by decide +kernel
theorem dX6_nextToken_5 : decode cX6_nextToken 5 = .ok (.putfield 31, 3) := by decide +kernel
theorem dX6_nextToken_8 : decode cX6_nextToken 8 = .ok (.aload_n 0, 1) := by decide +kernel
theorem dX6_nextToken_9 : decode cX6_nextToken 9 = .ok (.getfield 31, 3) := by decide +kernel
theorem dX6_nextToken_12 : decode cX6_nextToken 12 = .ok (.aload_n 0, 1) := by decide +kernel
theorem dX6_nextToken_13 : decode cX6_nextToken 13 = .ok (.getfield 23, 3) := by decide +kernel
theorem dX6_nextToken_16 : decode cX6_nextToken 16 = .ok (.invokevirtual 50, 3) := by decide +kernel
theorem dX6_nextToken_19 : decode cX6_nextToken 19 = .ok (.if_icmp .ge 32, 3) := by decide +kernel
theorem dX6_nextToken_22 : decode cX6_nextToken 22 = .ok (.aload_n 0, 1) := by decide +kernel
theorem dX6_nextToken_23 : decode cX6_nextToken 23 = .ok (.getfield 23, 3) := by decide +kernel
theorem dX6_nextToken_26 : decode cX6_nextToken 26 = .ok (.aload_n 0, 1) := by decide +kernel
theorem dX6_nextToken_27 : decode cX6_nextToken 27 = .ok (.getfield 31, 3) := by decide +kernel
theorem dX6_nextToken_30 : decode cX6_nextToken 30 = .ok (.invokevirtual 158, 3) := by decide +kernel
theorem dX6_nextToken_33 : decode cX6_nextToken 33 = .ok (.bipush 32, 2) := by decide +kernel
theorem dX6_nextToken_35 : decode cX6_nextToken 35 = .ok (.if_icmp .ne 16, 3) := by decide +kernel
theorem dX6_nextToken_38 : decode cX6_nextToken 38 = .ok (.aload_n 0, 1) := by decide +kernel
theorem dX6_nextToken_39 : decode cX6_nextToken 39 = .ok (.dup, 1) := by decide +kernel
theorem dX6_nextToken_40 : decode cX6_nextToken 40 = .ok (.getfield 31, 3) := by decide +kernel
theorem dX6_nextToken_43 : decode cX6_nextToken 43 = .ok (.iconst 1, 1) := by decide +kernel
theorem dX6_nextToken_44 : decode cX6_nextToken 44 = .ok (.iadd, 1) := by decide +kernel
theorem dX6_nextToken_45 : decode cX6_nextToken 45 = .ok (.putfield 31, 3) := by decide +kernel
theorem dX6_nextToken_48 : decode cX6_nextToken 48 = .ok (.goto (-40), 3) := by decide +kernel
theorem dX6_nextToken_51 : decode cX6_nextToken 51 = .ok (.aload_n 0, 1) := by decide +kernel
theorem dX6_nextToken_52 : decode cX6_nextToken 52 = .ok (.aload_n 0, 1) := by decide +kernel
theorem dX6_nextToken_53 : decode cX6_nextToken 53 = .ok (.getfield 23, 3) := by decide +kernel
theorem dX6_nextToken_56 : decode cX6_nextToken 56 = .ok (.aload_n 0, 1) := by decide +kernel
theorem dX6_nextToken_57 : decode cX6_nextToken 57 = .ok (.getfield 31, 3) := by decide +kernel
theorem dX6_nextToken_60 : decode cX6_nextToken 60 = .ok (.invokevirtual 158, 3) := by decide +kernel
theorem dX6_nextToken_63 : decode cX6_nextToken 63 = .ok (.invokestatic 162, 3) := by decide +kernel
theorem dX6_nextToken_66 : decode cX6_nextToken 66 = .ok (.putfield 27, 3) := by decide +kernel
theorem dX6_nextToken_69 : decode cX6_nextToken 69 = .ok (.aload_n 0, 1) := by decide +kernel
theorem dX6_nextToken_70 : decode cX6_nextToken 70 = .ok (.aload_n 0, 1) := by decide +kernel
theorem dX6_nextToken_71 : decode cX6_nextToken 71 = .ok (.getfield 31, 3) := by decide +kernel
theorem dX6_nextToken_74 : decode cX6_nextToken 74 = .ok (.putfield 34, 3) := by decide +kernel
theorem dX6_nextToken_77 : decode cX6_nextToken 77 = .ok (.aload_n 0, 1) := by decide +kernel
theorem dX6_nextToken_78 : decode cX6_nextToken 78 = .ok (.getfield 27, 3) := by decide +kernel
theorem dX6_nextToken_81 : decode cX6_nextToken 81 = .ok (.iconst 3, 1) := by decide +kernel
theorem dX6_nextToken_82 : decode cX6_nextToken 82 = .ok (.if_icmp .ne 13, 3) := by decide +kernel
theorem dX6_nextToken_85 : decode cX6_nextToken 85 = .ok (.aload_n 0, 1) := by decide +kernel
theorem dX6_nextToken_86 : decode cX6_nextToken 86 = .ok (.dup, 1) := by decide +kernel
theorem dX6_nextToken_87 : decode cX6_nextToken 87 = .ok (.getfield 34, 3) := by decide +kernel
theorem dX6_nextToken_90 : decode cX6_nextToken 90 = .ok (.iconst 1, 1) := by decide +kernel
theorem dX6_nextToken_91 : decode cX6_nextToken 91 = .ok (.iadd, 1) := by decide +kernel
theorem dX6_nextToken_92 : decode cX6_nextToken 92 = .ok (.putfield 34, 3) := by decide +kernel
theorem dX6_nextToken_95 : decode cX6_nextToken 95 = .ok (.aload_n 0, 1) := by decide +kernel
theorem dX6_nextToken_96 : decode cX6_nextToken 96 = .ok (.getfield 34, 3) := by decide +kernel
theorem dX6_nextToken_99 : decode cX6_nextToken 99 = .ok (.aload_n 0, 1) := by decide +kernel
theorem dX6_nextToken_100 : decode cX6_nextToken 100 = .ok (.getfield 23, 3) := by decide +kernel
theorem dX6_nextToken_103 : decode cX6_nextToken 103 = .ok (.invokevirtual 50, 3) := by decide +kernel
theorem dX6_nextToken_106 : decode cX6_nextToken 106 = .ok (.if_icmp .ge 45, 3) := by decide +kernel
theorem dX6_nextToken_109 : decode cX6_nextToken 109 = .ok (.aload_n 0, 1) := by decide +kernel
theorem dX6_nextToken_110 : decode cX6_nextToken 110 = .ok (.getfield 27, 3) := by decide +kernel
theorem dX6_nextToken_113 : decode cX6_nextToken 113 = .ok (.iconst 3, 1) := by decide +kernel
theorem dX6_nextToken_114 : decode cX6_nextToken 114 = .ok (.if_icmp .eq 37, 3) := by decide +kernel
theorem dX6_nextToken_117 : decode cX6_nextToken 117 = .ok (.aload_n 0, 1) := by decide +kernel
theorem dX6_nextToken_118 : decode cX6_nextToken 118 = .ok (.getfield 23, 3) := by decide +kernel
theorem dX6_nextToken_121 : decode cX6_nextToken 121 = .ok (.aload_n 0, 1) := by decide +kernel
theorem dX6_nextToken_122 : decode cX6_nextToken 122 = .ok (.getfield 34, 3) := by decide +kernel
theorem dX6_nextToken_125 : decode cX6_nextToken 125 = .ok (.invokevirtual 158, 3) := by decide +kernel
theorem dX6_nextToken_128 : decode cX6_nextToken 128 = .ok (.invokestatic 162, 3) := by decide +kernel
theorem dX6_nextToken_131 : decode cX6_nextToken 131 = .ok (.aload_n 0, 1) := by decide +kernel
theorem dX6_nextToken_132 : decode cX6_nextToken 132 = .ok (.getfield 27, 3) := by decide +kernel
theorem dX6_nextToken_135 : decode cX6_nextToken 135 = .ok (.if_icmp .ne 16, 3) := by decide +kernel
theorem dX6_nextToken_138 : decode cX6_nextToken 138 = .ok (.aload_n 0, 1) := by decide +kernel
theorem dX6_nextToken_139 : decode cX6_nextToken 139 = .ok (.dup, 1) := by decide +kernel
theorem dX6_nextToken_140 : decode cX6_nextToken 140 = .ok (.getfield 34, 3) := by decide +kernel
theorem dX6_nextToken_143 : decode cX6_nextToken 143 = .ok (.iconst 1, 1) := by decide +kernel
theorem dX6_nextToken_144 : decode cX6_nextToken 144 = .ok (.iadd, 1) := by decide +kernel
theorem dX6_nextToken_145 : decode cX6_nextToken 145 = .ok (.putfield 34, 3) := by decide +kernel
theorem dX6_nextToken_148 : decode cX6_nextToken 148 = .ok (.goto (-53), 3) := by decide +kernel
theorem dX6_nextToken_151 : decode cX6_nextToken 151 = .ok (.aload_n 0, 1) := by decide +kernel
theorem dX6_nextToken_152 : decode cX6_nextToken 152 = .ok (.aload_n 0, 1) := by decide +kernel
theorem dX6_nextToken_153 : decode cX6_nextToken 153 = .ok (.getfield 27, 3) := by decide +kernel
theorem dX6_nextToken_156 : decode cX6_nextToken 156 = .ok (.iconst 2, 1) := by decide +kernel
theorem dX6_nextToken_157 : decode cX6_nextToken 157 = .ok (.if_icmp .ne 10, 3) := by decide +kernel
theorem dX6_nextToken_160 : decode cX6_nextToken 160 = .ok (.aload_n 0, 1) := by decide +kernel
theorem dX6_nextToken_161 : decode cX6_nextToken 161 = .ok (.invokevirtual 165, 3) := by decide +kernel
theorem dX6_nextToken_164 : decode cX6_nextToken 164 = .ok (.goto 4, 3) := by decide +kernel
theorem dX6_nextToken_167 : decode cX6_nextToken 167 = .ok (.iconst (-1), 1) := by decide +kernel
theorem dX6_nextToken_168 : decode cX6_nextToken 168 = .ok (.putfield 37, 3) := by decide +kernel
theorem dX6_nextToken_171 : decode cX6_nextToken 171 = .ok (.return_, 1) := by decide +kernel
theorem dX6_kindOf_0 : decode cX6_kindOf 0 = .ok (.iload_n 0, 1) := by decide +kernel
theorem dX6_kindOf_1 : decode cX6_kindOf 1 = .ok (.iconst (-1), 1) := by decide +kernel
theorem dX6_kindOf_2 : decode cX6_kindOf 2 = .ok (.if_icmp .ne 5, 3) := by decide +kernel
theorem dX6_kindOf_5 : decode cX6_kindOf 5 = .ok (.iconst 0, 1) := by decide +kernel
theorem dX6_kindOf_6 : decode cX6_kindOf 6 = .ok (.ireturn, 1) := by decide +kernel
theorem dX6_kindOf_7 : decode cX6_kindOf 7 = .ok (.iload_n 0, 1) := by decide +kernel
theorem dX6_kindOf_8 : decode cX6_kindOf 8 = .ok (.bipush 97, 2) := by decide +kernel
theorem dX6_kindOf_10 : decode cX6_kindOf 10 = .ok (.if_icmp .lt 11, 3) := by decide +kernel
theorem dX6_kindOf_13 : decode cX6_kindOf 13 = .ok (.iload_n 0, 1) := by decide +kernel
theorem dX6_kindOf_14 : decode cX6_kindOf 14 = .ok (.bipush 122, 2) := by decide +kernel
theorem dX6_kindOf_16 : decode cX6_kindOf 16 = .ok (.if_icmp .gt 5, 3) := by decide +kernel
theorem dX6_kindOf_19 : decode cX6_kindOf 19 = .ok (.iconst 1, 1) := by decide +kernel
theorem dX6_kindOf_20 : decode cX6_kindOf 20 = .ok (.ireturn, 1) := by decide +kernel
theorem dX6_kindOf_21 : decode cX6_kindOf 21 = .ok (.iload_n 0, 1) := by decide +kernel
theorem dX6_kindOf_22 : decode cX6_kindOf 22 = .ok (.bipush 48, 2) := by decide +kernel
theorem dX6_kindOf_24 : decode cX6_kindOf 24 = .ok (.if_icmp .lt 13, 3) := by decide +kernel
theorem dX6_kindOf_27 : decode cX6_kindOf 27 = .ok (.iload_n 0, 1) := by decide +kernel
theorem dX6_kindOf_28 : decode cX6_kindOf 28 = .ok (.bipush 57, 2) := by decide +kernel
theorem dX6_kindOf_30 : decode cX6_kindOf 30 = .ok (.if_icmp .gt 7, 3) := by decide +kernel
theorem dX6_kindOf_33 : decode cX6_kindOf 33 = .ok (.iconst 2, 1) := by decide +kernel
theorem dX6_kindOf_34 : decode cX6_kindOf 34 = .ok (.goto 4, 3) := by decide +kernel
theorem dX6_kindOf_37 : decode cX6_kindOf 37 = .ok (.iconst 3, 1) := by decide +kernel
theorem dX6_kindOf_38 : decode cX6_kindOf 38 = .ok (.ireturn, 1) := by decide +kernel
theorem dX6_numberRead_0 : decode cX6_numberRead 0 = .ok (.aload_n 0, 1) := by decide +kernel
theorem dX6_numberRead_1 : decode cX6_numberRead 1 = .ok (.getfield 34, 3) := by decide +kernel
theorem dX6_numberRead_4 : decode cX6_numberRead 4 = .ok (.aload_n 0, 1) := by decide +kernel
theorem dX6_numberRead_5 : decode cX6_numberRead 5 = .ok (.getfield 31, 3) := by decide +kernel
theorem dX6_numberRead_8 : decode cX6_numberRead 8 = .ok (.isub, 1) := by decide +kernel
theorem dX6_numberRead_9 : decode cX6_numberRead 9 = .ok (.iconst 4, 1) := by decide +kernel
theorem dX6_numberRead_10 : decode cX6_numberRead 10 = .ok (.if_icmp .le 5, 3) := by decide +kernel
theorem dX6_numberRead_13 : decode cX6_numberRead 13 = .ok (.iconst (-1), 1) := by decide +kernel
theorem dX6_numberRead_14 : decode cX6_numberRead 14 = .ok (.ireturn, 1) := by decide +kernel
theorem dX6_numberRead_15 : decode cX6_numberRead 15 = .ok (.iconst 0, 1) := by decide +kernel
theorem dX6_numberRead_16 : decode cX6_numberRead 16 = .ok (.istore_n 1, 1) := by decide +kernel
theorem dX6_numberRead_17 : decode cX6_numberRead 17 = .ok (.aload_n 0, 1) := by decide +kernel
theorem dX6_numberRead_18 : decode cX6_numberRead 18 = .ok (.getfield 31, 3) := by decide +kernel
theorem dX6_numberRead_21 : decode cX6_numberRead 21 = .ok (.istore_n 2, 1) := by decide +kernel
theorem dX6_numberRead_22 : decode cX6_numberRead 22 = .ok (.iload_n 2, 1) := by decide +kernel
theorem dX6_numberRead_23 : decode cX6_numberRead 23 = .ok (.aload_n 0, 1) := by decide +kernel
theorem dX6_numberRead_24 : decode cX6_numberRead 24 = .ok (.getfield 34, 3) := by decide +kernel
theorem dX6_numberRead_27 : decode cX6_numberRead 27 = .ok (.if_icmp .ge 26, 3) := by decide +kernel
theorem dX6_numberRead_30 : decode cX6_numberRead 30 = .ok (.bipush 10, 2) := by decide +kernel
theorem dX6_numberRead_32 : decode cX6_numberRead 32 = .ok (.iload_n 1, 1) := by decide +kernel
theorem dX6_numberRead_33 : decode cX6_numberRead 33 = .ok (.imul, 1) := by decide +kernel
theorem dX6_numberRead_34 : decode cX6_numberRead 34 = .ok (.aload_n 0, 1) := by decide +kernel
theorem dX6_numberRead_35 : decode cX6_numberRead 35 = .ok (.getfield 23, 3) := by decide +kernel
theorem dX6_numberRead_38 : decode cX6_numberRead 38 = .ok (.iload_n 2, 1) := by decide +kernel
theorem dX6_numberRead_39 : decode cX6_numberRead 39 = .ok (.invokevirtual 158, 3) := by decide +kernel
theorem dX6_numberRead_42 : decode cX6_numberRead 42 = .ok (.iadd, 1) := by decide +kernel
theorem dX6_numberRead_43 : decode cX6_numberRead 43 = .ok (.bipush 48, 2) := by decide +kernel
theorem dX6_numberRead_45 : decode cX6_numberRead 45 = .ok (.isub, 1) := by decide +kernel
theorem dX6_numberRead_46 : decode cX6_numberRead 46 = .ok (.istore_n 1, 1) := by decide +kernel
theorem dX6_numberRead_47 : decode cX6_numberRead 47 = .ok (.iinc 2 1, 3) := by decide +kernel
theorem dX6_numberRead_50 : decode cX6_numberRead 50 = .ok (.goto (-28), 3) := by decide +kernel
theorem dX6_numberRead_53 : decode cX6_numberRead 53 = .ok (.iload_n 1, 1) := by decide +kernel
theorem dX6_numberRead_54 : decode cX6_numberRead 54 = .ok (.ireturn, 1) := by decide +kernel
theorem dX6_isSemicolon_0 : decode cX6_isSemicolon 0 = .ok (.aload_n 0, 1) := by decide +kernel
theorem dX6_isSemicolon_1 : decode cX6_isSemicolon 1 = .ok (.getfield 27, 3) := by decide +kernel
theorem dX6_isSemicolon_4 : decode cX6_isSemicolon 4 = .ok (.iconst 3, 1) := by decide +kernel
theorem dX6_isSemicolon_5 : decode cX6_isSemicolon 5 = .ok (.if_icmp .ne 23, 3) := by decide +kernel
theorem dX6_isSemicolon_8 : decode cX6_isSemicolon 8 = .ok (.aload_n 0, 1) := by decide +kernel
theorem dX6_isSemicolon_9 : decode cX6_isSemicolon 9 = .ok (.getfield 23, 3) := by decide +kernel
theorem dX6_isSemicolon_12 : decode cX6_isSemicolon 12 = .ok (.aload_n 0, 1) := by decide +kernel
theorem dX6_isSemicolon_13 : decode cX6_isSemicolon 13 = .ok (.getfield 31, 3) := by decide +kernel
theorem dX6_isSemicolon_16 : decode cX6_isSemicolon 16 = .ok (.invokevirtual 158, 3) := by decide +kernel
theorem dX6_isSemicolon_19 : decode cX6_isSemicolon 19 = .ok (.bipush 59, 2) := by decide +kernel
theorem dX6_isSemicolon_21 : decode cX6_isSemicolon 21 = .ok (.if_icmp .ne 7, 3) := by decide +kernel
theorem dX6_isSemicolon_24 : decode cX6_isSemicolon 24 = .ok (.iconst 1, 1) := by decide +kernel
theorem dX6_isSemicolon_25 : decode cX6_isSemicolon 25 = .ok (.goto 4, 3) := by decide +kernel
theorem dX6_isSemicolon_28 : decode cX6_isSemicolon 28 = .ok (.iconst 0, 1) := by decide +kernel
theorem dX6_isSemicolon_29 : decode cX6_isSemicolon 29 = .ok (.ireturn, 1) := by decide +kernel
theorem dX6_isWord_0 : decode cX6_isWord 0 = .ok (.aload_n 0, 1) := by decide +kernel
theorem dX6_isWord_1 : decode cX6_isWord 1 = .ok (.getfield 27, 3) := by decide +kernel
theorem dX6_isWord_4 : decode cX6_isWord 4 = .ok (.iconst 1, 1) := by decide +kernel
theorem dX6_isWord_5 : decode cX6_isWord 5 = .ok (.if_icmp .ne 19, 3) := by decide +kernel
theorem dX6_isWord_8 : decode cX6_isWord 8 = .ok (.aload_n 0, 1) := by decide +kernel
theorem dX6_isWord_9 : decode cX6_isWord 9 = .ok (.getfield 34, 3) := by decide +kernel
theorem dX6_isWord_12 : decode cX6_isWord 12 = .ok (.aload_n 0, 1) := by decide +kernel
theorem dX6_isWord_13 : decode cX6_isWord 13 = .ok (.getfield 31, 3) := by decide +kernel
theorem dX6_isWord_16 : decode cX6_isWord 16 = .ok (.isub, 1) := by decide +kernel
theorem dX6_isWord_17 : decode cX6_isWord 17 = .ok (.aload_n 1, 1) := by decide +kernel
theorem dX6_isWord_18 : decode cX6_isWord 18 = .ok (.invokevirtual 168, 3) := by decide +kernel
theorem dX6_isWord_21 : decode cX6_isWord 21 = .ok (.if_icmp .eq 5, 3) := by decide +kernel
theorem dX6_isWord_24 : decode cX6_isWord 24 = .ok (.iconst 0, 1) := by decide +kernel
theorem dX6_isWord_25 : decode cX6_isWord 25 = .ok (.ireturn, 1) := by decide +kernel
theorem dX6_isWord_26 : decode cX6_isWord 26 = .ok (.iconst 0, 1) := by decide +kernel
theorem dX6_isWord_27 : decode cX6_isWord 27 = .ok (.istore_n 2, 1) := by decide +kernel
theorem dX6_isWord_28 : decode cX6_isWord 28 = .ok (.iload_n 2, 1) := by decide +kernel
theorem dX6_isWord_29 : decode cX6_isWord 29 = .ok (.aload_n 1, 1) := by decide +kernel
theorem dX6_isWord_30 : decode cX6_isWord 30 = .ok (.invokevirtual 168, 3) := by decide +kernel
theorem dX6_isWord_33 : decode cX6_isWord 33 = .ok (.if_icmp .ge 32, 3) := by decide +kernel
theorem dX6_isWord_36 : decode cX6_isWord 36 = .ok (.aload_n 0, 1) := by decide +kernel
theorem dX6_isWord_37 : decode cX6_isWord 37 = .ok (.getfield 23, 3) := by decide +kernel
theorem dX6_isWord_40 : decode cX6_isWord 40 = .ok (.aload_n 0, 1) := by decide +kernel
theorem dX6_isWord_41 : decode cX6_isWord 41 = .ok (.getfield 31, 3) := by decide +kernel
theorem dX6_isWord_44 : decode cX6_isWord 44 = .ok (.iload_n 2, 1) := by decide +kernel
theorem dX6_isWord_45 : decode cX6_isWord 45 = .ok (.iadd, 1) := by decide +kernel
theorem dX6_isWord_46 : decode cX6_isWord 46 = .ok (.invokevirtual 158, 3) := by decide +kernel
theorem dX6_isWord_49 : decode cX6_isWord 49 = .ok (.aload_n 1, 1) := by decide +kernel
theorem dX6_isWord_50 : decode cX6_isWord 50 = .ok (.iload_n 2, 1) := by decide +kernel
theorem dX6_isWord_51 : decode cX6_isWord 51 = .ok (.invokevirtual 173, 3) := by decide +kernel
theorem dX6_isWord_54 : decode cX6_isWord 54 = .ok (.if_icmp .eq 5, 3) := by decide +kernel
theorem dX6_isWord_57 : decode cX6_isWord 57 = .ok (.iconst 0, 1) := by decide +kernel
theorem dX6_isWord_58 : decode cX6_isWord 58 = .ok (.ireturn, 1) := by decide +kernel
theorem dX6_isWord_59 : decode cX6_isWord 59 = .ok (.iinc 2 1, 3) := by decide +kernel
theorem dX6_isWord_62 : decode cX6_isWord 62 = .ok (.goto (-34), 3) := by decide +kernel
theorem dX6_isWord_65 : decode cX6_isWord 65 = .ok (.iconst 1, 1) := by decide +kernel
theorem dX6_isWord_66 : decode cX6_isWord 66 = .ok (.ireturn, 1) := by decide +kernel
theorem dX7_init_0 : decode cX7_init 0 = .ok (.aload_n 0, 1) := by decide +kernel
theorem dX7_init_1 : decode cX7_init 1 = .ok (.invokespecial 1, 3) := by decide +kernel
theorem dX7_init_4 : decode cX7_init 4 = .ok (.aload_n 0, 1) := by decide +kernel
theorem dX7_init_5 : decode cX7_init 5 = .ok (.new 7, 3) := by decide +kernel
theorem dX7_init_8 : decode cX7_init 8 = .ok (.dup, 1) := by decide +kernel
theorem dX7_init_9 : decode cX7_init 9 = .ok (.invokespecial 9, 3) := by decide +kernel
theorem dX7_init_12 : decode cX7_init 12 = .ok (.putfield 10, 3) := by decide +kernel
theorem dX7_init_15 : decode cX7_init 15 = .ok (.aload_n 0, 1) := by decide +kernel
theorem dX7_init_16 : decode cX7_init 16 = .ok (.new 16, 3) := by decide +kernel
theorem dX7_init_19 : decode cX7_init 19 = .ok (.dup, 1) := by decide +kernel
theorem dX7_init_20 : decode cX7_init 20 = .ok (.invokespecial 18, 3) := by decide +kernel
theorem dX7_init_23 : decode cX7_init 23 = .ok (.putfield 19, 3) := by decide +kernel
theorem dX7_init_26 : decode cX7_init 26 = .ok (.aload_n 0, 1) := by decide +kernel
theorem dX7_init_27 : decode cX7_init 27 = .ok (.new 23, 3) := by decide +kernel
theorem dX7_init_30 : decode cX7_init 30 = .ok (.dup, 1) := by decide +kernel
theorem dX7_init_31 : decode cX7_init 31 = .ok (.invokespecial 25, 3) := by decide +kernel
theorem dX7_init_34 : decode cX7_init 34 = .ok (.putfield 26, 3) := by decide +kernel
theorem dX7_init_37 : decode cX7_init 37 = .ok (.aload_n 0, 1) := by decide +kernel
theorem dX7_init_38 : decode cX7_init 38 = .ok (.new 30, 3) := by decide +kernel
theorem dX7_init_41 : decode cX7_init 41 = .ok (.dup, 1) := by decide +kernel
theorem dX7_init_42 : decode cX7_init 42 = .ok (.invokespecial 32, 3) := by decide +kernel
theorem dX7_init_45 : decode cX7_init 45 = .ok (.putfield 33, 3) := by decide +kernel
theorem dX7_init_48 : decode cX7_init 48 = .ok (.return_, 1) := by decide +kernel
theorem dX7_clear_0 : decode cX7_clear 0 = .ok (.aload_n 0, 1) := by decide +kernel
theorem dX7_clear_1 : decode cX7_clear 1 = .ok (.getfield 10, 3) := by decide +kernel
theorem dX7_clear_4 : decode cX7_clear 4 = .ok (.invokevirtual 37, 3) := by decide +kernel
theorem dX7_clear_7 : decode cX7_clear 7 = .ok (.aload_n 0, 1) := by decide +kernel
theorem dX7_clear_8 : decode cX7_clear 8 = .ok (.getfield 19, 3) := by decide +kernel
theorem dX7_clear_11 : decode cX7_clear 11 = .ok (.invokevirtual 40, 3) := by decide +kernel
theorem dX7_clear_14 : decode cX7_clear 14 = .ok (.aload_n 0, 1) := by decide +kernel
theorem dX7_clear_15 : decode cX7_clear 15 = .ok (.getfield 26, 3) := by decide +kernel
theorem dX7_clear_18 : decode cX7_clear 18 = .ok (.invokevirtual 41, 3) := by decide +kernel
theorem dX7_clear_21 : decode cX7_clear 21 = .ok (.aload_n 0, 1) := by decide +kernel
theorem dX7_clear_22 : decode cX7_clear 22 = .ok (.getfield 33, 3) := by decide +kernel
theorem dX7_clear_25 : decode cX7_clear 25 = .ok (.invokevirtual 42, 3) := by decide +kernel
theorem dX7_clear_28 : decode cX7_clear 28 = .ok (.return_, 1) := by decide +kernel
theorem dX7_copyFrom_0 : decode cX7_copyFrom 0 = .ok (.aload_n 0, 1) := by decide +kernel
theorem dX7_copyFrom_1 : decode cX7_copyFrom 1 = .ok (.getfield 10, 3) := by decide +kernel
theorem dX7_copyFrom_4 : decode cX7_copyFrom 4 = .ok (.aload_n 1, 1) := by decide +kernel
theorem dX7_copyFrom_5 : decode cX7_copyFrom 5 = .ok (.getfield 10, 3) := by decide +kernel
theorem dX7_copyFrom_8 : decode cX7_copyFrom 8 = .ok (.invokevirtual 45, 3) := by decide +kernel
theorem dX7_copyFrom_11 : decode cX7_copyFrom 11 = .ok (.aload_n 0, 1) := by decide +kernel
theorem dX7_copyFrom_12 : decode cX7_copyFrom 12 = .ok (.getfield 19, 3) := by decide +kernel
theorem dX7_copyFrom_15 : decode cX7_copyFrom 15 = .ok (.aload_n 1, 1) := by decide +kernel
theorem dX7_copyFrom_16 : decode cX7_copyFrom 16 = .ok (.getfield 19, 3) := by decide +kernel
theorem dX7_copyFrom_19 : decode cX7_copyFrom 19 = .ok (.invokevirtual 49, 3) := by decide +kernel
theorem dX7_copyFrom_22 : decode cX7_copyFrom 22 = .ok (.aload_n 0, 1) := by decide +kernel
theorem dX7_copyFrom_23 : decode cX7_copyFrom 23 = .ok (.getfield 26, 3) := by decide +kernel
theorem dX7_copyFrom_26 : decode cX7_copyFrom 26 = .ok (.aload_n 1, 1) := by decide +kernel
theorem dX7_copyFrom_27 : decode cX7_copyFrom 27 = .ok (.getfield 26, 3) := by decide +kernel
theorem dX7_copyFrom_30 : decode cX7_copyFrom 30 = .ok (.invokevirtual 52, 3) := by decide +kernel
theorem dX7_copyFrom_33 : decode cX7_copyFrom 33 = .ok (.aload_n 0, 1) := by decide +kernel
theorem dX7_copyFrom_34 : decode cX7_copyFrom 34 = .ok (.getfield 33, 3) := by decide +kernel
theorem dX7_copyFrom_37 : decode cX7_copyFrom 37 = .ok (.aload_n 1, 1) := by decide +kernel
theorem dX7_copyFrom_38 : decode cX7_copyFrom 38 = .ok (.getfield 33, 3) := by decide +kernel
theorem dX7_copyFrom_41 : decode cX7_copyFrom 41 = .ok (.invokevirtual 55, 3) := by decide +kernel
theorem dX7_copyFrom_44 : decode cX7_copyFrom 44 = .ok (.return_, 1) := by decide +kernel
theorem dX8_init_0 : decode cX8_init 0 = .ok (.aload_n 0, 1) := by decide +kernel
theorem dX8_init_1 : decode cX8_init 1 = .ok (.invokespecial 3, 3) := by decide +kernel
theorem dX8_init_4 : decode cX8_init 4 = .ok (.aload_n 0, 1) := by decide +kernel
theorem dX8_init_5 : decode cX8_init 5 = .ok (.iconst 0, 1) := by decide +kernel
theorem dX8_init_6 : decode cX8_init 6 = .ok (.putfield 9, 3) := by decide +kernel
theorem dX8_init_9 : decode cX8_init 9 = .ok (.aload_n 0, 1) := by decide +kernel
theorem dX8_init_10 : decode cX8_init 10 = .ok (.iload_n 1, 1) := by decide +kernel
theorem dX8_init_11 : decode cX8_init 11 = .ok (.ifCond .le 7, 3) := by decide +kernel
theorem dX8_init_14 : decode cX8_init 14 = .ok (.iload_n 1, 1) := by decide +kernel
theorem dX8_init_15 : decode cX8_init 15 = .ok (.goto 4, 3) := by decide +kernel
theorem dX8_init_18 : decode cX8_init 18 = .ok (.iconst 0, 1) := by decide +kernel
theorem dX8_init_19 : decode cX8_init 19 = .ok (.newarray .int, 2) := by decide +kernel
theorem dX8_init_21 : decode cX8_init 21 = .ok (.putfield 15, 3) := by decide +kernel
theorem dX8_init_24 : decode cX8_init 24 = .ok (.return_, 1) := by decide +kernel
theorem dX8_size_0 : decode cX8_size 0 = .ok (.aload_n 0, 1) := by decide +kernel
theorem dX8_size_1 : decode cX8_size 1 = .ok (.getfield 9, 3) := by decide +kernel
theorem dX8_size_4 : decode cX8_size 4 = .ok (.ireturn, 1) := by decide +kernel
theorem dX8_byteAt_0 : decode cX8_byteAt 0 = .ok (.iload_n 1, 1) := by decide +kernel
theorem dX8_byteAt_1 : decode cX8_byteAt 1 = .ok (.ifCond .lt 29, 3) := by decide +kernel
theorem dX8_byteAt_4 : decode cX8_byteAt 4 = .ok (.iload_n 1, 1) := by decide +kernel
theorem dX8_byteAt_5 : decode cX8_byteAt 5 = .ok (.aload_n 0, 1) := by decide +kernel
theorem dX8_byteAt_6 : decode cX8_byteAt 6 = .ok (.getfield 9, 3) := by decide +kernel
theorem dX8_byteAt_9 : decode cX8_byteAt 9 = .ok (.if_icmp .ge 21, 3) := by decide +kernel
theorem dX8_byteAt_12 : decode cX8_byteAt 12 = .ok (.iload_n 1, 1) := by decide +kernel
theorem dX8_byteAt_13 : decode cX8_byteAt 13 = .ok (.aload_n 0, 1) := by decide +kernel
theorem dX8_byteAt_14 : decode cX8_byteAt 14 = .ok (.getfield 15, 3) := by decide +kernel
theorem dX8_byteAt_17 : decode cX8_byteAt 17 = .ok (.arraylength, 1) := by decide +kernel
theorem dX8_byteAt_18 : decode cX8_byteAt 18 = .ok (.if_icmp .ge 12, 3) := by decide +kernel
theorem dX8_byteAt_21 : decode cX8_byteAt 21 = .ok (.aload_n 0, 1) := by decide +kernel
theorem dX8_byteAt_22 : decode cX8_byteAt 22 = .ok (.getfield 15, 3) := by decide +kernel
theorem dX8_byteAt_25 : decode cX8_byteAt 25 = .ok (.iload_n 1, 1) := by decide +kernel
theorem dX8_byteAt_26 : decode cX8_byteAt 26 = .ok (.iaload, 1) := by decide +kernel
theorem dX8_byteAt_27 : decode cX8_byteAt 27 = .ok (.goto 4, 3) := by decide +kernel
theorem dX8_byteAt_30 : decode cX8_byteAt 30 = .ok (.iconst (-1), 1) := by decide +kernel
theorem dX8_byteAt_31 : decode cX8_byteAt 31 = .ok (.ireturn, 1) := by decide +kernel
theorem dX8_add_0 : decode cX8_add 0 = .ok (.aload_n 0, 1) := by decide +kernel
theorem dX8_add_1 : decode cX8_add 1 = .ok (.getfield 9, 3) := by decide +kernel
theorem dX8_add_4 : decode cX8_add 4 = .ok (.ifCond .lt 35, 3) := by decide +kernel
theorem dX8_add_7 : decode cX8_add 7 = .ok (.aload_n 0, 1) := by decide +kernel
theorem dX8_add_8 : decode cX8_add 8 = .ok (.getfield 9, 3) := by decide +kernel
theorem dX8_add_11 : decode cX8_add 11 = .ok (.aload_n 0, 1) := by decide +kernel
theorem dX8_add_12 : decode cX8_add 12 = .ok (.getfield 15, 3) := by decide +kernel
theorem dX8_add_15 : decode cX8_add 15 = .ok (.arraylength, 1) := by decide +kernel
theorem dX8_add_16 : decode cX8_add 16 = .ok (.if_icmp .ge 23, 3) := by decide +kernel
theorem dX8_add_19 : decode cX8_add 19 = .ok (.aload_n 0, 1) := by decide +kernel
theorem dX8_add_20 : decode cX8_add 20 = .ok (.getfield 15, 3) := by decide +kernel
theorem dX8_add_23 : decode cX8_add 23 = .ok (.aload_n 0, 1) := by decide +kernel
theorem dX8_add_24 : decode cX8_add 24 = .ok (.getfield 9, 3) := by decide +kernel
theorem dX8_add_27 : decode cX8_add 27 = .ok (.iload_n 1, 1) := by decide +kernel
theorem dX8_add_28 : decode cX8_add 28 = .ok (.iastore, 1) := by decide +kernel
theorem dX8_add_29 : decode cX8_add 29 = .ok (.aload_n 0, 1) := by decide +kernel
theorem dX8_add_30 : decode cX8_add 30 = .ok (.dup, 1) := by decide +kernel
theorem dX8_add_31 : decode cX8_add 31 = .ok (.getfield 9, 3) := by decide +kernel
theorem dX8_add_34 : decode cX8_add 34 = .ok (.iconst 1, 1) := by decide +kernel
theorem dX8_add_35 : decode cX8_add 35 = .ok (.iadd, 1) := by decide +kernel
theorem dX8_add_36 : decode cX8_add 36 = .ok (.putfield 9, 3) := by decide +kernel
theorem dX8_add_39 : decode cX8_add 39 = .ok (.return_, 1) := by decide +kernel
theorem dX8_shortenTo_0 : decode cX8_shortenTo 0 = .ok (.iload_n 1, 1) := by decide +kernel
theorem dX8_shortenTo_1 : decode cX8_shortenTo 1 = .ok (.ifCond .lt 16, 3) := by decide +kernel
theorem dX8_shortenTo_4 : decode cX8_shortenTo 4 = .ok (.iload_n 1, 1) := by decide +kernel
theorem dX8_shortenTo_5 : decode cX8_shortenTo 5 = .ok (.aload_n 0, 1) := by decide +kernel
theorem dX8_shortenTo_6 : decode cX8_shortenTo 6 = .ok (.getfield 9, 3) := by decide +kernel
theorem dX8_shortenTo_9 : decode cX8_shortenTo 9 = .ok (.if_icmp .ge 8, 3) := by decide +kernel
theorem dX8_shortenTo_12 : decode cX8_shortenTo 12 = .ok (.aload_n 0, 1) := by decide +kernel
theorem dX8_shortenTo_13 : decode cX8_shortenTo 13 = .ok (.iload_n 1, 1) := by decide +kernel
theorem dX8_shortenTo_14 : decode cX8_shortenTo 14 = .ok (.putfield 9, 3) := by decide +kernel
theorem dX8_shortenTo_17 : decode cX8_shortenTo 17 = .ok (.return_, 1) := by decide +kernel
theorem dX8_hasSameBytes_0 : decode cX8_hasSameBytes 0 = .ok (.aload_n 0, 1) := by decide +kernel
theorem dX8_hasSameBytes_1 : decode cX8_hasSameBytes 1 = .ok (.getfield 9, 3) := by decide +kernel
theorem dX8_hasSameBytes_4 : decode cX8_hasSameBytes 4 = .ok (.aload_n 1, 1) := by decide +kernel
theorem dX8_hasSameBytes_5 : decode cX8_hasSameBytes 5 = .ok (.getfield 9, 3) := by decide +kernel
theorem dX8_hasSameBytes_8 : decode cX8_hasSameBytes 8 = .ok (.if_icmp .eq 5, 3) := by decide +kernel
theorem dX8_hasSameBytes_11 : decode cX8_hasSameBytes 11 = .ok (.iconst 0, 1) := by decide +kernel
theorem dX8_hasSameBytes_12 : decode cX8_hasSameBytes 12 = .ok (.ireturn, 1) := by decide +kernel
theorem dX8_hasSameBytes_13 : decode cX8_hasSameBytes 13 = .ok (.iconst 0, 1) := by decide +kernel
theorem dX8_hasSameBytes_14 : decode cX8_hasSameBytes 14 = .ok (.istore_n 2, 1) := by decide +kernel
theorem dX8_hasSameBytes_15 : decode cX8_hasSameBytes 15 = .ok (.iload_n 2, 1) := by decide +kernel
theorem dX8_hasSameBytes_16 : decode cX8_hasSameBytes 16 = .ok (.aload_n 0, 1) := by decide +kernel
theorem dX8_hasSameBytes_17 : decode cX8_hasSameBytes 17 = .ok (.getfield 9, 3) := by decide +kernel
theorem dX8_hasSameBytes_20 : decode cX8_hasSameBytes 20 = .ok (.if_icmp .ge 24, 3) := by decide +kernel
theorem dX8_hasSameBytes_23 : decode cX8_hasSameBytes 23 = .ok (.aload_n 0, 1) := by decide +kernel
theorem dX8_hasSameBytes_24 : decode cX8_hasSameBytes 24 = .ok (.iload_n 2, 1) := by decide +kernel
theorem dX8_hasSameBytes_25 : decode cX8_hasSameBytes 25 = .ok (.invokevirtual 19, 3) := by decide +kernel
theorem dX8_hasSameBytes_28 : decode cX8_hasSameBytes 28 = .ok (.aload_n 1, 1) := by decide +kernel
theorem dX8_hasSameBytes_29 : decode cX8_hasSameBytes 29 = .ok (.iload_n 2, 1) := by decide +kernel
theorem dX8_hasSameBytes_30 : decode cX8_hasSameBytes 30 = .ok (.invokevirtual 19, 3) := by decide +kernel
theorem dX8_hasSameBytes_33 : decode cX8_hasSameBytes 33 = .ok (.if_icmp .eq 5, 3) := by decide +kernel
theorem dX8_hasSameBytes_36 : decode cX8_hasSameBytes 36 = .ok (.iconst 0, 1) := by decide +kernel
theorem dX8_hasSameBytes_37 : decode cX8_hasSameBytes 37 = .ok (.ireturn, 1) := by decide +kernel
theorem dX8_hasSameBytes_38 : decode cX8_hasSameBytes 38 = .ok (.iinc 2 1, 3) := by decide +kernel
theorem dX8_hasSameBytes_41 : decode cX8_hasSameBytes 41 = .ok (.goto (-26), 3) := by decide +kernel
theorem dX8_hasSameBytes_44 : decode cX8_hasSameBytes 44 = .ok (.iconst 1, 1) := by decide +kernel
theorem dX8_hasSameBytes_45 : decode cX8_hasSameBytes 45 = .ok (.ireturn, 1) := by decide +kernel
theorem dX8_addDecimal_0 : decode cX8_addDecimal 0 = .ok (.sipush 1000, 3) := by decide +kernel
theorem dX8_addDecimal_3 : decode cX8_addDecimal 3 = .ok (.istore_n 2, 1) := by decide +kernel
theorem dX8_addDecimal_4 : decode cX8_addDecimal 4 = .ok (.iload_n 2, 1) := by decide +kernel
theorem dX8_addDecimal_5 : decode cX8_addDecimal 5 = .ok (.ifCond .le 29, 3) := by decide +kernel
theorem dX8_addDecimal_8 : decode cX8_addDecimal 8 = .ok (.iload_n 1, 1) := by decide +kernel
theorem dX8_addDecimal_9 : decode cX8_addDecimal 9 = .ok (.iload_n 2, 1) := by decide +kernel
theorem dX8_addDecimal_10 : decode cX8_addDecimal 10 = .ok (.if_icmp .lt 16, 3) := by decide +kernel
theorem dX8_addDecimal_13 : decode cX8_addDecimal 13 = .ok (.aload_n 0, 1) := by decide +kernel
theorem dX8_addDecimal_14 : decode cX8_addDecimal 14 = .ok (.bipush 48, 2) := by decide +kernel
theorem dX8_addDecimal_16 : decode cX8_addDecimal 16 = .ok (.iload_n 1, 1) := by decide +kernel
theorem dX8_addDecimal_17 : decode cX8_addDecimal 17 = .ok (.iload_n 2, 1) := by decide +kernel
theorem dX8_addDecimal_18 : decode cX8_addDecimal 18 = .ok (.idiv, 1) := by decide +kernel
theorem dX8_addDecimal_19 : decode cX8_addDecimal 19 = .ok (.bipush 10, 2) := by decide +kernel
theorem dX8_addDecimal_21 : decode cX8_addDecimal 21 = .ok (.irem, 1) := by decide +kernel
theorem dX8_addDecimal_22 : decode cX8_addDecimal 22 = .ok (.iadd, 1) := by decide +kernel
theorem dX8_addDecimal_23 : decode cX8_addDecimal 23 = .ok (.invokevirtual 23, 3) := by decide +kernel
theorem dX8_addDecimal_26 : decode cX8_addDecimal 26 = .ok (.iload_n 2, 1) := by decide +kernel
theorem dX8_addDecimal_27 : decode cX8_addDecimal 27 = .ok (.bipush 10, 2) := by decide +kernel
theorem dX8_addDecimal_29 : decode cX8_addDecimal 29 = .ok (.idiv, 1) := by decide +kernel
theorem dX8_addDecimal_30 : decode cX8_addDecimal 30 = .ok (.istore_n 2, 1) := by decide +kernel
theorem dX8_addDecimal_31 : decode cX8_addDecimal 31 = .ok (.goto (-27), 3) := by decide +kernel
theorem dX8_addDecimal_34 : decode cX8_addDecimal 34 = .ok (.return_, 1) := by decide +kernel
theorem dX8_addRoman_0 : decode cX8_addRoman 0 = .ok (.iconst 0, 1) := by decide +kernel
theorem dX8_addRoman_1 : decode cX8_addRoman 1 = .ok (.istore_n 2, 1) := by decide +kernel
theorem dX8_addRoman_2 : decode cX8_addRoman 2 = .ok (.iload_n 2, 1) := by decide +kernel
theorem dX8_addRoman_3 : decode cX8_addRoman 3 = .ok (.iload_n 1, 1) := by decide +kernel
theorem dX8_addRoman_4 : decode cX8_addRoman 4 = .ok (.sipush 1000, 3) := by decide +kernel
theorem dX8_addRoman_7 : decode cX8_addRoman 7 = .ok (.idiv, 1) := by decide +kernel
theorem dX8_addRoman_8 : decode cX8_addRoman 8 = .ok (.if_icmp .ge 15, 3) := by decide +kernel
theorem dX8_addRoman_11 : decode cX8_addRoman 11 = .ok (.aload_n 0, 1) := by decide +kernel
theorem dX8_addRoman_12 : decode cX8_addRoman 12 = .ok (.bipush 109, 2) := by decide +kernel
theorem dX8_addRoman_14 : decode cX8_addRoman 14 = .ok (.invokevirtual 23, 3) := by decide +kernel
theorem dX8_addRoman_17 : decode cX8_addRoman 17 = .ok (.iinc 2 1, 3) := by decide +kernel
theorem dX8_addRoman_20 : decode cX8_addRoman 20 = .ok (.goto (-18), 3) := by decide +kernel
theorem dX8_addRoman_23 : decode cX8_addRoman 23 = .ok (.aload_n 0, 1) := by decide +kernel
theorem dX8_addRoman_24 : decode cX8_addRoman 24 = .ok (.iload_n 1, 1) := by decide +kernel
theorem dX8_addRoman_25 : decode cX8_addRoman 25 = .ok (.bipush 100, 2) := by decide +kernel
theorem dX8_addRoman_27 : decode cX8_addRoman 27 = .ok (.idiv, 1) := by decide +kernel
theorem dX8_addRoman_28 : decode cX8_addRoman 28 = .ok (.bipush 10, 2) := by decide +kernel
theorem dX8_addRoman_30 : decode cX8_addRoman 30 = .ok (.irem, 1) := by decide +kernel
theorem dX8_addRoman_31 : decode cX8_addRoman 31 = .ok (.bipush 99, 2) := by decide +kernel
theorem dX8_addRoman_33 : decode cX8_addRoman 33 = .ok (.bipush 100, 2) := by decide +kernel
theorem dX8_addRoman_35 : decode cX8_addRoman 35 = .ok (.bipush 109, 2) := by decide +kernel
theorem dX8_addRoman_37 : decode cX8_addRoman 37 = .ok (.invokevirtual 27, 3) := by decide +kernel
theorem dX8_addRoman_40 : decode cX8_addRoman 40 = .ok (.aload_n 0, 1) := by decide +kernel
theorem dX8_addRoman_41 : decode cX8_addRoman 41 = .ok (.iload_n 1, 1) := by decide +kernel
theorem dX8_addRoman_42 : decode cX8_addRoman 42 = .ok (.bipush 10, 2) := by decide +kernel
theorem dX8_addRoman_44 : decode cX8_addRoman 44 = .ok (.idiv, 1) := by decide +kernel
theorem dX8_addRoman_45 : decode cX8_addRoman 45 = .ok (.bipush 10, 2) := by decide +kernel
theorem dX8_addRoman_47 : decode cX8_addRoman 47 = .ok (.irem, 1) := by decide +kernel
theorem dX8_addRoman_48 : decode cX8_addRoman 48 = .ok (.bipush 120, 2) := by decide +kernel
theorem dX8_addRoman_50 : decode cX8_addRoman 50 = .ok (.bipush 108, 2) := by decide +kernel
theorem dX8_addRoman_52 : decode cX8_addRoman 52 = .ok (.bipush 99, 2) := by decide +kernel
theorem dX8_addRoman_54 : decode cX8_addRoman 54 = .ok (.invokevirtual 27, 3) := by decide +kernel
theorem dX8_addRoman_57 : decode cX8_addRoman 57 = .ok (.aload_n 0, 1) := by decide +kernel
theorem dX8_addRoman_58 : decode cX8_addRoman 58 = .ok (.iload_n 1, 1) := by decide +kernel
theorem dX8_addRoman_59 : decode cX8_addRoman 59 = .ok (.bipush 10, 2) := by decide +kernel
theorem dX8_addRoman_61 : decode cX8_addRoman 61 = .ok (.irem, 1) := by decide +kernel
theorem dX8_addRoman_62 : decode cX8_addRoman 62 = .ok (.bipush 105, 2) := by decide +kernel
theorem dX8_addRoman_64 : decode cX8_addRoman 64 = .ok (.bipush 118, 2) := by decide +kernel
theorem dX8_addRoman_66 : decode cX8_addRoman 66 = .ok (.bipush 120, 2) := by decide +kernel
theorem dX8_addRoman_68 : decode cX8_addRoman 68 = .ok (.invokevirtual 27, 3) := by decide +kernel
theorem dX8_addRoman_71 : decode cX8_addRoman 71 = .ok (.return_, 1) := by decide +kernel
theorem dX8_addRomanDigit_0 : decode cX8_addRomanDigit 0 = .ok (.iload_n 1, 1) := by decide +kernel
theorem dX8_addRomanDigit_1 : decode cX8_addRomanDigit 1 = .ok (.bipush 9, 2) := by decide +kernel
theorem dX8_addRomanDigit_3 : decode cX8_addRomanDigit 3 = .ok (.if_icmp .ne 17, 3) := by decide +kernel
theorem dX8_addRomanDigit_6 : decode cX8_addRomanDigit 6 = .ok (.aload_n 0, 1) := by decide +kernel
theorem dX8_addRomanDigit_7 : decode cX8_addRomanDigit 7 = .ok (.iload_n 2, 1) := by decide +kernel
theorem dX8_addRomanDigit_8 : decode cX8_addRomanDigit 8 = .ok (.invokevirtual 23, 3) := by decide +kernel
theorem dX8_addRomanDigit_11 : decode cX8_addRomanDigit 11 = .ok (.aload_n 0, 1) := by decide +kernel
theorem dX8_addRomanDigit_12 : decode cX8_addRomanDigit 12 = .ok (.iload 4, 2) := by decide +kernel
theorem dX8_addRomanDigit_14 : decode cX8_addRomanDigit 14 = .ok (.invokevirtual 23, 3) := by decide +kernel
theorem dX8_addRomanDigit_17 : decode cX8_addRomanDigit 17 = .ok (.goto 53, 3) := by decide +kernel
theorem dX8_addRomanDigit_20 : decode cX8_addRomanDigit 20 = .ok (.iload_n 1, 1) := by decide +kernel
theorem dX8_addRomanDigit_21 : decode cX8_addRomanDigit 21 = .ok (.iconst 4, 1) := by decide +kernel
theorem dX8_addRomanDigit_22 : decode cX8_addRomanDigit 22 = .ok (.if_icmp .ne 16, 3) := by decide +kernel
theorem dX8_addRomanDigit_25 : decode cX8_addRomanDigit 25 = .ok (.aload_n 0, 1) := by decide +kernel
theorem dX8_addRomanDigit_26 : decode cX8_addRomanDigit 26 = .ok (.iload_n 2, 1) := by decide +kernel
theorem dX8_addRomanDigit_27 : decode cX8_addRomanDigit 27 = .ok (.invokevirtual 23, 3) := by decide +kernel
theorem dX8_addRomanDigit_30 : decode cX8_addRomanDigit 30 = .ok (.aload_n 0, 1) := by decide +kernel
theorem dX8_addRomanDigit_31 : decode cX8_addRomanDigit 31 = .ok (.iload_n 3, 1) := by decide +kernel
theorem dX8_addRomanDigit_32 : decode cX8_addRomanDigit 32 = .ok (.invokevirtual 23, 3) := by decide +kernel
theorem dX8_addRomanDigit_35 : decode cX8_addRomanDigit 35 = .ok (.goto 35, 3) := by decide +kernel
theorem dX8_addRomanDigit_38 : decode cX8_addRomanDigit 38 = .ok (.iload_n 1, 1) := by decide +kernel
theorem dX8_addRomanDigit_39 : decode cX8_addRomanDigit 39 = .ok (.iconst 5, 1) := by decide +kernel
theorem dX8_addRomanDigit_40 : decode cX8_addRomanDigit 40 = .ok (.if_icmp .lt 8, 3) := by decide +kernel
theorem dX8_addRomanDigit_43 : decode cX8_addRomanDigit 43 = .ok (.aload_n 0, 1) := by decide +kernel
theorem dX8_addRomanDigit_44 : decode cX8_addRomanDigit 44 = .ok (.iload_n 3, 1) := by decide +kernel
theorem dX8_addRomanDigit_45 : decode cX8_addRomanDigit 45 = .ok (.invokevirtual 23, 3) := by decide +kernel
theorem dX8_addRomanDigit_48 : decode cX8_addRomanDigit 48 = .ok (.iconst 0, 1) := by decide +kernel
theorem dX8_addRomanDigit_49 : decode cX8_addRomanDigit 49 = .ok (.istore 5, 2) := by decide +kernel
theorem dX8_addRomanDigit_51 : decode cX8_addRomanDigit 51 = .ok (.iload 5, 2) := by decide +kernel
theorem dX8_addRomanDigit_53 : decode cX8_addRomanDigit 53 = .ok (.iload_n 1, 1) := by decide +kernel
theorem dX8_addRomanDigit_54 : decode cX8_addRomanDigit 54 = .ok (.iconst 5, 1) := by decide +kernel
theorem dX8_addRomanDigit_55 : decode cX8_addRomanDigit 55 = .ok (.irem, 1) := by decide +kernel
theorem dX8_addRomanDigit_56 : decode cX8_addRomanDigit 56 = .ok (.if_icmp .ge 14, 3) := by decide +kernel
theorem dX8_addRomanDigit_59 : decode cX8_addRomanDigit 59 = .ok (.aload_n 0, 1) := by decide +kernel
theorem dX8_addRomanDigit_60 : decode cX8_addRomanDigit 60 = .ok (.iload_n 2, 1) := by decide +kernel
theorem dX8_addRomanDigit_61 : decode cX8_addRomanDigit 61 = .ok (.invokevirtual 23, 3) := by decide +kernel
theorem dX8_addRomanDigit_64 : decode cX8_addRomanDigit 64 = .ok (.iinc 5 1, 3) := by decide +kernel
theorem dX8_addRomanDigit_67 : decode cX8_addRomanDigit 67 = .ok (.goto (-16), 3) := by decide +kernel
theorem dX8_addRomanDigit_70 : decode cX8_addRomanDigit 70 = .ok (.return_, 1) := by decide +kernel
theorem dX9_init_0 : decode cX9_init 0 = .ok (.aload_n 0, 1) := by decide +kernel
theorem dX9_init_1 : decode cX9_init 1 = .ok (.invokespecial 3, 3) := by decide +kernel
theorem dX9_init_4 : decode cX9_init 4 = .ok (.aload_n 0, 1) := by decide +kernel
theorem dX9_init_5 : decode cX9_init 5 = .ok (.new 9, 3) := by decide +kernel
theorem dX9_init_8 : decode cX9_init 8 = .ok (.dup, 1) := by decide +kernel
theorem dX9_init_9 : decode cX9_init 9 = .ok (.bipush 10, 2) := by decide +kernel
theorem dX9_init_11 : decode cX9_init 11 = .ok (.invokespecial 11, 3) := by decide +kernel
theorem dX9_init_14 : decode cX9_init 14 = .ok (.putfield 14, 3) := by decide +kernel
theorem dX9_init_17 : decode cX9_init 17 = .ok (.aload_n 0, 1) := by decide +kernel
theorem dX9_init_18 : decode cX9_init 18 = .ok (.iconst 0, 1) := by decide +kernel
theorem dX9_init_19 : decode cX9_init 19 = .ok (.putfield 20, 3) := by decide +kernel
theorem dX9_init_22 : decode cX9_init 22 = .ok (.aload_n 0, 1) := by decide +kernel
theorem dX9_init_23 : decode cX9_init 23 = .ok (.iconst 0, 1) := by decide +kernel
theorem dX9_init_24 : decode cX9_init 24 = .ok (.putfield 24, 3) := by decide +kernel
theorem dX9_init_27 : decode cX9_init 27 = .ok (.return_, 1) := by decide +kernel
theorem dX9_reset_0 : decode cX9_reset 0 = .ok (.aload_n 0, 1) := by decide +kernel
theorem dX9_reset_1 : decode cX9_reset 1 = .ok (.iconst 0, 1) := by decide +kernel
theorem dX9_reset_2 : decode cX9_reset 2 = .ok (.putfield 20, 3) := by decide +kernel
theorem dX9_reset_5 : decode cX9_reset 5 = .ok (.aload_n 0, 1) := by decide +kernel
theorem dX9_reset_6 : decode cX9_reset 6 = .ok (.iconst 0, 1) := by decide +kernel
theorem dX9_reset_7 : decode cX9_reset 7 = .ok (.putfield 24, 3) := by decide +kernel
theorem dX9_reset_10 : decode cX9_reset 10 = .ok (.return_, 1) := by decide +kernel
theorem dX9_copyFrom_0 : decode cX9_copyFrom 0 = .ok (.aload_n 0, 1) := by decide +kernel
theorem dX9_copyFrom_1 : decode cX9_copyFrom 1 = .ok (.getfield 14, 3) := by decide +kernel
theorem dX9_copyFrom_4 : decode cX9_copyFrom 4 = .ok (.aload_n 1, 1) := by decide +kernel
theorem dX9_copyFrom_5 : decode cX9_copyFrom 5 = .ok (.getfield 14, 3) := by decide +kernel
theorem dX9_copyFrom_8 : decode cX9_copyFrom 8 = .ok (.invokevirtual 27, 3) := by decide +kernel
theorem dX9_copyFrom_11 : decode cX9_copyFrom 11 = .ok (.aload_n 0, 1) := by decide +kernel
theorem dX9_copyFrom_12 : decode cX9_copyFrom 12 = .ok (.aload_n 1, 1) := by decide +kernel
theorem dX9_copyFrom_13 : decode cX9_copyFrom 13 = .ok (.getfield 20, 3) := by decide +kernel
theorem dX9_copyFrom_16 : decode cX9_copyFrom 16 = .ok (.putfield 20, 3) := by decide +kernel
theorem dX9_copyFrom_19 : decode cX9_copyFrom 19 = .ok (.aload_n 0, 1) := by decide +kernel
theorem dX9_copyFrom_20 : decode cX9_copyFrom 20 = .ok (.aload_n 1, 1) := by decide +kernel
theorem dX9_copyFrom_21 : decode cX9_copyFrom 21 = .ok (.getfield 24, 3) := by decide +kernel
theorem dX9_copyFrom_24 : decode cX9_copyFrom 24 = .ok (.putfield 24, 3) := by decide +kernel
theorem dX9_copyFrom_27 : decode cX9_copyFrom 27 = .ok (.return_, 1) := by decide +kernel
theorem dX9_current_0 : decode cX9_current 0 = .ok (.aload_n 0, 1) := by decide +kernel
theorem dX9_current_1 : decode cX9_current 1 = .ok (.getfield 24, 3) := by decide +kernel
theorem dX9_current_4 : decode cX9_current 4 = .ok (.ireturn, 1) := by decide +kernel
theorem dX9_trailSize_0 : decode cX9_trailSize 0 = .ok (.aload_n 0, 1) := by decide +kernel
theorem dX9_trailSize_1 : decode cX9_trailSize 1 = .ok (.getfield 20, 3) := by decide +kernel
theorem dX9_trailSize_4 : decode cX9_trailSize 4 = .ok (.ireturn, 1) := by decide +kernel
theorem dX9_leaveFor_0 : decode cX9_leaveFor 0 = .ok (.aload_n 0, 1) := by decide +kernel
theorem dX9_leaveFor_1 : decode cX9_leaveFor 1 = .ok (.getfield 20, 3) := by decide +kernel
theorem dX9_leaveFor_4 : decode cX9_leaveFor 4 = .ok (.bipush 10, 2) := by decide +kernel
theorem dX9_leaveFor_6 : decode cX9_leaveFor 6 = .ok (.if_icmp .ne 7, 3) := by decide +kernel
theorem dX9_leaveFor_9 : decode cX9_leaveFor 9 = .ok (.aload_n 0, 1) := by decide +kernel
theorem dX9_leaveFor_10 : decode cX9_leaveFor 10 = .ok (.invokevirtual 31, 3) := by decide +kernel
theorem dX9_leaveFor_13 : decode cX9_leaveFor 13 = .ok (.aload_n 0, 1) := by decide +kernel
theorem dX9_leaveFor_14 : decode cX9_leaveFor 14 = .ok (.getfield 14, 3) := by decide +kernel
theorem dX9_leaveFor_17 : decode cX9_leaveFor 17 = .ok (.aload_n 0, 1) := by decide +kernel
theorem dX9_leaveFor_18 : decode cX9_leaveFor 18 = .ok (.getfield 20, 3) := by decide +kernel
theorem dX9_leaveFor_21 : decode cX9_leaveFor 21 = .ok (.aload_n 0, 1) := by decide +kernel
theorem dX9_leaveFor_22 : decode cX9_leaveFor 22 = .ok (.getfield 24, 3) := by decide +kernel
theorem dX9_leaveFor_25 : decode cX9_leaveFor 25 = .ok (.invokevirtual 34, 3) := by decide +kernel
theorem dX9_leaveFor_28 : decode cX9_leaveFor 28 = .ok (.aload_n 0, 1) := by decide +kernel
theorem dX9_leaveFor_29 : decode cX9_leaveFor 29 = .ok (.dup, 1) := by decide +kernel
theorem dX9_leaveFor_30 : decode cX9_leaveFor 30 = .ok (.getfield 20, 3) := by decide +kernel
theorem dX9_leaveFor_33 : decode cX9_leaveFor 33 = .ok (.iconst 1, 1) := by decide +kernel
theorem dX9_leaveFor_34 : decode cX9_leaveFor 34 = .ok (.iadd, 1) := by decide +kernel
theorem dX9_leaveFor_35 : decode cX9_leaveFor 35 = .ok (.putfield 20, 3) := by decide +kernel
theorem dX9_leaveFor_38 : decode cX9_leaveFor 38 = .ok (.aload_n 0, 1) := by decide +kernel
theorem dX9_leaveFor_39 : decode cX9_leaveFor 39 = .ok (.iload_n 1, 1) := by decide +kernel
theorem dX9_leaveFor_40 : decode cX9_leaveFor 40 = .ok (.putfield 24, 3) := by decide +kernel
theorem dX9_leaveFor_43 : decode cX9_leaveFor 43 = .ok (.return_, 1) := by decide +kernel
theorem dX9_forgetOldest_0 : decode cX9_forgetOldest 0 = .ok (.iconst 1, 1) := by decide +kernel
theorem dX9_forgetOldest_1 : decode cX9_forgetOldest 1 = .ok (.istore_n 1, 1) := by decide +kernel
theorem dX9_forgetOldest_2 : decode cX9_forgetOldest 2 = .ok (.iload_n 1, 1) := by decide +kernel
theorem dX9_forgetOldest_3 : decode cX9_forgetOldest 3 = .ok (.aload_n 0, 1) := by decide +kernel
theorem dX9_forgetOldest_4 : decode cX9_forgetOldest 4 = .ok (.getfield 20, 3) := by decide +kernel
theorem dX9_forgetOldest_7 : decode cX9_forgetOldest 7 = .ok (.if_icmp .ge 27, 3) := by decide +kernel
theorem dX9_forgetOldest_10 : decode cX9_forgetOldest 10 = .ok (.aload_n 0, 1) := by decide +kernel
theorem dX9_forgetOldest_11 : decode cX9_forgetOldest 11 = .ok (.getfield 14, 3) := by decide +kernel
theorem dX9_forgetOldest_14 : decode cX9_forgetOldest 14 = .ok (.iload_n 1, 1) := by decide +kernel
theorem dX9_forgetOldest_15 : decode cX9_forgetOldest 15 = .ok (.iconst 1, 1) := by decide +kernel
theorem dX9_forgetOldest_16 : decode cX9_forgetOldest 16 = .ok (.isub, 1) := by decide +kernel
theorem dX9_forgetOldest_17 : decode cX9_forgetOldest 17 = .ok (.aload_n 0, 1) := by decide +kernel
theorem dX9_forgetOldest_18 : decode cX9_forgetOldest 18 = .ok (.getfield 14, 3) := by decide +kernel
theorem dX9_forgetOldest_21 : decode cX9_forgetOldest 21 = .ok (.iload_n 1, 1) := by decide +kernel
theorem dX9_forgetOldest_22 : decode cX9_forgetOldest 22 = .ok (.invokevirtual 38, 3) := by decide +kernel
theorem dX9_forgetOldest_25 : decode cX9_forgetOldest 25 = .ok (.invokevirtual 34, 3) := by decide +kernel
theorem dX9_forgetOldest_28 : decode cX9_forgetOldest 28 = .ok (.iinc 1 1, 3) := by decide +kernel
theorem dX9_forgetOldest_31 : decode cX9_forgetOldest 31 = .ok (.goto (-29), 3) := by decide +kernel
theorem dX9_forgetOldest_34 : decode cX9_forgetOldest 34 = .ok (.aload_n 0, 1) := by decide +kernel
theorem dX9_forgetOldest_35 : decode cX9_forgetOldest 35 = .ok (.dup, 1) := by decide +kernel
theorem dX9_forgetOldest_36 : decode cX9_forgetOldest 36 = .ok (.getfield 20, 3) := by decide +kernel
theorem dX9_forgetOldest_39 : decode cX9_forgetOldest 39 = .ok (.iconst 1, 1) := by decide +kernel
theorem dX9_forgetOldest_40 : decode cX9_forgetOldest 40 = .ok (.isub, 1) := by decide +kernel
theorem dX9_forgetOldest_41 : decode cX9_forgetOldest 41 = .ok (.putfield 20, 3) := by decide +kernel
theorem dX9_forgetOldest_44 : decode cX9_forgetOldest 44 = .ok (.return_, 1) := by decide +kernel
theorem dX9_stepBack_0 : decode cX9_stepBack 0 = .ok (.aload_n 0, 1) := by decide +kernel
theorem dX9_stepBack_1 : decode cX9_stepBack 1 = .ok (.getfield 20, 3) := by decide +kernel
theorem dX9_stepBack_4 : decode cX9_stepBack 4 = .ok (.ifCond .le 28, 3) := by decide +kernel
theorem dX9_stepBack_7 : decode cX9_stepBack 7 = .ok (.aload_n 0, 1) := by decide +kernel
theorem dX9_stepBack_8 : decode cX9_stepBack 8 = .ok (.dup, 1) := by decide +kernel
theorem dX9_stepBack_9 : decode cX9_stepBack 9 = .ok (.getfield 20, 3) := by decide +kernel
theorem dX9_stepBack_12 : decode cX9_stepBack 12 = .ok (.iconst 1, 1) := by decide +kernel
theorem dX9_stepBack_13 : decode cX9_stepBack 13 = .ok (.isub, 1) := by decide +kernel
theorem dX9_stepBack_14 : decode cX9_stepBack 14 = .ok (.putfield 20, 3) := by decide +kernel
theorem dX9_stepBack_17 : decode cX9_stepBack 17 = .ok (.aload_n 0, 1) := by decide +kernel
theorem dX9_stepBack_18 : decode cX9_stepBack 18 = .ok (.aload_n 0, 1) := by decide +kernel
theorem dX9_stepBack_19 : decode cX9_stepBack 19 = .ok (.getfield 14, 3) := by decide +kernel
theorem dX9_stepBack_22 : decode cX9_stepBack 22 = .ok (.aload_n 0, 1) := by decide +kernel
theorem dX9_stepBack_23 : decode cX9_stepBack 23 = .ok (.getfield 20, 3) := by decide +kernel
theorem dX9_stepBack_26 : decode cX9_stepBack 26 = .ok (.invokevirtual 38, 3) := by decide +kernel
theorem dX9_stepBack_29 : decode cX9_stepBack 29 = .ok (.putfield 24, 3) := by decide +kernel
theorem dX9_stepBack_32 : decode cX9_stepBack 32 = .ok (.return_, 1) := by decide +kernel
theorem dX10_init_0 : decode cX10_init 0 = .ok (.aload_n 0, 1) := by decide +kernel
theorem dX10_init_1 : decode cX10_init 1 = .ok (.invokespecial 3, 3) := by decide +kernel
theorem dX10_init_4 : decode cX10_init 4 = .ok (.aload_n 0, 1) := by decide +kernel
theorem dX10_init_5 : decode cX10_init 5 = .ok (.new 9, 3) := by decide +kernel
theorem dX10_init_8 : decode cX10_init 8 = .ok (.dup, 1) := by decide +kernel
theorem dX10_init_9 : decode cX10_init 9 = .ok (.bipush 8, 2) := by decide +kernel
theorem dX10_init_11 : decode cX10_init 11 = .ok (.invokespecial 11, 3) := by decide +kernel
theorem dX10_init_14 : decode cX10_init 14 = .ok (.putfield 14, 3) := by decide +kernel
theorem dX10_init_17 : decode cX10_init 17 = .ok (.aload_n 0, 1) := by decide +kernel
theorem dX10_init_18 : decode cX10_init 18 = .ok (.new 9, 3) := by decide +kernel
theorem dX10_init_21 : decode cX10_init 21 = .ok (.dup, 1) := by decide +kernel
theorem dX10_init_22 : decode cX10_init 22 = .ok (.bipush 60, 2) := by decide +kernel
theorem dX10_init_24 : decode cX10_init 24 = .ok (.invokespecial 11, 3) := by decide +kernel
theorem dX10_init_27 : decode cX10_init 27 = .ok (.putfield 20, 3) := by decide +kernel
theorem dX10_init_30 : decode cX10_init 30 = .ok (.aload_n 0, 1) := by decide +kernel
theorem dX10_init_31 : decode cX10_init 31 = .ok (.new 9, 3) := by decide +kernel
theorem dX10_init_34 : decode cX10_init 34 = .ok (.dup, 1) := by decide +kernel
theorem dX10_init_35 : decode cX10_init 35 = .ok (.bipush 12, 2) := by decide +kernel
theorem dX10_init_37 : decode cX10_init 37 = .ok (.invokespecial 11, 3) := by decide +kernel
theorem dX10_init_40 : decode cX10_init 40 = .ok (.putfield 23, 3) := by decide +kernel
theorem dX10_init_43 : decode cX10_init 43 = .ok (.aload_n 0, 1) := by decide +kernel
theorem dX10_init_44 : decode cX10_init 44 = .ok (.new 9, 3) := by decide +kernel
theorem dX10_init_47 : decode cX10_init 47 = .ok (.dup, 1) := by decide +kernel
theorem dX10_init_48 : decode cX10_init 48 = .ok (.bipush 12, 2) := by decide +kernel
theorem dX10_init_50 : decode cX10_init 50 = .ok (.invokespecial 11, 3) := by decide +kernel
theorem dX10_init_53 : decode cX10_init 53 = .ok (.putfield 26, 3) := by decide +kernel
theorem dX10_init_56 : decode cX10_init 56 = .ok (.aload_n 0, 1) := by decide +kernel
theorem dX10_init_57 : decode cX10_init 57 = .ok (.new 9, 3) := by decide +kernel
theorem dX10_init_60 : decode cX10_init 60 = .ok (.dup, 1) := by decide +kernel
theorem dX10_init_61 : decode cX10_init 61 = .ok (.bipush 12, 2) := by decide +kernel
theorem dX10_init_63 : decode cX10_init 63 = .ok (.invokespecial 11, 3) := by decide +kernel
theorem dX10_init_66 : decode cX10_init 66 = .ok (.putfield 29, 3) := by decide +kernel
theorem dX10_init_69 : decode cX10_init 69 = .ok (.aload_n 0, 1) := by decide +kernel
theorem dX10_init_70 : decode cX10_init 70 = .ok (.iconst 0, 1) := by decide +kernel
theorem dX10_init_71 : decode cX10_init 71 = .ok (.putfield 32, 3) := by decide +kernel
theorem dX10_init_74 : decode cX10_init 74 = .ok (.aload_n 0, 1) := by decide +kernel
theorem dX10_init_75 : decode cX10_init 75 = .ok (.iconst 0, 1) := by decide +kernel
theorem dX10_init_76 : decode cX10_init 76 = .ok (.putfield 36, 3) := by decide +kernel
theorem dX10_init_79 : decode cX10_init 79 = .ok (.aload_n 0, 1) := by decide +kernel
theorem dX10_init_80 : decode cX10_init 80 = .ok (.iconst 0, 1) := by decide +kernel
theorem dX10_init_81 : decode cX10_init 81 = .ok (.putfield 39, 3) := by decide +kernel
theorem dX10_init_84 : decode cX10_init 84 = .ok (.return_, 1) := by decide +kernel
theorem dX10_clear_0 : decode cX10_clear 0 = .ok (.aload_n 0, 1) := by decide +kernel
theorem dX10_clear_1 : decode cX10_clear 1 = .ok (.iconst 0, 1) := by decide +kernel
theorem dX10_clear_2 : decode cX10_clear 2 = .ok (.putfield 32, 3) := by decide +kernel
theorem dX10_clear_5 : decode cX10_clear 5 = .ok (.aload_n 0, 1) := by decide +kernel
theorem dX10_clear_6 : decode cX10_clear 6 = .ok (.iconst 0, 1) := by decide +kernel
theorem dX10_clear_7 : decode cX10_clear 7 = .ok (.putfield 36, 3) := by decide +kernel
theorem dX10_clear_10 : decode cX10_clear 10 = .ok (.aload_n 0, 1) := by decide +kernel
theorem dX10_clear_11 : decode cX10_clear 11 = .ok (.iconst 0, 1) := by decide +kernel
theorem dX10_clear_12 : decode cX10_clear 12 = .ok (.putfield 39, 3) := by decide +kernel
theorem dX10_clear_15 : decode cX10_clear 15 = .ok (.return_, 1) := by decide +kernel
theorem dX10_copyFrom_0 : decode cX10_copyFrom 0 = .ok (.aload_n 0, 1) := by decide +kernel
theorem dX10_copyFrom_1 : decode cX10_copyFrom 1 = .ok (.getfield 14, 3) := by decide +kernel
theorem dX10_copyFrom_4 : decode cX10_copyFrom 4 = .ok (.aload_n 1, 1) := by decide +kernel
theorem dX10_copyFrom_5 : decode cX10_copyFrom 5 = .ok (.getfield 14, 3) := by decide +kernel
theorem dX10_copyFrom_8 : decode cX10_copyFrom 8 = .ok (.invokevirtual 42, 3) := by decide +kernel
theorem dX10_copyFrom_11 : decode cX10_copyFrom 11 = .ok (.aload_n 0, 1) := by decide +kernel
theorem dX10_copyFrom_12 : decode cX10_copyFrom 12 = .ok (.getfield 20, 3) := by decide +kernel
theorem dX10_copyFrom_15 : decode cX10_copyFrom 15 = .ok (.aload_n 1, 1) := by decide +kernel
theorem dX10_copyFrom_16 : decode cX10_copyFrom 16 = .ok (.getfield 20, 3) := by decide +kernel
theorem dX10_copyFrom_19 : decode cX10_copyFrom 19 = .ok (.invokevirtual 42, 3) := by decide +kernel
theorem dX10_copyFrom_22 : decode cX10_copyFrom 22 = .ok (.aload_n 0, 1) := by decide +kernel
theorem dX10_copyFrom_23 : decode cX10_copyFrom 23 = .ok (.getfield 23, 3) := by decide +kernel
theorem dX10_copyFrom_26 : decode cX10_copyFrom 26 = .ok (.aload_n 1, 1) := by decide +kernel
theorem dX10_copyFrom_27 : decode cX10_copyFrom 27 = .ok (.getfield 23, 3) := by decide +kernel
theorem dX10_copyFrom_30 : decode cX10_copyFrom 30 = .ok (.invokevirtual 42, 3) := by decide +kernel
theorem dX10_copyFrom_33 : decode cX10_copyFrom 33 = .ok (.aload_n 0, 1) := by decide +kernel
theorem dX10_copyFrom_34 : decode cX10_copyFrom 34 = .ok (.getfield 26, 3) := by decide +kernel
theorem dX10_copyFrom_37 : decode cX10_copyFrom 37 = .ok (.aload_n 1, 1) := by decide +kernel
theorem dX10_copyFrom_38 : decode cX10_copyFrom 38 = .ok (.getfield 26, 3) := by decide +kernel
theorem dX10_copyFrom_41 : decode cX10_copyFrom 41 = .ok (.invokevirtual 42, 3) := by decide +kernel
theorem dX10_copyFrom_44 : decode cX10_copyFrom 44 = .ok (.aload_n 0, 1) := by decide +kernel
theorem dX10_copyFrom_45 : decode cX10_copyFrom 45 = .ok (.getfield 29, 3) := by decide +kernel
theorem dX10_copyFrom_48 : decode cX10_copyFrom 48 = .ok (.aload_n 1, 1) := by decide +kernel
theorem dX10_copyFrom_49 : decode cX10_copyFrom 49 = .ok (.getfield 29, 3) := by decide +kernel
theorem dX10_copyFrom_52 : decode cX10_copyFrom 52 = .ok (.invokevirtual 42, 3) := by decide +kernel
theorem dX10_copyFrom_55 : decode cX10_copyFrom 55 = .ok (.aload_n 0, 1) := by decide +kernel
theorem dX10_copyFrom_56 : decode cX10_copyFrom 56 = .ok (.aload_n 1, 1) := by decide +kernel
theorem dX10_copyFrom_57 : decode cX10_copyFrom 57 = .ok (.getfield 32, 3) := by decide +kernel
theorem dX10_copyFrom_60 : decode cX10_copyFrom 60 = .ok (.putfield 32, 3) := by decide +kernel
theorem dX10_copyFrom_63 : decode cX10_copyFrom 63 = .ok (.aload_n 0, 1) := by decide +kernel
theorem dX10_copyFrom_64 : decode cX10_copyFrom 64 = .ok (.aload_n 1, 1) := by decide +kernel
theorem dX10_copyFrom_65 : decode cX10_copyFrom 65 = .ok (.getfield 36, 3) := by decide +kernel
theorem dX10_copyFrom_68 : decode cX10_copyFrom 68 = .ok (.putfield 36, 3) := by decide +kernel
theorem dX10_copyFrom_71 : decode cX10_copyFrom 71 = .ok (.aload_n 0, 1) := by decide +kernel
theorem dX10_copyFrom_72 : decode cX10_copyFrom 72 = .ok (.aload_n 1, 1) := by decide +kernel
theorem dX10_copyFrom_73 : decode cX10_copyFrom 73 = .ok (.getfield 39, 3) := by decide +kernel
theorem dX10_copyFrom_76 : decode cX10_copyFrom 76 = .ok (.putfield 39, 3) := by decide +kernel
theorem dX10_copyFrom_79 : decode cX10_copyFrom 79 = .ok (.return_, 1) := by decide +kernel
theorem dX10_quireCount_0 : decode cX10_quireCount 0 = .ok (.aload_n 0, 1) := by decide +kernel
theorem dX10_quireCount_1 : decode cX10_quireCount 1 = .ok (.getfield 32, 3) := by decide +kernel
theorem dX10_quireCount_4 : decode cX10_quireCount 4 = .ok (.ireturn, 1) := by decide +kernel
theorem dX10_takesQuire_0 : decode cX10_takesQuire 0 = .ok (.aload_n 0, 1) := by decide +kernel
theorem dX10_takesQuire_1 : decode cX10_takesQuire 1 = .ok (.getfield 32, 3) := by decide +kernel
theorem dX10_takesQuire_4 : decode cX10_takesQuire 4 = .ok (.bipush 8, 2) := by decide +kernel
theorem dX10_takesQuire_6 : decode cX10_takesQuire 6 = .ok (.if_icmp .ge 7, 3) := by decide +kernel
theorem dX10_takesQuire_9 : decode cX10_takesQuire 9 = .ok (.iconst 1, 1) := by decide +kernel
theorem dX10_takesQuire_10 : decode cX10_takesQuire 10 = .ok (.goto 4, 3) := by decide +kernel
theorem dX10_takesQuire_13 : decode cX10_takesQuire 13 = .ok (.iconst 0, 1) := by decide +kernel
theorem dX10_takesQuire_14 : decode cX10_takesQuire 14 = .ok (.ireturn, 1) := by decide +kernel
theorem dX10_takesLeaves_0 : decode cX10_takesLeaves 0 = .ok (.iload_n 1, 1) := by decide +kernel
theorem dX10_takesLeaves_1 : decode cX10_takesLeaves 1 = .ok (.iconst 2, 1) := by decide +kernel
theorem dX10_takesLeaves_2 : decode cX10_takesLeaves 2 = .ok (.if_icmp .lt 30, 3) := by decide +kernel
theorem dX10_takesLeaves_5 : decode cX10_takesLeaves 5 = .ok (.iload_n 1, 1) := by decide +kernel
theorem dX10_takesLeaves_6 : decode cX10_takesLeaves 6 = .ok (.bipush 12, 2) := by decide +kernel
theorem dX10_takesLeaves_8 : decode cX10_takesLeaves 8 = .ok (.if_icmp .gt 24, 3) := by decide +kernel
theorem dX10_takesLeaves_11 : decode cX10_takesLeaves 11 = .ok (.iload_n 1, 1) := by decide +kernel
theorem dX10_takesLeaves_12 : decode cX10_takesLeaves 12 = .ok (.iconst 2, 1) := by decide +kernel
theorem dX10_takesLeaves_13 : decode cX10_takesLeaves 13 = .ok (.irem, 1) := by decide +kernel
theorem dX10_takesLeaves_14 : decode cX10_takesLeaves 14 = .ok (.ifCond .ne 18, 3) := by decide +kernel
theorem dX10_takesLeaves_17 : decode cX10_takesLeaves 17 = .ok (.aload_n 0, 1) := by decide +kernel
theorem dX10_takesLeaves_18 : decode cX10_takesLeaves 18 = .ok (.getfield 36, 3) := by decide +kernel
theorem dX10_takesLeaves_21 : decode cX10_takesLeaves 21 = .ok (.iload_n 1, 1) := by decide +kernel
theorem dX10_takesLeaves_22 : decode cX10_takesLeaves 22 = .ok (.iadd, 1) := by decide +kernel
theorem dX10_takesLeaves_23 : decode cX10_takesLeaves 23 = .ok (.bipush 60, 2) := by decide +kernel
theorem dX10_takesLeaves_25 : decode cX10_takesLeaves 25 = .ok (.if_icmp .gt 7, 3) := by decide +kernel
theorem dX10_takesLeaves_28 : decode cX10_takesLeaves 28 = .ok (.iconst 1, 1) := by decide +kernel
theorem dX10_takesLeaves_29 : decode cX10_takesLeaves 29 = .ok (.goto 4, 3) := by decide +kernel
theorem dX10_takesLeaves_32 : decode cX10_takesLeaves 32 = .ok (.iconst 0, 1) := by decide +kernel
theorem dX10_takesLeaves_33 : decode cX10_takesLeaves 33 = .ok (.ireturn, 1) := by decide +kernel
theorem dX10_addQuire_0 : decode cX10_addQuire 0 = .ok (.aload_n 0, 1) := by decide +kernel
theorem dX10_addQuire_1 : decode cX10_addQuire 1 = .ok (.invokevirtual 46, 3) := by decide +kernel
theorem dX10_addQuire_4 : decode cX10_addQuire 4 = .ok (.ifCond .eq 70, 3) := by decide +kernel
theorem dX10_addQuire_7 : decode cX10_addQuire 7 = .ok (.aload_n 0, 1) := by decide +kernel
theorem dX10_addQuire_8 : decode cX10_addQuire 8 = .ok (.iload_n 1, 1) := by decide +kernel
theorem dX10_addQuire_9 : decode cX10_addQuire 9 = .ok (.invokevirtual 50, 3) := by decide +kernel
theorem dX10_addQuire_12 : decode cX10_addQuire 12 = .ok (.ifCond .eq 62, 3) := by decide +kernel
theorem dX10_addQuire_15 : decode cX10_addQuire 15 = .ok (.iconst 0, 1) := by decide +kernel
theorem dX10_addQuire_16 : decode cX10_addQuire 16 = .ok (.istore_n 2, 1) := by decide +kernel
theorem dX10_addQuire_17 : decode cX10_addQuire 17 = .ok (.iload_n 2, 1) := by decide +kernel
theorem dX10_addQuire_18 : decode cX10_addQuire 18 = .ok (.iload_n 1, 1) := by decide +kernel
theorem dX10_addQuire_19 : decode cX10_addQuire 19 = .ok (.if_icmp .ge 23, 3) := by decide +kernel
theorem dX10_addQuire_22 : decode cX10_addQuire 22 = .ok (.aload_n 0, 1) := by decide +kernel
theorem dX10_addQuire_23 : decode cX10_addQuire 23 = .ok (.getfield 20, 3) := by decide +kernel
theorem dX10_addQuire_26 : decode cX10_addQuire 26 = .ok (.aload_n 0, 1) := by decide +kernel
theorem dX10_addQuire_27 : decode cX10_addQuire 27 = .ok (.getfield 36, 3) := by decide +kernel
theorem dX10_addQuire_30 : decode cX10_addQuire 30 = .ok (.iload_n 2, 1) := by decide +kernel
theorem dX10_addQuire_31 : decode cX10_addQuire 31 = .ok (.iadd, 1) := by decide +kernel
theorem dX10_addQuire_32 : decode cX10_addQuire 32 = .ok (.iconst 0, 1) := by decide +kernel
theorem dX10_addQuire_33 : decode cX10_addQuire 33 = .ok (.invokevirtual 54, 3) := by decide +kernel
theorem dX10_addQuire_36 : decode cX10_addQuire 36 = .ok (.iinc 2 1, 3) := by decide +kernel
theorem dX10_addQuire_39 : decode cX10_addQuire 39 = .ok (.goto (-22), 3) := by decide +kernel
theorem dX10_addQuire_42 : decode cX10_addQuire 42 = .ok (.aload_n 0, 1) := by decide +kernel
theorem dX10_addQuire_43 : decode cX10_addQuire 43 = .ok (.getfield 14, 3) := by decide +kernel
theorem dX10_addQuire_46 : decode cX10_addQuire 46 = .ok (.aload_n 0, 1) := by decide +kernel
theorem dX10_addQuire_47 : decode cX10_addQuire 47 = .ok (.getfield 32, 3) := by decide +kernel
theorem dX10_addQuire_50 : decode cX10_addQuire 50 = .ok (.iload_n 1, 1) := by decide +kernel
theorem dX10_addQuire_51 : decode cX10_addQuire 51 = .ok (.invokevirtual 54, 3) := by decide +kernel
theorem dX10_addQuire_54 : decode cX10_addQuire 54 = .ok (.aload_n 0, 1) := by decide +kernel
theorem dX10_addQuire_55 : decode cX10_addQuire 55 = .ok (.dup, 1) := by decide +kernel
theorem dX10_addQuire_56 : decode cX10_addQuire 56 = .ok (.getfield 32, 3) := by decide +kernel
theorem dX10_addQuire_59 : decode cX10_addQuire 59 = .ok (.iconst 1, 1) := by decide +kernel
theorem dX10_addQuire_60 : decode cX10_addQuire 60 = .ok (.iadd, 1) := by decide +kernel
theorem dX10_addQuire_61 : decode cX10_addQuire 61 = .ok (.putfield 32, 3) := by decide +kernel
theorem dX10_addQuire_64 : decode cX10_addQuire 64 = .ok (.aload_n 0, 1) := by decide +kernel
theorem dX10_addQuire_65 : decode cX10_addQuire 65 = .ok (.dup, 1) := by decide +kernel
theorem dX10_addQuire_66 : decode cX10_addQuire 66 = .ok (.getfield 36, 3) := by decide +kernel
theorem dX10_addQuire_69 : decode cX10_addQuire 69 = .ok (.iload_n 1, 1) := by decide +kernel
theorem dX10_addQuire_70 : decode cX10_addQuire 70 = .ok (.iadd, 1) := by decide +kernel
theorem dX10_addQuire_71 : decode cX10_addQuire 71 = .ok (.putfield 36, 3) := by decide +kernel
theorem dX10_addQuire_74 : decode cX10_addQuire 74 = .ok (.return_, 1) := by decide +kernel
theorem dX10_quireOf_0 : decode cX10_quireOf 0 = .ok (.iconst 0, 1) := by decide +kernel
theorem dX10_quireOf_1 : decode cX10_quireOf 1 = .ok (.istore_n 2, 1) := by decide +kernel
theorem dX10_quireOf_2 : decode cX10_quireOf 2 = .ok (.iconst 0, 1) := by decide +kernel
theorem dX10_quireOf_3 : decode cX10_quireOf 3 = .ok (.istore_n 3, 1) := by decide +kernel
theorem dX10_quireOf_4 : decode cX10_quireOf 4 = .ok (.iload_n 3, 1) := by decide +kernel
theorem dX10_quireOf_5 : decode cX10_quireOf 5 = .ok (.aload_n 0, 1) := by decide +kernel
theorem dX10_quireOf_6 : decode cX10_quireOf 6 = .ok (.getfield 32, 3) := by decide +kernel
theorem dX10_quireOf_9 : decode cX10_quireOf 9 = .ok (.if_icmp .ge 27, 3) := by decide +kernel
theorem dX10_quireOf_12 : decode cX10_quireOf 12 = .ok (.iload_n 2, 1) := by decide +kernel
theorem dX10_quireOf_13 : decode cX10_quireOf 13 = .ok (.aload_n 0, 1) := by decide +kernel
theorem dX10_quireOf_14 : decode cX10_quireOf 14 = .ok (.getfield 14, 3) := by decide +kernel
theorem dX10_quireOf_17 : decode cX10_quireOf 17 = .ok (.iload_n 3, 1) := by decide +kernel
theorem dX10_quireOf_18 : decode cX10_quireOf 18 = .ok (.invokevirtual 58, 3) := by decide +kernel
theorem dX10_quireOf_21 : decode cX10_quireOf 21 = .ok (.iadd, 1) := by decide +kernel
theorem dX10_quireOf_22 : decode cX10_quireOf 22 = .ok (.istore_n 2, 1) := by decide +kernel
theorem dX10_quireOf_23 : decode cX10_quireOf 23 = .ok (.iload_n 1, 1) := by decide +kernel
theorem dX10_quireOf_24 : decode cX10_quireOf 24 = .ok (.iload_n 2, 1) := by decide +kernel
theorem dX10_quireOf_25 : decode cX10_quireOf 25 = .ok (.if_icmp .ge 5, 3) := by decide +kernel
theorem dX10_quireOf_28 : decode cX10_quireOf 28 = .ok (.iload_n 3, 1) := by decide +kernel
theorem dX10_quireOf_29 : decode cX10_quireOf 29 = .ok (.ireturn, 1) := by decide +kernel
theorem dX10_quireOf_30 : decode cX10_quireOf 30 = .ok (.iinc 3 1, 3) := by decide +kernel
theorem dX10_quireOf_33 : decode cX10_quireOf 33 = .ok (.goto (-29), 3) := by decide +kernel
theorem dX10_quireOf_36 : decode cX10_quireOf 36 = .ok (.iconst (-1), 1) := by decide +kernel
theorem dX10_quireOf_37 : decode cX10_quireOf 37 = .ok (.ireturn, 1) := by decide +kernel
theorem dX10_firstLeafOf_0 : decode cX10_firstLeafOf 0 = .ok (.iconst 0, 1) := by decide +kernel
theorem dX10_firstLeafOf_1 : decode cX10_firstLeafOf 1 = .ok (.istore_n 2, 1) := by decide +kernel
theorem dX10_firstLeafOf_2 : decode cX10_firstLeafOf 2 = .ok (.iconst 0, 1) := by decide +kernel
theorem dX10_firstLeafOf_3 : decode cX10_firstLeafOf 3 = .ok (.istore_n 3, 1) := by decide +kernel
theorem dX10_firstLeafOf_4 : decode cX10_firstLeafOf 4 = .ok (.iload_n 3, 1) := by decide +kernel
theorem dX10_firstLeafOf_5 : decode cX10_firstLeafOf 5 = .ok (.iload_n 1, 1) := by decide +kernel
theorem dX10_firstLeafOf_6 : decode cX10_firstLeafOf 6 = .ok (.if_icmp .ge 20, 3) := by decide +kernel
theorem dX10_firstLeafOf_9 : decode cX10_firstLeafOf 9 = .ok (.iload_n 2, 1) := by decide +kernel
theorem dX10_firstLeafOf_10 : decode cX10_firstLeafOf 10 = .ok (.aload_n 0, 1) := by decide +kernel
theorem dX10_firstLeafOf_11 : decode cX10_firstLeafOf 11 = .ok (.getfield 14, 3) := by decide +kernel
theorem dX10_firstLeafOf_14 : decode cX10_firstLeafOf 14 = .ok (.iload_n 3, 1) := by decide +kernel
theorem dX10_firstLeafOf_15 : decode cX10_firstLeafOf 15 = .ok (.invokevirtual 58, 3) := by decide +kernel
theorem dX10_firstLeafOf_18 : decode cX10_firstLeafOf 18 = .ok (.iadd, 1) := by decide +kernel
theorem dX10_firstLeafOf_19 : decode cX10_firstLeafOf 19 = .ok (.istore_n 2, 1) := by decide +kernel
theorem dX10_firstLeafOf_20 : decode cX10_firstLeafOf 20 = .ok (.iinc 3 1, 3) := by decide +kernel
theorem dX10_firstLeafOf_23 : decode cX10_firstLeafOf 23 = .ok (.goto (-19), 3) := by decide +kernel
theorem dX10_firstLeafOf_26 : decode cX10_firstLeafOf 26 = .ok (.iload_n 2, 1) := by decide +kernel
theorem dX10_firstLeafOf_27 : decode cX10_firstLeafOf 27 = .ok (.ireturn, 1) := by decide +kernel
theorem dX10_indexInQuire_0 : decode cX10_indexInQuire 0 = .ok (.iload_n 1, 1) := by decide +kernel
theorem dX10_indexInQuire_1 : decode cX10_indexInQuire 1 = .ok (.aload_n 0, 1) := by decide +kernel
theorem dX10_indexInQuire_2 : decode cX10_indexInQuire 2 = .ok (.aload_n 0, 1) := by decide +kernel
theorem dX10_indexInQuire_3 : decode cX10_indexInQuire 3 = .ok (.iload_n 1, 1) := by decide +kernel
theorem dX10_indexInQuire_4 : decode cX10_indexInQuire 4 = .ok (.invokevirtual 62, 3) := by decide +kernel
theorem dX10_indexInQuire_7 : decode cX10_indexInQuire 7 = .ok (.invokevirtual 65, 3) := by decide +kernel
theorem dX10_indexInQuire_10 : decode cX10_indexInQuire 10 = .ok (.isub, 1) := by decide +kernel
theorem dX10_indexInQuire_11 : decode cX10_indexInQuire 11 = .ok (.ireturn, 1) := by decide +kernel
theorem dX10_conjugateOf_0 : decode cX10_conjugateOf 0 = .ok (.aload_n 0, 1) := by decide +kernel
theorem dX10_conjugateOf_1 : decode cX10_conjugateOf 1 = .ok (.iload_n 1, 1) := by decide +kernel
theorem dX10_conjugateOf_2 : decode cX10_conjugateOf 2 = .ok (.invokevirtual 62, 3) := by decide +kernel
theorem dX10_conjugateOf_5 : decode cX10_conjugateOf 5 = .ok (.istore_n 2, 1) := by decide +kernel
theorem dX10_conjugateOf_6 : decode cX10_conjugateOf 6 = .ok (.aload_n 0, 1) := by decide +kernel
theorem dX10_conjugateOf_7 : decode cX10_conjugateOf 7 = .ok (.iload_n 2, 1) := by decide +kernel
theorem dX10_conjugateOf_8 : decode cX10_conjugateOf 8 = .ok (.invokevirtual 65, 3) := by decide +kernel
theorem dX10_conjugateOf_11 : decode cX10_conjugateOf 11 = .ok (.aload_n 0, 1) := by decide +kernel
theorem dX10_conjugateOf_12 : decode cX10_conjugateOf 12 = .ok (.getfield 14, 3) := by decide +kernel
theorem dX10_conjugateOf_15 : decode cX10_conjugateOf 15 = .ok (.iload_n 2, 1) := by decide +kernel
theorem dX10_conjugateOf_16 : decode cX10_conjugateOf 16 = .ok (.invokevirtual 58, 3) := by decide +kernel
theorem dX10_conjugateOf_19 : decode cX10_conjugateOf 19 = .ok (.iadd, 1) := by decide +kernel
theorem dX10_conjugateOf_20 : decode cX10_conjugateOf 20 = .ok (.iconst 1, 1) := by decide +kernel
theorem dX10_conjugateOf_21 : decode cX10_conjugateOf 21 = .ok (.isub, 1) := by decide +kernel
theorem dX10_conjugateOf_22 : decode cX10_conjugateOf 22 = .ok (.aload_n 0, 1) := by decide +kernel
theorem dX10_conjugateOf_23 : decode cX10_conjugateOf 23 = .ok (.iload_n 1, 1) := by decide +kernel
theorem dX10_conjugateOf_24 : decode cX10_conjugateOf 24 = .ok (.invokevirtual 68, 3) := by decide +kernel
theorem dX10_conjugateOf_27 : decode cX10_conjugateOf 27 = .ok (.isub, 1) := by decide +kernel
theorem dX10_conjugateOf_28 : decode cX10_conjugateOf 28 = .ok (.ireturn, 1) := by decide +kernel
theorem dX10_leafCount_0 : decode cX10_leafCount 0 = .ok (.aload_n 0, 1) := by decide +kernel
theorem dX10_leafCount_1 : decode cX10_leafCount 1 = .ok (.getfield 36, 3) := by decide +kernel
theorem dX10_leafCount_4 : decode cX10_leafCount 4 = .ok (.ireturn, 1) := by decide +kernel
theorem dX10_hasLeaf_0 : decode cX10_hasLeaf 0 = .ok (.iload_n 1, 1) := by decide +kernel
theorem dX10_hasLeaf_1 : decode cX10_hasLeaf 1 = .ok (.ifCond .lt 15, 3) := by decide +kernel
theorem dX10_hasLeaf_4 : decode cX10_hasLeaf 4 = .ok (.iload_n 1, 1) := by decide +kernel
theorem dX10_hasLeaf_5 : decode cX10_hasLeaf 5 = .ok (.aload_n 0, 1) := by decide +kernel
theorem dX10_hasLeaf_6 : decode cX10_hasLeaf 6 = .ok (.getfield 36, 3) := by decide +kernel
theorem dX10_hasLeaf_9 : decode cX10_hasLeaf 9 = .ok (.if_icmp .ge 7, 3) := by decide +kernel
theorem dX10_hasLeaf_12 : decode cX10_hasLeaf 12 = .ok (.iconst 1, 1) := by decide +kernel
theorem dX10_hasLeaf_13 : decode cX10_hasLeaf 13 = .ok (.goto 4, 3) := by decide +kernel
theorem dX10_hasLeaf_16 : decode cX10_hasLeaf 16 = .ok (.iconst 0, 1) := by decide +kernel
theorem dX10_hasLeaf_17 : decode cX10_hasLeaf 17 = .ok (.ireturn, 1) := by decide +kernel
theorem dX10_isPresent_0 : decode cX10_isPresent 0 = .ok (.aload_n 0, 1) := by decide +kernel
theorem dX10_isPresent_1 : decode cX10_isPresent 1 = .ok (.iload_n 1, 1) := by decide +kernel
theorem dX10_isPresent_2 : decode cX10_isPresent 2 = .ok (.invokevirtual 71, 3) := by decide +kernel
theorem dX10_isPresent_5 : decode cX10_isPresent 5 = .ok (.ifCond .eq 18, 3) := by decide +kernel
theorem dX10_isPresent_8 : decode cX10_isPresent 8 = .ok (.aload_n 0, 1) := by decide +kernel
theorem dX10_isPresent_9 : decode cX10_isPresent 9 = .ok (.getfield 20, 3) := by decide +kernel
theorem dX10_isPresent_12 : decode cX10_isPresent 12 = .ok (.iload_n 1, 1) := by decide +kernel
theorem dX10_isPresent_13 : decode cX10_isPresent 13 = .ok (.invokevirtual 58, 3) := by decide +kernel
theorem dX10_isPresent_16 : decode cX10_isPresent 16 = .ok (.ifCond .ne 7, 3) := by decide +kernel
theorem dX10_isPresent_19 : decode cX10_isPresent 19 = .ok (.iconst 1, 1) := by decide +kernel
theorem dX10_isPresent_20 : decode cX10_isPresent 20 = .ok (.goto 4, 3) := by decide +kernel
theorem dX10_isPresent_23 : decode cX10_isPresent 23 = .ok (.iconst 0, 1) := by decide +kernel
theorem dX10_isPresent_24 : decode cX10_isPresent 24 = .ok (.ireturn, 1) := by decide +kernel
theorem dX10_setMissing_0 : decode cX10_setMissing 0 = .ok (.aload_n 0, 1) := by decide +kernel
theorem dX10_setMissing_1 : decode cX10_setMissing 1 = .ok (.getfield 20, 3) := by decide +kernel
theorem dX10_setMissing_4 : decode cX10_setMissing 4 = .ok (.iload_n 1, 1) := by decide +kernel
theorem dX10_setMissing_5 : decode cX10_setMissing 5 = .ok (.iload_n 2, 1) := by decide +kernel
theorem dX10_setMissing_6 : decode cX10_setMissing 6 = .ok (.ifCond .eq 7, 3) := by decide +kernel
theorem dX10_setMissing_9 : decode cX10_setMissing 9 = .ok (.iconst 1, 1) := by decide +kernel
theorem dX10_setMissing_10 : decode cX10_setMissing 10 = .ok (.goto 4, 3) := by decide +kernel
theorem dX10_setMissing_13 : decode cX10_setMissing 13 = .ok (.iconst 0, 1) := by decide +kernel
theorem dX10_setMissing_14 : decode cX10_setMissing 14 = .ok (.invokevirtual 54, 3) := by decide +kernel
theorem dX10_setMissing_17 : decode cX10_setMissing 17 = .ok (.return_, 1) := by decide +kernel
theorem dX10_presentCount_0 : decode cX10_presentCount 0 = .ok (.aload_n 0, 1) := by decide +kernel
theorem dX10_presentCount_1 : decode cX10_presentCount 1 = .ok (.aload_n 0, 1) := by decide +kernel
theorem dX10_presentCount_2 : decode cX10_presentCount 2 = .ok (.getfield 36, 3) := by decide +kernel
theorem dX10_presentCount_5 : decode cX10_presentCount 5 = .ok (.invokevirtual 74, 3) := by decide +kernel
theorem dX10_presentCount_8 : decode cX10_presentCount 8 = .ok (.ireturn, 1) := by decide +kernel
theorem dX10_presentBefore_0 : decode cX10_presentBefore 0 = .ok (.iconst 0, 1) := by decide +kernel
theorem dX10_presentBefore_1 : decode cX10_presentBefore 1 = .ok (.istore_n 2, 1) := by decide +kernel
theorem dX10_presentBefore_2 : decode cX10_presentBefore 2 = .ok (.iconst 0, 1) := by decide +kernel
theorem dX10_presentBefore_3 : decode cX10_presentBefore 3 = .ok (.istore_n 3, 1) := by decide +kernel
theorem dX10_presentBefore_4 : decode cX10_presentBefore 4 = .ok (.iload_n 3, 1) := by decide +kernel
theorem dX10_presentBefore_5 : decode cX10_presentBefore 5 = .ok (.iload_n 1, 1) := by decide +kernel
theorem dX10_presentBefore_6 : decode cX10_presentBefore 6 = .ok (.if_icmp .ge 20, 3) := by decide +kernel
theorem dX10_presentBefore_9 : decode cX10_presentBefore 9 = .ok (.aload_n 0, 1) := by decide +kernel
theorem dX10_presentBefore_10 : decode cX10_presentBefore 10 = .ok (.iload_n 3, 1) := by decide +kernel
theorem dX10_presentBefore_11 : decode cX10_presentBefore 11 = .ok (.invokevirtual 77, 3) := by decide +kernel
theorem dX10_presentBefore_14 : decode cX10_presentBefore 14 = .ok (.ifCond .eq 6, 3) := by decide +kernel
theorem dX10_presentBefore_17 : decode cX10_presentBefore 17 = .ok (.iinc 2 1, 3) := by decide +kernel
theorem dX10_presentBefore_20 : decode cX10_presentBefore 20 = .ok (.iinc 3 1, 3) := by decide +kernel
theorem dX10_presentBefore_23 : decode cX10_presentBefore 23 = .ok (.goto (-19), 3) := by decide +kernel
theorem dX10_presentBefore_26 : decode cX10_presentBefore 26 = .ok (.iload_n 2, 1) := by decide +kernel
theorem dX10_presentBefore_27 : decode cX10_presentBefore 27 = .ok (.ireturn, 1) := by decide +kernel
theorem dX10_presentLeaf_0 : decode cX10_presentLeaf 0 = .ok (.iconst 0, 1) := by decide +kernel
theorem dX10_presentLeaf_1 : decode cX10_presentLeaf 1 = .ok (.istore_n 2, 1) := by decide +kernel
theorem dX10_presentLeaf_2 : decode cX10_presentLeaf 2 = .ok (.iconst 0, 1) := by decide +kernel
theorem dX10_presentLeaf_3 : decode cX10_presentLeaf 3 = .ok (.istore_n 3, 1) := by decide +kernel
theorem dX10_presentLeaf_4 : decode cX10_presentLeaf 4 = .ok (.iload_n 3, 1) := by decide +kernel
theorem dX10_presentLeaf_5 : decode cX10_presentLeaf 5 = .ok (.aload_n 0, 1) := by decide +kernel
theorem dX10_presentLeaf_6 : decode cX10_presentLeaf 6 = .ok (.getfield 36, 3) := by decide +kernel
theorem dX10_presentLeaf_9 : decode cX10_presentLeaf 9 = .ok (.if_icmp .ge 27, 3) := by decide +kernel
theorem dX10_presentLeaf_12 : decode cX10_presentLeaf 12 = .ok (.aload_n 0, 1) := by decide +kernel
theorem dX10_presentLeaf_13 : decode cX10_presentLeaf 13 = .ok (.iload_n 3, 1) := by decide +kernel
theorem dX10_presentLeaf_14 : decode cX10_presentLeaf 14 = .ok (.invokevirtual 77, 3) := by decide +kernel
theorem dX10_presentLeaf_17 : decode cX10_presentLeaf 17 = .ok (.ifCond .eq 13, 3) := by decide +kernel
theorem dX10_presentLeaf_20 : decode cX10_presentLeaf 20 = .ok (.iload_n 2, 1) := by decide +kernel
theorem dX10_presentLeaf_21 : decode cX10_presentLeaf 21 = .ok (.iload_n 1, 1) := by decide +kernel
theorem dX10_presentLeaf_22 : decode cX10_presentLeaf 22 = .ok (.if_icmp .ne 5, 3) := by decide +kernel
theorem dX10_presentLeaf_25 : decode cX10_presentLeaf 25 = .ok (.iload_n 3, 1) := by decide +kernel
theorem dX10_presentLeaf_26 : decode cX10_presentLeaf 26 = .ok (.ireturn, 1) := by decide +kernel
theorem dX10_presentLeaf_27 : decode cX10_presentLeaf 27 = .ok (.iinc 2 1, 3) := by decide +kernel
theorem dX10_presentLeaf_30 : decode cX10_presentLeaf 30 = .ok (.iinc 3 1, 3) := by decide +kernel
theorem dX10_presentLeaf_33 : decode cX10_presentLeaf 33 = .ok (.goto (-29), 3) := by decide +kernel
theorem dX10_presentLeaf_36 : decode cX10_presentLeaf 36 = .ok (.iconst (-1), 1) := by decide +kernel
theorem dX10_presentLeaf_37 : decode cX10_presentLeaf 37 = .ok (.ireturn, 1) := by decide +kernel
theorem dX10_countOpenings_0 : decode cX10_countOpenings 0 = .ok (.aload_n 0, 1) := by decide +kernel
theorem dX10_countOpenings_1 : decode cX10_countOpenings 1 = .ok (.invokevirtual 80, 3) := by decide +kernel
theorem dX10_countOpenings_4 : decode cX10_countOpenings 4 = .ok (.iconst 1, 1) := by decide +kernel
theorem dX10_countOpenings_5 : decode cX10_countOpenings 5 = .ok (.iadd, 1) := by decide +kernel
theorem dX10_countOpenings_6 : decode cX10_countOpenings 6 = .ok (.ireturn, 1) := by decide +kernel
theorem dX10_leftOf_0 : decode cX10_leftOf 0 = .ok (.aload_n 0, 1) := by decide +kernel
theorem dX10_leftOf_1 : decode cX10_leftOf 1 = .ok (.iload_n 1, 1) := by decide +kernel
theorem dX10_leftOf_2 : decode cX10_leftOf 2 = .ok (.iconst 1, 1) := by decide +kernel
theorem dX10_leftOf_3 : decode cX10_leftOf 3 = .ok (.isub, 1) := by decide +kernel
theorem dX10_leftOf_4 : decode cX10_leftOf 4 = .ok (.invokevirtual 84, 3) := by decide +kernel
theorem dX10_leftOf_7 : decode cX10_leftOf 7 = .ok (.ireturn, 1) := by decide +kernel
theorem dX10_rightOf_0 : decode cX10_rightOf 0 = .ok (.aload_n 0, 1) := by decide +kernel
theorem dX10_rightOf_1 : decode cX10_rightOf 1 = .ok (.iload_n 1, 1) := by decide +kernel
theorem dX10_rightOf_2 : decode cX10_rightOf 2 = .ok (.invokevirtual 84, 3) := by decide +kernel
theorem dX10_rightOf_5 : decode cX10_rightOf 5 = .ok (.ireturn, 1) := by decide +kernel
theorem dX10_gapOf_0 : decode cX10_gapOf 0 = .ok (.aload_n 0, 1) := by decide +kernel
theorem dX10_gapOf_1 : decode cX10_gapOf 1 = .ok (.iload_n 1, 1) := by decide +kernel
theorem dX10_gapOf_2 : decode cX10_gapOf 2 = .ok (.invokevirtual 87, 3) := by decide +kernel
theorem dX10_gapOf_5 : decode cX10_gapOf 5 = .ok (.istore_n 2, 1) := by decide +kernel
theorem dX10_gapOf_6 : decode cX10_gapOf 6 = .ok (.aload_n 0, 1) := by decide +kernel
theorem dX10_gapOf_7 : decode cX10_gapOf 7 = .ok (.iload_n 1, 1) := by decide +kernel
theorem dX10_gapOf_8 : decode cX10_gapOf 8 = .ok (.invokevirtual 90, 3) := by decide +kernel
theorem dX10_gapOf_11 : decode cX10_gapOf 11 = .ok (.istore_n 3, 1) := by decide +kernel
theorem dX10_gapOf_12 : decode cX10_gapOf 12 = .ok (.iload_n 2, 1) := by decide +kernel
theorem dX10_gapOf_13 : decode cX10_gapOf 13 = .ok (.iconst (-1), 1) := by decide +kernel
theorem dX10_gapOf_14 : decode cX10_gapOf 14 = .ok (.if_icmp .ne 7, 3) := by decide +kernel
theorem dX10_gapOf_17 : decode cX10_gapOf 17 = .ok (.iconst 0, 1) := by decide +kernel
theorem dX10_gapOf_18 : decode cX10_gapOf 18 = .ok (.goto 6, 3) := by decide +kernel
theorem dX10_gapOf_21 : decode cX10_gapOf 21 = .ok (.iload_n 2, 1) := by decide +kernel
theorem dX10_gapOf_22 : decode cX10_gapOf 22 = .ok (.iconst 1, 1) := by decide +kernel
theorem dX10_gapOf_23 : decode cX10_gapOf 23 = .ok (.iadd, 1) := by decide +kernel
theorem dX10_gapOf_24 : decode cX10_gapOf 24 = .ok (.istore 4, 2) := by decide +kernel
theorem dX10_gapOf_26 : decode cX10_gapOf 26 = .ok (.iload_n 3, 1) := by decide +kernel
theorem dX10_gapOf_27 : decode cX10_gapOf 27 = .ok (.iconst (-1), 1) := by decide +kernel
theorem dX10_gapOf_28 : decode cX10_gapOf 28 = .ok (.if_icmp .ne 10, 3) := by decide +kernel
theorem dX10_gapOf_31 : decode cX10_gapOf 31 = .ok (.aload_n 0, 1) := by decide +kernel
theorem dX10_gapOf_32 : decode cX10_gapOf 32 = .ok (.getfield 36, 3) := by decide +kernel
theorem dX10_gapOf_35 : decode cX10_gapOf 35 = .ok (.goto 4, 3) := by decide +kernel
theorem dX10_gapOf_38 : decode cX10_gapOf 38 = .ok (.iload_n 3, 1) := by decide +kernel
theorem dX10_gapOf_39 : decode cX10_gapOf 39 = .ok (.istore 5, 2) := by decide +kernel
theorem dX10_gapOf_41 : decode cX10_gapOf 41 = .ok (.iload 5, 2) := by decide +kernel
theorem dX10_gapOf_43 : decode cX10_gapOf 43 = .ok (.iload 4, 2) := by decide +kernel
theorem dX10_gapOf_45 : decode cX10_gapOf 45 = .ok (.isub, 1) := by decide +kernel
theorem dX10_gapOf_46 : decode cX10_gapOf 46 = .ok (.ireturn, 1) := by decide +kernel
theorem dX10_slipCount_0 : decode cX10_slipCount 0 = .ok (.aload_n 0, 1) := by decide +kernel
theorem dX10_slipCount_1 : decode cX10_slipCount 1 = .ok (.getfield 39, 3) := by decide +kernel
theorem dX10_slipCount_4 : decode cX10_slipCount 4 = .ok (.ireturn, 1) := by decide +kernel
theorem dX10_takesSlip_0 : decode cX10_takesSlip 0 = .ok (.aload_n 0, 1) := by decide +kernel
theorem dX10_takesSlip_1 : decode cX10_takesSlip 1 = .ok (.getfield 39, 3) := by decide +kernel
theorem dX10_takesSlip_4 : decode cX10_takesSlip 4 = .ok (.bipush 12, 2) := by decide +kernel
theorem dX10_takesSlip_6 : decode cX10_takesSlip 6 = .ok (.if_icmp .ge 7, 3) := by decide +kernel
theorem dX10_takesSlip_9 : decode cX10_takesSlip 9 = .ok (.iconst 1, 1) := by decide +kernel
theorem dX10_takesSlip_10 : decode cX10_takesSlip 10 = .ok (.goto 4, 3) := by decide +kernel
theorem dX10_takesSlip_13 : decode cX10_takesSlip 13 = .ok (.iconst 0, 1) := by decide +kernel
theorem dX10_takesSlip_14 : decode cX10_takesSlip 14 = .ok (.ireturn, 1) := by decide +kernel
theorem dX10_addSlip_0 : decode cX10_addSlip 0 = .ok (.aload_n 0, 1) := by decide +kernel
theorem dX10_addSlip_1 : decode cX10_addSlip 1 = .ok (.invokevirtual 93, 3) := by decide +kernel
theorem dX10_addSlip_4 : decode cX10_addSlip 4 = .ok (.ifCond .eq 49, 3) := by decide +kernel
theorem dX10_addSlip_7 : decode cX10_addSlip 7 = .ok (.aload_n 0, 1) := by decide +kernel
theorem dX10_addSlip_8 : decode cX10_addSlip 8 = .ok (.getfield 23, 3) := by decide +kernel
theorem dX10_addSlip_11 : decode cX10_addSlip 11 = .ok (.aload_n 0, 1) := by decide +kernel
theorem dX10_addSlip_12 : decode cX10_addSlip 12 = .ok (.getfield 39, 3) := by decide +kernel
theorem dX10_addSlip_15 : decode cX10_addSlip 15 = .ok (.iload_n 1, 1) := by decide +kernel
theorem dX10_addSlip_16 : decode cX10_addSlip 16 = .ok (.invokevirtual 54, 3) := by decide +kernel
theorem dX10_addSlip_19 : decode cX10_addSlip 19 = .ok (.aload_n 0, 1) := by decide +kernel
theorem dX10_addSlip_20 : decode cX10_addSlip 20 = .ok (.getfield 26, 3) := by decide +kernel
theorem dX10_addSlip_23 : decode cX10_addSlip 23 = .ok (.aload_n 0, 1) := by decide +kernel
theorem dX10_addSlip_24 : decode cX10_addSlip 24 = .ok (.getfield 39, 3) := by decide +kernel
theorem dX10_addSlip_27 : decode cX10_addSlip 27 = .ok (.iload_n 2, 1) := by decide +kernel
theorem dX10_addSlip_28 : decode cX10_addSlip 28 = .ok (.invokevirtual 54, 3) := by decide +kernel
theorem dX10_addSlip_31 : decode cX10_addSlip 31 = .ok (.aload_n 0, 1) := by decide +kernel
theorem dX10_addSlip_32 : decode cX10_addSlip 32 = .ok (.getfield 29, 3) := by decide +kernel
theorem dX10_addSlip_35 : decode cX10_addSlip 35 = .ok (.aload_n 0, 1) := by decide +kernel
theorem dX10_addSlip_36 : decode cX10_addSlip 36 = .ok (.getfield 39, 3) := by decide +kernel
theorem dX10_addSlip_39 : decode cX10_addSlip 39 = .ok (.iload_n 3, 1) := by decide +kernel
theorem dX10_addSlip_40 : decode cX10_addSlip 40 = .ok (.invokevirtual 54, 3) := by decide +kernel
theorem dX10_addSlip_43 : decode cX10_addSlip 43 = .ok (.aload_n 0, 1) := by decide +kernel
theorem dX10_addSlip_44 : decode cX10_addSlip 44 = .ok (.dup, 1) := by decide +kernel
theorem dX10_addSlip_45 : decode cX10_addSlip 45 = .ok (.getfield 39, 3) := by decide +kernel
theorem dX10_addSlip_48 : decode cX10_addSlip 48 = .ok (.iconst 1, 1) := by decide +kernel
theorem dX10_addSlip_49 : decode cX10_addSlip 49 = .ok (.iadd, 1) := by decide +kernel
theorem dX10_addSlip_50 : decode cX10_addSlip 50 = .ok (.putfield 39, 3) := by decide +kernel
theorem dX10_addSlip_53 : decode cX10_addSlip 53 = .ok (.return_, 1) := by decide +kernel
theorem dX10_loosen_0 : decode cX10_loosen 0 = .ok (.aload_n 0, 1) := by decide +kernel
theorem dX10_loosen_1 : decode cX10_loosen 1 = .ok (.getfield 23, 3) := by decide +kernel
theorem dX10_loosen_4 : decode cX10_loosen 4 = .ok (.iload_n 1, 1) := by decide +kernel
theorem dX10_loosen_5 : decode cX10_loosen 5 = .ok (.iconst (-1), 1) := by decide +kernel
theorem dX10_loosen_6 : decode cX10_loosen 6 = .ok (.invokevirtual 54, 3) := by decide +kernel
theorem dX10_loosen_9 : decode cX10_loosen 9 = .ok (.aload_n 0, 1) := by decide +kernel
theorem dX10_loosen_10 : decode cX10_loosen 10 = .ok (.getfield 26, 3) := by decide +kernel
theorem dX10_loosen_13 : decode cX10_loosen 13 = .ok (.iload_n 1, 1) := by decide +kernel
theorem dX10_loosen_14 : decode cX10_loosen 14 = .ok (.iconst (-1), 1) := by decide +kernel
theorem dX10_loosen_15 : decode cX10_loosen 15 = .ok (.invokevirtual 54, 3) := by decide +kernel
theorem dX10_loosen_18 : decode cX10_loosen 18 = .ok (.return_, 1) := by decide +kernel
theorem dX10_leafOfSlip_0 : decode cX10_leafOfSlip 0 = .ok (.aload_n 0, 1) := by decide +kernel
theorem dX10_leafOfSlip_1 : decode cX10_leafOfSlip 1 = .ok (.getfield 23, 3) := by decide +kernel
theorem dX10_leafOfSlip_4 : decode cX10_leafOfSlip 4 = .ok (.iload_n 1, 1) := by decide +kernel
theorem dX10_leafOfSlip_5 : decode cX10_leafOfSlip 5 = .ok (.invokevirtual 58, 3) := by decide +kernel
theorem dX10_leafOfSlip_8 : decode cX10_leafOfSlip 8 = .ok (.ireturn, 1) := by decide +kernel
theorem dX10_sideOfSlip_0 : decode cX10_sideOfSlip 0 = .ok (.aload_n 0, 1) := by decide +kernel
theorem dX10_sideOfSlip_1 : decode cX10_sideOfSlip 1 = .ok (.getfield 26, 3) := by decide +kernel
theorem dX10_sideOfSlip_4 : decode cX10_sideOfSlip 4 = .ok (.iload_n 1, 1) := by decide +kernel
theorem dX10_sideOfSlip_5 : decode cX10_sideOfSlip 5 = .ok (.invokevirtual 58, 3) := by decide +kernel
theorem dX10_sideOfSlip_8 : decode cX10_sideOfSlip 8 = .ok (.ireturn, 1) := by decide +kernel
theorem dX10_sidesOfSlip_0 : decode cX10_sidesOfSlip 0 = .ok (.aload_n 0, 1) := by decide +kernel
theorem dX10_sidesOfSlip_1 : decode cX10_sidesOfSlip 1 = .ok (.getfield 29, 3) := by decide +kernel
theorem dX10_sidesOfSlip_4 : decode cX10_sidesOfSlip 4 = .ok (.iload_n 1, 1) := by decide +kernel
