theorem dX10_sidesOfSlip_5 : decode cX10_sidesOfSlip 5 = .ok (.invokevirtual 58, 3) := by decide +kernel
theorem dX10_sidesOfSlip_8 : decode cX10_sidesOfSlip 8 = .ok (.ireturn, 1) := by decide +kernel
theorem dX10_isSlipOn_0 : decode cX10_isSlipOn 0 = .ok (.iload_n 2, 1) := by decide +kernel
theorem dX10_isSlipOn_1 : decode cX10_isSlipOn 1 = .ok (.iconst (-1), 1) := by decide +kernel
theorem dX10_isSlipOn_2 : decode cX10_isSlipOn 2 = .ok (.if_icmp .eq 31, 3) := by decide +kernel
theorem dX10_isSlipOn_5 : decode cX10_isSlipOn 5 = .ok (.aload_n 0, 1) := by decide +kernel
theorem dX10_isSlipOn_6 : decode cX10_isSlipOn 6 = .ok (.getfield 23, 3) := by decide +kernel
theorem dX10_isSlipOn_9 : decode cX10_isSlipOn 9 = .ok (.iload_n 1, 1) := by decide +kernel
theorem dX10_isSlipOn_10 : decode cX10_isSlipOn 10 = .ok (.invokevirtual 58, 3) := by decide +kernel
theorem dX10_isSlipOn_13 : decode cX10_isSlipOn 13 = .ok (.iload_n 2, 1) := by decide +kernel
theorem dX10_isSlipOn_14 : decode cX10_isSlipOn 14 = .ok (.if_icmp .ne 19, 3) := by decide +kernel
theorem dX10_isSlipOn_17 : decode cX10_isSlipOn 17 = .ok (.aload_n 0, 1) := by decide +kernel
theorem dX10_isSlipOn_18 : decode cX10_isSlipOn 18 = .ok (.getfield 26, 3) := by decide +kernel
theorem dX10_isSlipOn_21 : decode cX10_isSlipOn 21 = .ok (.iload_n 1, 1) := by decide +kernel
theorem dX10_isSlipOn_22 : decode cX10_isSlipOn 22 = .ok (.invokevirtual 58, 3) := by decide +kernel
theorem dX10_isSlipOn_25 : decode cX10_isSlipOn 25 = .ok (.iload_n 3, 1) := by decide +kernel
theorem dX10_isSlipOn_26 : decode cX10_isSlipOn 26 = .ok (.if_icmp .ne 7, 3) := by decide +kernel
theorem dX10_isSlipOn_29 : decode cX10_isSlipOn 29 = .ok (.iconst 1, 1) := by decide +kernel
theorem dX10_isSlipOn_30 : decode cX10_isSlipOn 30 = .ok (.goto 4, 3) := by decide +kernel
theorem dX10_isSlipOn_33 : decode cX10_isSlipOn 33 = .ok (.iconst 0, 1) := by decide +kernel
theorem dX10_isSlipOn_34 : decode cX10_isSlipOn 34 = .ok (.ireturn, 1) := by decide +kernel
theorem dX10_slipsOnBefore_0 : decode cX10_slipsOnBefore 0 = .ok (.iconst 0, 1) := by decide +kernel
theorem dX10_slipsOnBefore_1 : decode cX10_slipsOnBefore 1 = .ok (.istore 4, 2) := by decide +kernel
theorem dX10_slipsOnBefore_3 : decode cX10_slipsOnBefore 3 = .ok (.iconst 0, 1) := by decide +kernel
theorem dX10_slipsOnBefore_4 : decode cX10_slipsOnBefore 4 = .ok (.istore 5, 2) := by decide +kernel
theorem dX10_slipsOnBefore_6 : decode cX10_slipsOnBefore 6 = .ok (.iload 5, 2) := by decide +kernel
theorem dX10_slipsOnBefore_8 : decode cX10_slipsOnBefore 8 = .ok (.iload_n 3, 1) := by decide +kernel
theorem dX10_slipsOnBefore_9 : decode cX10_slipsOnBefore 9 = .ok (.if_icmp .ge 23, 3) := by decide +kernel
theorem dX10_slipsOnBefore_12 : decode cX10_slipsOnBefore 12 = .ok (.aload_n 0, 1) := by decide +kernel
theorem dX10_slipsOnBefore_13 : decode cX10_slipsOnBefore 13 = .ok (.iload 5, 2) := by decide +kernel
theorem dX10_slipsOnBefore_15 : decode cX10_slipsOnBefore 15 = .ok (.iload_n 1, 1) := by decide +kernel
theorem dX10_slipsOnBefore_16 : decode cX10_slipsOnBefore 16 = .ok (.iload_n 2, 1) := by decide +kernel
theorem dX10_slipsOnBefore_17 : decode cX10_slipsOnBefore 17 = .ok (.invokevirtual 96, 3) := by decide +kernel
theorem dX10_slipsOnBefore_20 : decode cX10_slipsOnBefore 20 = .ok (.ifCond .eq 6, 3) := by decide +kernel
theorem dX10_slipsOnBefore_23 : decode cX10_slipsOnBefore 23 = .ok (.iinc 4 1, 3) := by decide +kernel
theorem dX10_slipsOnBefore_26 : decode cX10_slipsOnBefore 26 = .ok (.iinc 5 1, 3) := by decide +kernel
theorem dX10_slipsOnBefore_29 : decode cX10_slipsOnBefore 29 = .ok (.goto (-23), 3) := by decide +kernel
theorem dX10_slipsOnBefore_32 : decode cX10_slipsOnBefore 32 = .ok (.iload 4, 2) := by decide +kernel
theorem dX10_slipsOnBefore_34 : decode cX10_slipsOnBefore 34 = .ok (.ireturn, 1) := by decide +kernel
theorem dX10_slipsOn_0 : decode cX10_slipsOn 0 = .ok (.aload_n 0, 1) := by decide +kernel
theorem dX10_slipsOn_1 : decode cX10_slipsOn 1 = .ok (.iload_n 1, 1) := by decide +kernel
theorem dX10_slipsOn_2 : decode cX10_slipsOn 2 = .ok (.iload_n 2, 1) := by decide +kernel
theorem dX10_slipsOn_3 : decode cX10_slipsOn 3 = .ok (.aload_n 0, 1) := by decide +kernel
theorem dX10_slipsOn_4 : decode cX10_slipsOn 4 = .ok (.getfield 39, 3) := by decide +kernel
theorem dX10_slipsOn_7 : decode cX10_slipsOn 7 = .ok (.invokevirtual 100, 3) := by decide +kernel
theorem dX10_slipsOn_10 : decode cX10_slipsOn 10 = .ok (.ireturn, 1) := by decide +kernel
theorem dX10_rankOfSlip_0 : decode cX10_rankOfSlip 0 = .ok (.aload_n 0, 1) := by decide +kernel
theorem dX10_rankOfSlip_1 : decode cX10_rankOfSlip 1 = .ok (.aload_n 0, 1) := by decide +kernel
theorem dX10_rankOfSlip_2 : decode cX10_rankOfSlip 2 = .ok (.getfield 23, 3) := by decide +kernel
theorem dX10_rankOfSlip_5 : decode cX10_rankOfSlip 5 = .ok (.iload_n 1, 1) := by decide +kernel
theorem dX10_rankOfSlip_6 : decode cX10_rankOfSlip 6 = .ok (.invokevirtual 58, 3) := by decide +kernel
theorem dX10_rankOfSlip_9 : decode cX10_rankOfSlip 9 = .ok (.aload_n 0, 1) := by decide +kernel
theorem dX10_rankOfSlip_10 : decode cX10_rankOfSlip 10 = .ok (.getfield 26, 3) := by decide +kernel
theorem dX10_rankOfSlip_13 : decode cX10_rankOfSlip 13 = .ok (.iload_n 1, 1) := by decide +kernel
theorem dX10_rankOfSlip_14 : decode cX10_rankOfSlip 14 = .ok (.invokevirtual 58, 3) := by decide +kernel
theorem dX10_rankOfSlip_17 : decode cX10_rankOfSlip 17 = .ok (.iload_n 1, 1) := by decide +kernel
theorem dX10_rankOfSlip_18 : decode cX10_rankOfSlip 18 = .ok (.invokevirtual 100, 3) := by decide +kernel
theorem dX10_rankOfSlip_21 : decode cX10_rankOfSlip 21 = .ok (.ireturn, 1) := by decide +kernel
theorem dX10_hasSlips_0 : decode cX10_hasSlips 0 = .ok (.iconst 0, 1) := by decide +kernel
theorem dX10_hasSlips_1 : decode cX10_hasSlips 1 = .ok (.istore_n 3, 1) := by decide +kernel
theorem dX10_hasSlips_2 : decode cX10_hasSlips 2 = .ok (.iload_n 3, 1) := by decide +kernel
theorem dX10_hasSlips_3 : decode cX10_hasSlips 3 = .ok (.aload_n 0, 1) := by decide +kernel
theorem dX10_hasSlips_4 : decode cX10_hasSlips 4 = .ok (.getfield 39, 3) := by decide +kernel
theorem dX10_hasSlips_7 : decode cX10_hasSlips 7 = .ok (.if_icmp .ge 39, 3) := by decide +kernel
theorem dX10_hasSlips_10 : decode cX10_hasSlips 10 = .ok (.aload_n 0, 1) := by decide +kernel
theorem dX10_hasSlips_11 : decode cX10_hasSlips 11 = .ok (.getfield 23, 3) := by decide +kernel
theorem dX10_hasSlips_14 : decode cX10_hasSlips 14 = .ok (.iload_n 3, 1) := by decide +kernel
theorem dX10_hasSlips_15 : decode cX10_hasSlips 15 = .ok (.invokevirtual 58, 3) := by decide +kernel
theorem dX10_hasSlips_18 : decode cX10_hasSlips 18 = .ok (.istore 4, 2) := by decide +kernel
theorem dX10_hasSlips_20 : decode cX10_hasSlips 20 = .ok (.iload 4, 2) := by decide +kernel
theorem dX10_hasSlips_22 : decode cX10_hasSlips 22 = .ok (.iconst (-1), 1) := by decide +kernel
theorem dX10_hasSlips_23 : decode cX10_hasSlips 23 = .ok (.if_icmp .eq 17, 3) := by decide +kernel
theorem dX10_hasSlips_26 : decode cX10_hasSlips 26 = .ok (.iload 4, 2) := by decide +kernel
theorem dX10_hasSlips_28 : decode cX10_hasSlips 28 = .ok (.iload_n 1, 1) := by decide +kernel
theorem dX10_hasSlips_29 : decode cX10_hasSlips 29 = .ok (.if_icmp .lt 11, 3) := by decide +kernel
theorem dX10_hasSlips_32 : decode cX10_hasSlips 32 = .ok (.iload 4, 2) := by decide +kernel
theorem dX10_hasSlips_34 : decode cX10_hasSlips 34 = .ok (.iload_n 2, 1) := by decide +kernel
theorem dX10_hasSlips_35 : decode cX10_hasSlips 35 = .ok (.if_icmp .gt 5, 3) := by decide +kernel
theorem dX10_hasSlips_38 : decode cX10_hasSlips 38 = .ok (.iconst 1, 1) := by decide +kernel
theorem dX10_hasSlips_39 : decode cX10_hasSlips 39 = .ok (.ireturn, 1) := by decide +kernel
theorem dX10_hasSlips_40 : decode cX10_hasSlips 40 = .ok (.iinc 3 1, 3) := by decide +kernel
theorem dX10_hasSlips_43 : decode cX10_hasSlips 43 = .ok (.goto (-41), 3) := by decide +kernel
theorem dX10_hasSlips_46 : decode cX10_hasSlips 46 = .ok (.iconst 0, 1) := by decide +kernel
theorem dX10_hasSlips_47 : decode cX10_hasSlips 47 = .ok (.ireturn, 1) := by decide +kernel
theorem dX10_attachedCount_0 : decode cX10_attachedCount 0 = .ok (.iconst 0, 1) := by decide +kernel
theorem dX10_attachedCount_1 : decode cX10_attachedCount 1 = .ok (.istore_n 1, 1) := by decide +kernel
theorem dX10_attachedCount_2 : decode cX10_attachedCount 2 = .ok (.iconst 0, 1) := by decide +kernel
theorem dX10_attachedCount_3 : decode cX10_attachedCount 3 = .ok (.istore_n 2, 1) := by decide +kernel
theorem dX10_attachedCount_4 : decode cX10_attachedCount 4 = .ok (.iload_n 2, 1) := by decide +kernel
theorem dX10_attachedCount_5 : decode cX10_attachedCount 5 = .ok (.aload_n 0, 1) := by decide +kernel
theorem dX10_attachedCount_6 : decode cX10_attachedCount 6 = .ok (.getfield 39, 3) := by decide +kernel
theorem dX10_attachedCount_9 : decode cX10_attachedCount 9 = .ok (.if_icmp .ge 24, 3) := by decide +kernel
theorem dX10_attachedCount_12 : decode cX10_attachedCount 12 = .ok (.aload_n 0, 1) := by decide +kernel
theorem dX10_attachedCount_13 : decode cX10_attachedCount 13 = .ok (.getfield 23, 3) := by decide +kernel
theorem dX10_attachedCount_16 : decode cX10_attachedCount 16 = .ok (.iload_n 2, 1) := by decide +kernel
theorem dX10_attachedCount_17 : decode cX10_attachedCount 17 = .ok (.invokevirtual 58, 3) := by decide +kernel
theorem dX10_attachedCount_20 : decode cX10_attachedCount 20 = .ok (.iconst (-1), 1) := by decide +kernel
theorem dX10_attachedCount_21 : decode cX10_attachedCount 21 = .ok (.if_icmp .eq 6, 3) := by decide +kernel
theorem dX10_attachedCount_24 : decode cX10_attachedCount 24 = .ok (.iinc 1 1, 3) := by decide +kernel
theorem dX10_attachedCount_27 : decode cX10_attachedCount 27 = .ok (.iinc 2 1, 3) := by decide +kernel
theorem dX10_attachedCount_30 : decode cX10_attachedCount 30 = .ok (.goto (-26), 3) := by decide +kernel
theorem dX10_attachedCount_33 : decode cX10_attachedCount 33 = .ok (.iload_n 1, 1) := by decide +kernel
theorem dX10_attachedCount_34 : decode cX10_attachedCount 34 = .ok (.ireturn, 1) := by decide +kernel
theorem dX10_writeCollation_0 : decode cX10_writeCollation 0 = .ok (.iconst 0, 1) := by decide +kernel
theorem dX10_writeCollation_1 : decode cX10_writeCollation 1 = .ok (.istore_n 2, 1) := by decide +kernel
theorem dX10_writeCollation_2 : decode cX10_writeCollation 2 = .ok (.iload_n 2, 1) := by decide +kernel
theorem dX10_writeCollation_3 : decode cX10_writeCollation 3 = .ok (.aload_n 0, 1) := by decide +kernel
theorem dX10_writeCollation_4 : decode cX10_writeCollation 4 = .ok (.getfield 32, 3) := by decide +kernel
theorem dX10_writeCollation_7 : decode cX10_writeCollation 7 = .ok (.if_icmp .ge 45, 3) := by decide +kernel
theorem dX10_writeCollation_10 : decode cX10_writeCollation 10 = .ok (.iload_n 2, 1) := by decide +kernel
theorem dX10_writeCollation_11 : decode cX10_writeCollation 11 = .ok (.ifCond .le 9, 3) := by decide +kernel
theorem dX10_writeCollation_14 : decode cX10_writeCollation 14 = .ok (.aload_n 1, 1) := by decide +kernel
theorem dX10_writeCollation_15 : decode cX10_writeCollation 15 = .ok (.bipush 32, 2) := by decide +kernel
theorem dX10_writeCollation_17 : decode cX10_writeCollation 17 = .ok (.invokevirtual 104, 3) := by decide +kernel
theorem dX10_writeCollation_20 : decode cX10_writeCollation 20 = .ok (.aload_n 1, 1) := by decide +kernel
theorem dX10_writeCollation_21 : decode cX10_writeCollation 21 = .ok (.bipush 65, 2) := by decide +kernel
theorem dX10_writeCollation_23 : decode cX10_writeCollation 23 = .ok (.iload_n 2, 1) := by decide +kernel
theorem dX10_writeCollation_24 : decode cX10_writeCollation 24 = .ok (.iadd, 1) := by decide +kernel
theorem dX10_writeCollation_25 : decode cX10_writeCollation 25 = .ok (.invokevirtual 104, 3) := by decide +kernel
theorem dX10_writeCollation_28 : decode cX10_writeCollation 28 = .ok (.aload_n 1, 1) := by decide +kernel
theorem dX10_writeCollation_29 : decode cX10_writeCollation 29 = .ok (.aload_n 0, 1) := by decide +kernel
theorem dX10_writeCollation_30 : decode cX10_writeCollation 30 = .ok (.getfield 14, 3) := by decide +kernel
theorem dX10_writeCollation_33 : decode cX10_writeCollation 33 = .ok (.iload_n 2, 1) := by decide +kernel
theorem dX10_writeCollation_34 : decode cX10_writeCollation 34 = .ok (.invokevirtual 58, 3) := by decide +kernel
theorem dX10_writeCollation_37 : decode cX10_writeCollation 37 = .ok (.invokevirtual 109, 3) := by decide +kernel
theorem dX10_writeCollation_40 : decode cX10_writeCollation 40 = .ok (.aload_n 0, 1) := by decide +kernel
theorem dX10_writeCollation_41 : decode cX10_writeCollation 41 = .ok (.iload_n 2, 1) := by decide +kernel
theorem dX10_writeCollation_42 : decode cX10_writeCollation 42 = .ok (.aload_n 1, 1) := by decide +kernel
theorem dX10_writeCollation_43 : decode cX10_writeCollation 43 = .ok (.invokevirtual 112, 3) := by decide +kernel
theorem dX10_writeCollation_46 : decode cX10_writeCollation 46 = .ok (.iinc 2 1, 3) := by decide +kernel
theorem dX10_writeCollation_49 : decode cX10_writeCollation 49 = .ok (.goto (-47), 3) := by decide +kernel
theorem dX10_writeCollation_52 : decode cX10_writeCollation 52 = .ok (.return_, 1) := by decide +kernel
theorem dX10_writeMissing_0 : decode cX10_writeMissing 0 = .ok (.aload_n 0, 1) := by decide +kernel
theorem dX10_writeMissing_1 : decode cX10_writeMissing 1 = .ok (.iload_n 1, 1) := by decide +kernel
theorem dX10_writeMissing_2 : decode cX10_writeMissing 2 = .ok (.invokevirtual 65, 3) := by decide +kernel
theorem dX10_writeMissing_5 : decode cX10_writeMissing 5 = .ok (.istore_n 3, 1) := by decide +kernel
theorem dX10_writeMissing_6 : decode cX10_writeMissing 6 = .ok (.iconst 0, 1) := by decide +kernel
theorem dX10_writeMissing_7 : decode cX10_writeMissing 7 = .ok (.istore 4, 2) := by decide +kernel
theorem dX10_writeMissing_9 : decode cX10_writeMissing 9 = .ok (.iconst 0, 1) := by decide +kernel
theorem dX10_writeMissing_10 : decode cX10_writeMissing 10 = .ok (.istore 5, 2) := by decide +kernel
theorem dX10_writeMissing_12 : decode cX10_writeMissing 12 = .ok (.iload 5, 2) := by decide +kernel
theorem dX10_writeMissing_14 : decode cX10_writeMissing 14 = .ok (.aload_n 0, 1) := by decide +kernel
theorem dX10_writeMissing_15 : decode cX10_writeMissing 15 = .ok (.getfield 14, 3) := by decide +kernel
theorem dX10_writeMissing_18 : decode cX10_writeMissing 18 = .ok (.iload_n 1, 1) := by decide +kernel
theorem dX10_writeMissing_19 : decode cX10_writeMissing 19 = .ok (.invokevirtual 58, 3) := by decide +kernel
theorem dX10_writeMissing_22 : decode cX10_writeMissing 22 = .ok (.if_icmp .ge 57, 3) := by decide +kernel
theorem dX10_writeMissing_25 : decode cX10_writeMissing 25 = .ok (.aload_n 0, 1) := by decide +kernel
theorem dX10_writeMissing_26 : decode cX10_writeMissing 26 = .ok (.iload_n 3, 1) := by decide +kernel
theorem dX10_writeMissing_27 : decode cX10_writeMissing 27 = .ok (.iload 5, 2) := by decide +kernel
theorem dX10_writeMissing_29 : decode cX10_writeMissing 29 = .ok (.iadd, 1) := by decide +kernel
theorem dX10_writeMissing_30 : decode cX10_writeMissing 30 = .ok (.invokevirtual 77, 3) := by decide +kernel
theorem dX10_writeMissing_33 : decode cX10_writeMissing 33 = .ok (.ifCond .ne 40, 3) := by decide +kernel
theorem dX10_writeMissing_36 : decode cX10_writeMissing 36 = .ok (.iload 4, 2) := by decide +kernel
theorem dX10_writeMissing_38 : decode cX10_writeMissing 38 = .ok (.ifCond .ne 18, 3) := by decide +kernel
theorem dX10_writeMissing_41 : decode cX10_writeMissing 41 = .ok (.aload_n 2, 1) := by decide +kernel
theorem dX10_writeMissing_42 : decode cX10_writeMissing 42 = .ok (.bipush 40, 2) := by decide +kernel
theorem dX10_writeMissing_44 : decode cX10_writeMissing 44 = .ok (.invokevirtual 104, 3) := by decide +kernel
theorem dX10_writeMissing_47 : decode cX10_writeMissing 47 = .ok (.aload_n 2, 1) := by decide +kernel
theorem dX10_writeMissing_48 : decode cX10_writeMissing 48 = .ok (.bipush 45, 2) := by decide +kernel
theorem dX10_writeMissing_50 : decode cX10_writeMissing 50 = .ok (.invokevirtual 104, 3) := by decide +kernel
theorem dX10_writeMissing_53 : decode cX10_writeMissing 53 = .ok (.goto 9, 3) := by decide +kernel
theorem dX10_writeMissing_56 : decode cX10_writeMissing 56 = .ok (.aload_n 2, 1) := by decide +kernel
theorem dX10_writeMissing_57 : decode cX10_writeMissing 57 = .ok (.bipush 44, 2) := by decide +kernel
theorem dX10_writeMissing_59 : decode cX10_writeMissing 59 = .ok (.invokevirtual 104, 3) := by decide +kernel
theorem dX10_writeMissing_62 : decode cX10_writeMissing 62 = .ok (.aload_n 2, 1) := by decide +kernel
theorem dX10_writeMissing_63 : decode cX10_writeMissing 63 = .ok (.iload 5, 2) := by decide +kernel
theorem dX10_writeMissing_65 : decode cX10_writeMissing 65 = .ok (.iconst 1, 1) := by decide +kernel
theorem dX10_writeMissing_66 : decode cX10_writeMissing 66 = .ok (.iadd, 1) := by decide +kernel
theorem dX10_writeMissing_67 : decode cX10_writeMissing 67 = .ok (.invokevirtual 109, 3) := by decide +kernel
theorem dX10_writeMissing_70 : decode cX10_writeMissing 70 = .ok (.iinc 4 1, 3) := by decide +kernel
theorem dX10_writeMissing_73 : decode cX10_writeMissing 73 = .ok (.iinc 5 1, 3) := by decide +kernel
theorem dX10_writeMissing_76 : decode cX10_writeMissing 76 = .ok (.goto (-64), 3) := by decide +kernel
theorem dX10_writeMissing_79 : decode cX10_writeMissing 79 = .ok (.iload 4, 2) := by decide +kernel
theorem dX10_writeMissing_81 : decode cX10_writeMissing 81 = .ok (.ifCond .le 9, 3) := by decide +kernel
theorem dX10_writeMissing_84 : decode cX10_writeMissing 84 = .ok (.aload_n 2, 1) := by decide +kernel
theorem dX10_writeMissing_85 : decode cX10_writeMissing 85 = .ok (.bipush 41, 2) := by decide +kernel
theorem dX10_writeMissing_87 : decode cX10_writeMissing 87 = .ok (.invokevirtual 104, 3) := by decide +kernel
theorem dX10_writeMissing_90 : decode cX10_writeMissing 90 = .ok (.return_, 1) := by decide +kernel
theorem dX11_init_0 : decode cX11_init 0 = .ok (.aload_n 0, 1) := by decide +kernel
theorem dX11_init_1 : decode cX11_init 1 = .ok (.invokespecial 3, 3) := by decide +kernel
theorem dX11_init_4 : decode cX11_init 4 = .ok (.aload_n 0, 1) := by decide +kernel
theorem dX11_init_5 : decode cX11_init 5 = .ok (.new 9, 3) := by decide +kernel
theorem dX11_init_8 : decode cX11_init 8 = .ok (.dup, 1) := by decide +kernel
theorem dX11_init_9 : decode cX11_init 9 = .ok (.invokespecial 11, 3) := by decide +kernel
theorem dX11_init_12 : decode cX11_init 12 = .ok (.putfield 12, 3) := by decide +kernel
theorem dX11_init_15 : decode cX11_init 15 = .ok (.aload_n 0, 1) := by decide +kernel
theorem dX11_init_16 : decode cX11_init 16 = .ok (.aload_n 0, 1) := by decide +kernel
theorem dX11_init_17 : decode cX11_init 17 = .ok (.getfield 12, 3) := by decide +kernel
theorem dX11_init_20 : decode cX11_init 20 = .ok (.getfield 16, 3) := by decide +kernel
theorem dX11_init_23 : decode cX11_init 23 = .ok (.putfield 20, 3) := by decide +kernel
theorem dX11_init_26 : decode cX11_init 26 = .ok (.aload_n 0, 1) := by decide +kernel
theorem dX11_init_27 : decode cX11_init 27 = .ok (.new 23, 3) := by decide +kernel
theorem dX11_init_30 : decode cX11_init 30 = .ok (.dup, 1) := by decide +kernel
theorem dX11_init_31 : decode cX11_init 31 = .ok (.sipush 236, 3) := by decide +kernel
theorem dX11_init_34 : decode cX11_init 34 = .ok (.invokespecial 25, 3) := by decide +kernel
theorem dX11_init_37 : decode cX11_init 37 = .ok (.putfield 28, 3) := by decide +kernel
theorem dX11_init_40 : decode cX11_init 40 = .ok (.aload_n 0, 1) := by decide +kernel
theorem dX11_init_41 : decode cX11_init 41 = .ok (.new 23, 3) := by decide +kernel
theorem dX11_init_44 : decode cX11_init 44 = .ok (.dup, 1) := by decide +kernel
theorem dX11_init_45 : decode cX11_init 45 = .ok (.bipush 32, 2) := by decide +kernel
theorem dX11_init_47 : decode cX11_init 47 = .ok (.invokespecial 25, 3) := by decide +kernel
theorem dX11_init_50 : decode cX11_init 50 = .ok (.putfield 31, 3) := by decide +kernel
theorem dX11_init_53 : decode cX11_init 53 = .ok (.aload_n 0, 1) := by decide +kernel
theorem dX11_init_54 : decode cX11_init 54 = .ok (.new 23, 3) := by decide +kernel
theorem dX11_init_57 : decode cX11_init 57 = .ok (.dup, 1) := by decide +kernel
theorem dX11_init_58 : decode cX11_init 58 = .ok (.bipush 32, 2) := by decide +kernel
theorem dX11_init_60 : decode cX11_init 60 = .ok (.invokespecial 25, 3) := by decide +kernel
theorem dX11_init_63 : decode cX11_init 63 = .ok (.putfield 34, 3) := by decide +kernel
theorem dX11_init_66 : decode cX11_init 66 = .ok (.aload_n 0, 1) := by decide +kernel
theorem dX11_init_67 : decode cX11_init 67 = .ok (.new 37, 3) := by decide +kernel
theorem dX11_init_70 : decode cX11_init 70 = .ok (.dup, 1) := by decide +kernel
theorem dX11_init_71 : decode cX11_init 71 = .ok (.invokespecial 39, 3) := by decide +kernel
theorem dX11_init_74 : decode cX11_init 74 = .ok (.putfield 40, 3) := by decide +kernel
theorem dX11_init_77 : decode cX11_init 77 = .ok (.aload_n 0, 1) := by decide +kernel
theorem dX11_init_78 : decode cX11_init 78 = .ok (.aload_n 0, 1) := by decide +kernel
theorem dX11_init_79 : decode cX11_init 79 = .ok (.getfield 40, 3) := by decide +kernel
theorem dX11_init_82 : decode cX11_init 82 = .ok (.getfield 44, 3) := by decide +kernel
theorem dX11_init_85 : decode cX11_init 85 = .ok (.putfield 48, 3) := by decide +kernel
theorem dX11_init_88 : decode cX11_init 88 = .ok (.aload_n 0, 1) := by decide +kernel
theorem dX11_init_89 : decode cX11_init 89 = .ok (.aload_n 0, 1) := by decide +kernel
theorem dX11_init_90 : decode cX11_init 90 = .ok (.getfield 40, 3) := by decide +kernel
theorem dX11_init_93 : decode cX11_init 93 = .ok (.getfield 49, 3) := by decide +kernel
theorem dX11_init_96 : decode cX11_init 96 = .ok (.putfield 53, 3) := by decide +kernel
theorem dX11_init_99 : decode cX11_init 99 = .ok (.aload_n 0, 1) := by decide +kernel
theorem dX11_init_100 : decode cX11_init 100 = .ok (.aload_n 0, 1) := by decide +kernel
theorem dX11_init_101 : decode cX11_init 101 = .ok (.getfield 40, 3) := by decide +kernel
theorem dX11_init_104 : decode cX11_init 104 = .ok (.getfield 54, 3) := by decide +kernel
theorem dX11_init_107 : decode cX11_init 107 = .ok (.putfield 58, 3) := by decide +kernel
theorem dX11_init_110 : decode cX11_init 110 = .ok (.aload_n 0, 1) := by decide +kernel
theorem dX11_init_111 : decode cX11_init 111 = .ok (.aload_n 0, 1) := by decide +kernel
theorem dX11_init_112 : decode cX11_init 112 = .ok (.getfield 40, 3) := by decide +kernel
theorem dX11_init_115 : decode cX11_init 115 = .ok (.getfield 59, 3) := by decide +kernel
theorem dX11_init_118 : decode cX11_init 118 = .ok (.putfield 63, 3) := by decide +kernel
theorem dX11_init_121 : decode cX11_init 121 = .ok (.aload_n 0, 1) := by decide +kernel
theorem dX11_init_122 : decode cX11_init 122 = .ok (.new 64, 3) := by decide +kernel
theorem dX11_init_125 : decode cX11_init 125 = .ok (.dup, 1) := by decide +kernel
theorem dX11_init_126 : decode cX11_init 126 = .ok (.invokespecial 66, 3) := by decide +kernel
theorem dX11_init_129 : decode cX11_init 129 = .ok (.putfield 67, 3) := by decide +kernel
theorem dX11_init_132 : decode cX11_init 132 = .ok (.aload_n 0, 1) := by decide +kernel
theorem dX11_init_133 : decode cX11_init 133 = .ok (.new 70, 3) := by decide +kernel
theorem dX11_init_136 : decode cX11_init 136 = .ok (.dup, 1) := by decide +kernel
theorem dX11_init_137 : decode cX11_init 137 = .ok (.invokespecial 72, 3) := by decide +kernel
theorem dX11_init_140 : decode cX11_init 140 = .ok (.putfield 73, 3) := by decide +kernel
theorem dX11_init_143 : decode cX11_init 143 = .ok (.aload_n 0, 1) := by decide +kernel
theorem dX11_init_144 : decode cX11_init 144 = .ok (.new 37, 3) := by decide +kernel
theorem dX11_init_147 : decode cX11_init 147 = .ok (.dup, 1) := by decide +kernel
theorem dX11_init_148 : decode cX11_init 148 = .ok (.invokespecial 39, 3) := by decide +kernel
theorem dX11_init_151 : decode cX11_init 151 = .ok (.putfield 77, 3) := by decide +kernel
theorem dX11_init_154 : decode cX11_init 154 = .ok (.aload_n 0, 1) := by decide +kernel
theorem dX11_init_155 : decode cX11_init 155 = .ok (.iconst 0, 1) := by decide +kernel
theorem dX11_init_156 : decode cX11_init 156 = .ok (.putfield 80, 3) := by decide +kernel
theorem dX11_init_159 : decode cX11_init 159 = .ok (.aload_n 0, 1) := by decide +kernel
theorem dX11_init_160 : decode cX11_init 160 = .ok (.new 84, 3) := by decide +kernel
theorem dX11_init_163 : decode cX11_init 163 = .ok (.dup, 1) := by decide +kernel
theorem dX11_init_164 : decode cX11_init 164 = .ok (.invokespecial 86, 3) := by decide +kernel
theorem dX11_init_167 : decode cX11_init 167 = .ok (.putfield 87, 3) := by decide +kernel
theorem dX11_init_170 : decode cX11_init 170 = .ok (.aload_n 0, 1) := by decide +kernel
theorem dX11_init_171 : decode cX11_init 171 = .ok (.new 91, 3) := by decide +kernel
theorem dX11_init_174 : decode cX11_init 174 = .ok (.dup, 1) := by decide +kernel
theorem dX11_init_175 : decode cX11_init 175 = .ok (.invokespecial 93, 3) := by decide +kernel
theorem dX11_init_178 : decode cX11_init 178 = .ok (.putfield 94, 3) := by decide +kernel
theorem dX11_init_181 : decode cX11_init 181 = .ok (.aload_n 0, 1) := by decide +kernel
theorem dX11_init_182 : decode cX11_init 182 = .ok (.getfield 48, 3) := by decide +kernel
theorem dX11_init_185 : decode cX11_init 185 = .ok (.iconst 2, 1) := by decide +kernel
theorem dX11_init_186 : decode cX11_init 186 = .ok (.invokevirtual 98, 3) := by decide +kernel
theorem dX11_init_189 : decode cX11_init 189 = .ok (.return_, 1) := by decide +kernel
theorem dX11_append_0 : decode cX11_append 0 = .ok (.iload_n 1, 1) := by decide +kernel
theorem dX11_append_1 : decode cX11_append 1 = .ok (.invokestatic 103, 3) := by decide +kernel
theorem dX11_append_4 : decode cX11_append 4 = .ok (.iload_n 2, 1) := by decide +kernel
theorem dX11_append_5 : decode cX11_append 5 = .ok (.invokestatic 103, 3) := by decide +kernel
theorem dX11_append_8 : decode cX11_append 8 = .ok (.iadd, 1) := by decide +kernel
theorem dX11_append_9 : decode cX11_append 9 = .ok (.iload_n 3, 1) := by decide +kernel
theorem dX11_append_10 : decode cX11_append 10 = .ok (.invokestatic 103, 3) := by decide +kernel
theorem dX11_append_13 : decode cX11_append 13 = .ok (.iadd, 1) := by decide +kernel
theorem dX11_append_14 : decode cX11_append 14 = .ok (.iload 4, 2) := by decide +kernel
theorem dX11_append_16 : decode cX11_append 16 = .ok (.invokestatic 103, 3) := by decide +kernel
theorem dX11_append_19 : decode cX11_append 19 = .ok (.iadd, 1) := by decide +kernel
theorem dX11_append_20 : decode cX11_append 20 = .ok (.iload 5, 2) := by decide +kernel
theorem dX11_append_22 : decode cX11_append 22 = .ok (.invokestatic 103, 3) := by decide +kernel
theorem dX11_append_25 : decode cX11_append 25 = .ok (.iadd, 1) := by decide +kernel
theorem dX11_append_26 : decode cX11_append 26 = .ok (.istore 6, 2) := by decide +kernel
theorem dX11_append_28 : decode cX11_append 28 = .ok (.aload_n 0, 1) := by decide +kernel
theorem dX11_append_29 : decode cX11_append 29 = .ok (.getfield 20, 3) := by decide +kernel
theorem dX11_append_32 : decode cX11_append 32 = .ok (.invokevirtual 107, 3) := by decide +kernel
theorem dX11_append_35 : decode cX11_append 35 = .ok (.iload 6, 2) := by decide +kernel
theorem dX11_append_37 : decode cX11_append 37 = .ok (.iadd, 1) := by decide +kernel
theorem dX11_append_38 : decode cX11_append 38 = .ok (.sipush 600, 3) := by decide +kernel
theorem dX11_append_41 : decode cX11_append 41 = .ok (.if_icmp .le 13, 3) := by decide +kernel
theorem dX11_append_44 : decode cX11_append 44 = .ok (.new 111, 3) := by decide +kernel
theorem dX11_append_47 : decode cX11_append 47 = .ok (.dup, 1) := by decide +kernel
theorem dX11_append_48 : decode cX11_append 48 = .ok (.ldc 113, 2) := by decide +kernel
theorem dX11_append_50 : decode cX11_append 50 = .ok (.invokespecial 115, 3) := by decide +kernel
theorem dX11_append_53 : decode cX11_append 53 = .ok (.athrow, 1) := by decide +kernel
theorem dX11_append_54 : decode cX11_append 54 = .ok (.aload_n 0, 1) := by decide +kernel
theorem dX11_append_55 : decode cX11_append 55 = .ok (.iload_n 1, 1) := by decide +kernel
theorem dX11_append_56 : decode cX11_append 56 = .ok (.invokevirtual 118, 3) := by decide +kernel
theorem dX11_append_59 : decode cX11_append 59 = .ok (.aload_n 0, 1) := by decide +kernel
theorem dX11_append_60 : decode cX11_append 60 = .ok (.iload_n 2, 1) := by decide +kernel
theorem dX11_append_61 : decode cX11_append 61 = .ok (.invokevirtual 118, 3) := by decide +kernel
theorem dX11_append_64 : decode cX11_append 64 = .ok (.aload_n 0, 1) := by decide +kernel
theorem dX11_append_65 : decode cX11_append 65 = .ok (.iload_n 3, 1) := by decide +kernel
theorem dX11_append_66 : decode cX11_append 66 = .ok (.invokevirtual 118, 3) := by decide +kernel
theorem dX11_append_69 : decode cX11_append 69 = .ok (.aload_n 0, 1) := by decide +kernel
theorem dX11_append_70 : decode cX11_append 70 = .ok (.iload 4, 2) := by decide +kernel
theorem dX11_append_72 : decode cX11_append 72 = .ok (.invokevirtual 118, 3) := by decide +kernel
theorem dX11_append_75 : decode cX11_append 75 = .ok (.aload_n 0, 1) := by decide +kernel
theorem dX11_append_76 : decode cX11_append 76 = .ok (.iload 5, 2) := by decide +kernel
theorem dX11_append_78 : decode cX11_append 78 = .ok (.invokevirtual 118, 3) := by decide +kernel
theorem dX11_append_81 : decode cX11_append 81 = .ok (.aload_n 0, 1) := by decide +kernel
theorem dX11_append_82 : decode cX11_append 82 = .ok (.getfield 20, 3) := by decide +kernel
theorem dX11_append_85 : decode cX11_append 85 = .ok (.invokevirtual 107, 3) := by decide +kernel
theorem dX11_append_88 : decode cX11_append 88 = .ok (.ireturn, 1) := by decide +kernel
theorem dX11_truncate_0 : decode cX11_truncate 0 = .ok (.iload_n 1, 1) := by decide +kernel
theorem dX11_truncate_1 : decode cX11_truncate 1 = .ok (.ifCond .lt 14, 3) := by decide +kernel
theorem dX11_truncate_4 : decode cX11_truncate 4 = .ok (.iload_n 1, 1) := by decide +kernel
theorem dX11_truncate_5 : decode cX11_truncate 5 = .ok (.aload_n 0, 1) := by decide +kernel
theorem dX11_truncate_6 : decode cX11_truncate 6 = .ok (.getfield 20, 3) := by decide +kernel
theorem dX11_truncate_9 : decode cX11_truncate 9 = .ok (.invokevirtual 107, 3) := by decide +kernel
theorem dX11_truncate_12 : decode cX11_truncate 12 = .ok (.if_icmp .le 13, 3) := by decide +kernel
theorem dX11_truncate_15 : decode cX11_truncate 15 = .ok (.new 121, 3) := by decide +kernel
theorem dX11_truncate_18 : decode cX11_truncate 18 = .ok (.dup, 1) := by decide +kernel
theorem dX11_truncate_19 : decode cX11_truncate 19 = .ok (.ldc 123, 2) := by decide +kernel
theorem dX11_truncate_21 : decode cX11_truncate 21 = .ok (.invokespecial 125, 3) := by decide +kernel
theorem dX11_truncate_24 : decode cX11_truncate 24 = .ok (.athrow, 1) := by decide +kernel
theorem dX11_truncate_25 : decode cX11_truncate 25 = .ok (.aload_n 0, 1) := by decide +kernel
theorem dX11_truncate_26 : decode cX11_truncate 26 = .ok (.getfield 20, 3) := by decide +kernel
theorem dX11_truncate_29 : decode cX11_truncate 29 = .ok (.iload_n 1, 1) := by decide +kernel
theorem dX11_truncate_30 : decode cX11_truncate 30 = .ok (.invokevirtual 126, 3) := by decide +kernel
theorem dX11_truncate_33 : decode cX11_truncate 33 = .ok (.iload_n 1, 1) := by decide +kernel
theorem dX11_truncate_34 : decode cX11_truncate 34 = .ok (.ireturn, 1) := by decide +kernel
theorem dX11_errorPosition_0 : decode cX11_errorPosition 0 = .ok (.aload_n 0, 1) := by decide +kernel
theorem dX11_errorPosition_1 : decode cX11_errorPosition 1 = .ok (.getfield 12, 3) := by decide +kernel
theorem dX11_errorPosition_4 : decode cX11_errorPosition 4 = .ok (.invokevirtual 129, 3) := by decide +kernel
theorem dX11_errorPosition_7 : decode cX11_errorPosition 7 = .ok (.ireturn, 1) := by decide +kernel
theorem dX11_load_0 : decode cX11_load 0 = .ok (.aload_n 0, 1) := by decide +kernel
theorem dX11_load_1 : decode cX11_load 1 = .ok (.getfield 12, 3) := by decide +kernel
theorem dX11_load_4 : decode cX11_load 4 = .ok (.invokevirtual 129, 3) := by decide +kernel
theorem dX11_load_7 : decode cX11_load 7 = .ok (.iconst (-1), 1) := by decide +kernel
theorem dX11_load_8 : decode cX11_load 8 = .ok (.if_icmp .eq 13, 3) := by decide +kernel
theorem dX11_load_11 : decode cX11_load 11 = .ok (.new 121, 3) := by decide +kernel
theorem dX11_load_14 : decode cX11_load 14 = .ok (.dup, 1) := by decide +kernel
theorem dX11_load_15 : decode cX11_load 15 = .ok (.ldc 132, 2) := by decide +kernel
theorem dX11_load_17 : decode cX11_load 17 = .ok (.invokespecial 125, 3) := by decide +kernel
theorem dX11_load_20 : decode cX11_load 20 = .ok (.athrow, 1) := by decide +kernel
theorem dX11_load_21 : decode cX11_load 21 = .ok (.aload_n 0, 1) := by decide +kernel
theorem dX11_load_22 : decode cX11_load 22 = .ok (.getfield 40, 3) := by decide +kernel
theorem dX11_load_25 : decode cX11_load 25 = .ok (.aload_n 0, 1) := by decide +kernel
theorem dX11_load_26 : decode cX11_load 26 = .ok (.getfield 12, 3) := by decide +kernel
theorem dX11_load_29 : decode cX11_load 29 = .ok (.getfield 134, 3) := by decide +kernel
theorem dX11_load_32 : decode cX11_load 32 = .ok (.invokevirtual 137, 3) := by decide +kernel
theorem dX11_load_35 : decode cX11_load 35 = .ok (.aload_n 0, 1) := by decide +kernel
theorem dX11_load_36 : decode cX11_load 36 = .ok (.getfield 73, 3) := by decide +kernel
theorem dX11_load_39 : decode cX11_load 39 = .ok (.invokevirtual 141, 3) := by decide +kernel
theorem dX11_load_42 : decode cX11_load 42 = .ok (.aload_n 0, 1) := by decide +kernel
theorem dX11_load_43 : decode cX11_load 43 = .ok (.iconst 0, 1) := by decide +kernel
theorem dX11_load_44 : decode cX11_load 44 = .ok (.putfield 80, 3) := by decide +kernel
theorem dX11_load_47 : decode cX11_load 47 = .ok (.aload_n 0, 1) := by decide +kernel
theorem dX11_load_48 : decode cX11_load 48 = .ok (.getfield 20, 3) := by decide +kernel
theorem dX11_load_51 : decode cX11_load 51 = .ok (.iconst 0, 1) := by decide +kernel
theorem dX11_load_52 : decode cX11_load 52 = .ok (.invokevirtual 126, 3) := by decide +kernel
theorem dX11_load_55 : decode cX11_load 55 = .ok (.aload_n 0, 1) := by decide +kernel
theorem dX11_load_56 : decode cX11_load 56 = .ok (.getfield 48, 3) := by decide +kernel
theorem dX11_load_59 : decode cX11_load 59 = .ok (.invokevirtual 144, 3) := by decide +kernel
theorem dX11_load_62 : decode cX11_load 62 = .ok (.ireturn, 1) := by decide +kernel
theorem dX11_countBytes_0 : decode cX11_countBytes 0 = .ok (.iconst 0, 1) := by decide +kernel
theorem dX11_countBytes_1 : decode cX11_countBytes 1 = .ok (.istore_n 1, 1) := by decide +kernel
theorem dX11_countBytes_2 : decode cX11_countBytes 2 = .ok (.bipush 24, 2) := by decide +kernel
theorem dX11_countBytes_4 : decode cX11_countBytes 4 = .ok (.istore_n 2, 1) := by decide +kernel
theorem dX11_countBytes_5 : decode cX11_countBytes 5 = .ok (.iload_n 2, 1) := by decide +kernel
theorem dX11_countBytes_6 : decode cX11_countBytes 6 = .ok (.ifCond .lt 22, 3) := by decide +kernel
theorem dX11_countBytes_9 : decode cX11_countBytes 9 = .ok (.iload_n 0, 1) := by decide +kernel
theorem dX11_countBytes_10 : decode cX11_countBytes 10 = .ok (.iload_n 2, 1) := by decide +kernel
theorem dX11_countBytes_11 : decode cX11_countBytes 11 = .ok (.iushr, 1) := by decide +kernel
theorem dX11_countBytes_12 : decode cX11_countBytes 12 = .ok (.sipush 255, 3) := by decide +kernel
theorem dX11_countBytes_15 : decode cX11_countBytes 15 = .ok (.iand, 1) := by decide +kernel
theorem dX11_countBytes_16 : decode cX11_countBytes 16 = .ok (.ifCond .eq 6, 3) := by decide +kernel
theorem dX11_countBytes_19 : decode cX11_countBytes 19 = .ok (.iinc 1 1, 3) := by decide +kernel
theorem dX11_countBytes_22 : decode cX11_countBytes 22 = .ok (.iinc 2 (-8), 3) := by decide +kernel
theorem dX11_countBytes_25 : decode cX11_countBytes 25 = .ok (.goto (-20), 3) := by decide +kernel
theorem dX11_countBytes_28 : decode cX11_countBytes 28 = .ok (.iload_n 1, 1) := by decide +kernel
theorem dX11_countBytes_29 : decode cX11_countBytes 29 = .ok (.ireturn, 1) := by decide +kernel
theorem dX11_addBytes_0 : decode cX11_addBytes 0 = .ok (.bipush 24, 2) := by decide +kernel
theorem dX11_addBytes_2 : decode cX11_addBytes 2 = .ok (.istore_n 2, 1) := by decide +kernel
theorem dX11_addBytes_3 : decode cX11_addBytes 3 = .ok (.iload_n 2, 1) := by decide +kernel
theorem dX11_addBytes_4 : decode cX11_addBytes 4 = .ok (.ifCond .lt 29, 3) := by decide +kernel
theorem dX11_addBytes_7 : decode cX11_addBytes 7 = .ok (.iload_n 1, 1) := by decide +kernel
theorem dX11_addBytes_8 : decode cX11_addBytes 8 = .ok (.iload_n 2, 1) := by decide +kernel
theorem dX11_addBytes_9 : decode cX11_addBytes 9 = .ok (.iushr, 1) := by decide +kernel
theorem dX11_addBytes_10 : decode cX11_addBytes 10 = .ok (.sipush 255, 3) := by decide +kernel
theorem dX11_addBytes_13 : decode cX11_addBytes 13 = .ok (.iand, 1) := by decide +kernel
theorem dX11_addBytes_14 : decode cX11_addBytes 14 = .ok (.istore_n 3, 1) := by decide +kernel
theorem dX11_addBytes_15 : decode cX11_addBytes 15 = .ok (.iload_n 3, 1) := by decide +kernel
theorem dX11_addBytes_16 : decode cX11_addBytes 16 = .ok (.ifCond .eq 11, 3) := by decide +kernel
theorem dX11_addBytes_19 : decode cX11_addBytes 19 = .ok (.aload_n 0, 1) := by decide +kernel
theorem dX11_addBytes_20 : decode cX11_addBytes 20 = .ok (.getfield 20, 3) := by decide +kernel
theorem dX11_addBytes_23 : decode cX11_addBytes 23 = .ok (.iload_n 3, 1) := by decide +kernel
theorem dX11_addBytes_24 : decode cX11_addBytes 24 = .ok (.invokevirtual 147, 3) := by decide +kernel
theorem dX11_addBytes_27 : decode cX11_addBytes 27 = .ok (.iinc 2 (-8), 3) := by decide +kernel
theorem dX11_addBytes_30 : decode cX11_addBytes 30 = .ok (.goto (-27), 3) := by decide +kernel
theorem dX11_addBytes_33 : decode cX11_addBytes 33 = .ok (.return_, 1) := by decide +kernel
theorem dX11_lose_0 : decode cX11_lose 0 = .ok (.aload_n 0, 1) := by decide +kernel
theorem dX11_lose_1 : decode cX11_lose 1 = .ok (.iload_n 1, 1) := by decide +kernel
theorem dX11_lose_2 : decode cX11_lose 2 = .ok (.invokevirtual 150, 3) := by decide +kernel
theorem dX11_lose_5 : decode cX11_lose 5 = .ok (.aload_n 0, 1) := by decide +kernel
theorem dX11_lose_6 : decode cX11_lose 6 = .ok (.getfield 48, 3) := by decide +kernel
theorem dX11_lose_9 : decode cX11_lose 9 = .ok (.iload_n 1, 1) := by decide +kernel
theorem dX11_lose_10 : decode cX11_lose 10 = .ok (.invokevirtual 153, 3) := by decide +kernel
theorem dX11_lose_13 : decode cX11_lose 13 = .ok (.ifCond .eq 15, 3) := by decide +kernel
theorem dX11_lose_16 : decode cX11_lose 16 = .ok (.aload_n 0, 1) := by decide +kernel
theorem dX11_lose_17 : decode cX11_lose 17 = .ok (.getfield 48, 3) := by decide +kernel
theorem dX11_lose_20 : decode cX11_lose 20 = .ok (.iload_n 1, 1) := by decide +kernel
theorem dX11_lose_21 : decode cX11_lose 21 = .ok (.iload_n 1, 1) := by decide +kernel
theorem dX11_lose_22 : decode cX11_lose 22 = .ok (.invokevirtual 157, 3) := by decide +kernel
theorem dX11_lose_25 : decode cX11_lose 25 = .ok (.ifCond .eq 13, 3) := by decide +kernel
theorem dX11_lose_28 : decode cX11_lose 28 = .ok (.new 111, 3) := by decide +kernel
theorem dX11_lose_31 : decode cX11_lose 31 = .ok (.dup, 1) := by decide +kernel
theorem dX11_lose_32 : decode cX11_lose 32 = .ok (.ldc 161, 2) := by decide +kernel
theorem dX11_lose_34 : decode cX11_lose 34 = .ok (.invokespecial 115, 3) := by decide +kernel
theorem dX11_lose_37 : decode cX11_lose 37 = .ok (.athrow, 1) := by decide +kernel
theorem dX11_lose_38 : decode cX11_lose 38 = .ok (.aload_n 0, 1) := by decide +kernel
theorem dX11_lose_39 : decode cX11_lose 39 = .ok (.getfield 73, 3) := by decide +kernel
theorem dX11_lose_42 : decode cX11_lose 42 = .ok (.aload_n 0, 1) := by decide +kernel
theorem dX11_lose_43 : decode cX11_lose 43 = .ok (.getfield 40, 3) := by decide +kernel
theorem dX11_lose_46 : decode cX11_lose 46 = .ok (.invokevirtual 163, 3) := by decide +kernel
theorem dX11_lose_49 : decode cX11_lose 49 = .ok (.aload_n 0, 1) := by decide +kernel
theorem dX11_lose_50 : decode cX11_lose 50 = .ok (.getfield 48, 3) := by decide +kernel
theorem dX11_lose_53 : decode cX11_lose 53 = .ok (.iload_n 1, 1) := by decide +kernel
theorem dX11_lose_54 : decode cX11_lose 54 = .ok (.iconst 1, 1) := by decide +kernel
theorem dX11_lose_55 : decode cX11_lose 55 = .ok (.invokevirtual 166, 3) := by decide +kernel
theorem dX11_lose_58 : decode cX11_lose 58 = .ok (.aload_n 0, 1) := by decide +kernel
theorem dX11_lose_59 : decode cX11_lose 59 = .ok (.getfield 63, 3) := by decide +kernel
theorem dX11_lose_62 : decode cX11_lose 62 = .ok (.invokevirtual 170, 3) := by decide +kernel
theorem dX11_lose_65 : decode cX11_lose 65 = .ok (.aload_n 0, 1) := by decide +kernel
theorem dX11_lose_66 : decode cX11_lose 66 = .ok (.getfield 48, 3) := by decide +kernel
theorem dX11_lose_69 : decode cX11_lose 69 = .ok (.invokevirtual 175, 3) := by decide +kernel
theorem dX11_lose_72 : decode cX11_lose 72 = .ok (.ireturn, 1) := by decide +kernel
theorem dX11_find_0 : decode cX11_find 0 = .ok (.aload_n 0, 1) := by decide +kernel
theorem dX11_find_1 : decode cX11_find 1 = .ok (.iload_n 1, 1) := by decide +kernel
theorem dX11_find_2 : decode cX11_find 2 = .ok (.invokevirtual 150, 3) := by decide +kernel
theorem dX11_find_5 : decode cX11_find 5 = .ok (.aload_n 0, 1) := by decide +kernel
theorem dX11_find_6 : decode cX11_find 6 = .ok (.getfield 48, 3) := by decide +kernel
theorem dX11_find_9 : decode cX11_find 9 = .ok (.iload_n 1, 1) := by decide +kernel
theorem dX11_find_10 : decode cX11_find 10 = .ok (.invokevirtual 153, 3) := by decide +kernel
theorem dX11_find_13 : decode cX11_find 13 = .ok (.ifCond .eq 13, 3) := by decide +kernel
theorem dX11_find_16 : decode cX11_find 16 = .ok (.new 111, 3) := by decide +kernel
theorem dX11_find_19 : decode cX11_find 19 = .ok (.dup, 1) := by decide +kernel
theorem dX11_find_20 : decode cX11_find 20 = .ok (.ldc 178, 2) := by decide +kernel
theorem dX11_find_22 : decode cX11_find 22 = .ok (.invokespecial 115, 3) := by decide +kernel
theorem dX11_find_25 : decode cX11_find 25 = .ok (.athrow, 1) := by decide +kernel
theorem dX11_find_26 : decode cX11_find 26 = .ok (.aload_n 0, 1) := by decide +kernel
theorem dX11_find_27 : decode cX11_find 27 = .ok (.getfield 73, 3) := by decide +kernel
theorem dX11_find_30 : decode cX11_find 30 = .ok (.aload_n 0, 1) := by decide +kernel
theorem dX11_find_31 : decode cX11_find 31 = .ok (.getfield 40, 3) := by decide +kernel
theorem dX11_find_34 : decode cX11_find 34 = .ok (.invokevirtual 163, 3) := by decide +kernel
theorem dX11_find_37 : decode cX11_find 37 = .ok (.aload_n 0, 1) := by decide +kernel
theorem dX11_find_38 : decode cX11_find 38 = .ok (.getfield 48, 3) := by decide +kernel
theorem dX11_find_41 : decode cX11_find 41 = .ok (.iload_n 1, 1) := by decide +kernel
theorem dX11_find_42 : decode cX11_find 42 = .ok (.iconst 0, 1) := by decide +kernel
theorem dX11_find_43 : decode cX11_find 43 = .ok (.invokevirtual 166, 3) := by decide +kernel
theorem dX11_find_46 : decode cX11_find 46 = .ok (.aload_n 0, 1) := by decide +kernel
theorem dX11_find_47 : decode cX11_find 47 = .ok (.getfield 63, 3) := by decide +kernel
theorem dX11_find_50 : decode cX11_find 50 = .ok (.invokevirtual 170, 3) := by decide +kernel
theorem dX11_find_53 : decode cX11_find 53 = .ok (.aload_n 0, 1) := by decide +kernel
theorem dX11_find_54 : decode cX11_find 54 = .ok (.getfield 48, 3) := by decide +kernel
theorem dX11_find_57 : decode cX11_find 57 = .ok (.invokevirtual 175, 3) := by decide +kernel
theorem dX11_find_60 : decode cX11_find 60 = .ok (.ireturn, 1) := by decide +kernel
theorem dX11_attach_0 : decode cX11_attach 0 = .ok (.aload_n 0, 1) := by decide +kernel
theorem dX11_attach_1 : decode cX11_attach 1 = .ok (.iload_n 1, 1) := by decide +kernel
theorem dX11_attach_2 : decode cX11_attach 2 = .ok (.invokevirtual 150, 3) := by decide +kernel
theorem dX11_attach_5 : decode cX11_attach 5 = .ok (.iload_n 2, 1) := by decide +kernel
theorem dX11_attach_6 : decode cX11_attach 6 = .ok (.invokestatic 180, 3) := by decide +kernel
theorem dX11_attach_9 : decode cX11_attach 9 = .ok (.iload_n 3, 1) := by decide +kernel
theorem dX11_attach_10 : decode cX11_attach 10 = .ok (.invokestatic 183, 3) := by decide +kernel
theorem dX11_attach_13 : decode cX11_attach 13 = .ok (.ifCond .ne 13, 3) := by decide +kernel
theorem dX11_attach_16 : decode cX11_attach 16 = .ok (.new 121, 3) := by decide +kernel
theorem dX11_attach_19 : decode cX11_attach 19 = .ok (.dup, 1) := by decide +kernel
theorem dX11_attach_20 : decode cX11_attach 20 = .ok (.ldc 186, 2) := by decide +kernel
theorem dX11_attach_22 : decode cX11_attach 22 = .ok (.invokespecial 125, 3) := by decide +kernel
theorem dX11_attach_25 : decode cX11_attach 25 = .ok (.athrow, 1) := by decide +kernel
theorem dX11_attach_26 : decode cX11_attach 26 = .ok (.aload_n 0, 1) := by decide +kernel
theorem dX11_attach_27 : decode cX11_attach 27 = .ok (.getfield 48, 3) := by decide +kernel
theorem dX11_attach_30 : decode cX11_attach 30 = .ok (.iload_n 1, 1) := by decide +kernel
theorem dX11_attach_31 : decode cX11_attach 31 = .ok (.invokevirtual 153, 3) := by decide +kernel
theorem dX11_attach_34 : decode cX11_attach 34 = .ok (.ifCond .eq 13, 3) := by decide +kernel
theorem dX11_attach_37 : decode cX11_attach 37 = .ok (.aload_n 0, 1) := by decide +kernel
theorem dX11_attach_38 : decode cX11_attach 38 = .ok (.getfield 48, 3) := by decide +kernel
theorem dX11_attach_41 : decode cX11_attach 41 = .ok (.invokevirtual 188, 3) := by decide +kernel
theorem dX11_attach_44 : decode cX11_attach 44 = .ok (.ifCond .ne 13, 3) := by decide +kernel
theorem dX11_attach_47 : decode cX11_attach 47 = .ok (.new 111, 3) := by decide +kernel
theorem dX11_attach_50 : decode cX11_attach 50 = .ok (.dup, 1) := by decide +kernel
theorem dX11_attach_51 : decode cX11_attach 51 = .ok (.ldc 192, 2) := by decide +kernel
theorem dX11_attach_53 : decode cX11_attach 53 = .ok (.invokespecial 115, 3) := by decide +kernel
theorem dX11_attach_56 : decode cX11_attach 56 = .ok (.athrow, 1) := by decide +kernel
theorem dX11_attach_57 : decode cX11_attach 57 = .ok (.aload_n 0, 1) := by decide +kernel
theorem dX11_attach_58 : decode cX11_attach 58 = .ok (.getfield 73, 3) := by decide +kernel
theorem dX11_attach_61 : decode cX11_attach 61 = .ok (.aload_n 0, 1) := by decide +kernel
theorem dX11_attach_62 : decode cX11_attach 62 = .ok (.getfield 40, 3) := by decide +kernel
theorem dX11_attach_65 : decode cX11_attach 65 = .ok (.invokevirtual 163, 3) := by decide +kernel
theorem dX11_attach_68 : decode cX11_attach 68 = .ok (.aload_n 0, 1) := by decide +kernel
theorem dX11_attach_69 : decode cX11_attach 69 = .ok (.getfield 48, 3) := by decide +kernel
theorem dX11_attach_72 : decode cX11_attach 72 = .ok (.iload_n 1, 1) := by decide +kernel
theorem dX11_attach_73 : decode cX11_attach 73 = .ok (.iload_n 2, 1) := by decide +kernel
theorem dX11_attach_74 : decode cX11_attach 74 = .ok (.iload_n 3, 1) := by decide +kernel
theorem dX11_attach_75 : decode cX11_attach 75 = .ok (.invokevirtual 194, 3) := by decide +kernel
theorem dX11_attach_78 : decode cX11_attach 78 = .ok (.aload_n 0, 1) := by decide +kernel
theorem dX11_attach_79 : decode cX11_attach 79 = .ok (.getfield 48, 3) := by decide +kernel
theorem dX11_attach_82 : decode cX11_attach 82 = .ok (.invokevirtual 198, 3) := by decide +kernel
theorem dX11_attach_85 : decode cX11_attach 85 = .ok (.iconst 1, 1) := by decide +kernel
theorem dX11_attach_86 : decode cX11_attach 86 = .ok (.isub, 1) := by decide +kernel
theorem dX11_attach_87 : decode cX11_attach 87 = .ok (.ireturn, 1) := by decide +kernel
theorem dX11_detach_0 : decode cX11_detach 0 = .ok (.aload_n 0, 1) := by decide +kernel
theorem dX11_detach_1 : decode cX11_detach 1 = .ok (.iload_n 1, 1) := by decide +kernel
theorem dX11_detach_2 : decode cX11_detach 2 = .ok (.invokevirtual 201, 3) := by decide +kernel
theorem dX11_detach_5 : decode cX11_detach 5 = .ok (.aload_n 0, 1) := by decide +kernel
theorem dX11_detach_6 : decode cX11_detach 6 = .ok (.iload_n 1, 1) := by decide +kernel
theorem dX11_detach_7 : decode cX11_detach 7 = .ok (.invokevirtual 204, 3) := by decide +kernel
theorem dX11_detach_10 : decode cX11_detach 10 = .ok (.aload_n 0, 1) := by decide +kernel
theorem dX11_detach_11 : decode cX11_detach 11 = .ok (.getfield 73, 3) := by decide +kernel
theorem dX11_detach_14 : decode cX11_detach 14 = .ok (.aload_n 0, 1) := by decide +kernel
theorem dX11_detach_15 : decode cX11_detach 15 = .ok (.getfield 40, 3) := by decide +kernel
theorem dX11_detach_18 : decode cX11_detach 18 = .ok (.invokevirtual 163, 3) := by decide +kernel
theorem dX11_detach_21 : decode cX11_detach 21 = .ok (.aload_n 0, 1) := by decide +kernel
theorem dX11_detach_22 : decode cX11_detach 22 = .ok (.getfield 48, 3) := by decide +kernel
theorem dX11_detach_25 : decode cX11_detach 25 = .ok (.iload_n 1, 1) := by decide +kernel
theorem dX11_detach_26 : decode cX11_detach 26 = .ok (.invokevirtual 207, 3) := by decide +kernel
theorem dX11_detach_29 : decode cX11_detach 29 = .ok (.aload_n 0, 1) := by decide +kernel
theorem dX11_detach_30 : decode cX11_detach 30 = .ok (.getfield 48, 3) := by decide +kernel
theorem dX11_detach_33 : decode cX11_detach 33 = .ok (.invokevirtual 210, 3) := by decide +kernel
theorem dX11_detach_36 : decode cX11_detach 36 = .ok (.ireturn, 1) := by decide +kernel
theorem dX11_label_0 : decode cX11_label 0 = .ok (.aload_n 0, 1) := by decide +kernel
theorem dX11_label_1 : decode cX11_label 1 = .ok (.iload_n 1, 1) := by decide +kernel
theorem dX11_label_2 : decode cX11_label 2 = .ok (.invokevirtual 150, 3) := by decide +kernel
theorem dX11_label_5 : decode cX11_label 5 = .ok (.aload_n 0, 1) := by decide +kernel
theorem dX11_label_6 : decode cX11_label 6 = .ok (.iload_n 2, 1) := by decide +kernel
theorem dX11_label_7 : decode cX11_label 7 = .ok (.invokevirtual 150, 3) := by decide +kernel
theorem dX11_label_10 : decode cX11_label 10 = .ok (.iload_n 2, 1) := by decide +kernel
theorem dX11_label_11 : decode cX11_label 11 = .ok (.iload_n 1, 1) := by decide +kernel
theorem dX11_label_12 : decode cX11_label 12 = .ok (.if_icmp .lt 20, 3) := by decide +kernel
theorem dX11_label_15 : decode cX11_label 15 = .ok (.iload_n 3, 1) := by decide +kernel
theorem dX11_label_16 : decode cX11_label 16 = .ok (.ifCond .lt 16, 3) := by decide +kernel
theorem dX11_label_19 : decode cX11_label 19 = .ok (.iload_n 3, 1) := by decide +kernel
theorem dX11_label_20 : decode cX11_label 20 = .ok (.iconst 3, 1) := by decide +kernel
theorem dX11_label_21 : decode cX11_label 21 = .ok (.if_icmp .gt 11, 3) := by decide +kernel
theorem dX11_label_24 : decode cX11_label 24 = .ok (.iload 4, 2) := by decide +kernel
theorem dX11_label_26 : decode cX11_label 26 = .ok (.invokestatic 213, 3) := by decide +kernel
theorem dX11_label_29 : decode cX11_label 29 = .ok (.ifCond .ne 13, 3) := by decide +kernel
theorem dX11_label_32 : decode cX11_label 32 = .ok (.new 121, 3) := by decide +kernel
theorem dX11_label_35 : decode cX11_label 35 = .ok (.dup, 1) := by decide +kernel
theorem dX11_label_36 : decode cX11_label 36 = .ok (.ldc 216, 2) := by decide +kernel
theorem dX11_label_38 : decode cX11_label 38 = .ok (.invokespecial 125, 3) := by decide +kernel
theorem dX11_label_41 : decode cX11_label 41 = .ok (.athrow, 1) := by decide +kernel
theorem dX11_label_42 : decode cX11_label 42 = .ok (.aload_n 0, 1) := by decide +kernel
theorem dX11_label_43 : decode cX11_label 43 = .ok (.getfield 53, 3) := by decide +kernel
theorem dX11_label_46 : decode cX11_label 46 = .ok (.invokevirtual 218, 3) := by decide +kernel
theorem dX11_label_49 : decode cX11_label 49 = .ok (.ifCond .ne 13, 3) := by decide +kernel
theorem dX11_label_52 : decode cX11_label 52 = .ok (.new 111, 3) := by decide +kernel
theorem dX11_label_55 : decode cX11_label 55 = .ok (.dup, 1) := by decide +kernel
theorem dX11_label_56 : decode cX11_label 56 = .ok (.ldc 223, 2) := by decide +kernel
theorem dX11_label_58 : decode cX11_label 58 = .ok (.invokespecial 115, 3) := by decide +kernel
theorem dX11_label_61 : decode cX11_label 61 = .ok (.athrow, 1) := by decide +kernel
theorem dX11_label_62 : decode cX11_label 62 = .ok (.aload_n 0, 1) := by decide +kernel
theorem dX11_label_63 : decode cX11_label 63 = .ok (.getfield 73, 3) := by decide +kernel
theorem dX11_label_66 : decode cX11_label 66 = .ok (.aload_n 0, 1) := by decide +kernel
theorem dX11_label_67 : decode cX11_label 67 = .ok (.getfield 40, 3) := by decide +kernel
theorem dX11_label_70 : decode cX11_label 70 = .ok (.invokevirtual 163, 3) := by decide +kernel
theorem dX11_label_73 : decode cX11_label 73 = .ok (.aload_n 0, 1) := by decide +kernel
theorem dX11_label_74 : decode cX11_label 74 = .ok (.getfield 53, 3) := by decide +kernel
theorem dX11_label_77 : decode cX11_label 77 = .ok (.iload_n 1, 1) := by decide +kernel
theorem dX11_label_78 : decode cX11_label 78 = .ok (.iload_n 2, 1) := by decide +kernel
theorem dX11_label_79 : decode cX11_label 79 = .ok (.iload_n 3, 1) := by decide +kernel
theorem dX11_label_80 : decode cX11_label 80 = .ok (.iload 4, 2) := by decide +kernel
theorem dX11_label_82 : decode cX11_label 82 = .ok (.invokevirtual 225, 3) := by decide +kernel
theorem dX11_label_85 : decode cX11_label 85 = .ok (.aload_n 0, 1) := by decide +kernel
theorem dX11_label_86 : decode cX11_label 86 = .ok (.getfield 53, 3) := by decide +kernel
theorem dX11_label_89 : decode cX11_label 89 = .ok (.invokevirtual 228, 3) := by decide +kernel
theorem dX11_label_92 : decode cX11_label 92 = .ok (.ireturn, 1) := by decide +kernel
theorem dX11_scanLeaf_0 : decode cX11_scanLeaf 0 = .ok (.aload_n 0, 1) := by decide +kernel
theorem dX11_scanLeaf_1 : decode cX11_scanLeaf 1 = .ok (.iload_n 1, 1) := by decide +kernel
theorem dX11_scanLeaf_2 : decode cX11_scanLeaf 2 = .ok (.invokevirtual 150, 3) := by decide +kernel
theorem dX11_scanLeaf_5 : decode cX11_scanLeaf 5 = .ok (.iload_n 2, 1) := by decide +kernel
theorem dX11_scanLeaf_6 : decode cX11_scanLeaf 6 = .ok (.invokestatic 180, 3) := by decide +kernel
theorem dX11_scanLeaf_9 : decode cX11_scanLeaf 9 = .ok (.aload_n 0, 1) := by decide +kernel
theorem dX11_scanLeaf_10 : decode cX11_scanLeaf 10 = .ok (.getfield 48, 3) := by decide +kernel
theorem dX11_scanLeaf_13 : decode cX11_scanLeaf 13 = .ok (.iload_n 1, 1) := by decide +kernel
theorem dX11_scanLeaf_14 : decode cX11_scanLeaf 14 = .ok (.invokevirtual 153, 3) := by decide +kernel
theorem dX11_scanLeaf_17 : decode cX11_scanLeaf 17 = .ok (.ifCond .ne 13, 3) := by decide +kernel
theorem dX11_scanLeaf_20 : decode cX11_scanLeaf 20 = .ok (.new 111, 3) := by decide +kernel
theorem dX11_scanLeaf_23 : decode cX11_scanLeaf 23 = .ok (.dup, 1) := by decide +kernel
theorem dX11_scanLeaf_24 : decode cX11_scanLeaf 24 = .ok (.ldc 229, 2) := by decide +kernel
theorem dX11_scanLeaf_26 : decode cX11_scanLeaf 26 = .ok (.invokespecial 115, 3) := by decide +kernel
theorem dX11_scanLeaf_29 : decode cX11_scanLeaf 29 = .ok (.athrow, 1) := by decide +kernel
theorem dX11_scanLeaf_30 : decode cX11_scanLeaf 30 = .ok (.aload_n 0, 1) := by decide +kernel
theorem dX11_scanLeaf_31 : decode cX11_scanLeaf 31 = .ok (.iconst 0, 1) := by decide +kernel
theorem dX11_scanLeaf_32 : decode cX11_scanLeaf 32 = .ok (.iload_n 1, 1) := by decide +kernel
theorem dX11_scanLeaf_33 : decode cX11_scanLeaf 33 = .ok (.iload_n 2, 1) := by decide +kernel
theorem dX11_scanLeaf_34 : decode cX11_scanLeaf 34 = .ok (.invokevirtual 231, 3) := by decide +kernel
theorem dX11_scanLeaf_37 : decode cX11_scanLeaf 37 = .ok (.ireturn, 1) := by decide +kernel
theorem dX11_scanOpening_0 : decode cX11_scanOpening 0 = .ok (.aload_n 0, 1) := by decide +kernel
theorem dX11_scanOpening_1 : decode cX11_scanOpening 1 = .ok (.iload_n 1, 1) := by decide +kernel
theorem dX11_scanOpening_2 : decode cX11_scanOpening 2 = .ok (.invokevirtual 235, 3) := by decide +kernel
theorem dX11_scanOpening_5 : decode cX11_scanOpening 5 = .ok (.aload_n 0, 1) := by decide +kernel
theorem dX11_scanOpening_6 : decode cX11_scanOpening 6 = .ok (.getfield 48, 3) := by decide +kernel
theorem dX11_scanOpening_9 : decode cX11_scanOpening 9 = .ok (.iload_n 1, 1) := by decide +kernel
theorem dX11_scanOpening_10 : decode cX11_scanOpening 10 = .ok (.invokevirtual 238, 3) := by decide +kernel
theorem dX11_scanOpening_13 : decode cX11_scanOpening 13 = .ok (.istore_n 2, 1) := by decide +kernel
theorem dX11_scanOpening_14 : decode cX11_scanOpening 14 = .ok (.aload_n 0, 1) := by decide +kernel
theorem dX11_scanOpening_15 : decode cX11_scanOpening 15 = .ok (.getfield 48, 3) := by decide +kernel
theorem dX11_scanOpening_18 : decode cX11_scanOpening 18 = .ok (.iload_n 1, 1) := by decide +kernel
theorem dX11_scanOpening_19 : decode cX11_scanOpening 19 = .ok (.invokevirtual 241, 3) := by decide +kernel
theorem dX11_scanOpening_22 : decode cX11_scanOpening 22 = .ok (.istore_n 3, 1) := by decide +kernel
theorem dX11_scanOpening_23 : decode cX11_scanOpening 23 = .ok (.iload_n 2, 1) := by decide +kernel
theorem dX11_scanOpening_24 : decode cX11_scanOpening 24 = .ok (.iconst (-1), 1) := by decide +kernel
theorem dX11_scanOpening_25 : decode cX11_scanOpening 25 = .ok (.if_icmp .ne 18, 3) := by decide +kernel
theorem dX11_scanOpening_28 : decode cX11_scanOpening 28 = .ok (.iload_n 3, 1) := by decide +kernel
theorem dX11_scanOpening_29 : decode cX11_scanOpening 29 = .ok (.iconst (-1), 1) := by decide +kernel
theorem dX11_scanOpening_30 : decode cX11_scanOpening 30 = .ok (.if_icmp .ne 13, 3) := by decide +kernel
theorem dX11_scanOpening_33 : decode cX11_scanOpening 33 = .ok (.new 111, 3) := by decide +kernel
theorem dX11_scanOpening_36 : decode cX11_scanOpening 36 = .ok (.dup, 1) := by decide +kernel
theorem dX11_scanOpening_37 : decode cX11_scanOpening 37 = .ok (.ldc 244, 2) := by decide +kernel
theorem dX11_scanOpening_39 : decode cX11_scanOpening 39 = .ok (.invokespecial 115, 3) := by decide +kernel
theorem dX11_scanOpening_42 : decode cX11_scanOpening 42 = .ok (.athrow, 1) := by decide +kernel
theorem dX11_scanOpening_43 : decode cX11_scanOpening 43 = .ok (.aload_n 0, 1) := by decide +kernel
theorem dX11_scanOpening_44 : decode cX11_scanOpening 44 = .ok (.iconst 1, 1) := by decide +kernel
theorem dX11_scanOpening_45 : decode cX11_scanOpening 45 = .ok (.iload_n 2, 1) := by decide +kernel
theorem dX11_scanOpening_46 : decode cX11_scanOpening 46 = .ok (.iload_n 3, 1) := by decide +kernel
theorem dX11_scanOpening_47 : decode cX11_scanOpening 47 = .ok (.invokevirtual 231, 3) := by decide +kernel
theorem dX11_scanOpening_50 : decode cX11_scanOpening 50 = .ok (.ireturn, 1) := by decide +kernel
theorem dX11_scanSlip_0 : decode cX11_scanSlip 0 = .ok (.aload_n 0, 1) := by decide +kernel
theorem dX11_scanSlip_1 : decode cX11_scanSlip 1 = .ok (.iload_n 1, 1) := by decide +kernel
theorem dX11_scanSlip_2 : decode cX11_scanSlip 2 = .ok (.invokevirtual 201, 3) := by decide +kernel
theorem dX11_scanSlip_5 : decode cX11_scanSlip 5 = .ok (.iload_n 2, 1) := by decide +kernel
theorem dX11_scanSlip_6 : decode cX11_scanSlip 6 = .ok (.ifCond .lt 15, 3) := by decide +kernel
theorem dX11_scanSlip_9 : decode cX11_scanSlip 9 = .ok (.iload_n 2, 1) := by decide +kernel
theorem dX11_scanSlip_10 : decode cX11_scanSlip 10 = .ok (.aload_n 0, 1) := by decide +kernel
theorem dX11_scanSlip_11 : decode cX11_scanSlip 11 = .ok (.getfield 48, 3) := by decide +kernel
theorem dX11_scanSlip_14 : decode cX11_scanSlip 14 = .ok (.iload_n 1, 1) := by decide +kernel
theorem dX11_scanSlip_15 : decode cX11_scanSlip 15 = .ok (.invokevirtual 246, 3) := by decide +kernel
theorem dX11_scanSlip_18 : decode cX11_scanSlip 18 = .ok (.if_icmp .lt 13, 3) := by decide +kernel
theorem dX11_scanSlip_21 : decode cX11_scanSlip 21 = .ok (.new 249, 3) := by decide +kernel
theorem dX11_scanSlip_24 : decode cX11_scanSlip 24 = .ok (.dup, 1) := by decide +kernel
theorem dX11_scanSlip_25 : decode cX11_scanSlip 25 = .ok (.ldc 251, 2) := by decide +kernel
theorem dX11_scanSlip_27 : decode cX11_scanSlip 27 = .ok (.invokespecial 253, 3) := by decide +kernel
theorem dX11_scanSlip_30 : decode cX11_scanSlip 30 = .ok (.athrow, 1) := by decide +kernel
theorem dX11_scanSlip_31 : decode cX11_scanSlip 31 = .ok (.aload_n 0, 1) := by decide +kernel
theorem dX11_scanSlip_32 : decode cX11_scanSlip 32 = .ok (.iload_n 1, 1) := by decide +kernel
theorem dX11_scanSlip_33 : decode cX11_scanSlip 33 = .ok (.invokevirtual 204, 3) := by decide +kernel
theorem dX11_scanSlip_36 : decode cX11_scanSlip 36 = .ok (.aload_n 0, 1) := by decide +kernel
theorem dX11_scanSlip_37 : decode cX11_scanSlip 37 = .ok (.iconst 2, 1) := by decide +kernel
theorem dX11_scanSlip_38 : decode cX11_scanSlip 38 = .ok (.iload_n 1, 1) := by decide +kernel
theorem dX11_scanSlip_39 : decode cX11_scanSlip 39 = .ok (.iload_n 2, 1) := by decide +kernel
theorem dX11_scanSlip_40 : decode cX11_scanSlip 40 = .ok (.invokevirtual 231, 3) := by decide +kernel
theorem dX11_scanSlip_43 : decode cX11_scanSlip 43 = .ok (.ireturn, 1) := by decide +kernel
theorem dX11_addScan_0 : decode cX11_addScan 0 = .ok (.aload_n 0, 1) := by decide +kernel
theorem dX11_addScan_1 : decode cX11_addScan 1 = .ok (.getfield 58, 3) := by decide +kernel
theorem dX11_addScan_4 : decode cX11_addScan 4 = .ok (.invokevirtual 254, 3) := by decide +kernel
theorem dX11_addScan_7 : decode cX11_addScan 7 = .ok (.ifCond .ne 14, 3) := by decide +kernel
theorem dX11_addScan_10 : decode cX11_addScan 10 = .ok (.new 111, 3) := by decide +kernel
theorem dX11_addScan_13 : decode cX11_addScan 13 = .ok (.dup, 1) := by decide +kernel
theorem dX11_addScan_14 : decode cX11_addScan 14 = .ok (.ldc_w 257, 3) := by decide +kernel
theorem dX11_addScan_17 : decode cX11_addScan 17 = .ok (.invokespecial 115, 3) := by decide +kernel
theorem dX11_addScan_20 : decode cX11_addScan 20 = .ok (.athrow, 1) := by decide +kernel
theorem dX11_addScan_21 : decode cX11_addScan 21 = .ok (.aload_n 0, 1) := by decide +kernel
theorem dX11_addScan_22 : decode cX11_addScan 22 = .ok (.getfield 73, 3) := by decide +kernel
theorem dX11_addScan_25 : decode cX11_addScan 25 = .ok (.aload_n 0, 1) := by decide +kernel
theorem dX11_addScan_26 : decode cX11_addScan 26 = .ok (.getfield 40, 3) := by decide +kernel
theorem dX11_addScan_29 : decode cX11_addScan 29 = .ok (.invokevirtual 163, 3) := by decide +kernel
theorem dX11_addScan_32 : decode cX11_addScan 32 = .ok (.aload_n 0, 1) := by decide +kernel
theorem dX11_addScan_33 : decode cX11_addScan 33 = .ok (.getfield 58, 3) := by decide +kernel
theorem dX11_addScan_36 : decode cX11_addScan 36 = .ok (.iload_n 1, 1) := by decide +kernel
theorem dX11_addScan_37 : decode cX11_addScan 37 = .ok (.iload_n 2, 1) := by decide +kernel
theorem dX11_addScan_38 : decode cX11_addScan 38 = .ok (.iload_n 3, 1) := by decide +kernel
theorem dX11_addScan_39 : decode cX11_addScan 39 = .ok (.invokevirtual 259, 3) := by decide +kernel
theorem dX11_addScan_42 : decode cX11_addScan 42 = .ok (.aload_n 0, 1) := by decide +kernel
theorem dX11_addScan_43 : decode cX11_addScan 43 = .ok (.getfield 58, 3) := by decide +kernel
theorem dX11_addScan_46 : decode cX11_addScan 46 = .ok (.invokevirtual 261, 3) := by decide +kernel
theorem dX11_addScan_49 : decode cX11_addScan 49 = .ok (.iconst 1, 1) := by decide +kernel
theorem dX11_addScan_50 : decode cX11_addScan 50 = .ok (.isub, 1) := by decide +kernel
theorem dX11_addScan_51 : decode cX11_addScan 51 = .ok (.ireturn, 1) := by decide +kernel
theorem dX11_removeScan_0 : decode cX11_removeScan 0 = .ok (.aload_n 0, 1) := by decide +kernel
theorem dX11_removeScan_1 : decode cX11_removeScan 1 = .ok (.iload_n 1, 1) := by decide +kernel
theorem dX11_removeScan_2 : decode cX11_removeScan 2 = .ok (.invokevirtual 262, 3) := by decide +kernel
theorem dX11_removeScan_5 : decode cX11_removeScan 5 = .ok (.aload_n 0, 1) := by decide +kernel
theorem dX11_removeScan_6 : decode cX11_removeScan 6 = .ok (.getfield 58, 3) := by decide +kernel
theorem dX11_removeScan_9 : decode cX11_removeScan 9 = .ok (.iload_n 1, 1) := by decide +kernel
theorem dX11_removeScan_10 : decode cX11_removeScan 10 = .ok (.invokevirtual 265, 3) := by decide +kernel
theorem dX11_removeScan_13 : decode cX11_removeScan 13 = .ok (.istore_n 2, 1) := by decide +kernel
theorem dX11_removeScan_14 : decode cX11_removeScan 14 = .ok (.aload_n 0, 1) := by decide +kernel
theorem dX11_removeScan_15 : decode cX11_removeScan 15 = .ok (.getfield 73, 3) := by decide +kernel
theorem dX11_removeScan_18 : decode cX11_removeScan 18 = .ok (.aload_n 0, 1) := by decide +kernel
theorem dX11_removeScan_19 : decode cX11_removeScan 19 = .ok (.getfield 40, 3) := by decide +kernel
theorem dX11_removeScan_22 : decode cX11_removeScan 22 = .ok (.invokevirtual 163, 3) := by decide +kernel
theorem dX11_removeScan_25 : decode cX11_removeScan 25 = .ok (.aload_n 0, 1) := by decide +kernel
theorem dX11_removeScan_26 : decode cX11_removeScan 26 = .ok (.getfield 58, 3) := by decide +kernel
theorem dX11_removeScan_29 : decode cX11_removeScan 29 = .ok (.iload_n 1, 1) := by decide +kernel
theorem dX11_removeScan_30 : decode cX11_removeScan 30 = .ok (.invokevirtual 268, 3) := by decide +kernel
theorem dX11_removeScan_33 : decode cX11_removeScan 33 = .ok (.iload_n 2, 1) := by decide +kernel
theorem dX11_removeScan_34 : decode cX11_removeScan 34 = .ok (.ireturn, 1) := by decide +kernel
theorem dX11_moveScan_0 : decode cX11_moveScan 0 = .ok (.aload_n 0, 1) := by decide +kernel
theorem dX11_moveScan_1 : decode cX11_moveScan 1 = .ok (.iload_n 1, 1) := by decide +kernel
theorem dX11_moveScan_2 : decode cX11_moveScan 2 = .ok (.invokevirtual 262, 3) := by decide +kernel
theorem dX11_moveScan_5 : decode cX11_moveScan 5 = .ok (.aload_n 0, 1) := by decide +kernel
theorem dX11_moveScan_6 : decode cX11_moveScan 6 = .ok (.iload_n 2, 1) := by decide +kernel
theorem dX11_moveScan_7 : decode cX11_moveScan 7 = .ok (.invokevirtual 262, 3) := by decide +kernel
theorem dX11_moveScan_10 : decode cX11_moveScan 10 = .ok (.aload_n 0, 1) := by decide +kernel
theorem dX11_moveScan_11 : decode cX11_moveScan 11 = .ok (.getfield 73, 3) := by decide +kernel
theorem dX11_moveScan_14 : decode cX11_moveScan 14 = .ok (.aload_n 0, 1) := by decide +kernel
theorem dX11_moveScan_15 : decode cX11_moveScan 15 = .ok (.getfield 40, 3) := by decide +kernel
theorem dX11_moveScan_18 : decode cX11_moveScan 18 = .ok (.invokevirtual 163, 3) := by decide +kernel
theorem dX11_moveScan_21 : decode cX11_moveScan 21 = .ok (.aload_n 0, 1) := by decide +kernel
theorem dX11_moveScan_22 : decode cX11_moveScan 22 = .ok (.getfield 58, 3) := by decide +kernel
theorem dX11_moveScan_25 : decode cX11_moveScan 25 = .ok (.iload_n 1, 1) := by decide +kernel
theorem dX11_moveScan_26 : decode cX11_moveScan 26 = .ok (.iload_n 2, 1) := by decide +kernel
theorem dX11_moveScan_27 : decode cX11_moveScan 27 = .ok (.invokevirtual 271, 3) := by decide +kernel
theorem dX11_moveScan_30 : decode cX11_moveScan 30 = .ok (.aload_n 0, 1) := by decide +kernel
theorem dX11_moveScan_31 : decode cX11_moveScan 31 = .ok (.invokevirtual 275, 3) := by decide +kernel
theorem dX11_moveScan_34 : decode cX11_moveScan 34 = .ok (.ireturn, 1) := by decide +kernel
theorem dX11_sortScans_0 : decode cX11_sortScans 0 = .ok (.aload_n 0, 1) := by decide +kernel
theorem dX11_sortScans_1 : decode cX11_sortScans 1 = .ok (.invokevirtual 278, 3) := by decide +kernel
theorem dX11_sortScans_4 : decode cX11_sortScans 4 = .ok (.aload_n 0, 1) := by decide +kernel
theorem dX11_sortScans_5 : decode cX11_sortScans 5 = .ok (.getfield 94, 3) := by decide +kernel
theorem dX11_sortScans_8 : decode cX11_sortScans 8 = .ok (.invokevirtual 281, 3) := by decide +kernel
theorem dX11_sortScans_11 : decode cX11_sortScans 11 = .ok (.istore_n 1, 1) := by decide +kernel
theorem dX11_sortScans_12 : decode cX11_sortScans 12 = .ok (.aload_n 0, 1) := by decide +kernel
theorem dX11_sortScans_13 : decode cX11_sortScans 13 = .ok (.getfield 73, 3) := by decide +kernel
theorem dX11_sortScans_16 : decode cX11_sortScans 16 = .ok (.aload_n 0, 1) := by decide +kernel
theorem dX11_sortScans_17 : decode cX11_sortScans 17 = .ok (.getfield 40, 3) := by decide +kernel
theorem dX11_sortScans_20 : decode cX11_sortScans 20 = .ok (.invokevirtual 163, 3) := by decide +kernel
theorem dX11_sortScans_23 : decode cX11_sortScans 23 = .ok (.aload_n 0, 1) := by decide +kernel
theorem dX11_sortScans_24 : decode cX11_sortScans 24 = .ok (.getfield 67, 3) := by decide +kernel
theorem dX11_sortScans_27 : decode cX11_sortScans 27 = .ok (.aload_n 0, 1) := by decide +kernel
theorem dX11_sortScans_28 : decode cX11_sortScans 28 = .ok (.getfield 58, 3) := by decide +kernel
theorem dX11_sortScans_31 : decode cX11_sortScans 31 = .ok (.invokevirtual 284, 3) := by decide +kernel
theorem dX11_sortScans_34 : decode cX11_sortScans 34 = .ok (.aload_n 0, 1) := by decide +kernel
theorem dX11_sortScans_35 : decode cX11_sortScans 35 = .ok (.getfield 58, 3) := by decide +kernel
theorem dX11_sortScans_38 : decode cX11_sortScans 38 = .ok (.aload_n 0, 1) := by decide +kernel
theorem dX11_sortScans_39 : decode cX11_sortScans 39 = .ok (.getfield 67, 3) := by decide +kernel
theorem dX11_sortScans_42 : decode cX11_sortScans 42 = .ok (.aload_n 0, 1) := by decide +kernel
theorem dX11_sortScans_43 : decode cX11_sortScans 43 = .ok (.getfield 94, 3) := by decide +kernel
theorem dX11_sortScans_46 : decode cX11_sortScans 46 = .ok (.getfield 287, 3) := by decide +kernel
theorem dX11_sortScans_49 : decode cX11_sortScans 49 = .ok (.invokevirtual 291, 3) := by decide +kernel
theorem dX11_sortScans_52 : decode cX11_sortScans 52 = .ok (.iload_n 1, 1) := by decide +kernel
theorem dX11_sortScans_53 : decode cX11_sortScans 53 = .ok (.ireturn, 1) := by decide +kernel
theorem dX11_turn_0 : decode cX11_turn 0 = .ok (.iload_n 1, 1) := by decide +kernel
theorem dX11_turn_1 : decode cX11_turn 1 = .ok (.ifCond .ne 14, 3) := by decide +kernel
theorem dX11_turn_4 : decode cX11_turn 4 = .ok (.new 121, 3) := by decide +kernel
theorem dX11_turn_7 : decode cX11_turn 7 = .ok (.dup, 1) := by decide +kernel
theorem dX11_turn_8 : decode cX11_turn 8 = .ok (.ldc_w 295, 3) := by decide +kernel
theorem dX11_turn_11 : decode cX11_turn 11 = .ok (.invokespecial 125, 3) := by decide +kernel
theorem dX11_turn_14 : decode cX11_turn 14 = .ok (.athrow, 1) := by decide +kernel
theorem dX11_turn_15 : decode cX11_turn 15 = .ok (.aload_n 0, 1) := by decide +kernel
theorem dX11_turn_16 : decode cX11_turn 16 = .ok (.getfield 63, 3) := by decide +kernel
theorem dX11_turn_19 : decode cX11_turn 19 = .ok (.invokevirtual 297, 3) := by decide +kernel
theorem dX11_turn_22 : decode cX11_turn 22 = .ok (.i2l, 1) := by decide +kernel
theorem dX11_turn_23 : decode cX11_turn 23 = .ok (.iload_n 1, 1) := by decide +kernel
theorem dX11_turn_24 : decode cX11_turn 24 = .ok (.i2l, 1) := by decide +kernel
theorem dX11_turn_25 : decode cX11_turn 25 = .ok (.ladd, 1) := by decide +kernel
theorem dX11_turn_26 : decode cX11_turn 26 = .ok (.lstore_n 2, 1) := by decide +kernel
theorem dX11_turn_27 : decode cX11_turn 27 = .ok (.lload_n 2, 1) := by decide +kernel
theorem dX11_turn_28 : decode cX11_turn 28 = .ok (.lconst 0, 1) := by decide +kernel
theorem dX11_turn_29 : decode cX11_turn 29 = .ok (.lcmp, 1) := by decide +kernel
theorem dX11_turn_30 : decode cX11_turn 30 = .ok (.ifCond .lt 16, 3) := by decide +kernel
theorem dX11_turn_33 : decode cX11_turn 33 = .ok (.lload_n 2, 1) := by decide +kernel
theorem dX11_turn_34 : decode cX11_turn 34 = .ok (.aload_n 0, 1) := by decide +kernel
theorem dX11_turn_35 : decode cX11_turn 35 = .ok (.getfield 48, 3) := by decide +kernel
theorem dX11_turn_38 : decode cX11_turn 38 = .ok (.invokevirtual 300, 3) := by decide +kernel
theorem dX11_turn_41 : decode cX11_turn 41 = .ok (.i2l, 1) := by decide +kernel
theorem dX11_turn_42 : decode cX11_turn 42 = .ok (.lcmp, 1) := by decide +kernel
theorem dX11_turn_43 : decode cX11_turn 43 = .ok (.ifCond .lt 14, 3) := by decide +kernel
theorem dX11_turn_46 : decode cX11_turn 46 = .ok (.new 111, 3) := by decide +kernel
theorem dX11_turn_49 : decode cX11_turn 49 = .ok (.dup, 1) := by decide +kernel
theorem dX11_turn_50 : decode cX11_turn 50 = .ok (.ldc_w 303, 3) := by decide +kernel
theorem dX11_turn_53 : decode cX11_turn 53 = .ok (.invokespecial 115, 3) := by decide +kernel
theorem dX11_turn_56 : decode cX11_turn 56 = .ok (.athrow, 1) := by decide +kernel
theorem dX11_turn_57 : decode cX11_turn 57 = .ok (.aload_n 0, 1) := by decide +kernel
theorem dX11_turn_58 : decode cX11_turn 58 = .ok (.getfield 73, 3) := by decide +kernel
theorem dX11_turn_61 : decode cX11_turn 61 = .ok (.aload_n 0, 1) := by decide +kernel
theorem dX11_turn_62 : decode cX11_turn 62 = .ok (.getfield 40, 3) := by decide +kernel
theorem dX11_turn_65 : decode cX11_turn 65 = .ok (.invokevirtual 163, 3) := by decide +kernel
theorem dX11_turn_68 : decode cX11_turn 68 = .ok (.aload_n 0, 1) := by decide +kernel
theorem dX11_turn_69 : decode cX11_turn 69 = .ok (.getfield 63, 3) := by decide +kernel
theorem dX11_turn_72 : decode cX11_turn 72 = .ok (.lload_n 2, 1) := by decide +kernel
theorem dX11_turn_73 : decode cX11_turn 73 = .ok (.l2i, 1) := by decide +kernel
theorem dX11_turn_74 : decode cX11_turn 74 = .ok (.invokevirtual 305, 3) := by decide +kernel
theorem dX11_turn_77 : decode cX11_turn 77 = .ok (.aload_n 0, 1) := by decide +kernel
theorem dX11_turn_78 : decode cX11_turn 78 = .ok (.getfield 63, 3) := by decide +kernel
theorem dX11_turn_81 : decode cX11_turn 81 = .ok (.invokevirtual 297, 3) := by decide +kernel
theorem dX11_turn_84 : decode cX11_turn 84 = .ok (.ireturn, 1) := by decide +kernel
theorem dX11_goTo_0 : decode cX11_goTo 0 = .ok (.aload_n 0, 1) := by decide +kernel
theorem dX11_goTo_1 : decode cX11_goTo 1 = .ok (.iload_n 1, 1) := by decide +kernel
theorem dX11_goTo_2 : decode cX11_goTo 2 = .ok (.invokevirtual 308, 3) := by decide +kernel
theorem dX11_goTo_5 : decode cX11_goTo 5 = .ok (.aload_n 0, 1) := by decide +kernel
theorem dX11_goTo_6 : decode cX11_goTo 6 = .ok (.getfield 73, 3) := by decide +kernel
theorem dX11_goTo_9 : decode cX11_goTo 9 = .ok (.aload_n 0, 1) := by decide +kernel
theorem dX11_goTo_10 : decode cX11_goTo 10 = .ok (.getfield 40, 3) := by decide +kernel
theorem dX11_goTo_13 : decode cX11_goTo 13 = .ok (.invokevirtual 163, 3) := by decide +kernel
theorem dX11_goTo_16 : decode cX11_goTo 16 = .ok (.aload_n 0, 1) := by decide +kernel
theorem dX11_goTo_17 : decode cX11_goTo 17 = .ok (.getfield 63, 3) := by decide +kernel
theorem dX11_goTo_20 : decode cX11_goTo 20 = .ok (.aload_n 0, 1) := by decide +kernel
theorem dX11_goTo_21 : decode cX11_goTo 21 = .ok (.iload_n 1, 1) := by decide +kernel
theorem dX11_goTo_22 : decode cX11_goTo 22 = .ok (.invokevirtual 311, 3) := by decide +kernel
theorem dX11_goTo_25 : decode cX11_goTo 25 = .ok (.invokevirtual 305, 3) := by decide +kernel
theorem dX11_goTo_28 : decode cX11_goTo 28 = .ok (.aload_n 0, 1) := by decide +kernel
theorem dX11_goTo_29 : decode cX11_goTo 29 = .ok (.getfield 63, 3) := by decide +kernel
theorem dX11_goTo_32 : decode cX11_goTo 32 = .ok (.invokevirtual 297, 3) := by decide +kernel
theorem dX11_goTo_35 : decode cX11_goTo 35 = .ok (.ireturn, 1) := by decide +kernel
theorem dX11_goBack_0 : decode cX11_goBack 0 = .ok (.aload_n 0, 1) := by decide +kernel
theorem dX11_goBack_1 : decode cX11_goBack 1 = .ok (.getfield 63, 3) := by decide +kernel
theorem dX11_goBack_4 : decode cX11_goBack 4 = .ok (.invokevirtual 314, 3) := by decide +kernel
theorem dX11_goBack_7 : decode cX11_goBack 7 = .ok (.ifCond .ne 14, 3) := by decide +kernel
theorem dX11_goBack_10 : decode cX11_goBack 10 = .ok (.new 111, 3) := by decide +kernel
theorem dX11_goBack_13 : decode cX11_goBack 13 = .ok (.dup, 1) := by decide +kernel
theorem dX11_goBack_14 : decode cX11_goBack 14 = .ok (.ldc_w 317, 3) := by decide +kernel
theorem dX11_goBack_17 : decode cX11_goBack 17 = .ok (.invokespecial 115, 3) := by decide +kernel
theorem dX11_goBack_20 : decode cX11_goBack 20 = .ok (.athrow, 1) := by decide +kernel
theorem dX11_goBack_21 : decode cX11_goBack 21 = .ok (.aload_n 0, 1) := by decide +kernel
theorem dX11_goBack_22 : decode cX11_goBack 22 = .ok (.getfield 73, 3) := by decide +kernel
theorem dX11_goBack_25 : decode cX11_goBack 25 = .ok (.aload_n 0, 1) := by decide +kernel
theorem dX11_goBack_26 : decode cX11_goBack 26 = .ok (.getfield 40, 3) := by decide +kernel
theorem dX11_goBack_29 : decode cX11_goBack 29 = .ok (.invokevirtual 163, 3) := by decide +kernel
theorem dX11_goBack_32 : decode cX11_goBack 32 = .ok (.aload_n 0, 1) := by decide +kernel
theorem dX11_goBack_33 : decode cX11_goBack 33 = .ok (.getfield 63, 3) := by decide +kernel
theorem dX11_goBack_36 : decode cX11_goBack 36 = .ok (.invokevirtual 319, 3) := by decide +kernel
theorem dX11_goBack_39 : decode cX11_goBack 39 = .ok (.aload_n 0, 1) := by decide +kernel
theorem dX11_goBack_40 : decode cX11_goBack 40 = .ok (.getfield 63, 3) := by decide +kernel
theorem dX11_goBack_43 : decode cX11_goBack 43 = .ok (.invokevirtual 297, 3) := by decide +kernel
theorem dX11_goBack_46 : decode cX11_goBack 46 = .ok (.ireturn, 1) := by decide +kernel
theorem dX11_volume_0 : decode cX11_volume 0 = .ok (.iload_n 1, 1) := by decide +kernel
theorem dX11_volume_1 : decode cX11_volume 1 = .ok (.tableswitch 87 0 5 #[39, 47, 55, 63, 71, 79], 39) := by decide +kernel
theorem dX11_volume_40 : decode cX11_volume 40 = .ok (.aload_n 0, 1) := by decide +kernel
theorem dX11_volume_41 : decode cX11_volume 41 = .ok (.getfield 48, 3) := by decide +kernel
theorem dX11_volume_44 : decode cX11_volume 44 = .ok (.invokevirtual 322, 3) := by decide +kernel
theorem dX11_volume_47 : decode cX11_volume 47 = .ok (.ireturn, 1) := by decide +kernel
theorem dX11_volume_48 : decode cX11_volume 48 = .ok (.aload_n 0, 1) := by decide +kernel
theorem dX11_volume_49 : decode cX11_volume 49 = .ok (.getfield 48, 3) := by decide +kernel
theorem dX11_volume_52 : decode cX11_volume 52 = .ok (.invokevirtual 144, 3) := by decide +kernel
theorem dX11_volume_55 : decode cX11_volume 55 = .ok (.ireturn, 1) := by decide +kernel
theorem dX11_volume_56 : decode cX11_volume 56 = .ok (.aload_n 0, 1) := by decide +kernel
theorem dX11_volume_57 : decode cX11_volume 57 = .ok (.getfield 48, 3) := by decide +kernel
theorem dX11_volume_60 : decode cX11_volume 60 = .ok (.invokevirtual 175, 3) := by decide +kernel
theorem dX11_volume_63 : decode cX11_volume 63 = .ok (.ireturn, 1) := by decide +kernel
theorem dX11_volume_64 : decode cX11_volume 64 = .ok (.aload_n 0, 1) := by decide +kernel
theorem dX11_volume_65 : decode cX11_volume 65 = .ok (.getfield 48, 3) := by decide +kernel
theorem dX11_volume_68 : decode cX11_volume 68 = .ok (.invokevirtual 198, 3) := by decide +kernel
theorem dX11_volume_71 : decode cX11_volume 71 = .ok (.ireturn, 1) := by decide +kernel
theorem dX11_volume_72 : decode cX11_volume 72 = .ok (.aload_n 0, 1) := by decide +kernel
theorem dX11_volume_73 : decode cX11_volume 73 = .ok (.getfield 48, 3) := by decide +kernel
theorem dX11_volume_76 : decode cX11_volume 76 = .ok (.invokevirtual 210, 3) := by decide +kernel
theorem dX11_volume_79 : decode cX11_volume 79 = .ok (.ireturn, 1) := by decide +kernel
theorem dX11_volume_80 : decode cX11_volume 80 = .ok (.aload_n 0, 1) := by decide +kernel
theorem dX11_volume_81 : decode cX11_volume 81 = .ok (.getfield 53, 3) := by decide +kernel
theorem dX11_volume_84 : decode cX11_volume 84 = .ok (.invokevirtual 228, 3) := by decide +kernel
theorem dX11_volume_87 : decode cX11_volume 87 = .ok (.ireturn, 1) := by decide +kernel
theorem dX11_volume_88 : decode cX11_volume 88 = .ok (.new 121, 3) := by decide +kernel
theorem dX11_volume_91 : decode cX11_volume 91 = .ok (.dup, 1) := by decide +kernel
theorem dX11_volume_92 : decode cX11_volume 92 = .ok (.ldc_w 325, 3) := by decide +kernel
theorem dX11_volume_95 : decode cX11_volume 95 = .ok (.invokespecial 125, 3) := by decide +kernel
theorem dX11_volume_98 : decode cX11_volume 98 = .ok (.athrow, 1) := by decide +kernel
theorem dX11_leaf_0 : decode cX11_leaf 0 = .ok (.aload_n 0, 1) := by decide +kernel
theorem dX11_leaf_1 : decode cX11_leaf 1 = .ok (.iload_n 1, 1) := by decide +kernel
theorem dX11_leaf_2 : decode cX11_leaf 2 = .ok (.invokevirtual 150, 3) := by decide +kernel
theorem dX11_leaf_5 : decode cX11_leaf 5 = .ok (.iload_n 2, 1) := by decide +kernel
theorem dX11_leaf_6 : decode cX11_leaf 6 = .ok (.tableswitch 102 0 5 #[38, 55, 64, 73, 82, 92], 38) := by decide +kernel
theorem dX11_leaf_44 : decode cX11_leaf 44 = .ok (.aload_n 0, 1) := by decide +kernel
theorem dX11_leaf_45 : decode cX11_leaf 45 = .ok (.getfield 48, 3) := by decide +kernel
theorem dX11_leaf_48 : decode cX11_leaf 48 = .ok (.iload_n 1, 1) := by decide +kernel
theorem dX11_leaf_49 : decode cX11_leaf 49 = .ok (.invokevirtual 153, 3) := by decide +kernel
theorem dX11_leaf_52 : decode cX11_leaf 52 = .ok (.ifCond .eq 7, 3) := by decide +kernel
theorem dX11_leaf_55 : decode cX11_leaf 55 = .ok (.iconst 1, 1) := by decide +kernel
theorem dX11_leaf_56 : decode cX11_leaf 56 = .ok (.goto 4, 3) := by decide +kernel
theorem dX11_leaf_59 : decode cX11_leaf 59 = .ok (.iconst 0, 1) := by decide +kernel
theorem dX11_leaf_60 : decode cX11_leaf 60 = .ok (.ireturn, 1) := by decide +kernel
theorem dX11_leaf_61 : decode cX11_leaf 61 = .ok (.aload_n 0, 1) := by decide +kernel
theorem dX11_leaf_62 : decode cX11_leaf 62 = .ok (.getfield 48, 3) := by decide +kernel
theorem dX11_leaf_65 : decode cX11_leaf 65 = .ok (.iload_n 1, 1) := by decide +kernel
theorem dX11_leaf_66 : decode cX11_leaf 66 = .ok (.invokevirtual 327, 3) := by decide +kernel
theorem dX11_leaf_69 : decode cX11_leaf 69 = .ok (.ireturn, 1) := by decide +kernel
theorem dX11_leaf_70 : decode cX11_leaf 70 = .ok (.aload_n 0, 1) := by decide +kernel
theorem dX11_leaf_71 : decode cX11_leaf 71 = .ok (.getfield 48, 3) := by decide +kernel
theorem dX11_leaf_74 : decode cX11_leaf 74 = .ok (.iload_n 1, 1) := by decide +kernel
theorem dX11_leaf_75 : decode cX11_leaf 75 = .ok (.invokevirtual 330, 3) := by decide +kernel
theorem dX11_leaf_78 : decode cX11_leaf 78 = .ok (.ireturn, 1) := by decide +kernel
theorem dX11_leaf_79 : decode cX11_leaf 79 = .ok (.aload_n 0, 1) := by decide +kernel
theorem dX11_leaf_80 : decode cX11_leaf 80 = .ok (.getfield 48, 3) := by decide +kernel
theorem dX11_leaf_83 : decode cX11_leaf 83 = .ok (.iload_n 1, 1) := by decide +kernel
theorem dX11_leaf_84 : decode cX11_leaf 84 = .ok (.invokevirtual 333, 3) := by decide +kernel
theorem dX11_leaf_87 : decode cX11_leaf 87 = .ok (.ireturn, 1) := by decide +kernel
theorem dX11_leaf_88 : decode cX11_leaf 88 = .ok (.aload_n 0, 1) := by decide +kernel
theorem dX11_leaf_89 : decode cX11_leaf 89 = .ok (.getfield 48, 3) := by decide +kernel
theorem dX11_leaf_92 : decode cX11_leaf 92 = .ok (.iload_n 1, 1) := by decide +kernel
theorem dX11_leaf_93 : decode cX11_leaf 93 = .ok (.iconst 0, 1) := by decide +kernel
theorem dX11_leaf_94 : decode cX11_leaf 94 = .ok (.invokevirtual 336, 3) := by decide +kernel
theorem dX11_leaf_97 : decode cX11_leaf 97 = .ok (.ireturn, 1) := by decide +kernel
theorem dX11_leaf_98 : decode cX11_leaf 98 = .ok (.aload_n 0, 1) := by decide +kernel
theorem dX11_leaf_99 : decode cX11_leaf 99 = .ok (.getfield 48, 3) := by decide +kernel
theorem dX11_leaf_102 : decode cX11_leaf 102 = .ok (.iload_n 1, 1) := by decide +kernel
theorem dX11_leaf_103 : decode cX11_leaf 103 = .ok (.iconst 1, 1) := by decide +kernel
theorem dX11_leaf_104 : decode cX11_leaf 104 = .ok (.invokevirtual 336, 3) := by decide +kernel
theorem dX11_leaf_107 : decode cX11_leaf 107 = .ok (.ireturn, 1) := by decide +kernel
theorem dX11_leaf_108 : decode cX11_leaf 108 = .ok (.new 121, 3) := by decide +kernel
theorem dX11_leaf_111 : decode cX11_leaf 111 = .ok (.dup, 1) := by decide +kernel
theorem dX11_leaf_112 : decode cX11_leaf 112 = .ok (.ldc_w 340, 3) := by decide +kernel
theorem dX11_leaf_115 : decode cX11_leaf 115 = .ok (.invokespecial 125, 3) := by decide +kernel
theorem dX11_leaf_118 : decode cX11_leaf 118 = .ok (.athrow, 1) := by decide +kernel
theorem dX11_slip_0 : decode cX11_slip 0 = .ok (.aload_n 0, 1) := by decide +kernel
theorem dX11_slip_1 : decode cX11_slip 1 = .ok (.iload_n 1, 1) := by decide +kernel
theorem dX11_slip_2 : decode cX11_slip 2 = .ok (.invokevirtual 201, 3) := by decide +kernel
theorem dX11_slip_5 : decode cX11_slip 5 = .ok (.iload_n 2, 1) := by decide +kernel
theorem dX11_slip_6 : decode cX11_slip 6 = .ok (.tableswitch 53 0 2 #[26, 35, 44], 26) := by decide +kernel
theorem dX11_slip_32 : decode cX11_slip 32 = .ok (.aload_n 0, 1) := by decide +kernel
theorem dX11_slip_33 : decode cX11_slip 33 = .ok (.getfield 48, 3) := by decide +kernel
theorem dX11_slip_36 : decode cX11_slip 36 = .ok (.iload_n 1, 1) := by decide +kernel
theorem dX11_slip_37 : decode cX11_slip 37 = .ok (.invokevirtual 342, 3) := by decide +kernel
theorem dX11_slip_40 : decode cX11_slip 40 = .ok (.ireturn, 1) := by decide +kernel
theorem dX11_slip_41 : decode cX11_slip 41 = .ok (.aload_n 0, 1) := by decide +kernel
theorem dX11_slip_42 : decode cX11_slip 42 = .ok (.getfield 48, 3) := by decide +kernel
theorem dX11_slip_45 : decode cX11_slip 45 = .ok (.iload_n 1, 1) := by decide +kernel
theorem dX11_slip_46 : decode cX11_slip 46 = .ok (.invokevirtual 345, 3) := by decide +kernel
theorem dX11_slip_49 : decode cX11_slip 49 = .ok (.ireturn, 1) := by decide +kernel
theorem dX11_slip_50 : decode cX11_slip 50 = .ok (.aload_n 0, 1) := by decide +kernel
theorem dX11_slip_51 : decode cX11_slip 51 = .ok (.getfield 48, 3) := by decide +kernel
theorem dX11_slip_54 : decode cX11_slip 54 = .ok (.iload_n 1, 1) := by decide +kernel
theorem dX11_slip_55 : decode cX11_slip 55 = .ok (.invokevirtual 246, 3) := by decide +kernel
theorem dX11_slip_58 : decode cX11_slip 58 = .ok (.ireturn, 1) := by decide +kernel
theorem dX11_slip_59 : decode cX11_slip 59 = .ok (.new 121, 3) := by decide +kernel
theorem dX11_slip_62 : decode cX11_slip 62 = .ok (.dup, 1) := by decide +kernel
theorem dX11_slip_63 : decode cX11_slip 63 = .ok (.ldc_w 348, 3) := by decide +kernel
theorem dX11_slip_66 : decode cX11_slip 66 = .ok (.invokespecial 125, 3) := by decide +kernel
theorem dX11_slip_69 : decode cX11_slip 69 = .ok (.athrow, 1) := by decide +kernel
theorem dX11_formatCollation_0 : decode cX11_formatCollation 0 = .ok (.aload_n 0, 1) := by decide +kernel
theorem dX11_formatCollation_1 : decode cX11_formatCollation 1 = .ok (.getfield 28, 3) := by decide +kernel
theorem dX11_formatCollation_4 : decode cX11_formatCollation 4 = .ok (.iconst 0, 1) := by decide +kernel
theorem dX11_formatCollation_5 : decode cX11_formatCollation 5 = .ok (.invokevirtual 126, 3) := by decide +kernel
theorem dX11_formatCollation_8 : decode cX11_formatCollation 8 = .ok (.aload_n 0, 1) := by decide +kernel
theorem dX11_formatCollation_9 : decode cX11_formatCollation 9 = .ok (.getfield 48, 3) := by decide +kernel
theorem dX11_formatCollation_12 : decode cX11_formatCollation 12 = .ok (.aload_n 0, 1) := by decide +kernel
theorem dX11_formatCollation_13 : decode cX11_formatCollation 13 = .ok (.getfield 28, 3) := by decide +kernel
theorem dX11_formatCollation_16 : decode cX11_formatCollation 16 = .ok (.invokevirtual 350, 3) := by decide +kernel
theorem dX11_formatCollation_19 : decode cX11_formatCollation 19 = .ok (.aload_n 0, 1) := by decide +kernel
theorem dX11_formatCollation_20 : decode cX11_formatCollation 20 = .ok (.getfield 28, 3) := by decide +kernel
theorem dX11_formatCollation_23 : decode cX11_formatCollation 23 = .ok (.invokevirtual 107, 3) := by decide +kernel
theorem dX11_formatCollation_26 : decode cX11_formatCollation 26 = .ok (.ireturn, 1) := by decide +kernel
theorem dX11_formattedByte_0 : decode cX11_formattedByte 0 = .ok (.iload_n 1, 1) := by decide +kernel
theorem dX11_formattedByte_1 : decode cX11_formattedByte 1 = .ok (.ifCond .lt 14, 3) := by decide +kernel
theorem dX11_formattedByte_4 : decode cX11_formattedByte 4 = .ok (.iload_n 1, 1) := by decide +kernel
theorem dX11_formattedByte_5 : decode cX11_formattedByte 5 = .ok (.aload_n 0, 1) := by decide +kernel
theorem dX11_formattedByte_6 : decode cX11_formattedByte 6 = .ok (.getfield 28, 3) := by decide +kernel
theorem dX11_formattedByte_9 : decode cX11_formattedByte 9 = .ok (.invokevirtual 107, 3) := by decide +kernel
theorem dX11_formattedByte_12 : decode cX11_formattedByte 12 = .ok (.if_icmp .lt 14, 3) := by decide +kernel
theorem dX11_formattedByte_15 : decode cX11_formattedByte 15 = .ok (.new 249, 3) := by decide +kernel
theorem dX11_formattedByte_18 : decode cX11_formattedByte 18 = .ok (.dup, 1) := by decide +kernel
theorem dX11_formattedByte_19 : decode cX11_formattedByte 19 = .ok (.ldc_w 354, 3) := by decide +kernel
theorem dX11_formattedByte_22 : decode cX11_formattedByte 22 = .ok (.invokespecial 253, 3) := by decide +kernel
theorem dX11_formattedByte_25 : decode cX11_formattedByte 25 = .ok (.athrow, 1) := by decide +kernel
theorem dX11_formattedByte_26 : decode cX11_formattedByte 26 = .ok (.aload_n 0, 1) := by decide +kernel
theorem dX11_formattedByte_27 : decode cX11_formattedByte 27 = .ok (.getfield 28, 3) := by decide +kernel
theorem dX11_formattedByte_30 : decode cX11_formattedByte 30 = .ok (.iload_n 1, 1) := by decide +kernel
theorem dX11_formattedByte_31 : decode cX11_formattedByte 31 = .ok (.invokevirtual 356, 3) := by decide +kernel
theorem dX11_formattedByte_34 : decode cX11_formattedByte 34 = .ok (.ireturn, 1) := by decide +kernel
theorem dX11_placeCount_0 : decode cX11_placeCount 0 = .ok (.aload_n 0, 1) := by decide +kernel
theorem dX11_placeCount_1 : decode cX11_placeCount 1 = .ok (.getfield 87, 3) := by decide +kernel
theorem dX11_placeCount_4 : decode cX11_placeCount 4 = .ok (.aload_n 0, 1) := by decide +kernel
theorem dX11_placeCount_5 : decode cX11_placeCount 5 = .ok (.getfield 48, 3) := by decide +kernel
theorem dX11_placeCount_8 : decode cX11_placeCount 8 = .ok (.invokevirtual 359, 3) := by decide +kernel
theorem dX11_placeCount_11 : decode cX11_placeCount 11 = .ok (.aload_n 0, 1) := by decide +kernel
theorem dX11_placeCount_12 : decode cX11_placeCount 12 = .ok (.getfield 87, 3) := by decide +kernel
theorem dX11_placeCount_15 : decode cX11_placeCount 15 = .ok (.invokevirtual 363, 3) := by decide +kernel
theorem dX11_placeCount_18 : decode cX11_placeCount 18 = .ok (.ireturn, 1) := by decide +kernel
theorem dX11_sideAt_0 : decode cX11_sideAt 0 = .ok (.aload_n 0, 1) := by decide +kernel
theorem dX11_sideAt_1 : decode cX11_sideAt 1 = .ok (.iload_n 1, 1) := by decide +kernel
theorem dX11_sideAt_2 : decode cX11_sideAt 2 = .ok (.invokevirtual 308, 3) := by decide +kernel
theorem dX11_sideAt_5 : decode cX11_sideAt 5 = .ok (.iload_n 2, 1) := by decide +kernel
theorem dX11_sideAt_6 : decode cX11_sideAt 6 = .ok (.tableswitch 66 0 3 #[30, 39, 48, 57], 30) := by decide +kernel
theorem dX11_sideAt_36 : decode cX11_sideAt 36 = .ok (.aload_n 0, 1) := by decide +kernel
theorem dX11_sideAt_37 : decode cX11_sideAt 37 = .ok (.getfield 87, 3) := by decide +kernel
theorem dX11_sideAt_40 : decode cX11_sideAt 40 = .ok (.iload_n 1, 1) := by decide +kernel
theorem dX11_sideAt_41 : decode cX11_sideAt 41 = .ok (.invokevirtual 364, 3) := by decide +kernel
theorem dX11_sideAt_44 : decode cX11_sideAt 44 = .ok (.ireturn, 1) := by decide +kernel
theorem dX11_sideAt_45 : decode cX11_sideAt 45 = .ok (.aload_n 0, 1) := by decide +kernel
theorem dX11_sideAt_46 : decode cX11_sideAt 46 = .ok (.getfield 87, 3) := by decide +kernel
theorem dX11_sideAt_49 : decode cX11_sideAt 49 = .ok (.iload_n 1, 1) := by decide +kernel
theorem dX11_sideAt_50 : decode cX11_sideAt 50 = .ok (.invokevirtual 367, 3) := by decide +kernel
theorem dX11_sideAt_53 : decode cX11_sideAt 53 = .ok (.ireturn, 1) := by decide +kernel
theorem dX11_sideAt_54 : decode cX11_sideAt 54 = .ok (.aload_n 0, 1) := by decide +kernel
theorem dX11_sideAt_55 : decode cX11_sideAt 55 = .ok (.getfield 87, 3) := by decide +kernel
theorem dX11_sideAt_58 : decode cX11_sideAt 58 = .ok (.iload_n 1, 1) := by decide +kernel
theorem dX11_sideAt_59 : decode cX11_sideAt 59 = .ok (.invokevirtual 370, 3) := by decide +kernel
theorem dX11_sideAt_62 : decode cX11_sideAt 62 = .ok (.ireturn, 1) := by decide +kernel
theorem dX11_sideAt_63 : decode cX11_sideAt 63 = .ok (.aload_n 0, 1) := by decide +kernel
theorem dX11_sideAt_64 : decode cX11_sideAt 64 = .ok (.getfield 87, 3) := by decide +kernel
theorem dX11_sideAt_67 : decode cX11_sideAt 67 = .ok (.iload_n 1, 1) := by decide +kernel
theorem dX11_sideAt_68 : decode cX11_sideAt 68 = .ok (.invokevirtual 373, 3) := by decide +kernel
theorem dX11_sideAt_71 : decode cX11_sideAt 71 = .ok (.ireturn, 1) := by decide +kernel
theorem dX11_sideAt_72 : decode cX11_sideAt 72 = .ok (.new 121, 3) := by decide +kernel
theorem dX11_sideAt_75 : decode cX11_sideAt 75 = .ok (.dup, 1) := by decide +kernel
theorem dX11_sideAt_76 : decode cX11_sideAt 76 = .ok (.ldc_w 376, 3) := by decide +kernel
theorem dX11_sideAt_79 : decode cX11_sideAt 79 = .ok (.invokespecial 125, 3) := by decide +kernel
theorem dX11_sideAt_82 : decode cX11_sideAt 82 = .ok (.athrow, 1) := by decide +kernel
theorem dX11_placeOf_0 : decode cX11_placeOf 0 = .ok (.aload_n 0, 1) := by decide +kernel
theorem dX11_placeOf_1 : decode cX11_placeOf 1 = .ok (.iload_n 1, 1) := by decide +kernel
theorem dX11_placeOf_2 : decode cX11_placeOf 2 = .ok (.invokevirtual 150, 3) := by decide +kernel
theorem dX11_placeOf_5 : decode cX11_placeOf 5 = .ok (.iload_n 2, 1) := by decide +kernel
theorem dX11_placeOf_6 : decode cX11_placeOf 6 = .ok (.invokestatic 180, 3) := by decide +kernel
theorem dX11_placeOf_9 : decode cX11_placeOf 9 = .ok (.aload_n 0, 1) := by decide +kernel
theorem dX11_placeOf_10 : decode cX11_placeOf 10 = .ok (.getfield 87, 3) := by decide +kernel
theorem dX11_placeOf_13 : decode cX11_placeOf 13 = .ok (.aload_n 0, 1) := by decide +kernel
theorem dX11_placeOf_14 : decode cX11_placeOf 14 = .ok (.getfield 48, 3) := by decide +kernel
theorem dX11_placeOf_17 : decode cX11_placeOf 17 = .ok (.invokevirtual 359, 3) := by decide +kernel
theorem dX11_placeOf_20 : decode cX11_placeOf 20 = .ok (.aload_n 0, 1) := by decide +kernel
theorem dX11_placeOf_21 : decode cX11_placeOf 21 = .ok (.getfield 87, 3) := by decide +kernel
theorem dX11_placeOf_24 : decode cX11_placeOf 24 = .ok (.iload_n 1, 1) := by decide +kernel
theorem dX11_placeOf_25 : decode cX11_placeOf 25 = .ok (.iload_n 2, 1) := by decide +kernel
theorem dX11_placeOf_26 : decode cX11_placeOf 26 = .ok (.invokevirtual 378, 3) := by decide +kernel
theorem dX11_placeOf_29 : decode cX11_placeOf 29 = .ok (.ireturn, 1) := by decide +kernel
theorem dX11_formatLabel_0 : decode cX11_formatLabel 0 = .ok (.aload_n 0, 1) := by decide +kernel
theorem dX11_formatLabel_1 : decode cX11_formatLabel 1 = .ok (.iload_n 1, 1) := by decide +kernel
theorem dX11_formatLabel_2 : decode cX11_formatLabel 2 = .ok (.invokevirtual 308, 3) := by decide +kernel
theorem dX11_formatLabel_5 : decode cX11_formatLabel 5 = .ok (.aload_n 0, 1) := by decide +kernel
theorem dX11_formatLabel_6 : decode cX11_formatLabel 6 = .ok (.iload_n 1, 1) := by decide +kernel
theorem dX11_formatLabel_7 : decode cX11_formatLabel 7 = .ok (.aload_n 0, 1) := by decide +kernel
theorem dX11_formatLabel_8 : decode cX11_formatLabel 8 = .ok (.getfield 28, 3) := by decide +kernel
theorem dX11_formatLabel_11 : decode cX11_formatLabel 11 = .ok (.invokevirtual 381, 3) := by decide +kernel
theorem dX11_formatLabel_14 : decode cX11_formatLabel 14 = .ok (.aload_n 0, 1) := by decide +kernel
theorem dX11_formatLabel_15 : decode cX11_formatLabel 15 = .ok (.getfield 28, 3) := by decide +kernel
theorem dX11_formatLabel_18 : decode cX11_formatLabel 18 = .ok (.invokevirtual 107, 3) := by decide +kernel
theorem dX11_formatLabel_21 : decode cX11_formatLabel 21 = .ok (.ireturn, 1) := by decide +kernel
theorem dX11_formatLeafLabel_0 : decode cX11_formatLeafLabel 0 = .ok (.aload_n 0, 1) := by decide +kernel
theorem dX11_formatLeafLabel_1 : decode cX11_formatLeafLabel 1 = .ok (.iload_n 1, 1) := by decide +kernel
theorem dX11_formatLeafLabel_2 : decode cX11_formatLeafLabel 2 = .ok (.invokevirtual 150, 3) := by decide +kernel
theorem dX11_formatLeafLabel_5 : decode cX11_formatLeafLabel 5 = .ok (.iload_n 2, 1) := by decide +kernel
theorem dX11_formatLeafLabel_6 : decode cX11_formatLeafLabel 6 = .ok (.invokestatic 180, 3) := by decide +kernel
theorem dX11_formatLeafLabel_9 : decode cX11_formatLeafLabel 9 = .ok (.aload_n 0, 1) := by decide +kernel
theorem dX11_formatLeafLabel_10 : decode cX11_formatLeafLabel 10 = .ok (.getfield 28, 3) := by decide +kernel
theorem dX11_formatLeafLabel_13 : decode cX11_formatLeafLabel 13 = .ok (.iconst 0, 1) := by decide +kernel
theorem dX11_formatLeafLabel_14 : decode cX11_formatLeafLabel 14 = .ok (.invokevirtual 126, 3) := by decide +kernel
theorem dX11_formatLeafLabel_17 : decode cX11_formatLeafLabel 17 = .ok (.aload_n 0, 1) := by decide +kernel
theorem dX11_formatLeafLabel_18 : decode cX11_formatLeafLabel 18 = .ok (.getfield 53, 3) := by decide +kernel
theorem dX11_formatLeafLabel_21 : decode cX11_formatLeafLabel 21 = .ok (.iload_n 1, 1) := by decide +kernel
theorem dX11_formatLeafLabel_22 : decode cX11_formatLeafLabel 22 = .ok (.iload_n 2, 1) := by decide +kernel
theorem dX11_formatLeafLabel_23 : decode cX11_formatLeafLabel 23 = .ok (.aload_n 0, 1) := by decide +kernel
theorem dX11_formatLeafLabel_24 : decode cX11_formatLeafLabel 24 = .ok (.getfield 28, 3) := by decide +kernel
theorem dX11_formatLeafLabel_27 : decode cX11_formatLeafLabel 27 = .ok (.invokevirtual 385, 3) := by decide +kernel
theorem dX11_formatLeafLabel_30 : decode cX11_formatLeafLabel 30 = .ok (.aload_n 0, 1) := by decide +kernel
theorem dX11_formatLeafLabel_31 : decode cX11_formatLeafLabel 31 = .ok (.getfield 28, 3) := by decide +kernel
theorem dX11_formatLeafLabel_34 : decode cX11_formatLeafLabel 34 = .ok (.invokevirtual 107, 3) := by decide +kernel
theorem dX11_formatLeafLabel_37 : decode cX11_formatLeafLabel 37 = .ok (.ireturn, 1) := by decide +kernel
theorem dX11_findLabel_0 : decode cX11_findLabel 0 = .ok (.aload_n 0, 1) := by decide +kernel
theorem dX11_findLabel_1 : decode cX11_findLabel 1 = .ok (.iload_n 1, 1) := by decide +kernel
theorem dX11_findLabel_2 : decode cX11_findLabel 2 = .ok (.invokevirtual 389, 3) := by decide +kernel
theorem dX11_findLabel_5 : decode cX11_findLabel 5 = .ok (.iload_n 1, 1) := by decide +kernel
theorem dX11_findLabel_6 : decode cX11_findLabel 6 = .ok (.istore_n 2, 1) := by decide +kernel
theorem dX11_findLabel_7 : decode cX11_findLabel 7 = .ok (.iload_n 2, 1) := by decide +kernel
theorem dX11_findLabel_8 : decode cX11_findLabel 8 = .ok (.aload_n 0, 1) := by decide +kernel
theorem dX11_findLabel_9 : decode cX11_findLabel 9 = .ok (.getfield 87, 3) := by decide +kernel
theorem dX11_findLabel_12 : decode cX11_findLabel 12 = .ok (.invokevirtual 363, 3) := by decide +kernel
theorem dX11_findLabel_15 : decode cX11_findLabel 15 = .ok (.if_icmp .ge 34, 3) := by decide +kernel
theorem dX11_findLabel_18 : decode cX11_findLabel 18 = .ok (.aload_n 0, 1) := by decide +kernel
theorem dX11_findLabel_19 : decode cX11_findLabel 19 = .ok (.iload_n 2, 1) := by decide +kernel
theorem dX11_findLabel_20 : decode cX11_findLabel 20 = .ok (.aload_n 0, 1) := by decide +kernel
theorem dX11_findLabel_21 : decode cX11_findLabel 21 = .ok (.getfield 34, 3) := by decide +kernel
theorem dX11_findLabel_24 : decode cX11_findLabel 24 = .ok (.invokevirtual 381, 3) := by decide +kernel
theorem dX11_findLabel_27 : decode cX11_findLabel 27 = .ok (.aload_n 0, 1) := by decide +kernel
theorem dX11_findLabel_28 : decode cX11_findLabel 28 = .ok (.getfield 34, 3) := by decide +kernel
theorem dX11_findLabel_31 : decode cX11_findLabel 31 = .ok (.aload_n 0, 1) := by decide +kernel
theorem dX11_findLabel_32 : decode cX11_findLabel 32 = .ok (.getfield 20, 3) := by decide +kernel
theorem dX11_findLabel_35 : decode cX11_findLabel 35 = .ok (.invokevirtual 392, 3) := by decide +kernel
theorem dX11_findLabel_38 : decode cX11_findLabel 38 = .ok (.ifCond .eq 5, 3) := by decide +kernel
theorem dX11_findLabel_41 : decode cX11_findLabel 41 = .ok (.iload_n 2, 1) := by decide +kernel
theorem dX11_findLabel_42 : decode cX11_findLabel 42 = .ok (.ireturn, 1) := by decide +kernel
theorem dX11_findLabel_43 : decode cX11_findLabel 43 = .ok (.iinc 2 1, 3) := by decide +kernel
theorem dX11_findLabel_46 : decode cX11_findLabel 46 = .ok (.goto (-39), 3) := by decide +kernel
theorem dX11_findLabel_49 : decode cX11_findLabel 49 = .ok (.iconst (-1), 1) := by decide +kernel
theorem dX11_findLabel_50 : decode cX11_findLabel 50 = .ok (.ireturn, 1) := by decide +kernel
theorem dX11_sameLabels_0 : decode cX11_sameLabels 0 = .ok (.aload_n 0, 1) := by decide +kernel
theorem dX11_sameLabels_1 : decode cX11_sameLabels 1 = .ok (.iload_n 1, 1) := by decide +kernel
theorem dX11_sameLabels_2 : decode cX11_sameLabels 2 = .ok (.invokevirtual 308, 3) := by decide +kernel
theorem dX11_sameLabels_5 : decode cX11_sameLabels 5 = .ok (.aload_n 0, 1) := by decide +kernel
theorem dX11_sameLabels_6 : decode cX11_sameLabels 6 = .ok (.iload_n 1, 1) := by decide +kernel
theorem dX11_sameLabels_7 : decode cX11_sameLabels 7 = .ok (.aload_n 0, 1) := by decide +kernel
theorem dX11_sameLabels_8 : decode cX11_sameLabels 8 = .ok (.getfield 31, 3) := by decide +kernel
theorem dX11_sameLabels_11 : decode cX11_sameLabels 11 = .ok (.invokevirtual 381, 3) := by decide +kernel
theorem dX11_sameLabels_14 : decode cX11_sameLabels 14 = .ok (.iconst 0, 1) := by decide +kernel
theorem dX11_sameLabels_15 : decode cX11_sameLabels 15 = .ok (.istore_n 2, 1) := by decide +kernel
theorem dX11_sameLabels_16 : decode cX11_sameLabels 16 = .ok (.iconst 0, 1) := by decide +kernel
theorem dX11_sameLabels_17 : decode cX11_sameLabels 17 = .ok (.istore_n 3, 1) := by decide +kernel
theorem dX11_sameLabels_18 : decode cX11_sameLabels 18 = .ok (.iload_n 3, 1) := by decide +kernel
theorem dX11_sameLabels_19 : decode cX11_sameLabels 19 = .ok (.aload_n 0, 1) := by decide +kernel
theorem dX11_sameLabels_20 : decode cX11_sameLabels 20 = .ok (.getfield 87, 3) := by decide +kernel
theorem dX11_sameLabels_23 : decode cX11_sameLabels 23 = .ok (.invokevirtual 363, 3) := by decide +kernel
theorem dX11_sameLabels_26 : decode cX11_sameLabels 26 = .ok (.if_icmp .ge 35, 3) := by decide +kernel
theorem dX11_sameLabels_29 : decode cX11_sameLabels 29 = .ok (.aload_n 0, 1) := by decide +kernel
theorem dX11_sameLabels_30 : decode cX11_sameLabels 30 = .ok (.iload_n 3, 1) := by decide +kernel
theorem dX11_sameLabels_31 : decode cX11_sameLabels 31 = .ok (.aload_n 0, 1) := by decide +kernel
theorem dX11_sameLabels_32 : decode cX11_sameLabels 32 = .ok (.getfield 34, 3) := by decide +kernel
theorem dX11_sameLabels_35 : decode cX11_sameLabels 35 = .ok (.invokevirtual 381, 3) := by decide +kernel
theorem dX11_sameLabels_38 : decode cX11_sameLabels 38 = .ok (.aload_n 0, 1) := by decide +kernel
theorem dX11_sameLabels_39 : decode cX11_sameLabels 39 = .ok (.getfield 34, 3) := by decide +kernel
theorem dX11_sameLabels_42 : decode cX11_sameLabels 42 = .ok (.aload_n 0, 1) := by decide +kernel
theorem dX11_sameLabels_43 : decode cX11_sameLabels 43 = .ok (.getfield 31, 3) := by decide +kernel
theorem dX11_sameLabels_46 : decode cX11_sameLabels 46 = .ok (.invokevirtual 392, 3) := by decide +kernel
theorem dX11_sameLabels_49 : decode cX11_sameLabels 49 = .ok (.ifCond .eq 6, 3) := by decide +kernel
theorem dX11_sameLabels_52 : decode cX11_sameLabels 52 = .ok (.iinc 2 1, 3) := by decide +kernel
theorem dX11_sameLabels_55 : decode cX11_sameLabels 55 = .ok (.iinc 3 1, 3) := by decide +kernel
theorem dX11_sameLabels_58 : decode cX11_sameLabels 58 = .ok (.goto (-40), 3) := by decide +kernel
theorem dX11_sameLabels_61 : decode cX11_sameLabels 61 = .ok (.iload_n 2, 1) := by decide +kernel
theorem dX11_sameLabels_62 : decode cX11_sameLabels 62 = .ok (.ireturn, 1) := by decide +kernel
theorem dX11_writeLabelAt_0 : decode cX11_writeLabelAt 0 = .ok (.aload_n 2, 1) := by decide +kernel
theorem dX11_writeLabelAt_1 : decode cX11_writeLabelAt 1 = .ok (.iconst 0, 1) := by decide +kernel
theorem dX11_writeLabelAt_2 : decode cX11_writeLabelAt 2 = .ok (.invokevirtual 126, 3) := by decide +kernel
theorem dX11_writeLabelAt_5 : decode cX11_writeLabelAt 5 = .ok (.aload_n 0, 1) := by decide +kernel
theorem dX11_writeLabelAt_6 : decode cX11_writeLabelAt 6 = .ok (.getfield 53, 3) := by decide +kernel
theorem dX11_writeLabelAt_9 : decode cX11_writeLabelAt 9 = .ok (.aload_n 0, 1) := by decide +kernel
theorem dX11_writeLabelAt_10 : decode cX11_writeLabelAt 10 = .ok (.getfield 87, 3) := by decide +kernel
theorem dX11_writeLabelAt_13 : decode cX11_writeLabelAt 13 = .ok (.iload_n 1, 1) := by decide +kernel
theorem dX11_writeLabelAt_14 : decode cX11_writeLabelAt 14 = .ok (.invokevirtual 364, 3) := by decide +kernel
theorem dX11_writeLabelAt_17 : decode cX11_writeLabelAt 17 = .ok (.aload_n 0, 1) := by decide +kernel
theorem dX11_writeLabelAt_18 : decode cX11_writeLabelAt 18 = .ok (.getfield 87, 3) := by decide +kernel
theorem dX11_writeLabelAt_21 : decode cX11_writeLabelAt 21 = .ok (.iload_n 1, 1) := by decide +kernel
theorem dX11_writeLabelAt_22 : decode cX11_writeLabelAt 22 = .ok (.invokevirtual 367, 3) := by decide +kernel
theorem dX11_writeLabelAt_25 : decode cX11_writeLabelAt 25 = .ok (.aload_n 2, 1) := by decide +kernel
theorem dX11_writeLabelAt_26 : decode cX11_writeLabelAt 26 = .ok (.invokevirtual 385, 3) := by decide +kernel
theorem dX11_writeLabelAt_29 : decode cX11_writeLabelAt 29 = .ok (.aload_n 0, 1) := by decide +kernel
theorem dX11_writeLabelAt_30 : decode cX11_writeLabelAt 30 = .ok (.getfield 87, 3) := by decide +kernel
theorem dX11_writeLabelAt_33 : decode cX11_writeLabelAt 33 = .ok (.iload_n 1, 1) := by decide +kernel
theorem dX11_writeLabelAt_34 : decode cX11_writeLabelAt 34 = .ok (.invokevirtual 370, 3) := by decide +kernel
theorem dX11_writeLabelAt_37 : decode cX11_writeLabelAt 37 = .ok (.istore_n 3, 1) := by decide +kernel
theorem dX11_writeLabelAt_38 : decode cX11_writeLabelAt 38 = .ok (.iload_n 3, 1) := by decide +kernel
theorem dX11_writeLabelAt_39 : decode cX11_writeLabelAt 39 = .ok (.iconst (-1), 1) := by decide +kernel
theorem dX11_writeLabelAt_40 : decode cX11_writeLabelAt 40 = .ok (.if_icmp .eq 42, 3) := by decide +kernel
theorem dX11_writeLabelAt_43 : decode cX11_writeLabelAt 43 = .ok (.aload_n 2, 1) := by decide +kernel
theorem dX11_writeLabelAt_44 : decode cX11_writeLabelAt 44 = .ok (.bipush 42, 2) := by decide +kernel
theorem dX11_writeLabelAt_46 : decode cX11_writeLabelAt 46 = .ok (.invokevirtual 147, 3) := by decide +kernel
theorem dX11_writeLabelAt_49 : decode cX11_writeLabelAt 49 = .ok (.aload_n 2, 1) := by decide +kernel
theorem dX11_writeLabelAt_50 : decode cX11_writeLabelAt 50 = .ok (.bipush 97, 2) := by decide +kernel
theorem dX11_writeLabelAt_52 : decode cX11_writeLabelAt 52 = .ok (.aload_n 0, 1) := by decide +kernel
theorem dX11_writeLabelAt_53 : decode cX11_writeLabelAt 53 = .ok (.getfield 48, 3) := by decide +kernel
theorem dX11_writeLabelAt_56 : decode cX11_writeLabelAt 56 = .ok (.iload_n 3, 1) := by decide +kernel
theorem dX11_writeLabelAt_57 : decode cX11_writeLabelAt 57 = .ok (.invokevirtual 396, 3) := by decide +kernel
theorem dX11_writeLabelAt_60 : decode cX11_writeLabelAt 60 = .ok (.iadd, 1) := by decide +kernel
theorem dX11_writeLabelAt_61 : decode cX11_writeLabelAt 61 = .ok (.invokevirtual 147, 3) := by decide +kernel
theorem dX11_writeLabelAt_64 : decode cX11_writeLabelAt 64 = .ok (.aload_n 0, 1) := by decide +kernel
theorem dX11_writeLabelAt_65 : decode cX11_writeLabelAt 65 = .ok (.getfield 87, 3) := by decide +kernel
theorem dX11_writeLabelAt_68 : decode cX11_writeLabelAt 68 = .ok (.iload_n 1, 1) := by decide +kernel
theorem dX11_writeLabelAt_69 : decode cX11_writeLabelAt 69 = .ok (.invokevirtual 373, 3) := by decide +kernel
theorem dX11_writeLabelAt_72 : decode cX11_writeLabelAt 72 = .ok (.iconst 1, 1) := by decide +kernel
theorem dX11_writeLabelAt_73 : decode cX11_writeLabelAt 73 = .ok (.if_icmp .ne 9, 3) := by decide +kernel
theorem dX11_writeLabelAt_76 : decode cX11_writeLabelAt 76 = .ok (.aload_n 2, 1) := by decide +kernel
theorem dX11_writeLabelAt_77 : decode cX11_writeLabelAt 77 = .ok (.bipush 118, 2) := by decide +kernel
theorem dX11_writeLabelAt_79 : decode cX11_writeLabelAt 79 = .ok (.invokevirtual 147, 3) := by decide +kernel
theorem dX11_writeLabelAt_82 : decode cX11_writeLabelAt 82 = .ok (.return_, 1) := by decide +kernel
theorem dX11_openingCount_0 : decode cX11_openingCount 0 = .ok (.aload_n 0, 1) := by decide +kernel
theorem dX11_openingCount_1 : decode cX11_openingCount 1 = .ok (.getfield 48, 3) := by decide +kernel
theorem dX11_openingCount_4 : decode cX11_openingCount 4 = .ok (.invokevirtual 300, 3) := by decide +kernel
theorem dX11_openingCount_7 : decode cX11_openingCount 7 = .ok (.ireturn, 1) := by decide +kernel
theorem dX11_opening_0 : decode cX11_opening 0 = .ok (.aload_n 0, 1) := by decide +kernel
theorem dX11_opening_1 : decode cX11_opening 1 = .ok (.iload_n 1, 1) := by decide +kernel
theorem dX11_opening_2 : decode cX11_opening 2 = .ok (.invokevirtual 235, 3) := by decide +kernel
theorem dX11_opening_5 : decode cX11_opening 5 = .ok (.iload_n 2, 1) := by decide +kernel
theorem dX11_opening_6 : decode cX11_opening 6 = .ok (.tableswitch 101 0 4 #[34, 43, 52, 61, 95], 34) := by decide +kernel
theorem dX11_opening_40 : decode cX11_opening 40 = .ok (.aload_n 0, 1) := by decide +kernel
theorem dX11_opening_41 : decode cX11_opening 41 = .ok (.getfield 48, 3) := by decide +kernel
theorem dX11_opening_44 : decode cX11_opening 44 = .ok (.iload_n 1, 1) := by decide +kernel
theorem dX11_opening_45 : decode cX11_opening 45 = .ok (.invokevirtual 238, 3) := by decide +kernel
theorem dX11_opening_48 : decode cX11_opening 48 = .ok (.ireturn, 1) := by decide +kernel
theorem dX11_opening_49 : decode cX11_opening 49 = .ok (.aload_n 0, 1) := by decide +kernel
theorem dX11_opening_50 : decode cX11_opening 50 = .ok (.getfield 48, 3) := by decide +kernel
theorem dX11_opening_53 : decode cX11_opening 53 = .ok (.iload_n 1, 1) := by decide +kernel
theorem dX11_opening_54 : decode cX11_opening 54 = .ok (.invokevirtual 241, 3) := by decide +kernel
theorem dX11_opening_57 : decode cX11_opening 57 = .ok (.ireturn, 1) := by decide +kernel
theorem dX11_opening_58 : decode cX11_opening 58 = .ok (.aload_n 0, 1) := by decide +kernel
theorem dX11_opening_59 : decode cX11_opening 59 = .ok (.getfield 48, 3) := by decide +kernel
theorem dX11_opening_62 : decode cX11_opening 62 = .ok (.iload_n 1, 1) := by decide +kernel
theorem dX11_opening_63 : decode cX11_opening 63 = .ok (.invokevirtual 399, 3) := by decide +kernel
theorem dX11_opening_66 : decode cX11_opening 66 = .ok (.ireturn, 1) := by decide +kernel
theorem dX11_opening_67 : decode cX11_opening 67 = .ok (.aload_n 0, 1) := by decide +kernel
theorem dX11_opening_68 : decode cX11_opening 68 = .ok (.getfield 48, 3) := by decide +kernel
theorem dX11_opening_71 : decode cX11_opening 71 = .ok (.aload_n 0, 1) := by decide +kernel
theorem dX11_opening_72 : decode cX11_opening 72 = .ok (.getfield 48, 3) := by decide +kernel
theorem dX11_opening_75 : decode cX11_opening 75 = .ok (.iload_n 1, 1) := by decide +kernel
theorem dX11_opening_76 : decode cX11_opening 76 = .ok (.invokevirtual 238, 3) := by decide +kernel
theorem dX11_opening_79 : decode cX11_opening 79 = .ok (.iconst 1, 1) := by decide +kernel
theorem dX11_opening_80 : decode cX11_opening 80 = .ok (.invokevirtual 336, 3) := by decide +kernel
theorem dX11_opening_83 : decode cX11_opening 83 = .ok (.aload_n 0, 1) := by decide +kernel
theorem dX11_opening_84 : decode cX11_opening 84 = .ok (.getfield 48, 3) := by decide +kernel
theorem dX11_opening_87 : decode cX11_opening 87 = .ok (.aload_n 0, 1) := by decide +kernel
theorem dX11_opening_88 : decode cX11_opening 88 = .ok (.getfield 48, 3) := by decide +kernel
theorem dX11_opening_91 : decode cX11_opening 91 = .ok (.iload_n 1, 1) := by decide +kernel
theorem dX11_opening_92 : decode cX11_opening 92 = .ok (.invokevirtual 241, 3) := by decide +kernel
theorem dX11_opening_95 : decode cX11_opening 95 = .ok (.iconst 0, 1) := by decide +kernel
theorem dX11_opening_96 : decode cX11_opening 96 = .ok (.invokevirtual 336, 3) := by decide +kernel
theorem dX11_opening_99 : decode cX11_opening 99 = .ok (.iadd, 1) := by decide +kernel
theorem dX11_opening_100 : decode cX11_opening 100 = .ok (.ireturn, 1) := by decide +kernel
theorem dX11_opening_101 : decode cX11_opening 101 = .ok (.aload_n 0, 1) := by decide +kernel
theorem dX11_opening_102 : decode cX11_opening 102 = .ok (.iload_n 1, 1) := by decide +kernel
theorem dX11_opening_103 : decode cX11_opening 103 = .ok (.invokevirtual 402, 3) := by decide +kernel
theorem dX11_opening_106 : decode cX11_opening 106 = .ok (.ireturn, 1) := by decide +kernel
theorem dX11_opening_107 : decode cX11_opening 107 = .ok (.new 121, 3) := by decide +kernel
theorem dX11_opening_110 : decode cX11_opening 110 = .ok (.dup, 1) := by decide +kernel
theorem dX11_opening_111 : decode cX11_opening 111 = .ok (.ldc_w 405, 3) := by decide +kernel
theorem dX11_opening_114 : decode cX11_opening 114 = .ok (.invokespecial 125, 3) := by decide +kernel
theorem dX11_opening_117 : decode cX11_opening 117 = .ok (.athrow, 1) := by decide +kernel
theorem dX11_view_0 : decode cX11_view 0 = .ok (.aload_n 0, 1) := by decide +kernel
theorem dX11_view_1 : decode cX11_view 1 = .ok (.getfield 63, 3) := by decide +kernel
theorem dX11_view_4 : decode cX11_view 4 = .ok (.invokevirtual 297, 3) := by decide +kernel
theorem dX11_view_7 : decode cX11_view 7 = .ok (.ireturn, 1) := by decide +kernel
theorem dX11_trailLength_0 : decode cX11_trailLength 0 = .ok (.aload_n 0, 1) := by decide +kernel
theorem dX11_trailLength_1 : decode cX11_trailLength 1 = .ok (.getfield 63, 3) := by decide +kernel
theorem dX11_trailLength_4 : decode cX11_trailLength 4 = .ok (.invokevirtual 314, 3) := by decide +kernel
theorem dX11_trailLength_7 : decode cX11_trailLength 7 = .ok (.ireturn, 1) := by decide +kernel
theorem dX11_countScansOn_0 : decode cX11_countScansOn 0 = .ok (.aload_n 0, 1) := by decide +kernel
theorem dX11_countScansOn_1 : decode cX11_countScansOn 1 = .ok (.invokevirtual 278, 3) := by decide +kernel
theorem dX11_countScansOn_4 : decode cX11_countScansOn 4 = .ok (.iconst 0, 1) := by decide +kernel
theorem dX11_countScansOn_5 : decode cX11_countScansOn 5 = .ok (.istore_n 2, 1) := by decide +kernel
theorem dX11_countScansOn_6 : decode cX11_countScansOn 6 = .ok (.iconst 0, 1) := by decide +kernel
theorem dX11_countScansOn_7 : decode cX11_countScansOn 7 = .ok (.istore_n 3, 1) := by decide +kernel
theorem dX11_countScansOn_8 : decode cX11_countScansOn 8 = .ok (.iload_n 3, 1) := by decide +kernel
theorem dX11_countScansOn_9 : decode cX11_countScansOn 9 = .ok (.aload_n 0, 1) := by decide +kernel
theorem dX11_countScansOn_10 : decode cX11_countScansOn 10 = .ok (.getfield 58, 3) := by decide +kernel
theorem dX11_countScansOn_13 : decode cX11_countScansOn 13 = .ok (.invokevirtual 261, 3) := by decide +kernel
theorem dX11_countScansOn_16 : decode cX11_countScansOn 16 = .ok (.if_icmp .ge 44, 3) := by decide +kernel
theorem dX11_countScansOn_19 : decode cX11_countScansOn 19 = .ok (.aload_n 0, 1) := by decide +kernel
theorem dX11_countScansOn_20 : decode cX11_countScansOn 20 = .ok (.aload_n 0, 1) := by decide +kernel
theorem dX11_countScansOn_21 : decode cX11_countScansOn 21 = .ok (.getfield 94, 3) := by decide +kernel
theorem dX11_countScansOn_24 : decode cX11_countScansOn 24 = .ok (.iload_n 3, 1) := by decide +kernel
theorem dX11_countScansOn_25 : decode cX11_countScansOn 25 = .ok (.invokevirtual 407, 3) := by decide +kernel
theorem dX11_countScansOn_28 : decode cX11_countScansOn 28 = .ok (.invokevirtual 311, 3) := by decide +kernel
theorem dX11_countScansOn_31 : decode cX11_countScansOn 31 = .ok (.iload_n 1, 1) := by decide +kernel
theorem dX11_countScansOn_32 : decode cX11_countScansOn 32 = .ok (.if_icmp .eq 19, 3) := by decide +kernel
theorem dX11_countScansOn_35 : decode cX11_countScansOn 35 = .ok (.aload_n 0, 1) := by decide +kernel
theorem dX11_countScansOn_36 : decode cX11_countScansOn 36 = .ok (.aload_n 0, 1) := by decide +kernel
theorem dX11_countScansOn_37 : decode cX11_countScansOn 37 = .ok (.getfield 94, 3) := by decide +kernel
theorem dX11_countScansOn_40 : decode cX11_countScansOn 40 = .ok (.iload_n 3, 1) := by decide +kernel
theorem dX11_countScansOn_41 : decode cX11_countScansOn 41 = .ok (.invokevirtual 410, 3) := by decide +kernel
theorem dX11_countScansOn_44 : decode cX11_countScansOn 44 = .ok (.invokevirtual 311, 3) := by decide +kernel
theorem dX11_countScansOn_47 : decode cX11_countScansOn 47 = .ok (.iload_n 1, 1) := by decide +kernel
theorem dX11_countScansOn_48 : decode cX11_countScansOn 48 = .ok (.if_icmp .ne 6, 3) := by decide +kernel
theorem dX11_countScansOn_51 : decode cX11_countScansOn 51 = .ok (.iinc 2 1, 3) := by decide +kernel
theorem dX11_countScansOn_54 : decode cX11_countScansOn 54 = .ok (.iinc 3 1, 3) := by decide +kernel
theorem dX11_countScansOn_57 : decode cX11_countScansOn 57 = .ok (.goto (-49), 3) := by decide +kernel
theorem dX11_countScansOn_60 : decode cX11_countScansOn 60 = .ok (.iload_n 2, 1) := by decide +kernel
theorem dX11_countScansOn_61 : decode cX11_countScansOn 61 = .ok (.ireturn, 1) := by decide +kernel
theorem dX11_openingWith_0 : decode cX11_openingWith 0 = .ok (.iload_n 1, 1) := by decide +kernel
theorem dX11_openingWith_1 : decode cX11_openingWith 1 = .ok (.iconst (-1), 1) := by decide +kernel
theorem dX11_openingWith_2 : decode cX11_openingWith 2 = .ok (.if_icmp .ne 5, 3) := by decide +kernel
theorem dX11_openingWith_5 : decode cX11_openingWith 5 = .ok (.iconst (-1), 1) := by decide +kernel
theorem dX11_openingWith_6 : decode cX11_openingWith 6 = .ok (.ireturn, 1) := by decide +kernel
theorem dX11_openingWith_7 : decode cX11_openingWith 7 = .ok (.aload_n 0, 1) := by decide +kernel
theorem dX11_openingWith_8 : decode cX11_openingWith 8 = .ok (.getfield 48, 3) := by decide +kernel
theorem dX11_openingWith_11 : decode cX11_openingWith 11 = .ok (.aload_n 0, 1) := by decide +kernel
theorem dX11_openingWith_12 : decode cX11_openingWith 12 = .ok (.getfield 87, 3) := by decide +kernel
theorem dX11_openingWith_15 : decode cX11_openingWith 15 = .ok (.iload_n 1, 1) := by decide +kernel
theorem dX11_openingWith_16 : decode cX11_openingWith 16 = .ok (.invokevirtual 364, 3) := by decide +kernel
theorem dX11_openingWith_19 : decode cX11_openingWith 19 = .ok (.invokevirtual 413, 3) := by decide +kernel
theorem dX11_openingWith_22 : decode cX11_openingWith 22 = .ok (.aload_n 0, 1) := by decide +kernel
theorem dX11_openingWith_23 : decode cX11_openingWith 23 = .ok (.getfield 87, 3) := by decide +kernel
theorem dX11_openingWith_26 : decode cX11_openingWith 26 = .ok (.iload_n 1, 1) := by decide +kernel
theorem dX11_openingWith_27 : decode cX11_openingWith 27 = .ok (.invokevirtual 367, 3) := by decide +kernel
theorem dX11_openingWith_30 : decode cX11_openingWith 30 = .ok (.iadd, 1) := by decide +kernel
theorem dX11_openingWith_31 : decode cX11_openingWith 31 = .ok (.ireturn, 1) := by decide +kernel
theorem dX11_scanCount_0 : decode cX11_scanCount 0 = .ok (.aload_n 0, 1) := by decide +kernel
theorem dX11_scanCount_1 : decode cX11_scanCount 1 = .ok (.getfield 58, 3) := by decide +kernel
theorem dX11_scanCount_4 : decode cX11_scanCount 4 = .ok (.invokevirtual 261, 3) := by decide +kernel
theorem dX11_scanCount_7 : decode cX11_scanCount 7 = .ok (.ireturn, 1) := by decide +kernel
theorem dX11_scan_0 : decode cX11_scan 0 = .ok (.aload_n 0, 1) := by decide +kernel
theorem dX11_scan_1 : decode cX11_scan 1 = .ok (.iload_n 1, 1) := by decide +kernel
theorem dX11_scan_2 : decode cX11_scan 2 = .ok (.invokevirtual 262, 3) := by decide +kernel
theorem dX11_scan_5 : decode cX11_scan 5 = .ok (.iload_n 2, 1) := by decide +kernel
theorem dX11_scan_6 : decode cX11_scan 6 = .ok (.tableswitch 70 0 3 #[30, 39, 52, 61], 30) := by decide +kernel
theorem dX11_scan_36 : decode cX11_scan 36 = .ok (.aload_n 0, 1) := by decide +kernel
theorem dX11_scan_37 : decode cX11_scan 37 = .ok (.getfield 58, 3) := by decide +kernel
theorem dX11_scan_40 : decode cX11_scan 40 = .ok (.iload_n 1, 1) := by decide +kernel
theorem dX11_scan_41 : decode cX11_scan 41 = .ok (.invokevirtual 265, 3) := by decide +kernel
theorem dX11_scan_44 : decode cX11_scan 44 = .ok (.ireturn, 1) := by decide +kernel
theorem dX11_scan_45 : decode cX11_scan 45 = .ok (.aload_n 0, 1) := by decide +kernel
theorem dX11_scan_46 : decode cX11_scan 46 = .ok (.invokevirtual 278, 3) := by decide +kernel
theorem dX11_scan_49 : decode cX11_scan 49 = .ok (.aload_n 0, 1) := by decide +kernel
theorem dX11_scan_50 : decode cX11_scan 50 = .ok (.getfield 94, 3) := by decide +kernel
theorem dX11_scan_53 : decode cX11_scan 53 = .ok (.iload_n 1, 1) := by decide +kernel
theorem dX11_scan_54 : decode cX11_scan 54 = .ok (.invokevirtual 407, 3) := by decide +kernel
theorem dX11_scan_57 : decode cX11_scan 57 = .ok (.ireturn, 1) := by decide +kernel
theorem dX11_scan_58 : decode cX11_scan 58 = .ok (.aload_n 0, 1) := by decide +kernel
theorem dX11_scan_59 : decode cX11_scan 59 = .ok (.getfield 58, 3) := by decide +kernel
theorem dX11_scan_62 : decode cX11_scan 62 = .ok (.iload_n 1, 1) := by decide +kernel
theorem dX11_scan_63 : decode cX11_scan 63 = .ok (.invokevirtual 416, 3) := by decide +kernel
theorem dX11_scan_66 : decode cX11_scan 66 = .ok (.ireturn, 1) := by decide +kernel
theorem dX11_scan_67 : decode cX11_scan 67 = .ok (.aload_n 0, 1) := by decide +kernel
theorem dX11_scan_68 : decode cX11_scan 68 = .ok (.getfield 58, 3) := by decide +kernel
theorem dX11_scan_71 : decode cX11_scan 71 = .ok (.iload_n 1, 1) := by decide +kernel
theorem dX11_scan_72 : decode cX11_scan 72 = .ok (.invokevirtual 417, 3) := by decide +kernel
theorem dX11_scan_75 : decode cX11_scan 75 = .ok (.ireturn, 1) := by decide +kernel
theorem dX11_scan_76 : decode cX11_scan 76 = .ok (.new 121, 3) := by decide +kernel
theorem dX11_scan_79 : decode cX11_scan 79 = .ok (.dup, 1) := by decide +kernel
theorem dX11_scan_80 : decode cX11_scan 80 = .ok (.ldc_w 418, 3) := by decide +kernel
theorem dX11_scan_83 : decode cX11_scan 83 = .ok (.invokespecial 125, 3) := by decide +kernel
theorem dX11_scan_86 : decode cX11_scan 86 = .ok (.athrow, 1) := by decide +kernel
theorem dX11_showing_0 : decode cX11_showing 0 = .ok (.aload_n 0, 1) := by decide +kernel
theorem dX11_showing_1 : decode cX11_showing 1 = .ok (.iload_n 1, 1) := by decide +kernel
theorem dX11_showing_2 : decode cX11_showing 2 = .ok (.invokevirtual 308, 3) := by decide +kernel
theorem dX11_showing_5 : decode cX11_showing 5 = .ok (.aload_n 0, 1) := by decide +kernel
theorem dX11_showing_6 : decode cX11_showing 6 = .ok (.invokevirtual 278, 3) := by decide +kernel
theorem dX11_showing_9 : decode cX11_showing 9 = .ok (.aload_n 0, 1) := by decide +kernel
theorem dX11_showing_10 : decode cX11_showing 10 = .ok (.getfield 94, 3) := by decide +kernel
theorem dX11_showing_13 : decode cX11_showing 13 = .ok (.iload_n 1, 1) := by decide +kernel
theorem dX11_showing_14 : decode cX11_showing 14 = .ok (.invokevirtual 420, 3) := by decide +kernel
theorem dX11_showing_17 : decode cX11_showing 17 = .ok (.ireturn, 1) := by decide +kernel
theorem dX11_uncovered_0 : decode cX11_uncovered 0 = .ok (.aload_n 0, 1) := by decide +kernel
theorem dX11_uncovered_1 : decode cX11_uncovered 1 = .ok (.invokevirtual 278, 3) := by decide +kernel
theorem dX11_uncovered_4 : decode cX11_uncovered 4 = .ok (.iconst 0, 1) := by decide +kernel
theorem dX11_uncovered_5 : decode cX11_uncovered 5 = .ok (.istore_n 1, 1) := by decide +kernel
theorem dX11_uncovered_6 : decode cX11_uncovered 6 = .ok (.iconst 0, 1) := by decide +kernel
theorem dX11_uncovered_7 : decode cX11_uncovered 7 = .ok (.istore_n 2, 1) := by decide +kernel
theorem dX11_uncovered_8 : decode cX11_uncovered 8 = .ok (.iload_n 2, 1) := by decide +kernel
theorem dX11_uncovered_9 : decode cX11_uncovered 9 = .ok (.aload_n 0, 1) := by decide +kernel
theorem dX11_uncovered_10 : decode cX11_uncovered 10 = .ok (.getfield 87, 3) := by decide +kernel
theorem dX11_uncovered_13 : decode cX11_uncovered 13 = .ok (.invokevirtual 363, 3) := by decide +kernel
theorem dX11_uncovered_16 : decode cX11_uncovered 16 = .ok (.if_icmp .ge 23, 3) := by decide +kernel
theorem dX11_uncovered_19 : decode cX11_uncovered 19 = .ok (.aload_n 0, 1) := by decide +kernel
theorem dX11_uncovered_20 : decode cX11_uncovered 20 = .ok (.getfield 94, 3) := by decide +kernel
theorem dX11_uncovered_23 : decode cX11_uncovered 23 = .ok (.iload_n 2, 1) := by decide +kernel
theorem dX11_uncovered_24 : decode cX11_uncovered 24 = .ok (.invokevirtual 420, 3) := by decide +kernel
theorem dX11_uncovered_27 : decode cX11_uncovered 27 = .ok (.ifCond .ne 6, 3) := by decide +kernel
theorem dX11_uncovered_30 : decode cX11_uncovered 30 = .ok (.iinc 1 1, 3) := by decide +kernel
theorem dX11_uncovered_33 : decode cX11_uncovered 33 = .ok (.iinc 2 1, 3) := by decide +kernel
theorem dX11_uncovered_36 : decode cX11_uncovered 36 = .ok (.goto (-28), 3) := by decide +kernel
theorem dX11_uncovered_39 : decode cX11_uncovered 39 = .ok (.iload_n 1, 1) := by decide +kernel
theorem dX11_uncovered_40 : decode cX11_uncovered 40 = .ok (.ireturn, 1) := by decide +kernel
theorem dX11_nextUncovered_0 : decode cX11_nextUncovered 0 = .ok (.aload_n 0, 1) := by decide +kernel
theorem dX11_nextUncovered_1 : decode cX11_nextUncovered 1 = .ok (.iload_n 1, 1) := by decide +kernel
theorem dX11_nextUncovered_2 : decode cX11_nextUncovered 2 = .ok (.invokevirtual 389, 3) := by decide +kernel
theorem dX11_nextUncovered_5 : decode cX11_nextUncovered 5 = .ok (.aload_n 0, 1) := by decide +kernel
theorem dX11_nextUncovered_6 : decode cX11_nextUncovered 6 = .ok (.invokevirtual 278, 3) := by decide +kernel
theorem dX11_nextUncovered_9 : decode cX11_nextUncovered 9 = .ok (.iload_n 1, 1) := by decide +kernel
theorem dX11_nextUncovered_10 : decode cX11_nextUncovered 10 = .ok (.istore_n 2, 1) := by decide +kernel
theorem dX11_nextUncovered_11 : decode cX11_nextUncovered 11 = .ok (.iload_n 2, 1) := by decide +kernel
theorem dX11_nextUncovered_12 : decode cX11_nextUncovered 12 = .ok (.aload_n 0, 1) := by decide +kernel
theorem dX11_nextUncovered_13 : decode cX11_nextUncovered 13 = .ok (.getfield 87, 3) := by decide +kernel
theorem dX11_nextUncovered_16 : decode cX11_nextUncovered 16 = .ok (.invokevirtual 363, 3) := by decide +kernel
theorem dX11_nextUncovered_19 : decode cX11_nextUncovered 19 = .ok (.if_icmp .ge 22, 3) := by decide +kernel
theorem dX11_nextUncovered_22 : decode cX11_nextUncovered 22 = .ok (.aload_n 0, 1) := by decide +kernel
theorem dX11_nextUncovered_23 : decode cX11_nextUncovered 23 = .ok (.getfield 94, 3) := by decide +kernel
theorem dX11_nextUncovered_26 : decode cX11_nextUncovered 26 = .ok (.iload_n 2, 1) := by decide +kernel
theorem dX11_nextUncovered_27 : decode cX11_nextUncovered 27 = .ok (.invokevirtual 420, 3) := by decide +kernel
theorem dX11_nextUncovered_30 : decode cX11_nextUncovered 30 = .ok (.ifCond .ne 5, 3) := by decide +kernel
theorem dX11_nextUncovered_33 : decode cX11_nextUncovered 33 = .ok (.iload_n 2, 1) := by decide +kernel
theorem dX11_nextUncovered_34 : decode cX11_nextUncovered 34 = .ok (.ireturn, 1) := by decide +kernel
theorem dX11_nextUncovered_35 : decode cX11_nextUncovered 35 = .ok (.iinc 2 1, 3) := by decide +kernel
theorem dX11_nextUncovered_38 : decode cX11_nextUncovered 38 = .ok (.goto (-27), 3) := by decide +kernel
theorem dX11_nextUncovered_41 : decode cX11_nextUncovered 41 = .ok (.iconst (-1), 1) := by decide +kernel
theorem dX11_nextUncovered_42 : decode cX11_nextUncovered 42 = .ok (.ireturn, 1) := by decide +kernel
theorem dX11_needless_0 : decode cX11_needless 0 = .ok (.aload_n 0, 1) := by decide +kernel
theorem dX11_needless_1 : decode cX11_needless 1 = .ok (.invokevirtual 278, 3) := by decide +kernel
theorem dX11_needless_4 : decode cX11_needless 4 = .ok (.aload_n 0, 1) := by decide +kernel
theorem dX11_needless_5 : decode cX11_needless 5 = .ok (.getfield 94, 3) := by decide +kernel
theorem dX11_needless_8 : decode cX11_needless 8 = .ok (.invokevirtual 423, 3) := by decide +kernel
theorem dX11_needless_11 : decode cX11_needless 11 = .ok (.ireturn, 1) := by decide +kernel
theorem dX11_inversions_0 : decode cX11_inversions 0 = .ok (.aload_n 0, 1) := by decide +kernel
theorem dX11_inversions_1 : decode cX11_inversions 1 = .ok (.invokevirtual 278, 3) := by decide +kernel
theorem dX11_inversions_4 : decode cX11_inversions 4 = .ok (.aload_n 0, 1) := by decide +kernel
theorem dX11_inversions_5 : decode cX11_inversions 5 = .ok (.getfield 94, 3) := by decide +kernel
theorem dX11_inversions_8 : decode cX11_inversions 8 = .ok (.invokevirtual 426, 3) := by decide +kernel
theorem dX11_inversions_11 : decode cX11_inversions 11 = .ok (.ireturn, 1) := by decide +kernel
theorem dX11_movesToOrder_0 : decode cX11_movesToOrder 0 = .ok (.aload_n 0, 1) := by decide +kernel
theorem dX11_movesToOrder_1 : decode cX11_movesToOrder 1 = .ok (.invokevirtual 278, 3) := by decide +kernel
theorem dX11_movesToOrder_4 : decode cX11_movesToOrder 4 = .ok (.aload_n 0, 1) := by decide +kernel
theorem dX11_movesToOrder_5 : decode cX11_movesToOrder 5 = .ok (.getfield 94, 3) := by decide +kernel
theorem dX11_movesToOrder_8 : decode cX11_movesToOrder 8 = .ok (.invokevirtual 429, 3) := by decide +kernel
theorem dX11_movesToOrder_11 : decode cX11_movesToOrder 11 = .ok (.ireturn, 1) := by decide +kernel
theorem dX11_longestRun_0 : decode cX11_longestRun 0 = .ok (.aload_n 0, 1) := by decide +kernel
theorem dX11_longestRun_1 : decode cX11_longestRun 1 = .ok (.invokevirtual 278, 3) := by decide +kernel
theorem dX11_longestRun_4 : decode cX11_longestRun 4 = .ok (.aload_n 0, 1) := by decide +kernel
theorem dX11_longestRun_5 : decode cX11_longestRun 5 = .ok (.getfield 94, 3) := by decide +kernel
theorem dX11_longestRun_8 : decode cX11_longestRun 8 = .ok (.invokevirtual 432, 3) := by decide +kernel
theorem dX11_longestRun_11 : decode cX11_longestRun 11 = .ok (.ireturn, 1) := by decide +kernel
theorem dX11_firstMisplaced_0 : decode cX11_firstMisplaced 0 = .ok (.aload_n 0, 1) := by decide +kernel
theorem dX11_firstMisplaced_1 : decode cX11_firstMisplaced 1 = .ok (.invokevirtual 278, 3) := by decide +kernel
theorem dX11_firstMisplaced_4 : decode cX11_firstMisplaced 4 = .ok (.aload_n 0, 1) := by decide +kernel
theorem dX11_firstMisplaced_5 : decode cX11_firstMisplaced 5 = .ok (.getfield 94, 3) := by decide +kernel
theorem dX11_firstMisplaced_8 : decode cX11_firstMisplaced 8 = .ok (.invokevirtual 435, 3) := by decide +kernel
theorem dX11_firstMisplaced_11 : decode cX11_firstMisplaced 11 = .ok (.istore_n 1, 1) := by decide +kernel
theorem dX11_firstMisplaced_12 : decode cX11_firstMisplaced 12 = .ok (.iload_n 1, 1) := by decide +kernel
theorem dX11_firstMisplaced_13 : decode cX11_firstMisplaced 13 = .ok (.iconst (-1), 1) := by decide +kernel
theorem dX11_firstMisplaced_14 : decode cX11_firstMisplaced 14 = .ok (.if_icmp .ne 14, 3) := by decide +kernel
theorem dX11_firstMisplaced_17 : decode cX11_firstMisplaced 17 = .ok (.new 438, 3) := by decide +kernel
theorem dX11_firstMisplaced_20 : decode cX11_firstMisplaced 20 = .ok (.dup, 1) := by decide +kernel
theorem dX11_firstMisplaced_21 : decode cX11_firstMisplaced 21 = .ok (.ldc_w 440, 3) := by decide +kernel
theorem dX11_firstMisplaced_24 : decode cX11_firstMisplaced 24 = .ok (.invokespecial 442, 3) := by decide +kernel
theorem dX11_firstMisplaced_27 : decode cX11_firstMisplaced 27 = .ok (.athrow, 1) := by decide +kernel
theorem dX11_firstMisplaced_28 : decode cX11_firstMisplaced 28 = .ok (.iload_n 1, 1) := by decide +kernel
theorem dX11_firstMisplaced_29 : decode cX11_firstMisplaced 29 = .ok (.ireturn, 1) := by decide +kernel
theorem dX11_followScans_0 : decode cX11_followScans 0 = .ok (.aload_n 0, 1) := by decide +kernel
theorem dX11_followScans_1 : decode cX11_followScans 1 = .ok (.getfield 87, 3) := by decide +kernel
theorem dX11_followScans_4 : decode cX11_followScans 4 = .ok (.aload_n 0, 1) := by decide +kernel
theorem dX11_followScans_5 : decode cX11_followScans 5 = .ok (.getfield 48, 3) := by decide +kernel
theorem dX11_followScans_8 : decode cX11_followScans 8 = .ok (.invokevirtual 359, 3) := by decide +kernel
theorem dX11_followScans_11 : decode cX11_followScans 11 = .ok (.aload_n 0, 1) := by decide +kernel
theorem dX11_followScans_12 : decode cX11_followScans 12 = .ok (.getfield 94, 3) := by decide +kernel
theorem dX11_followScans_15 : decode cX11_followScans 15 = .ok (.aload_n 0, 1) := by decide +kernel
theorem dX11_followScans_16 : decode cX11_followScans 16 = .ok (.getfield 58, 3) := by decide +kernel
theorem dX11_followScans_19 : decode cX11_followScans 19 = .ok (.aload_n 0, 1) := by decide +kernel
theorem dX11_followScans_20 : decode cX11_followScans 20 = .ok (.getfield 87, 3) := by decide +kernel
theorem dX11_followScans_23 : decode cX11_followScans 23 = .ok (.invokevirtual 443, 3) := by decide +kernel
theorem dX11_followScans_26 : decode cX11_followScans 26 = .ok (.return_, 1) := by decide +kernel
theorem dX11_undo_0 : decode cX11_undo 0 = .ok (.aload_n 0, 1) := by decide +kernel
theorem dX11_undo_1 : decode cX11_undo 1 = .ok (.getfield 73, 3) := by decide +kernel
theorem dX11_undo_4 : decode cX11_undo 4 = .ok (.invokevirtual 446, 3) := by decide +kernel
theorem dX11_undo_7 : decode cX11_undo 7 = .ok (.ifCond .ne 14, 3) := by decide +kernel
theorem dX11_undo_10 : decode cX11_undo 10 = .ok (.new 111, 3) := by decide +kernel
theorem dX11_undo_13 : decode cX11_undo 13 = .ok (.dup, 1) := by decide +kernel
theorem dX11_undo_14 : decode cX11_undo 14 = .ok (.ldc_w 447, 3) := by decide +kernel
theorem dX11_undo_17 : decode cX11_undo 17 = .ok (.invokespecial 115, 3) := by decide +kernel
theorem dX11_undo_20 : decode cX11_undo 20 = .ok (.athrow, 1) := by decide +kernel
theorem dX11_undo_21 : decode cX11_undo 21 = .ok (.aload_n 0, 1) := by decide +kernel
theorem dX11_undo_22 : decode cX11_undo 22 = .ok (.getfield 73, 3) := by decide +kernel
theorem dX11_undo_25 : decode cX11_undo 25 = .ok (.aload_n 0, 1) := by decide +kernel
theorem dX11_undo_26 : decode cX11_undo 26 = .ok (.getfield 40, 3) := by decide +kernel
theorem dX11_undo_29 : decode cX11_undo 29 = .ok (.invokevirtual 449, 3) := by decide +kernel
theorem dX11_undo_32 : decode cX11_undo 32 = .ok (.aload_n 0, 1) := by decide +kernel
theorem dX11_undo_33 : decode cX11_undo 33 = .ok (.getfield 73, 3) := by decide +kernel
theorem dX11_undo_36 : decode cX11_undo 36 = .ok (.invokevirtual 446, 3) := by decide +kernel
theorem dX11_undo_39 : decode cX11_undo 39 = .ok (.ireturn, 1) := by decide +kernel
theorem dX11_undoCount_0 : decode cX11_undoCount 0 = .ok (.aload_n 0, 1) := by decide +kernel
theorem dX11_undoCount_1 : decode cX11_undoCount 1 = .ok (.getfield 73, 3) := by decide +kernel
theorem dX11_undoCount_4 : decode cX11_undoCount 4 = .ok (.invokevirtual 446, 3) := by decide +kernel
theorem dX11_undoCount_7 : decode cX11_undoCount 7 = .ok (.ireturn, 1) := by decide +kernel
theorem dX11_save_0 : decode cX11_save 0 = .ok (.aload_n 0, 1) := by decide +kernel
theorem dX11_save_1 : decode cX11_save 1 = .ok (.getfield 77, 3) := by decide +kernel
theorem dX11_save_4 : decode cX11_save 4 = .ok (.aload_n 0, 1) := by decide +kernel
theorem dX11_save_5 : decode cX11_save 5 = .ok (.getfield 40, 3) := by decide +kernel
theorem dX11_save_8 : decode cX11_save 8 = .ok (.invokevirtual 137, 3) := by decide +kernel
theorem dX11_save_11 : decode cX11_save 11 = .ok (.aload_n 0, 1) := by decide +kernel
theorem dX11_save_12 : decode cX11_save 12 = .ok (.iconst 1, 1) := by decide +kernel
theorem dX11_save_13 : decode cX11_save 13 = .ok (.putfield 80, 3) := by decide +kernel
theorem dX11_save_16 : decode cX11_save 16 = .ok (.aload_n 0, 1) := by decide +kernel
theorem dX11_save_17 : decode cX11_save 17 = .ok (.getfield 58, 3) := by decide +kernel
theorem dX11_save_20 : decode cX11_save 20 = .ok (.invokevirtual 261, 3) := by decide +kernel
theorem dX11_save_23 : decode cX11_save 23 = .ok (.ireturn, 1) := by decide +kernel
theorem dX11_restore_0 : decode cX11_restore 0 = .ok (.aload_n 0, 1) := by decide +kernel
theorem dX11_restore_1 : decode cX11_restore 1 = .ok (.getfield 80, 3) := by decide +kernel
theorem dX11_restore_4 : decode cX11_restore 4 = .ok (.ifCond .ne 14, 3) := by decide +kernel
theorem dX11_restore_7 : decode cX11_restore 7 = .ok (.new 111, 3) := by decide +kernel
theorem dX11_restore_10 : decode cX11_restore 10 = .ok (.dup, 1) := by decide +kernel
theorem dX11_restore_11 : decode cX11_restore 11 = .ok (.ldc_w 452, 3) := by decide +kernel
theorem dX11_restore_14 : decode cX11_restore 14 = .ok (.invokespecial 115, 3) := by decide +kernel
theorem dX11_restore_17 : decode cX11_restore 17 = .ok (.athrow, 1) := by decide +kernel
theorem dX11_restore_18 : decode cX11_restore 18 = .ok (.aload_n 0, 1) := by decide +kernel
theorem dX11_restore_19 : decode cX11_restore 19 = .ok (.getfield 40, 3) := by decide +kernel
theorem dX11_restore_22 : decode cX11_restore 22 = .ok (.aload_n 0, 1) := by decide +kernel
theorem dX11_restore_23 : decode cX11_restore 23 = .ok (.getfield 77, 3) := by decide +kernel
theorem dX11_restore_26 : decode cX11_restore 26 = .ok (.invokevirtual 137, 3) := by decide +kernel
theorem dX11_restore_29 : decode cX11_restore 29 = .ok (.aload_n 0, 1) := by decide +kernel
theorem dX11_restore_30 : decode cX11_restore 30 = .ok (.getfield 73, 3) := by decide +kernel
theorem dX11_restore_33 : decode cX11_restore 33 = .ok (.invokevirtual 141, 3) := by decide +kernel
theorem dX11_restore_36 : decode cX11_restore 36 = .ok (.aload_n 0, 1) := by decide +kernel
theorem dX11_restore_37 : decode cX11_restore 37 = .ok (.getfield 58, 3) := by decide +kernel
theorem dX11_restore_40 : decode cX11_restore 40 = .ok (.invokevirtual 261, 3) := by decide +kernel
theorem dX11_restore_43 : decode cX11_restore 43 = .ok (.ireturn, 1) := by decide +kernel
theorem dX11_requireLeaf_0 : decode cX11_requireLeaf 0 = .ok (.aload_n 0, 1) := by decide +kernel
theorem dX11_requireLeaf_1 : decode cX11_requireLeaf 1 = .ok (.getfield 48, 3) := by decide +kernel
theorem dX11_requireLeaf_4 : decode cX11_requireLeaf 4 = .ok (.iload_n 1, 1) := by decide +kernel
theorem dX11_requireLeaf_5 : decode cX11_requireLeaf 5 = .ok (.invokevirtual 454, 3) := by decide +kernel
theorem dX11_requireLeaf_8 : decode cX11_requireLeaf 8 = .ok (.ifCond .ne 14, 3) := by decide +kernel
theorem dX11_requireLeaf_11 : decode cX11_requireLeaf 11 = .ok (.new 249, 3) := by decide +kernel
theorem dX11_requireLeaf_14 : decode cX11_requireLeaf 14 = .ok (.dup, 1) := by decide +kernel
theorem dX11_requireLeaf_15 : decode cX11_requireLeaf 15 = .ok (.ldc_w 457, 3) := by decide +kernel
theorem dX11_requireLeaf_18 : decode cX11_requireLeaf 18 = .ok (.invokespecial 253, 3) := by decide +kernel
theorem dX11_requireLeaf_21 : decode cX11_requireLeaf 21 = .ok (.athrow, 1) := by decide +kernel
theorem dX11_requireLeaf_22 : decode cX11_requireLeaf 22 = .ok (.return_, 1) := by decide +kernel
theorem dX11_requireSide_0 : decode cX11_requireSide 0 = .ok (.iload_n 0, 1) := by decide +kernel
theorem dX11_requireSide_1 : decode cX11_requireSide 1 = .ok (.ifCond .eq 19, 3) := by decide +kernel
theorem dX11_requireSide_4 : decode cX11_requireSide 4 = .ok (.iload_n 0, 1) := by decide +kernel
theorem dX11_requireSide_5 : decode cX11_requireSide 5 = .ok (.iconst 1, 1) := by decide +kernel
theorem dX11_requireSide_6 : decode cX11_requireSide 6 = .ok (.if_icmp .eq 14, 3) := by decide +kernel
theorem dX11_requireSide_9 : decode cX11_requireSide 9 = .ok (.new 121, 3) := by decide +kernel
theorem dX11_requireSide_12 : decode cX11_requireSide 12 = .ok (.dup, 1) := by decide +kernel
theorem dX11_requireSide_13 : decode cX11_requireSide 13 = .ok (.ldc_w 459, 3) := by decide +kernel
theorem dX11_requireSide_16 : decode cX11_requireSide 16 = .ok (.invokespecial 125, 3) := by decide +kernel
theorem dX11_requireSide_19 : decode cX11_requireSide 19 = .ok (.athrow, 1) := by decide +kernel
theorem dX11_requireSide_20 : decode cX11_requireSide 20 = .ok (.return_, 1) := by decide +kernel
theorem dX11_requireSlip_0 : decode cX11_requireSlip 0 = .ok (.iload_n 1, 1) := by decide +kernel
theorem dX11_requireSlip_1 : decode cX11_requireSlip 1 = .ok (.ifCond .lt 14, 3) := by decide +kernel
theorem dX11_requireSlip_4 : decode cX11_requireSlip 4 = .ok (.iload_n 1, 1) := by decide +kernel
theorem dX11_requireSlip_5 : decode cX11_requireSlip 5 = .ok (.aload_n 0, 1) := by decide +kernel
theorem dX11_requireSlip_6 : decode cX11_requireSlip 6 = .ok (.getfield 48, 3) := by decide +kernel
theorem dX11_requireSlip_9 : decode cX11_requireSlip 9 = .ok (.invokevirtual 198, 3) := by decide +kernel
theorem dX11_requireSlip_12 : decode cX11_requireSlip 12 = .ok (.if_icmp .lt 14, 3) := by decide +kernel
theorem dX11_requireSlip_15 : decode cX11_requireSlip 15 = .ok (.new 249, 3) := by decide +kernel
theorem dX11_requireSlip_18 : decode cX11_requireSlip 18 = .ok (.dup, 1) := by decide +kernel
theorem dX11_requireSlip_19 : decode cX11_requireSlip 19 = .ok (.ldc_w 461, 3) := by decide +kernel
theorem dX11_requireSlip_22 : decode cX11_requireSlip 22 = .ok (.invokespecial 253, 3) := by decide +kernel
theorem dX11_requireSlip_25 : decode cX11_requireSlip 25 = .ok (.athrow, 1) := by decide +kernel
theorem dX11_requireSlip_26 : decode cX11_requireSlip 26 = .ok (.return_, 1) := by decide +kernel
theorem dX11_requireAttached_0 : decode cX11_requireAttached 0 = .ok (.aload_n 0, 1) := by decide +kernel
theorem dX11_requireAttached_1 : decode cX11_requireAttached 1 = .ok (.getfield 48, 3) := by decide +kernel
theorem dX11_requireAttached_4 : decode cX11_requireAttached 4 = .ok (.iload_n 1, 1) := by decide +kernel
theorem dX11_requireAttached_5 : decode cX11_requireAttached 5 = .ok (.invokevirtual 342, 3) := by decide +kernel
theorem dX11_requireAttached_8 : decode cX11_requireAttached 8 = .ok (.iconst (-1), 1) := by decide +kernel
theorem dX11_requireAttached_9 : decode cX11_requireAttached 9 = .ok (.if_icmp .ne 14, 3) := by decide +kernel
theorem dX11_requireAttached_12 : decode cX11_requireAttached 12 = .ok (.new 111, 3) := by decide +kernel
theorem dX11_requireAttached_15 : decode cX11_requireAttached 15 = .ok (.dup, 1) := by decide +kernel
theorem dX11_requireAttached_16 : decode cX11_requireAttached 16 = .ok (.ldc_w 463, 3) := by decide +kernel
theorem dX11_requireAttached_19 : decode cX11_requireAttached 19 = .ok (.invokespecial 115, 3) := by decide +kernel
theorem dX11_requireAttached_22 : decode cX11_requireAttached 22 = .ok (.athrow, 1) := by decide +kernel
theorem dX11_requireAttached_23 : decode cX11_requireAttached 23 = .ok (.return_, 1) := by decide +kernel
theorem dX11_requireScan_0 : decode cX11_requireScan 0 = .ok (.iload_n 1, 1) := by decide +kernel
theorem dX11_requireScan_1 : decode cX11_requireScan 1 = .ok (.ifCond .lt 14, 3) := by decide +kernel
theorem dX11_requireScan_4 : decode cX11_requireScan 4 = .ok (.iload_n 1, 1) := by decide +kernel
theorem dX11_requireScan_5 : decode cX11_requireScan 5 = .ok (.aload_n 0, 1) := by decide +kernel
theorem dX11_requireScan_6 : decode cX11_requireScan 6 = .ok (.getfield 58, 3) := by decide +kernel
theorem dX11_requireScan_9 : decode cX11_requireScan 9 = .ok (.invokevirtual 261, 3) := by decide +kernel
theorem dX11_requireScan_12 : decode cX11_requireScan 12 = .ok (.if_icmp .lt 14, 3) := by decide +kernel
theorem dX11_requireScan_15 : decode cX11_requireScan 15 = .ok (.new 249, 3) := by decide +kernel
theorem dX11_requireScan_18 : decode cX11_requireScan 18 = .ok (.dup, 1) := by decide +kernel
theorem dX11_requireScan_19 : decode cX11_requireScan 19 = .ok (.ldc_w 465, 3) := by decide +kernel
theorem dX11_requireScan_22 : decode cX11_requireScan 22 = .ok (.invokespecial 253, 3) := by decide +kernel
theorem dX11_requireScan_25 : decode cX11_requireScan 25 = .ok (.athrow, 1) := by decide +kernel
theorem dX11_requireScan_26 : decode cX11_requireScan 26 = .ok (.return_, 1) := by decide +kernel
theorem dX11_requireOpening_0 : decode cX11_requireOpening 0 = .ok (.iload_n 1, 1) := by decide +kernel
theorem dX11_requireOpening_1 : decode cX11_requireOpening 1 = .ok (.ifCond .lt 14, 3) := by decide +kernel
theorem dX11_requireOpening_4 : decode cX11_requireOpening 4 = .ok (.iload_n 1, 1) := by decide +kernel
theorem dX11_requireOpening_5 : decode cX11_requireOpening 5 = .ok (.aload_n 0, 1) := by decide +kernel
theorem dX11_requireOpening_6 : decode cX11_requireOpening 6 = .ok (.getfield 48, 3) := by decide +kernel
theorem dX11_requireOpening_9 : decode cX11_requireOpening 9 = .ok (.invokevirtual 300, 3) := by decide +kernel
theorem dX11_requireOpening_12 : decode cX11_requireOpening 12 = .ok (.if_icmp .lt 14, 3) := by decide +kernel
theorem dX11_requireOpening_15 : decode cX11_requireOpening 15 = .ok (.new 249, 3) := by decide +kernel
theorem dX11_requireOpening_18 : decode cX11_requireOpening 18 = .ok (.dup, 1) := by decide +kernel
theorem dX11_requireOpening_19 : decode cX11_requireOpening 19 = .ok (.ldc_w 303, 3) := by decide +kernel
theorem dX11_requireOpening_22 : decode cX11_requireOpening 22 = .ok (.invokespecial 253, 3) := by decide +kernel
theorem dX11_requireOpening_25 : decode cX11_requireOpening 25 = .ok (.athrow, 1) := by decide +kernel
theorem dX11_requireOpening_26 : decode cX11_requireOpening 26 = .ok (.return_, 1) := by decide +kernel
theorem dX11_requirePlace_0 : decode cX11_requirePlace 0 = .ok (.aload_n 0, 1) := by decide +kernel
theorem dX11_requirePlace_1 : decode cX11_requirePlace 1 = .ok (.getfield 87, 3) := by decide +kernel
theorem dX11_requirePlace_4 : decode cX11_requirePlace 4 = .ok (.aload_n 0, 1) := by decide +kernel
theorem dX11_requirePlace_5 : decode cX11_requirePlace 5 = .ok (.getfield 48, 3) := by decide +kernel
theorem dX11_requirePlace_8 : decode cX11_requirePlace 8 = .ok (.invokevirtual 359, 3) := by decide +kernel
theorem dX11_requirePlace_11 : decode cX11_requirePlace 11 = .ok (.iload_n 1, 1) := by decide +kernel
theorem dX11_requirePlace_12 : decode cX11_requirePlace 12 = .ok (.ifCond .lt 14, 3) := by decide +kernel
theorem dX11_requirePlace_15 : decode cX11_requirePlace 15 = .ok (.iload_n 1, 1) := by decide +kernel
theorem dX11_requirePlace_16 : decode cX11_requirePlace 16 = .ok (.aload_n 0, 1) := by decide +kernel
theorem dX11_requirePlace_17 : decode cX11_requirePlace 17 = .ok (.getfield 87, 3) := by decide +kernel
theorem dX11_requirePlace_20 : decode cX11_requirePlace 20 = .ok (.invokevirtual 363, 3) := by decide +kernel
theorem dX11_requirePlace_23 : decode cX11_requirePlace 23 = .ok (.if_icmp .lt 14, 3) := by decide +kernel
theorem dX11_requirePlace_26 : decode cX11_requirePlace 26 = .ok (.new 249, 3) := by decide +kernel
theorem dX11_requirePlace_29 : decode cX11_requirePlace 29 = .ok (.dup, 1) := by decide +kernel
theorem dX11_requirePlace_30 : decode cX11_requirePlace 30 = .ok (.ldc_w 467, 3) := by decide +kernel
theorem dX11_requirePlace_33 : decode cX11_requirePlace 33 = .ok (.invokespecial 253, 3) := by decide +kernel
theorem dX11_requirePlace_36 : decode cX11_requirePlace 36 = .ok (.athrow, 1) := by decide +kernel
theorem dX11_requirePlace_37 : decode cX11_requirePlace 37 = .ok (.return_, 1) := by decide +kernel
theorem dX11_requireStartPlace_0 : decode cX11_requireStartPlace 0 = .ok (.aload_n 0, 1) := by decide +kernel
theorem dX11_requireStartPlace_1 : decode cX11_requireStartPlace 1 = .ok (.getfield 87, 3) := by decide +kernel
theorem dX11_requireStartPlace_4 : decode cX11_requireStartPlace 4 = .ok (.aload_n 0, 1) := by decide +kernel
theorem dX11_requireStartPlace_5 : decode cX11_requireStartPlace 5 = .ok (.getfield 48, 3) := by decide +kernel
theorem dX11_requireStartPlace_8 : decode cX11_requireStartPlace 8 = .ok (.invokevirtual 359, 3) := by decide +kernel
theorem dX11_requireStartPlace_11 : decode cX11_requireStartPlace 11 = .ok (.iload_n 1, 1) := by decide +kernel
theorem dX11_requireStartPlace_12 : decode cX11_requireStartPlace 12 = .ok (.ifCond .lt 14, 3) := by decide +kernel
theorem dX11_requireStartPlace_15 : decode cX11_requireStartPlace 15 = .ok (.iload_n 1, 1) := by decide +kernel
theorem dX11_requireStartPlace_16 : decode cX11_requireStartPlace 16 = .ok (.aload_n 0, 1) := by decide +kernel
theorem dX11_requireStartPlace_17 : decode cX11_requireStartPlace 17 = .ok (.getfield 87, 3) := by decide +kernel
theorem dX11_requireStartPlace_20 : decode cX11_requireStartPlace 20 = .ok (.invokevirtual 363, 3) := by decide +kernel
theorem dX11_requireStartPlace_23 : decode cX11_requireStartPlace 23 = .ok (.if_icmp .le 14, 3) := by decide +kernel
theorem dX11_requireStartPlace_26 : decode cX11_requireStartPlace 26 = .ok (.new 121, 3) := by decide +kernel
theorem dX11_requireStartPlace_29 : decode cX11_requireStartPlace 29 = .ok (.dup, 1) := by decide +kernel
theorem dX11_requireStartPlace_30 : decode cX11_requireStartPlace 30 = .ok (.ldc_w 469, 3) := by decide +kernel
theorem dX11_requireStartPlace_33 : decode cX11_requireStartPlace 33 = .ok (.invokespecial 125, 3) := by decide +kernel
theorem dX11_requireStartPlace_36 : decode cX11_requireStartPlace 36 = .ok (.athrow, 1) := by decide +kernel
theorem dX11_requireStartPlace_37 : decode cX11_requireStartPlace 37 = .ok (.return_, 1) := by decide +kernel
theorem dX11_isSlipSize_0 : decode cX11_isSlipSize 0 = .ok (.iload_n 0, 1) := by decide +kernel
theorem dX11_isSlipSize_1 : decode cX11_isSlipSize 1 = .ok (.iconst 1, 1) := by decide +kernel
theorem dX11_isSlipSize_2 : decode cX11_isSlipSize 2 = .ok (.if_icmp .lt 12, 3) := by decide +kernel
theorem dX11_isSlipSize_5 : decode cX11_isSlipSize 5 = .ok (.iload_n 0, 1) := by decide +kernel
theorem dX11_isSlipSize_6 : decode cX11_isSlipSize 6 = .ok (.iconst 2, 1) := by decide +kernel
theorem dX11_isSlipSize_7 : decode cX11_isSlipSize 7 = .ok (.if_icmp .gt 7, 3) := by decide +kernel
theorem dX11_isSlipSize_10 : decode cX11_isSlipSize 10 = .ok (.iconst 1, 1) := by decide +kernel
theorem dX11_isSlipSize_11 : decode cX11_isSlipSize 11 = .ok (.goto 4, 3) := by decide +kernel
theorem dX11_isSlipSize_14 : decode cX11_isSlipSize 14 = .ok (.iconst 0, 1) := by decide +kernel
theorem dX11_isSlipSize_15 : decode cX11_isSlipSize 15 = .ok (.ireturn, 1) := by decide +kernel
theorem dX11_isStart_0 : decode cX11_isStart 0 = .ok (.iload_n 0, 1) := by decide +kernel
theorem dX11_isStart_1 : decode cX11_isStart 1 = .ok (.iconst 1, 1) := by decide +kernel
theorem dX11_isStart_2 : decode cX11_isStart 2 = .ok (.if_icmp .lt 14, 3) := by decide +kernel
theorem dX11_isStart_5 : decode cX11_isStart 5 = .ok (.iload_n 0, 1) := by decide +kernel
theorem dX11_isStart_6 : decode cX11_isStart 6 = .ok (.sipush 999, 3) := by decide +kernel
theorem dX11_isStart_9 : decode cX11_isStart 9 = .ok (.if_icmp .gt 7, 3) := by decide +kernel
theorem dX11_isStart_12 : decode cX11_isStart 12 = .ok (.iconst 1, 1) := by decide +kernel
theorem dX11_isStart_13 : decode cX11_isStart 13 = .ok (.goto 4, 3) := by decide +kernel
theorem dX11_isStart_16 : decode cX11_isStart 16 = .ok (.iconst 0, 1) := by decide +kernel
theorem dX11_isStart_17 : decode cX11_isStart 17 = .ok (.ireturn, 1) := by decide +kernel
theorem dX12_thrown_0 : decode cX12_thrown 0 = .ok (.aload_n 0, 1) := by decide +kernel
theorem dX12_thrown_1 : decode cX12_thrown 1 = .ok (.getfield 3, 3) := by decide +kernel
theorem dX12_thrown_4 : decode cX12_thrown 4 = .ok (.ireturn, 1) := by decide +kernel
theorem dX12_isIn_0 : decode cX12_isIn 0 = .ok (.lload_n 0, 1) := by decide +kernel
theorem dX12_isIn_1 : decode cX12_isIn 1 = .ok (.lload_n 2, 1) := by decide +kernel
theorem dX12_isIn_2 : decode cX12_isIn 2 = .ok (.lcmp, 1) := by decide +kernel
theorem dX12_isIn_3 : decode cX12_isIn 3 = .ok (.ifCond .lt 14, 3) := by decide +kernel
theorem dX12_isIn_6 : decode cX12_isIn 6 = .ok (.lload_n 0, 1) := by decide +kernel
theorem dX12_isIn_7 : decode cX12_isIn 7 = .ok (.lload 4, 2) := by decide +kernel
theorem dX12_isIn_9 : decode cX12_isIn 9 = .ok (.lcmp, 1) := by decide +kernel
theorem dX12_isIn_10 : decode cX12_isIn 10 = .ok (.ifCond .gt 7, 3) := by decide +kernel
theorem dX12_isIn_13 : decode cX12_isIn 13 = .ok (.iconst 1, 1) := by decide +kernel
theorem dX12_isIn_14 : decode cX12_isIn 14 = .ok (.goto 4, 3) := by decide +kernel
theorem dX12_isIn_17 : decode cX12_isIn 17 = .ok (.iconst 0, 1) := by decide +kernel
theorem dX12_isIn_18 : decode cX12_isIn 18 = .ok (.ireturn, 1) := by decide +kernel
theorem dX12_fails_0 : decode cX12_fails 0 = .ok (.aload_n 0, 1) := by decide +kernel
theorem dX12_fails_1 : decode cX12_fails 1 = .ok (.iload_n 1, 1) := by decide +kernel
theorem dX12_fails_2 : decode cX12_fails 2 = .ok (.putfield 3, 3) := by decide +kernel
theorem dX12_fails_5 : decode cX12_fails 5 = .ok (.iconst 0, 1) := by decide +kernel
theorem dX12_fails_6 : decode cX12_fails 6 = .ok (.ireturn, 1) := by decide +kernel
theorem dX12_init_0 : decode cX12_init 0 = .ok (.aload_n 0, 1) := by decide +kernel
theorem dX12_init_1 : decode cX12_init 1 = .ok (.invokespecial 7, 3) := by decide +kernel
theorem dX12_init_4 : decode cX12_init 4 = .ok (.aload_n 0, 1) := by decide +kernel
theorem dX12_init_5 : decode cX12_init 5 = .ok (.bipush 8, 2) := by decide +kernel
theorem dX12_init_7 : decode cX12_init 7 = .ok (.newarray .int, 2) := by decide +kernel
theorem dX12_init_9 : decode cX12_init 9 = .ok (.putfield 13, 3) := by decide +kernel
theorem dX12_init_12 : decode cX12_init 12 = .ok (.aload_n 0, 1) := by decide +kernel
theorem dX12_init_13 : decode cX12_init 13 = .ok (.bipush 8, 2) := by decide +kernel
theorem dX12_init_15 : decode cX12_init 15 = .ok (.newarray .int, 2) := by decide +kernel
theorem dX12_init_17 : decode cX12_init 17 = .ok (.putfield 17, 3) := by decide +kernel
theorem dX12_init_20 : decode cX12_init 20 = .ok (.aload_n 0, 1) := by decide +kernel
theorem dX12_init_21 : decode cX12_init 21 = .ok (.sipush 339, 3) := by decide +kernel
theorem dX12_init_24 : decode cX12_init 24 = .ok (.newarray .int, 2) := by decide +kernel
theorem dX12_init_26 : decode cX12_init 26 = .ok (.putfield 20, 3) := by decide +kernel
theorem dX12_init_29 : decode cX12_init 29 = .ok (.aload_n 0, 1) := by decide +kernel
theorem dX12_init_30 : decode cX12_init 30 = .ok (.sipush 339, 3) := by decide +kernel
theorem dX12_init_33 : decode cX12_init 33 = .ok (.newarray .int, 2) := by decide +kernel
theorem dX12_init_35 : decode cX12_init 35 = .ok (.putfield 23, 3) := by decide +kernel
theorem dX12_init_38 : decode cX12_init 38 = .ok (.aload_n 0, 1) := by decide +kernel
theorem dX12_init_39 : decode cX12_init 39 = .ok (.sipush 339, 3) := by decide +kernel
theorem dX12_init_42 : decode cX12_init 42 = .ok (.newarray .int, 2) := by decide +kernel
theorem dX12_init_44 : decode cX12_init 44 = .ok (.putfield 26, 3) := by decide +kernel
theorem dX12_init_47 : decode cX12_init 47 = .ok (.aload_n 0, 1) := by decide +kernel
theorem dX12_init_48 : decode cX12_init 48 = .ok (.sipush 2712, 3) := by decide +kernel
theorem dX12_init_51 : decode cX12_init 51 = .ok (.newarray .int, 2) := by decide +kernel
theorem dX12_init_53 : decode cX12_init 53 = .ok (.putfield 29, 3) := by decide +kernel
theorem dX12_init_56 : decode cX12_init 56 = .ok (.aload_n 0, 1) := by decide +kernel
theorem dX12_init_57 : decode cX12_init 57 = .ok (.sipush 600, 3) := by decide +kernel
theorem dX12_init_60 : decode cX12_init 60 = .ok (.newarray .byte, 2) := by decide +kernel
theorem dX12_init_62 : decode cX12_init 62 = .ok (.putfield 32, 3) := by decide +kernel
theorem dX12_init_65 : decode cX12_init 65 = .ok (.aload_n 0, 1) := by decide +kernel
theorem dX12_init_66 : decode cX12_init 66 = .ok (.sipush 576, 3) := by decide +kernel
theorem dX12_init_69 : decode cX12_init 69 = .ok (.newarray .int, 2) := by decide +kernel
theorem dX12_init_71 : decode cX12_init 71 = .ok (.putfield 36, 3) := by decide +kernel
theorem dX12_init_74 : decode cX12_init 74 = .ok (.aload_n 0, 1) := by decide +kernel
theorem dX12_init_75 : decode cX12_init 75 = .ok (.sipush 400, 3) := by decide +kernel
theorem dX12_init_78 : decode cX12_init 78 = .ok (.newarray .byte, 2) := by decide +kernel
theorem dX12_init_80 : decode cX12_init 80 = .ok (.putfield 39, 3) := by decide +kernel
theorem dX12_init_83 : decode cX12_init 83 = .ok (.aload_n 0, 1) := by decide +kernel
theorem dX12_init_84 : decode cX12_init 84 = .ok (.sipush 400, 3) := by decide +kernel
theorem dX12_init_87 : decode cX12_init 87 = .ok (.newarray .byte, 2) := by decide +kernel
theorem dX12_init_89 : decode cX12_init 89 = .ok (.putfield 42, 3) := by decide +kernel
theorem dX12_init_92 : decode cX12_init 92 = .ok (.aload_n 0, 1) := by decide +kernel
theorem dX12_init_93 : decode cX12_init 93 = .ok (.bipush 13, 2) := by decide +kernel
theorem dX12_init_95 : decode cX12_init 95 = .ok (.newarray .int, 2) := by decide +kernel
theorem dX12_init_97 : decode cX12_init 97 = .ok (.dup, 1) := by decide +kernel
theorem dX12_init_98 : decode cX12_init 98 = .ok (.iconst 0, 1) := by decide +kernel
theorem dX12_init_99 : decode cX12_init 99 = .ok (.sipush 1000, 3) := by decide +kernel
theorem dX12_init_102 : decode cX12_init 102 = .ok (.iastore, 1) := by decide +kernel
theorem dX12_init_103 : decode cX12_init 103 = .ok (.dup, 1) := by decide +kernel
theorem dX12_init_104 : decode cX12_init 104 = .ok (.iconst 1, 1) := by decide +kernel
theorem dX12_init_105 : decode cX12_init 105 = .ok (.sipush 900, 3) := by decide +kernel
theorem dX12_init_108 : decode cX12_init 108 = .ok (.iastore, 1) := by decide +kernel
theorem dX12_init_109 : decode cX12_init 109 = .ok (.dup, 1) := by decide +kernel
theorem dX12_init_110 : decode cX12_init 110 = .ok (.iconst 2, 1) := by decide +kernel
theorem dX12_init_111 : decode cX12_init 111 = .ok (.sipush 500, 3) := by decide +kernel
theorem dX12_init_114 : decode cX12_init 114 = .ok (.iastore, 1) := by decide +kernel
theorem dX12_init_115 : decode cX12_init 115 = .ok (.dup, 1) := by decide +kernel
theorem dX12_init_116 : decode cX12_init 116 = .ok (.iconst 3, 1) := by decide +kernel
theorem dX12_init_117 : decode cX12_init 117 = .ok (.sipush 400, 3) := by decide +kernel
theorem dX12_init_120 : decode cX12_init 120 = .ok (.iastore, 1) := by decide +kernel
theorem dX12_init_121 : decode cX12_init 121 = .ok (.dup, 1) := by decide +kernel
theorem dX12_init_122 : decode cX12_init 122 = .ok (.iconst 4, 1) := by decide +kernel
theorem dX12_init_123 : decode cX12_init 123 = .ok (.bipush 100, 2) := by decide +kernel
theorem dX12_init_125 : decode cX12_init 125 = .ok (.iastore, 1) := by decide +kernel
theorem dX12_init_126 : decode cX12_init 126 = .ok (.dup, 1) := by decide +kernel
theorem dX12_init_127 : decode cX12_init 127 = .ok (.iconst 5, 1) := by decide +kernel
theorem dX12_init_128 : decode cX12_init 128 = .ok (.bipush 90, 2) := by decide +kernel
theorem dX12_init_130 : decode cX12_init 130 = .ok (.iastore, 1) := by decide +kernel
theorem dX12_init_131 : decode cX12_init 131 = .ok (.dup, 1) := by decide +kernel
theorem dX12_init_132 : decode cX12_init 132 = .ok (.bipush 6, 2) := by decide +kernel
theorem dX12_init_134 : decode cX12_init 134 = .ok (.bipush 50, 2) := by decide +kernel
theorem dX12_init_136 : decode cX12_init 136 = .ok (.iastore, 1) := by decide +kernel
theorem dX12_init_137 : decode cX12_init 137 = .ok (.dup, 1) := by decide +kernel
theorem dX12_init_138 : decode cX12_init 138 = .ok (.bipush 7, 2) := by decide +kernel
theorem dX12_init_140 : decode cX12_init 140 = .ok (.bipush 40, 2) := by decide +kernel
theorem dX12_init_142 : decode cX12_init 142 = .ok (.iastore, 1) := by decide +kernel
theorem dX12_init_143 : decode cX12_init 143 = .ok (.dup, 1) := by decide +kernel
theorem dX12_init_144 : decode cX12_init 144 = .ok (.bipush 8, 2) := by decide +kernel
theorem dX12_init_146 : decode cX12_init 146 = .ok (.bipush 10, 2) := by decide +kernel
theorem dX12_init_148 : decode cX12_init 148 = .ok (.iastore, 1) := by decide +kernel
theorem dX12_init_149 : decode cX12_init 149 = .ok (.dup, 1) := by decide +kernel
theorem dX12_init_150 : decode cX12_init 150 = .ok (.bipush 9, 2) := by decide +kernel
theorem dX12_init_152 : decode cX12_init 152 = .ok (.bipush 9, 2) := by decide +kernel
theorem dX12_init_154 : decode cX12_init 154 = .ok (.iastore, 1) := by decide +kernel
theorem dX12_init_155 : decode cX12_init 155 = .ok (.dup, 1) := by decide +kernel
theorem dX12_init_156 : decode cX12_init 156 = .ok (.bipush 10, 2) := by decide +kernel
theorem dX12_init_158 : decode cX12_init 158 = .ok (.iconst 5, 1) := by decide +kernel
theorem dX12_init_159 : decode cX12_init 159 = .ok (.iastore, 1) := by decide +kernel
theorem dX12_init_160 : decode cX12_init 160 = .ok (.dup, 1) := by decide +kernel
theorem dX12_init_161 : decode cX12_init 161 = .ok (.bipush 11, 2) := by decide +kernel
theorem dX12_init_163 : decode cX12_init 163 = .ok (.iconst 4, 1) := by decide +kernel
theorem dX12_init_164 : decode cX12_init 164 = .ok (.iastore, 1) := by decide +kernel
theorem dX12_init_165 : decode cX12_init 165 = .ok (.dup, 1) := by decide +kernel
theorem dX12_init_166 : decode cX12_init 166 = .ok (.bipush 12, 2) := by decide +kernel
theorem dX12_init_168 : decode cX12_init 168 = .ok (.iconst 1, 1) := by decide +kernel
theorem dX12_init_169 : decode cX12_init 169 = .ok (.iastore, 1) := by decide +kernel
theorem dX12_init_170 : decode cX12_init 170 = .ok (.putfield 45, 3) := by decide +kernel
theorem dX12_init_173 : decode cX12_init 173 = .ok (.aload_n 0, 1) := by decide +kernel
theorem dX12_init_174 : decode cX12_init 174 = .ok (.iconst 2, 1) := by decide +kernel
theorem dX12_init_175 : decode cX12_init 175 = .ok (.newarray .int, 2) := by decide +kernel
theorem dX12_init_177 : decode cX12_init 177 = .ok (.putfield 48, 3) := by decide +kernel
theorem dX12_init_180 : decode cX12_init 180 = .ok (.aload_n 0, 1) := by decide +kernel
theorem dX12_init_181 : decode cX12_init 181 = .ok (.bipush 60, 2) := by decide +kernel
theorem dX12_init_183 : decode cX12_init 183 = .ok (.newarray .int, 2) := by decide +kernel
theorem dX12_init_185 : decode cX12_init 185 = .ok (.putfield 51, 3) := by decide +kernel
theorem dX12_init_188 : decode cX12_init 188 = .ok (.aload_n 0, 1) := by decide +kernel
theorem dX12_init_189 : decode cX12_init 189 = .ok (.bipush 60, 2) := by decide +kernel
theorem dX12_init_191 : decode cX12_init 191 = .ok (.newarray .int, 2) := by decide +kernel
theorem dX12_init_193 : decode cX12_init 193 = .ok (.putfield 54, 3) := by decide +kernel
theorem dX12_init_196 : decode cX12_init 196 = .ok (.aload_n 0, 1) := by decide +kernel
theorem dX12_init_197 : decode cX12_init 197 = .ok (.bipush 60, 2) := by decide +kernel
theorem dX12_init_199 : decode cX12_init 199 = .ok (.newarray .int, 2) := by decide +kernel
theorem dX12_init_201 : decode cX12_init 201 = .ok (.putfield 57, 3) := by decide +kernel
theorem dX12_init_204 : decode cX12_init 204 = .ok (.aload_n 0, 1) := by decide +kernel
theorem dX12_init_205 : decode cX12_init 205 = .ok (.sipush 400, 3) := by decide +kernel
theorem dX12_init_208 : decode cX12_init 208 = .ok (.newarray .byte, 2) := by decide +kernel
theorem dX12_init_210 : decode cX12_init 210 = .ok (.putfield 60, 3) := by decide +kernel
theorem dX12_init_213 : decode cX12_init 213 = .ok (.aload_n 0, 1) := by decide +kernel
theorem dX12_init_214 : decode cX12_init 214 = .ok (.bipush 60, 2) := by decide +kernel
theorem dX12_init_216 : decode cX12_init 216 = .ok (.newarray .boolean, 2) := by decide +kernel
theorem dX12_init_218 : decode cX12_init 218 = .ok (.putfield 63, 3) := by decide +kernel
theorem dX12_init_221 : decode cX12_init 221 = .ok (.aload_n 0, 1) := by decide +kernel
theorem dX12_init_222 : decode cX12_init 222 = .ok (.getfield 17, 3) := by decide +kernel
theorem dX12_init_225 : decode cX12_init 225 = .ok (.iconst 0, 1) := by decide +kernel
theorem dX12_init_226 : decode cX12_init 226 = .ok (.iconst 2, 1) := by decide +kernel
theorem dX12_init_227 : decode cX12_init 227 = .ok (.iastore, 1) := by decide +kernel
theorem dX12_init_228 : decode cX12_init 228 = .ok (.aload_n 0, 1) := by decide +kernel
theorem dX12_init_229 : decode cX12_init 229 = .ok (.iconst 1, 1) := by decide +kernel
theorem dX12_init_230 : decode cX12_init 230 = .ok (.putfield 67, 3) := by decide +kernel
theorem dX12_init_233 : decode cX12_init 233 = .ok (.aload_n 0, 1) := by decide +kernel
theorem dX12_init_234 : decode cX12_init 234 = .ok (.invokevirtual 70, 3) := by decide +kernel
theorem dX12_init_237 : decode cX12_init 237 = .ok (.return_, 1) := by decide +kernel
theorem dX12_begins_0 : decode cX12_begins 0 = .ok (.aload_n 0, 1) := by decide +kernel
theorem dX12_begins_1 : decode cX12_begins 1 = .ok (.aload_n 0, 1) := by decide +kernel
theorem dX12_begins_2 : decode cX12_begins 2 = .ok (.getfield 67, 3) := by decide +kernel
theorem dX12_begins_5 : decode cX12_begins 5 = .ok (.putfield 73, 3) := by decide +kernel
theorem dX12_begins_8 : decode cX12_begins 8 = .ok (.iconst 0, 1) := by decide +kernel
theorem dX12_begins_9 : decode cX12_begins 9 = .ok (.istore_n 1, 1) := by decide +kernel
theorem dX12_begins_10 : decode cX12_begins 10 = .ok (.iload_n 1, 1) := by decide +kernel
theorem dX12_begins_11 : decode cX12_begins 11 = .ok (.bipush 8, 2) := by decide +kernel
theorem dX12_begins_13 : decode cX12_begins 13 = .ok (.if_icmp .ge 21, 3) := by decide +kernel
theorem dX12_begins_16 : decode cX12_begins 16 = .ok (.aload_n 0, 1) := by decide +kernel
theorem dX12_begins_17 : decode cX12_begins 17 = .ok (.getfield 13, 3) := by decide +kernel
theorem dX12_begins_20 : decode cX12_begins 20 = .ok (.iload_n 1, 1) := by decide +kernel
theorem dX12_begins_21 : decode cX12_begins 21 = .ok (.aload_n 0, 1) := by decide +kernel
theorem dX12_begins_22 : decode cX12_begins 22 = .ok (.getfield 17, 3) := by decide +kernel
theorem dX12_begins_25 : decode cX12_begins 25 = .ok (.iload_n 1, 1) := by decide +kernel
theorem dX12_begins_26 : decode cX12_begins 26 = .ok (.iaload, 1) := by decide +kernel
theorem dX12_begins_27 : decode cX12_begins 27 = .ok (.iastore, 1) := by decide +kernel
theorem dX12_begins_28 : decode cX12_begins 28 = .ok (.iinc 1 1, 3) := by decide +kernel
theorem dX12_begins_31 : decode cX12_begins 31 = .ok (.goto (-21), 3) := by decide +kernel
theorem dX12_begins_34 : decode cX12_begins 34 = .ok (.aload_n 0, 1) := by decide +kernel
theorem dX12_begins_35 : decode cX12_begins 35 = .ok (.getfield 23, 3) := by decide +kernel
theorem dX12_begins_38 : decode cX12_begins 38 = .ok (.iconst 0, 1) := by decide +kernel
theorem dX12_begins_39 : decode cX12_begins 39 = .ok (.aload_n 0, 1) := by decide +kernel
theorem dX12_begins_40 : decode cX12_begins 40 = .ok (.getfield 20, 3) := by decide +kernel
theorem dX12_begins_43 : decode cX12_begins 43 = .ok (.iconst 0, 1) := by decide +kernel
theorem dX12_begins_44 : decode cX12_begins 44 = .ok (.invokestatic 76, 3) := by decide +kernel
theorem dX12_begins_47 : decode cX12_begins 47 = .ok (.aload_n 0, 1) := by decide +kernel
theorem dX12_begins_48 : decode cX12_begins 48 = .ok (.iconst 0, 1) := by decide +kernel
theorem dX12_begins_49 : decode cX12_begins 49 = .ok (.putfield 80, 3) := by decide +kernel
theorem dX12_begins_52 : decode cX12_begins 52 = .ok (.aload_n 0, 1) := by decide +kernel
theorem dX12_begins_53 : decode cX12_begins 53 = .ok (.iconst 0, 1) := by decide +kernel
theorem dX12_begins_54 : decode cX12_begins 54 = .ok (.putfield 83, 3) := by decide +kernel
theorem dX12_begins_57 : decode cX12_begins 57 = .ok (.return_, 1) := by decide +kernel
theorem dX12_copies_0 : decode cX12_copies 0 = .ok (.iconst 0, 1) := by decide +kernel
theorem dX12_copies_1 : decode cX12_copies 1 = .ok (.istore 4, 2) := by decide +kernel
theorem dX12_copies_3 : decode cX12_copies 3 = .ok (.iload 4, 2) := by decide +kernel
theorem dX12_copies_5 : decode cX12_copies 5 = .ok (.sipush 339, 3) := by decide +kernel
theorem dX12_copies_8 : decode cX12_copies 8 = .ok (.if_icmp .ge 21, 3) := by decide +kernel
theorem dX12_copies_11 : decode cX12_copies 11 = .ok (.aload_n 2, 1) := by decide +kernel
theorem dX12_copies_12 : decode cX12_copies 12 = .ok (.iload_n 3, 1) := by decide +kernel
theorem dX12_copies_13 : decode cX12_copies 13 = .ok (.iload 4, 2) := by decide +kernel
theorem dX12_copies_15 : decode cX12_copies 15 = .ok (.iadd, 1) := by decide +kernel
theorem dX12_copies_16 : decode cX12_copies 16 = .ok (.aload_n 0, 1) := by decide +kernel
theorem dX12_copies_17 : decode cX12_copies 17 = .ok (.iload_n 1, 1) := by decide +kernel
theorem dX12_copies_18 : decode cX12_copies 18 = .ok (.iload 4, 2) := by decide +kernel
theorem dX12_copies_20 : decode cX12_copies 20 = .ok (.iadd, 1) := by decide +kernel
theorem dX12_copies_21 : decode cX12_copies 21 = .ok (.iaload, 1) := by decide +kernel
theorem dX12_copies_22 : decode cX12_copies 22 = .ok (.iastore, 1) := by decide +kernel
theorem dX12_copies_23 : decode cX12_copies 23 = .ok (.iinc 4 1, 3) := by decide +kernel
theorem dX12_copies_26 : decode cX12_copies 26 = .ok (.goto (-23), 3) := by decide +kernel
theorem dX12_copies_29 : decode cX12_copies 29 = .ok (.return_, 1) := by decide +kernel
theorem dX12_remembers_0 : decode cX12_remembers 0 = .ok (.aload_n 0, 1) := by decide +kernel
theorem dX12_remembers_1 : decode cX12_remembers 1 = .ok (.getfield 80, 3) := by decide +kernel
theorem dX12_remembers_4 : decode cX12_remembers 4 = .ok (.bipush 8, 2) := by decide +kernel
theorem dX12_remembers_6 : decode cX12_remembers 6 = .ok (.if_icmp .ne 44, 3) := by decide +kernel
theorem dX12_remembers_9 : decode cX12_remembers 9 = .ok (.iconst 0, 1) := by decide +kernel
theorem dX12_remembers_10 : decode cX12_remembers 10 = .ok (.istore_n 1, 1) := by decide +kernel
theorem dX12_remembers_11 : decode cX12_remembers 11 = .ok (.iload_n 1, 1) := by decide +kernel
theorem dX12_remembers_12 : decode cX12_remembers 12 = .ok (.sipush 2373, 3) := by decide +kernel
theorem dX12_remembers_15 : decode cX12_remembers 15 = .ok (.if_icmp .ge 25, 3) := by decide +kernel
theorem dX12_remembers_18 : decode cX12_remembers 18 = .ok (.aload_n 0, 1) := by decide +kernel
theorem dX12_remembers_19 : decode cX12_remembers 19 = .ok (.getfield 29, 3) := by decide +kernel
theorem dX12_remembers_22 : decode cX12_remembers 22 = .ok (.iload_n 1, 1) := by decide +kernel
theorem dX12_remembers_23 : decode cX12_remembers 23 = .ok (.aload_n 0, 1) := by decide +kernel
theorem dX12_remembers_24 : decode cX12_remembers 24 = .ok (.getfield 29, 3) := by decide +kernel
theorem dX12_remembers_27 : decode cX12_remembers 27 = .ok (.iload_n 1, 1) := by decide +kernel
theorem dX12_remembers_28 : decode cX12_remembers 28 = .ok (.sipush 339, 3) := by decide +kernel
theorem dX12_remembers_31 : decode cX12_remembers 31 = .ok (.iadd, 1) := by decide +kernel
theorem dX12_remembers_32 : decode cX12_remembers 32 = .ok (.iaload, 1) := by decide +kernel
theorem dX12_remembers_33 : decode cX12_remembers 33 = .ok (.iastore, 1) := by decide +kernel
theorem dX12_remembers_34 : decode cX12_remembers 34 = .ok (.iinc 1 1, 3) := by decide +kernel
theorem dX12_remembers_37 : decode cX12_remembers 37 = .ok (.goto (-26), 3) := by decide +kernel
theorem dX12_remembers_40 : decode cX12_remembers 40 = .ok (.aload_n 0, 1) := by decide +kernel
theorem dX12_remembers_41 : decode cX12_remembers 41 = .ok (.dup, 1) := by decide +kernel
theorem dX12_remembers_42 : decode cX12_remembers 42 = .ok (.getfield 80, 3) := by decide +kernel
theorem dX12_remembers_45 : decode cX12_remembers 45 = .ok (.iconst 1, 1) := by decide +kernel
theorem dX12_remembers_46 : decode cX12_remembers 46 = .ok (.isub, 1) := by decide +kernel
theorem dX12_remembers_47 : decode cX12_remembers 47 = .ok (.putfield 80, 3) := by decide +kernel
theorem dX12_remembers_50 : decode cX12_remembers 50 = .ok (.aload_n 0, 1) := by decide +kernel
theorem dX12_remembers_51 : decode cX12_remembers 51 = .ok (.getfield 20, 3) := by decide +kernel
theorem dX12_remembers_54 : decode cX12_remembers 54 = .ok (.iconst 0, 1) := by decide +kernel
theorem dX12_remembers_55 : decode cX12_remembers 55 = .ok (.aload_n 0, 1) := by decide +kernel
theorem dX12_remembers_56 : decode cX12_remembers 56 = .ok (.getfield 29, 3) := by decide +kernel
theorem dX12_remembers_59 : decode cX12_remembers 59 = .ok (.sipush 339, 3) := by decide +kernel
theorem dX12_remembers_62 : decode cX12_remembers 62 = .ok (.aload_n 0, 1) := by decide +kernel
theorem dX12_remembers_63 : decode cX12_remembers 63 = .ok (.getfield 80, 3) := by decide +kernel
theorem dX12_remembers_66 : decode cX12_remembers 66 = .ok (.imul, 1) := by decide +kernel
theorem dX12_remembers_67 : decode cX12_remembers 67 = .ok (.invokestatic 76, 3) := by decide +kernel
theorem dX12_remembers_70 : decode cX12_remembers 70 = .ok (.aload_n 0, 1) := by decide +kernel
theorem dX12_remembers_71 : decode cX12_remembers 71 = .ok (.dup, 1) := by decide +kernel
theorem dX12_remembers_72 : decode cX12_remembers 72 = .ok (.getfield 80, 3) := by decide +kernel
theorem dX12_remembers_75 : decode cX12_remembers 75 = .ok (.iconst 1, 1) := by decide +kernel
theorem dX12_remembers_76 : decode cX12_remembers 76 = .ok (.iadd, 1) := by decide +kernel
theorem dX12_remembers_77 : decode cX12_remembers 77 = .ok (.putfield 80, 3) := by decide +kernel
theorem dX12_remembers_80 : decode cX12_remembers 80 = .ok (.return_, 1) := by decide +kernel
theorem dX12_bytesOf_0 : decode cX12_bytesOf 0 = .ok (.iconst 0, 1) := by decide +kernel
theorem dX12_bytesOf_1 : decode cX12_bytesOf 1 = .ok (.istore_n 1, 1) := by decide +kernel
theorem dX12_bytesOf_2 : decode cX12_bytesOf 2 = .ok (.iconst 0, 1) := by decide +kernel
theorem dX12_bytesOf_3 : decode cX12_bytesOf 3 = .ok (.istore_n 2, 1) := by decide +kernel
theorem dX12_bytesOf_4 : decode cX12_bytesOf 4 = .ok (.iload_n 2, 1) := by decide +kernel
theorem dX12_bytesOf_5 : decode cX12_bytesOf 5 = .ok (.iconst 4, 1) := by decide +kernel
theorem dX12_bytesOf_6 : decode cX12_bytesOf 6 = .ok (.if_icmp .ge 30, 3) := by decide +kernel
theorem dX12_bytesOf_9 : decode cX12_bytesOf 9 = .ok (.iload_n 1, 1) := by decide +kernel
theorem dX12_bytesOf_10 : decode cX12_bytesOf 10 = .ok (.iload_n 0, 1) := by decide +kernel
theorem dX12_bytesOf_11 : decode cX12_bytesOf 11 = .ok (.bipush 8, 2) := by decide +kernel
theorem dX12_bytesOf_13 : decode cX12_bytesOf 13 = .ok (.iload_n 2, 1) := by decide +kernel
theorem dX12_bytesOf_14 : decode cX12_bytesOf 14 = .ok (.imul, 1) := by decide +kernel
theorem dX12_bytesOf_15 : decode cX12_bytesOf 15 = .ok (.ishr, 1) := by decide +kernel
theorem dX12_bytesOf_16 : decode cX12_bytesOf 16 = .ok (.sipush 255, 3) := by decide +kernel
theorem dX12_bytesOf_19 : decode cX12_bytesOf 19 = .ok (.iand, 1) := by decide +kernel
theorem dX12_bytesOf_20 : decode cX12_bytesOf 20 = .ok (.ifCond .ne 7, 3) := by decide +kernel
theorem dX12_bytesOf_23 : decode cX12_bytesOf 23 = .ok (.iconst 0, 1) := by decide +kernel
theorem dX12_bytesOf_24 : decode cX12_bytesOf 24 = .ok (.goto 4, 3) := by decide +kernel
theorem dX12_bytesOf_27 : decode cX12_bytesOf 27 = .ok (.iconst 1, 1) := by decide +kernel
theorem dX12_bytesOf_28 : decode cX12_bytesOf 28 = .ok (.iadd, 1) := by decide +kernel
theorem dX12_bytesOf_29 : decode cX12_bytesOf 29 = .ok (.istore_n 1, 1) := by decide +kernel
theorem dX12_bytesOf_30 : decode cX12_bytesOf 30 = .ok (.iinc 2 1, 3) := by decide +kernel
theorem dX12_bytesOf_33 : decode cX12_bytesOf 33 = .ok (.goto (-29), 3) := by decide +kernel
theorem dX12_bytesOf_36 : decode cX12_bytesOf 36 = .ok (.iload_n 1, 1) := by decide +kernel
theorem dX12_bytesOf_37 : decode cX12_bytesOf 37 = .ok (.ireturn, 1) := by decide +kernel
theorem dX12_brings_0 : decode cX12_brings 0 = .ok (.bipush 24, 2) := by decide +kernel
theorem dX12_brings_2 : decode cX12_brings 2 = .ok (.istore_n 2, 1) := by decide +kernel
theorem dX12_brings_3 : decode cX12_brings 3 = .ok (.iload_n 2, 1) := by decide +kernel
theorem dX12_brings_4 : decode cX12_brings 4 = .ok (.ifCond .lt 42, 3) := by decide +kernel
theorem dX12_brings_7 : decode cX12_brings 7 = .ok (.iload_n 1, 1) := by decide +kernel
theorem dX12_brings_8 : decode cX12_brings 8 = .ok (.iload_n 2, 1) := by decide +kernel
theorem dX12_brings_9 : decode cX12_brings 9 = .ok (.ishr, 1) := by decide +kernel
theorem dX12_brings_10 : decode cX12_brings 10 = .ok (.sipush 255, 3) := by decide +kernel
theorem dX12_brings_13 : decode cX12_brings 13 = .ok (.iand, 1) := by decide +kernel
theorem dX12_brings_14 : decode cX12_brings 14 = .ok (.istore_n 3, 1) := by decide +kernel
theorem dX12_brings_15 : decode cX12_brings 15 = .ok (.iload_n 3, 1) := by decide +kernel
theorem dX12_brings_16 : decode cX12_brings 16 = .ok (.ifCond .eq 24, 3) := by decide +kernel
theorem dX12_brings_19 : decode cX12_brings 19 = .ok (.aload_n 0, 1) := by decide +kernel
theorem dX12_brings_20 : decode cX12_brings 20 = .ok (.getfield 32, 3) := by decide +kernel
theorem dX12_brings_23 : decode cX12_brings 23 = .ok (.aload_n 0, 1) := by decide +kernel
theorem dX12_brings_24 : decode cX12_brings 24 = .ok (.getfield 87, 3) := by decide +kernel
theorem dX12_brings_27 : decode cX12_brings 27 = .ok (.iload_n 3, 1) := by decide +kernel
theorem dX12_brings_28 : decode cX12_brings 28 = .ok (.i2b, 1) := by decide +kernel
theorem dX12_brings_29 : decode cX12_brings 29 = .ok (.bastore, 1) := by decide +kernel
theorem dX12_brings_30 : decode cX12_brings 30 = .ok (.aload_n 0, 1) := by decide +kernel
theorem dX12_brings_31 : decode cX12_brings 31 = .ok (.dup, 1) := by decide +kernel
theorem dX12_brings_32 : decode cX12_brings 32 = .ok (.getfield 87, 3) := by decide +kernel
theorem dX12_brings_35 : decode cX12_brings 35 = .ok (.iconst 1, 1) := by decide +kernel
theorem dX12_brings_36 : decode cX12_brings 36 = .ok (.iadd, 1) := by decide +kernel
theorem dX12_brings_37 : decode cX12_brings 37 = .ok (.putfield 87, 3) := by decide +kernel
theorem dX12_brings_40 : decode cX12_brings 40 = .ok (.iinc 2 (-8), 3) := by decide +kernel
theorem dX12_brings_43 : decode cX12_brings 43 = .ok (.goto (-40), 3) := by decide +kernel
theorem dX12_brings_46 : decode cX12_brings 46 = .ok (.return_, 1) := by decide +kernel
theorem dX12_append_0 : decode cX12_append 0 = .ok (.aload_n 0, 1) := by decide +kernel
theorem dX12_append_1 : decode cX12_append 1 = .ok (.iconst 0, 1) := by decide +kernel
theorem dX12_append_2 : decode cX12_append 2 = .ok (.putfield 3, 3) := by decide +kernel
theorem dX12_append_5 : decode cX12_append 5 = .ok (.aload_n 0, 1) := by decide +kernel
theorem dX12_append_6 : decode cX12_append 6 = .ok (.getfield 87, 3) := by decide +kernel
theorem dX12_append_9 : decode cX12_append 9 = .ok (.iload_n 1, 1) := by decide +kernel
theorem dX12_append_10 : decode cX12_append 10 = .ok (.invokestatic 90, 3) := by decide +kernel
theorem dX12_append_13 : decode cX12_append 13 = .ok (.iadd, 1) := by decide +kernel
theorem dX12_append_14 : decode cX12_append 14 = .ok (.iload_n 2, 1) := by decide +kernel
theorem dX12_append_15 : decode cX12_append 15 = .ok (.invokestatic 90, 3) := by decide +kernel
theorem dX12_append_18 : decode cX12_append 18 = .ok (.iadd, 1) := by decide +kernel
theorem dX12_append_19 : decode cX12_append 19 = .ok (.iload_n 3, 1) := by decide +kernel
theorem dX12_append_20 : decode cX12_append 20 = .ok (.invokestatic 90, 3) := by decide +kernel
theorem dX12_append_23 : decode cX12_append 23 = .ok (.iadd, 1) := by decide +kernel
theorem dX12_append_24 : decode cX12_append 24 = .ok (.iload 4, 2) := by decide +kernel
theorem dX12_append_26 : decode cX12_append 26 = .ok (.invokestatic 90, 3) := by decide +kernel
theorem dX12_append_29 : decode cX12_append 29 = .ok (.iadd, 1) := by decide +kernel
theorem dX12_append_30 : decode cX12_append 30 = .ok (.iload 5, 2) := by decide +kernel
theorem dX12_append_32 : decode cX12_append 32 = .ok (.invokestatic 90, 3) := by decide +kernel
theorem dX12_append_35 : decode cX12_append 35 = .ok (.iadd, 1) := by decide +kernel
theorem dX12_append_36 : decode cX12_append 36 = .ok (.sipush 600, 3) := by decide +kernel
theorem dX12_append_39 : decode cX12_append 39 = .ok (.if_icmp .le 9, 3) := by decide +kernel
theorem dX12_append_42 : decode cX12_append 42 = .ok (.aload_n 0, 1) := by decide +kernel
theorem dX12_append_43 : decode cX12_append 43 = .ok (.iconst 1, 1) := by decide +kernel
theorem dX12_append_44 : decode cX12_append 44 = .ok (.invokevirtual 94, 3) := by decide +kernel
theorem dX12_append_47 : decode cX12_append 47 = .ok (.ireturn, 1) := by decide +kernel
theorem dX12_append_48 : decode cX12_append 48 = .ok (.aload_n 0, 1) := by decide +kernel
theorem dX12_append_49 : decode cX12_append 49 = .ok (.iload_n 1, 1) := by decide +kernel
theorem dX12_append_50 : decode cX12_append 50 = .ok (.invokevirtual 97, 3) := by decide +kernel
theorem dX12_append_53 : decode cX12_append 53 = .ok (.aload_n 0, 1) := by decide +kernel
theorem dX12_append_54 : decode cX12_append 54 = .ok (.iload_n 2, 1) := by decide +kernel
theorem dX12_append_55 : decode cX12_append 55 = .ok (.invokevirtual 97, 3) := by decide +kernel
theorem dX12_append_58 : decode cX12_append 58 = .ok (.aload_n 0, 1) := by decide +kernel
theorem dX12_append_59 : decode cX12_append 59 = .ok (.iload_n 3, 1) := by decide +kernel
theorem dX12_append_60 : decode cX12_append 60 = .ok (.invokevirtual 97, 3) := by decide +kernel
theorem dX12_append_63 : decode cX12_append 63 = .ok (.aload_n 0, 1) := by decide +kernel
theorem dX12_append_64 : decode cX12_append 64 = .ok (.iload 4, 2) := by decide +kernel
theorem dX12_append_66 : decode cX12_append 66 = .ok (.invokevirtual 97, 3) := by decide +kernel
theorem dX12_append_69 : decode cX12_append 69 = .ok (.aload_n 0, 1) := by decide +kernel
theorem dX12_append_70 : decode cX12_append 70 = .ok (.iload 5, 2) := by decide +kernel
theorem dX12_append_72 : decode cX12_append 72 = .ok (.invokevirtual 97, 3) := by decide +kernel
theorem dX12_append_75 : decode cX12_append 75 = .ok (.aload_n 0, 1) := by decide +kernel
theorem dX12_append_76 : decode cX12_append 76 = .ok (.getfield 87, 3) := by decide +kernel
theorem dX12_append_79 : decode cX12_append 79 = .ok (.ireturn, 1) := by decide +kernel
theorem dX12_truncate_0 : decode cX12_truncate 0 = .ok (.aload_n 0, 1) := by decide +kernel
theorem dX12_truncate_1 : decode cX12_truncate 1 = .ok (.iconst 0, 1) := by decide +kernel
theorem dX12_truncate_2 : decode cX12_truncate 2 = .ok (.putfield 3, 3) := by decide +kernel
theorem dX12_truncate_5 : decode cX12_truncate 5 = .ok (.iload_n 1, 1) := by decide +kernel
theorem dX12_truncate_6 : decode cX12_truncate 6 = .ok (.i2l, 1) := by decide +kernel
theorem dX12_truncate_7 : decode cX12_truncate 7 = .ok (.lconst 0, 1) := by decide +kernel
theorem dX12_truncate_8 : decode cX12_truncate 8 = .ok (.aload_n 0, 1) := by decide +kernel
theorem dX12_truncate_9 : decode cX12_truncate 9 = .ok (.getfield 87, 3) := by decide +kernel
theorem dX12_truncate_12 : decode cX12_truncate 12 = .ok (.i2l, 1) := by decide +kernel
theorem dX12_truncate_13 : decode cX12_truncate 13 = .ok (.invokestatic 101, 3) := by decide +kernel
theorem dX12_truncate_16 : decode cX12_truncate 16 = .ok (.ifCond .ne 9, 3) := by decide +kernel
theorem dX12_truncate_19 : decode cX12_truncate 19 = .ok (.aload_n 0, 1) := by decide +kernel
theorem dX12_truncate_20 : decode cX12_truncate 20 = .ok (.iconst 1, 1) := by decide +kernel
theorem dX12_truncate_21 : decode cX12_truncate 21 = .ok (.invokevirtual 94, 3) := by decide +kernel
theorem dX12_truncate_24 : decode cX12_truncate 24 = .ok (.ireturn, 1) := by decide +kernel
theorem dX12_truncate_25 : decode cX12_truncate 25 = .ok (.aload_n 0, 1) := by decide +kernel
theorem dX12_truncate_26 : decode cX12_truncate 26 = .ok (.iload_n 1, 1) := by decide +kernel
theorem dX12_truncate_27 : decode cX12_truncate 27 = .ok (.putfield 87, 3) := by decide +kernel
theorem dX12_truncate_30 : decode cX12_truncate 30 = .ok (.iload_n 1, 1) := by decide +kernel
theorem dX12_truncate_31 : decode cX12_truncate 31 = .ok (.ireturn, 1) := by decide +kernel
theorem dX12_here_0 : decode cX12_here 0 = .ok (.aload_n 0, 1) := by decide +kernel
theorem dX12_here_1 : decode cX12_here 1 = .ok (.getfield 105, 3) := by decide +kernel
theorem dX12_here_4 : decode cX12_here 4 = .ok (.aload_n 0, 1) := by decide +kernel
theorem dX12_here_5 : decode cX12_here 5 = .ok (.getfield 87, 3) := by decide +kernel
theorem dX12_here_8 : decode cX12_here 8 = .ok (.if_icmp .ge 19, 3) := by decide +kernel
theorem dX12_here_11 : decode cX12_here 11 = .ok (.aload_n 0, 1) := by decide +kernel
theorem dX12_here_12 : decode cX12_here 12 = .ok (.getfield 32, 3) := by decide +kernel
theorem dX12_here_15 : decode cX12_here 15 = .ok (.aload_n 0, 1) := by decide +kernel
theorem dX12_here_16 : decode cX12_here 16 = .ok (.getfield 105, 3) := by decide +kernel
theorem dX12_here_19 : decode cX12_here 19 = .ok (.baload, 1) := by decide +kernel
theorem dX12_here_20 : decode cX12_here 20 = .ok (.sipush 255, 3) := by decide +kernel
theorem dX12_here_23 : decode cX12_here 23 = .ok (.iand, 1) := by decide +kernel
theorem dX12_here_24 : decode cX12_here 24 = .ok (.goto 4, 3) := by decide +kernel
theorem dX12_here_27 : decode cX12_here 27 = .ok (.iconst (-1), 1) := by decide +kernel
theorem dX12_here_28 : decode cX12_here 28 = .ok (.ireturn, 1) := by decide +kernel
theorem dX12_look_0 : decode cX12_look 0 = .ok (.aload_n 0, 1) := by decide +kernel
theorem dX12_look_1 : decode cX12_look 1 = .ok (.invokevirtual 108, 3) := by decide +kernel
theorem dX12_look_4 : decode cX12_look 4 = .ok (.bipush 32, 2) := by decide +kernel
theorem dX12_look_6 : decode cX12_look 6 = .ok (.if_icmp .ne 16, 3) := by decide +kernel
theorem dX12_look_9 : decode cX12_look 9 = .ok (.aload_n 0, 1) := by decide +kernel
theorem dX12_look_10 : decode cX12_look 10 = .ok (.dup, 1) := by decide +kernel
theorem dX12_look_11 : decode cX12_look 11 = .ok (.getfield 105, 3) := by decide +kernel
theorem dX12_look_14 : decode cX12_look 14 = .ok (.iconst 1, 1) := by decide +kernel
theorem dX12_look_15 : decode cX12_look 15 = .ok (.iadd, 1) := by decide +kernel
theorem dX12_look_16 : decode cX12_look 16 = .ok (.putfield 105, 3) := by decide +kernel
theorem dX12_look_19 : decode cX12_look 19 = .ok (.goto (-19), 3) := by decide +kernel
theorem dX12_look_22 : decode cX12_look 22 = .ok (.aload_n 0, 1) := by decide +kernel
theorem dX12_look_23 : decode cX12_look 23 = .ok (.aload_n 0, 1) := by decide +kernel
theorem dX12_look_24 : decode cX12_look 24 = .ok (.getfield 105, 3) := by decide +kernel
theorem dX12_look_27 : decode cX12_look 27 = .ok (.putfield 112, 3) := by decide +kernel
theorem dX12_look_30 : decode cX12_look 30 = .ok (.aload_n 0, 1) := by decide +kernel
theorem dX12_look_31 : decode cX12_look 31 = .ok (.invokevirtual 108, 3) := by decide +kernel
theorem dX12_look_34 : decode cX12_look 34 = .ok (.ireturn, 1) := by decide +kernel
theorem dX12_wrongAt_0 : decode cX12_wrongAt 0 = .ok (.aload_n 0, 1) := by decide +kernel
theorem dX12_wrongAt_1 : decode cX12_wrongAt 1 = .ok (.getfield 115, 3) := by decide +kernel
theorem dX12_wrongAt_4 : decode cX12_wrongAt 4 = .ok (.ifCond .ge 8, 3) := by decide +kernel
theorem dX12_wrongAt_7 : decode cX12_wrongAt 7 = .ok (.aload_n 0, 1) := by decide +kernel
theorem dX12_wrongAt_8 : decode cX12_wrongAt 8 = .ok (.iload_n 1, 1) := by decide +kernel
theorem dX12_wrongAt_9 : decode cX12_wrongAt 9 = .ok (.putfield 115, 3) := by decide +kernel
theorem dX12_wrongAt_12 : decode cX12_wrongAt 12 = .ok (.return_, 1) := by decide +kernel
theorem dX12_isFine_0 : decode cX12_isFine 0 = .ok (.aload_n 0, 1) := by decide +kernel
theorem dX12_isFine_1 : decode cX12_isFine 1 = .ok (.getfield 115, 3) := by decide +kernel
theorem dX12_isFine_4 : decode cX12_isFine 4 = .ok (.ifCond .ge 7, 3) := by decide +kernel
theorem dX12_isFine_7 : decode cX12_isFine 7 = .ok (.iconst 1, 1) := by decide +kernel
theorem dX12_isFine_8 : decode cX12_isFine 8 = .ok (.goto 4, 3) := by decide +kernel
theorem dX12_isFine_11 : decode cX12_isFine 11 = .ok (.iconst 0, 1) := by decide +kernel
theorem dX12_isFine_12 : decode cX12_isFine 12 = .ok (.ireturn, 1) := by decide +kernel
theorem dX12_isLetter_0 : decode cX12_isLetter 0 = .ok (.iload_n 0, 1) := by decide +kernel
theorem dX12_isLetter_1 : decode cX12_isLetter 1 = .ok (.bipush 97, 2) := by decide +kernel
theorem dX12_isLetter_3 : decode cX12_isLetter 3 = .ok (.if_icmp .lt 13, 3) := by decide +kernel
theorem dX12_isLetter_6 : decode cX12_isLetter 6 = .ok (.iload_n 0, 1) := by decide +kernel
theorem dX12_isLetter_7 : decode cX12_isLetter 7 = .ok (.bipush 122, 2) := by decide +kernel
theorem dX12_isLetter_9 : decode cX12_isLetter 9 = .ok (.if_icmp .gt 7, 3) := by decide +kernel
theorem dX12_isLetter_12 : decode cX12_isLetter 12 = .ok (.iconst 1, 1) := by decide +kernel
theorem dX12_isLetter_13 : decode cX12_isLetter 13 = .ok (.goto 4, 3) := by decide +kernel
theorem dX12_isLetter_16 : decode cX12_isLetter 16 = .ok (.iconst 0, 1) := by decide +kernel
theorem dX12_isLetter_17 : decode cX12_isLetter 17 = .ok (.ireturn, 1) := by decide +kernel
theorem dX12_isDigit_0 : decode cX12_isDigit 0 = .ok (.iload_n 0, 1) := by decide +kernel
theorem dX12_isDigit_1 : decode cX12_isDigit 1 = .ok (.bipush 48, 2) := by decide +kernel
theorem dX12_isDigit_3 : decode cX12_isDigit 3 = .ok (.if_icmp .lt 13, 3) := by decide +kernel
theorem dX12_isDigit_6 : decode cX12_isDigit 6 = .ok (.iload_n 0, 1) := by decide +kernel
theorem dX12_isDigit_7 : decode cX12_isDigit 7 = .ok (.bipush 57, 2) := by decide +kernel
theorem dX12_isDigit_9 : decode cX12_isDigit 9 = .ok (.if_icmp .gt 7, 3) := by decide +kernel
theorem dX12_isDigit_12 : decode cX12_isDigit 12 = .ok (.iconst 1, 1) := by decide +kernel
theorem dX12_isDigit_13 : decode cX12_isDigit 13 = .ok (.goto 4, 3) := by decide +kernel
theorem dX12_isDigit_16 : decode cX12_isDigit 16 = .ok (.iconst 0, 1) := by decide +kernel
theorem dX12_isDigit_17 : decode cX12_isDigit 17 = .ok (.ireturn, 1) := by decide +kernel
theorem dX12_takes_0 : decode cX12_takes 0 = .ok (.aload_n 0, 1) := by decide +kernel
theorem dX12_takes_1 : decode cX12_takes 1 = .ok (.invokevirtual 118, 3) := by decide +kernel
theorem dX12_takes_4 : decode cX12_takes 4 = .ok (.ifCond .ne 5, 3) := by decide +kernel
theorem dX12_takes_7 : decode cX12_takes 7 = .ok (.iconst 0, 1) := by decide +kernel
theorem dX12_takes_8 : decode cX12_takes 8 = .ok (.ireturn, 1) := by decide +kernel
theorem dX12_takes_9 : decode cX12_takes 9 = .ok (.aload_n 0, 1) := by decide +kernel
theorem dX12_takes_10 : decode cX12_takes 10 = .ok (.invokevirtual 122, 3) := by decide +kernel
theorem dX12_takes_13 : decode cX12_takes 13 = .ok (.istore_n 2, 1) := by decide +kernel
theorem dX12_takes_14 : decode cX12_takes 14 = .ok (.aload_n 0, 1) := by decide +kernel
theorem dX12_takes_15 : decode cX12_takes 15 = .ok (.getfield 105, 3) := by decide +kernel
theorem dX12_takes_18 : decode cX12_takes 18 = .ok (.istore_n 3, 1) := by decide +kernel
theorem dX12_takes_19 : decode cX12_takes 19 = .ok (.iload_n 3, 1) := by decide +kernel
theorem dX12_takes_20 : decode cX12_takes 20 = .ok (.aload_n 0, 1) := by decide +kernel
theorem dX12_takes_21 : decode cX12_takes 21 = .ok (.getfield 87, 3) := by decide +kernel
theorem dX12_takes_24 : decode cX12_takes 24 = .ok (.if_icmp .ge 21, 3) := by decide +kernel
theorem dX12_takes_27 : decode cX12_takes 27 = .ok (.aload_n 0, 1) := by decide +kernel
theorem dX12_takes_28 : decode cX12_takes 28 = .ok (.getfield 32, 3) := by decide +kernel
theorem dX12_takes_31 : decode cX12_takes 31 = .ok (.iload_n 3, 1) := by decide +kernel
theorem dX12_takes_32 : decode cX12_takes 32 = .ok (.baload, 1) := by decide +kernel
theorem dX12_takes_33 : decode cX12_takes 33 = .ok (.invokestatic 125, 3) := by decide +kernel
theorem dX12_takes_36 : decode cX12_takes 36 = .ok (.ifCond .eq 9, 3) := by decide +kernel
theorem dX12_takes_39 : decode cX12_takes 39 = .ok (.iinc 3 1, 3) := by decide +kernel
theorem dX12_takes_42 : decode cX12_takes 42 = .ok (.goto (-23), 3) := by decide +kernel
theorem dX12_takes_45 : decode cX12_takes 45 = .ok (.iload_n 3, 1) := by decide +kernel
theorem dX12_takes_46 : decode cX12_takes 46 = .ok (.aload_n 0, 1) := by decide +kernel
theorem dX12_takes_47 : decode cX12_takes 47 = .ok (.getfield 105, 3) := by decide +kernel
theorem dX12_takes_50 : decode cX12_takes 50 = .ok (.isub, 1) := by decide +kernel
theorem dX12_takes_51 : decode cX12_takes 51 = .ok (.aload_n 1, 1) := by decide +kernel
theorem dX12_takes_52 : decode cX12_takes 52 = .ok (.invokevirtual 129, 3) := by decide +kernel
theorem dX12_takes_55 : decode cX12_takes 55 = .ok (.if_icmp .eq 5, 3) := by decide +kernel
theorem dX12_takes_58 : decode cX12_takes 58 = .ok (.iconst 0, 1) := by decide +kernel
theorem dX12_takes_59 : decode cX12_takes 59 = .ok (.ireturn, 1) := by decide +kernel
theorem dX12_takes_60 : decode cX12_takes 60 = .ok (.iconst 0, 1) := by decide +kernel
theorem dX12_takes_61 : decode cX12_takes 61 = .ok (.istore 4, 2) := by decide +kernel
theorem dX12_takes_63 : decode cX12_takes 63 = .ok (.iload 4, 2) := by decide +kernel
theorem dX12_takes_65 : decode cX12_takes 65 = .ok (.aload_n 1, 1) := by decide +kernel
theorem dX12_takes_66 : decode cX12_takes 66 = .ok (.invokevirtual 129, 3) := by decide +kernel
theorem dX12_takes_69 : decode cX12_takes 69 = .ok (.if_icmp .ge 32, 3) := by decide +kernel
theorem dX12_takes_72 : decode cX12_takes 72 = .ok (.aload_n 0, 1) := by decide +kernel
theorem dX12_takes_73 : decode cX12_takes 73 = .ok (.getfield 32, 3) := by decide +kernel
theorem dX12_takes_76 : decode cX12_takes 76 = .ok (.aload_n 0, 1) := by decide +kernel
theorem dX12_takes_77 : decode cX12_takes 77 = .ok (.getfield 105, 3) := by decide +kernel
theorem dX12_takes_80 : decode cX12_takes 80 = .ok (.iload 4, 2) := by decide +kernel
theorem dX12_takes_82 : decode cX12_takes 82 = .ok (.iadd, 1) := by decide +kernel
theorem dX12_takes_83 : decode cX12_takes 83 = .ok (.baload, 1) := by decide +kernel
theorem dX12_takes_84 : decode cX12_takes 84 = .ok (.aload_n 1, 1) := by decide +kernel
theorem dX12_takes_85 : decode cX12_takes 85 = .ok (.iload 4, 2) := by decide +kernel
theorem dX12_takes_87 : decode cX12_takes 87 = .ok (.invokevirtual 133, 3) := by decide +kernel
theorem dX12_takes_90 : decode cX12_takes 90 = .ok (.if_icmp .eq 5, 3) := by decide +kernel
theorem dX12_takes_93 : decode cX12_takes 93 = .ok (.iconst 0, 1) := by decide +kernel
theorem dX12_takes_94 : decode cX12_takes 94 = .ok (.ireturn, 1) := by decide +kernel
theorem dX12_takes_95 : decode cX12_takes 95 = .ok (.iinc 4 1, 3) := by decide +kernel
theorem dX12_takes_98 : decode cX12_takes 98 = .ok (.goto (-35), 3) := by decide +kernel
theorem dX12_takes_101 : decode cX12_takes 101 = .ok (.aload_n 0, 1) := by decide +kernel
theorem dX12_takes_102 : decode cX12_takes 102 = .ok (.iload_n 3, 1) := by decide +kernel
theorem dX12_takes_103 : decode cX12_takes 103 = .ok (.putfield 105, 3) := by decide +kernel
theorem dX12_takes_106 : decode cX12_takes 106 = .ok (.iconst 1, 1) := by decide +kernel
theorem dX12_takes_107 : decode cX12_takes 107 = .ok (.ireturn, 1) := by decide +kernel
theorem dX12_number_0 : decode cX12_number 0 = .ok (.aload_n 0, 1) := by decide +kernel
theorem dX12_number_1 : decode cX12_number 1 = .ok (.invokevirtual 118, 3) := by decide +kernel
theorem dX12_number_4 : decode cX12_number 4 = .ok (.ifCond .ne 5, 3) := by decide +kernel
theorem dX12_number_7 : decode cX12_number 7 = .ok (.iload_n 1, 1) := by decide +kernel
theorem dX12_number_8 : decode cX12_number 8 = .ok (.ireturn, 1) := by decide +kernel
theorem dX12_number_9 : decode cX12_number 9 = .ok (.aload_n 0, 1) := by decide +kernel
theorem dX12_number_10 : decode cX12_number 10 = .ok (.invokevirtual 122, 3) := by decide +kernel
theorem dX12_number_13 : decode cX12_number 13 = .ok (.istore_n 3, 1) := by decide +kernel
theorem dX12_number_14 : decode cX12_number 14 = .ok (.iconst 0, 1) := by decide +kernel
theorem dX12_number_15 : decode cX12_number 15 = .ok (.istore 4, 2) := by decide +kernel
theorem dX12_number_17 : decode cX12_number 17 = .ok (.aload_n 0, 1) := by decide +kernel
theorem dX12_number_18 : decode cX12_number 18 = .ok (.invokevirtual 108, 3) := by decide +kernel
theorem dX12_number_21 : decode cX12_number 21 = .ok (.invokestatic 137, 3) := by decide +kernel
theorem dX12_number_24 : decode cX12_number 24 = .ok (.ifCond .eq 49, 3) := by decide +kernel
theorem dX12_number_27 : decode cX12_number 27 = .ok (.aload_n 0, 1) := by decide +kernel
theorem dX12_number_28 : decode cX12_number 28 = .ok (.getfield 105, 3) := by decide +kernel
theorem dX12_number_31 : decode cX12_number 31 = .ok (.aload_n 0, 1) := by decide +kernel
theorem dX12_number_32 : decode cX12_number 32 = .ok (.getfield 112, 3) := by decide +kernel
theorem dX12_number_35 : decode cX12_number 35 = .ok (.isub, 1) := by decide +kernel
theorem dX12_number_36 : decode cX12_number 36 = .ok (.iconst 4, 1) := by decide +kernel
theorem dX12_number_37 : decode cX12_number 37 = .ok (.if_icmp .ge 19, 3) := by decide +kernel
theorem dX12_number_40 : decode cX12_number 40 = .ok (.bipush 10, 2) := by decide +kernel
theorem dX12_number_42 : decode cX12_number 42 = .ok (.iload 4, 2) := by decide +kernel
theorem dX12_number_44 : decode cX12_number 44 = .ok (.imul, 1) := by decide +kernel
theorem dX12_number_45 : decode cX12_number 45 = .ok (.aload_n 0, 1) := by decide +kernel
theorem dX12_number_46 : decode cX12_number 46 = .ok (.invokevirtual 108, 3) := by decide +kernel
theorem dX12_number_49 : decode cX12_number 49 = .ok (.iadd, 1) := by decide +kernel
theorem dX12_number_50 : decode cX12_number 50 = .ok (.bipush 48, 2) := by decide +kernel
theorem dX12_number_52 : decode cX12_number 52 = .ok (.isub, 1) := by decide +kernel
theorem dX12_number_53 : decode cX12_number 53 = .ok (.goto 5, 3) := by decide +kernel
theorem dX12_number_56 : decode cX12_number 56 = .ok (.iload 4, 2) := by decide +kernel
theorem dX12_number_58 : decode cX12_number 58 = .ok (.istore 4, 2) := by decide +kernel
theorem dX12_number_60 : decode cX12_number 60 = .ok (.aload_n 0, 1) := by decide +kernel
theorem dX12_number_61 : decode cX12_number 61 = .ok (.dup, 1) := by decide +kernel
theorem dX12_number_62 : decode cX12_number 62 = .ok (.getfield 105, 3) := by decide +kernel
theorem dX12_number_65 : decode cX12_number 65 = .ok (.iconst 1, 1) := by decide +kernel
theorem dX12_number_66 : decode cX12_number 66 = .ok (.iadd, 1) := by decide +kernel
theorem dX12_number_67 : decode cX12_number 67 = .ok (.putfield 105, 3) := by decide +kernel
theorem dX12_number_70 : decode cX12_number 70 = .ok (.goto (-53), 3) := by decide +kernel
theorem dX12_number_73 : decode cX12_number 73 = .ok (.aload_n 0, 1) := by decide +kernel
theorem dX12_number_74 : decode cX12_number 74 = .ok (.getfield 105, 3) := by decide +kernel
theorem dX12_number_77 : decode cX12_number 77 = .ok (.aload_n 0, 1) := by decide +kernel
theorem dX12_number_78 : decode cX12_number 78 = .ok (.getfield 112, 3) := by decide +kernel
theorem dX12_number_81 : decode cX12_number 81 = .ok (.if_icmp .eq 29, 3) := by decide +kernel
theorem dX12_number_84 : decode cX12_number 84 = .ok (.aload_n 0, 1) := by decide +kernel
theorem dX12_number_85 : decode cX12_number 85 = .ok (.getfield 105, 3) := by decide +kernel
theorem dX12_number_88 : decode cX12_number 88 = .ok (.aload_n 0, 1) := by decide +kernel
theorem dX12_number_89 : decode cX12_number 89 = .ok (.getfield 112, 3) := by decide +kernel
theorem dX12_number_92 : decode cX12_number 92 = .ok (.isub, 1) := by decide +kernel
theorem dX12_number_93 : decode cX12_number 93 = .ok (.iconst 4, 1) := by decide +kernel
theorem dX12_number_94 : decode cX12_number 94 = .ok (.if_icmp .gt 16, 3) := by decide +kernel
theorem dX12_number_97 : decode cX12_number 97 = .ok (.iload 4, 2) := by decide +kernel
theorem dX12_number_99 : decode cX12_number 99 = .ok (.i2l, 1) := by decide +kernel
theorem dX12_number_100 : decode cX12_number 100 = .ok (.iload_n 1, 1) := by decide +kernel
theorem dX12_number_101 : decode cX12_number 101 = .ok (.i2l, 1) := by decide +kernel
theorem dX12_number_102 : decode cX12_number 102 = .ok (.iload_n 2, 1) := by decide +kernel
theorem dX12_number_103 : decode cX12_number 103 = .ok (.i2l, 1) := by decide +kernel
theorem dX12_number_104 : decode cX12_number 104 = .ok (.invokestatic 101, 3) := by decide +kernel
theorem dX12_number_107 : decode cX12_number 107 = .ok (.ifCond .ne 13, 3) := by decide +kernel
theorem dX12_number_110 : decode cX12_number 110 = .ok (.aload_n 0, 1) := by decide +kernel
theorem dX12_number_111 : decode cX12_number 111 = .ok (.aload_n 0, 1) := by decide +kernel
theorem dX12_number_112 : decode cX12_number 112 = .ok (.getfield 112, 3) := by decide +kernel
theorem dX12_number_115 : decode cX12_number 115 = .ok (.invokevirtual 140, 3) := by decide +kernel
theorem dX12_number_118 : decode cX12_number 118 = .ok (.iload_n 1, 1) := by decide +kernel
theorem dX12_number_119 : decode cX12_number 119 = .ok (.ireturn, 1) := by decide +kernel
theorem dX12_number_120 : decode cX12_number 120 = .ok (.iload 4, 2) := by decide +kernel
theorem dX12_number_122 : decode cX12_number 122 = .ok (.ireturn, 1) := by decide +kernel
theorem dX12_leavesRead_0 : decode cX12_leavesRead 0 = .ok (.iconst 0, 1) := by decide +kernel
theorem dX12_leavesRead_1 : decode cX12_leavesRead 1 = .ok (.istore_n 1, 1) := by decide +kernel
theorem dX12_leavesRead_2 : decode cX12_leavesRead 2 = .ok (.iconst 0, 1) := by decide +kernel
theorem dX12_leavesRead_3 : decode cX12_leavesRead 3 = .ok (.istore_n 2, 1) := by decide +kernel
theorem dX12_leavesRead_4 : decode cX12_leavesRead 4 = .ok (.iload_n 2, 1) := by decide +kernel
theorem dX12_leavesRead_5 : decode cX12_leavesRead 5 = .ok (.aload_n 0, 1) := by decide +kernel
theorem dX12_leavesRead_6 : decode cX12_leavesRead 6 = .ok (.getfield 67, 3) := by decide +kernel
theorem dX12_leavesRead_9 : decode cX12_leavesRead 9 = .ok (.if_icmp .ge 18, 3) := by decide +kernel
theorem dX12_leavesRead_12 : decode cX12_leavesRead 12 = .ok (.iload_n 1, 1) := by decide +kernel
theorem dX12_leavesRead_13 : decode cX12_leavesRead 13 = .ok (.aload_n 0, 1) := by decide +kernel
theorem dX12_leavesRead_14 : decode cX12_leavesRead 14 = .ok (.getfield 17, 3) := by decide +kernel
theorem dX12_leavesRead_17 : decode cX12_leavesRead 17 = .ok (.iload_n 2, 1) := by decide +kernel
theorem dX12_leavesRead_18 : decode cX12_leavesRead 18 = .ok (.iaload, 1) := by decide +kernel
theorem dX12_leavesRead_19 : decode cX12_leavesRead 19 = .ok (.iadd, 1) := by decide +kernel
theorem dX12_leavesRead_20 : decode cX12_leavesRead 20 = .ok (.istore_n 1, 1) := by decide +kernel
theorem dX12_leavesRead_21 : decode cX12_leavesRead 21 = .ok (.iinc 2 1, 3) := by decide +kernel
theorem dX12_leavesRead_24 : decode cX12_leavesRead 24 = .ok (.goto (-20), 3) := by decide +kernel
theorem dX12_leavesRead_27 : decode cX12_leavesRead 27 = .ok (.iload_n 1, 1) := by decide +kernel
theorem dX12_leavesRead_28 : decode cX12_leavesRead 28 = .ok (.ireturn, 1) := by decide +kernel
theorem dX12_leafRead_0 : decode cX12_leafRead 0 = .ok (.aload_n 0, 1) := by decide +kernel
theorem dX12_leafRead_1 : decode cX12_leafRead 1 = .ok (.iload_n 1, 1) := by decide +kernel
theorem dX12_leafRead_2 : decode cX12_leafRead 2 = .ok (.aload_n 0, 1) := by decide +kernel
theorem dX12_leafRead_3 : decode cX12_leafRead 3 = .ok (.invokevirtual 143, 3) := by decide +kernel
theorem dX12_leafRead_6 : decode cX12_leafRead 6 = .ok (.iconst 1, 1) := by decide +kernel
theorem dX12_leafRead_7 : decode cX12_leafRead 7 = .ok (.isub, 1) := by decide +kernel
theorem dX12_leafRead_8 : decode cX12_leafRead 8 = .ok (.invokevirtual 146, 3) := by decide +kernel
theorem dX12_leafRead_11 : decode cX12_leafRead 11 = .ok (.ireturn, 1) := by decide +kernel
theorem dX12_readsQuire_0 : decode cX12_readsQuire 0 = .ok (.aload_n 0, 1) := by decide +kernel
theorem dX12_readsQuire_1 : decode cX12_readsQuire 1 = .ok (.getfield 67, 3) := by decide +kernel
theorem dX12_readsQuire_4 : decode cX12_readsQuire 4 = .ok (.bipush 8, 2) := by decide +kernel
theorem dX12_readsQuire_6 : decode cX12_readsQuire 6 = .ok (.if_icmp .ne 9, 3) := by decide +kernel
theorem dX12_readsQuire_9 : decode cX12_readsQuire 9 = .ok (.aload_n 0, 1) := by decide +kernel
theorem dX12_readsQuire_10 : decode cX12_readsQuire 10 = .ok (.iload_n 1, 1) := by decide +kernel
theorem dX12_readsQuire_11 : decode cX12_readsQuire 11 = .ok (.invokevirtual 140, 3) := by decide +kernel
theorem dX12_readsQuire_14 : decode cX12_readsQuire 14 = .ok (.return_, 1) := by decide +kernel
theorem dX12_readsQuire_15 : decode cX12_readsQuire 15 = .ok (.aload_n 0, 1) := by decide +kernel
theorem dX12_readsQuire_16 : decode cX12_readsQuire 16 = .ok (.iconst 2, 1) := by decide +kernel
theorem dX12_readsQuire_17 : decode cX12_readsQuire 17 = .ok (.bipush 12, 2) := by decide +kernel
theorem dX12_readsQuire_19 : decode cX12_readsQuire 19 = .ok (.bipush 60, 2) := by decide +kernel
theorem dX12_readsQuire_21 : decode cX12_readsQuire 21 = .ok (.aload_n 0, 1) := by decide +kernel
theorem dX12_readsQuire_22 : decode cX12_readsQuire 22 = .ok (.invokevirtual 143, 3) := by decide +kernel
theorem dX12_readsQuire_25 : decode cX12_readsQuire 25 = .ok (.isub, 1) := by decide +kernel
theorem dX12_readsQuire_26 : decode cX12_readsQuire 26 = .ok (.invokestatic 150, 3) := by decide +kernel
theorem dX12_readsQuire_29 : decode cX12_readsQuire 29 = .ok (.invokevirtual 146, 3) := by decide +kernel
theorem dX12_readsQuire_32 : decode cX12_readsQuire 32 = .ok (.istore_n 2, 1) := by decide +kernel
theorem dX12_readsQuire_33 : decode cX12_readsQuire 33 = .ok (.aload_n 0, 1) := by decide +kernel
theorem dX12_readsQuire_34 : decode cX12_readsQuire 34 = .ok (.invokevirtual 118, 3) := by decide +kernel
theorem dX12_readsQuire_37 : decode cX12_readsQuire 37 = .ok (.ifCond .eq 18, 3) := by decide +kernel
theorem dX12_readsQuire_40 : decode cX12_readsQuire 40 = .ok (.iload_n 2, 1) := by decide +kernel
theorem dX12_readsQuire_41 : decode cX12_readsQuire 41 = .ok (.iconst 2, 1) := by decide +kernel
theorem dX12_readsQuire_42 : decode cX12_readsQuire 42 = .ok (.irem, 1) := by decide +kernel
theorem dX12_readsQuire_43 : decode cX12_readsQuire 43 = .ok (.iconst 1, 1) := by decide +kernel
theorem dX12_readsQuire_44 : decode cX12_readsQuire 44 = .ok (.if_icmp .ne 11, 3) := by decide +kernel
theorem dX12_readsQuire_47 : decode cX12_readsQuire 47 = .ok (.aload_n 0, 1) := by decide +kernel
theorem dX12_readsQuire_48 : decode cX12_readsQuire 48 = .ok (.aload_n 0, 1) := by decide +kernel
theorem dX12_readsQuire_49 : decode cX12_readsQuire 49 = .ok (.getfield 112, 3) := by decide +kernel
theorem dX12_readsQuire_52 : decode cX12_readsQuire 52 = .ok (.invokevirtual 140, 3) := by decide +kernel
theorem dX12_readsQuire_55 : decode cX12_readsQuire 55 = .ok (.aload_n 0, 1) := by decide +kernel
theorem dX12_readsQuire_56 : decode cX12_readsQuire 56 = .ok (.getfield 17, 3) := by decide +kernel
theorem dX12_readsQuire_59 : decode cX12_readsQuire 59 = .ok (.aload_n 0, 1) := by decide +kernel
theorem dX12_readsQuire_60 : decode cX12_readsQuire 60 = .ok (.getfield 67, 3) := by decide +kernel
theorem dX12_readsQuire_63 : decode cX12_readsQuire 63 = .ok (.iload_n 2, 1) := by decide +kernel
theorem dX12_readsQuire_64 : decode cX12_readsQuire 64 = .ok (.iastore, 1) := by decide +kernel
theorem dX12_readsQuire_65 : decode cX12_readsQuire 65 = .ok (.aload_n 0, 1) := by decide +kernel
theorem dX12_readsQuire_66 : decode cX12_readsQuire 66 = .ok (.dup, 1) := by decide +kernel
theorem dX12_readsQuire_67 : decode cX12_readsQuire 67 = .ok (.getfield 67, 3) := by decide +kernel
theorem dX12_readsQuire_70 : decode cX12_readsQuire 70 = .ok (.iconst 1, 1) := by decide +kernel
theorem dX12_readsQuire_71 : decode cX12_readsQuire 71 = .ok (.iadd, 1) := by decide +kernel
theorem dX12_readsQuire_72 : decode cX12_readsQuire 72 = .ok (.putfield 67, 3) := by decide +kernel
theorem dX12_readsQuire_75 : decode cX12_readsQuire 75 = .ok (.return_, 1) := by decide +kernel
theorem dX12_hasSlipRead_0 : decode cX12_hasSlipRead 0 = .ok (.iconst 0, 1) := by decide +kernel
theorem dX12_hasSlipRead_1 : decode cX12_hasSlipRead 1 = .ok (.istore_n 2, 1) := by decide +kernel
theorem dX12_hasSlipRead_2 : decode cX12_hasSlipRead 2 = .ok (.iload_n 2, 1) := by decide +kernel
theorem dX12_hasSlipRead_3 : decode cX12_hasSlipRead 3 = .ok (.aload_n 0, 1) := by decide +kernel
theorem dX12_hasSlipRead_4 : decode cX12_hasSlipRead 4 = .ok (.getfield 23, 3) := by decide +kernel
theorem dX12_hasSlipRead_7 : decode cX12_hasSlipRead 7 = .ok (.iconst 0, 1) := by decide +kernel
theorem dX12_hasSlipRead_8 : decode cX12_hasSlipRead 8 = .ok (.iaload, 1) := by decide +kernel
theorem dX12_hasSlipRead_9 : decode cX12_hasSlipRead 9 = .ok (.if_icmp .ge 25, 3) := by decide +kernel
theorem dX12_hasSlipRead_12 : decode cX12_hasSlipRead 12 = .ok (.aload_n 0, 1) := by decide +kernel
theorem dX12_hasSlipRead_13 : decode cX12_hasSlipRead 13 = .ok (.getfield 23, 3) := by decide +kernel
theorem dX12_hasSlipRead_16 : decode cX12_hasSlipRead 16 = .ok (.iconst 5, 1) := by decide +kernel
theorem dX12_hasSlipRead_17 : decode cX12_hasSlipRead 17 = .ok (.iconst 3, 1) := by decide +kernel
theorem dX12_hasSlipRead_18 : decode cX12_hasSlipRead 18 = .ok (.iload_n 2, 1) := by decide +kernel
theorem dX12_hasSlipRead_19 : decode cX12_hasSlipRead 19 = .ok (.imul, 1) := by decide +kernel
theorem dX12_hasSlipRead_20 : decode cX12_hasSlipRead 20 = .ok (.iadd, 1) := by decide +kernel
theorem dX12_hasSlipRead_21 : decode cX12_hasSlipRead 21 = .ok (.iaload, 1) := by decide +kernel
theorem dX12_hasSlipRead_22 : decode cX12_hasSlipRead 22 = .ok (.iload_n 1, 1) := by decide +kernel
theorem dX12_hasSlipRead_23 : decode cX12_hasSlipRead 23 = .ok (.if_icmp .ne 5, 3) := by decide +kernel
theorem dX12_hasSlipRead_26 : decode cX12_hasSlipRead 26 = .ok (.iconst 1, 1) := by decide +kernel
theorem dX12_hasSlipRead_27 : decode cX12_hasSlipRead 27 = .ok (.ireturn, 1) := by decide +kernel
theorem dX12_hasSlipRead_28 : decode cX12_hasSlipRead 28 = .ok (.iinc 2 1, 3) := by decide +kernel
theorem dX12_hasSlipRead_31 : decode cX12_hasSlipRead 31 = .ok (.goto (-29), 3) := by decide +kernel
theorem dX12_hasSlipRead_34 : decode cX12_hasSlipRead 34 = .ok (.iconst 0, 1) := by decide +kernel
theorem dX12_hasSlipRead_35 : decode cX12_hasSlipRead 35 = .ok (.ireturn, 1) := by decide +kernel
theorem dX12_tellsMissing_0 : decode cX12_tellsMissing 0 = .ok (.aload_n 0, 1) := by decide +kernel
theorem dX12_tellsMissing_1 : decode cX12_tellsMissing 1 = .ok (.invokevirtual 118, 3) := by decide +kernel
theorem dX12_tellsMissing_4 : decode cX12_tellsMissing 4 = .ok (.ifCond .eq 19, 3) := by decide +kernel
theorem dX12_tellsMissing_7 : decode cX12_tellsMissing 7 = .ok (.aload_n 0, 1) := by decide +kernel
theorem dX12_tellsMissing_8 : decode cX12_tellsMissing 8 = .ok (.iload_n 1, 1) := by decide +kernel
theorem dX12_tellsMissing_9 : decode cX12_tellsMissing 9 = .ok (.invokevirtual 155, 3) := by decide +kernel
theorem dX12_tellsMissing_12 : decode cX12_tellsMissing 12 = .ok (.ifCond .eq 11, 3) := by decide +kernel
theorem dX12_tellsMissing_15 : decode cX12_tellsMissing 15 = .ok (.aload_n 0, 1) := by decide +kernel
theorem dX12_tellsMissing_16 : decode cX12_tellsMissing 16 = .ok (.aload_n 0, 1) := by decide +kernel
theorem dX12_tellsMissing_17 : decode cX12_tellsMissing 17 = .ok (.getfield 112, 3) := by decide +kernel
theorem dX12_tellsMissing_20 : decode cX12_tellsMissing 20 = .ok (.invokevirtual 140, 3) := by decide +kernel
theorem dX12_tellsMissing_23 : decode cX12_tellsMissing 23 = .ok (.aload_n 0, 1) := by decide +kernel
theorem dX12_tellsMissing_24 : decode cX12_tellsMissing 24 = .ok (.invokevirtual 118, 3) := by decide +kernel
theorem dX12_tellsMissing_27 : decode cX12_tellsMissing 27 = .ok (.ifCond .eq 14, 3) := by decide +kernel
theorem dX12_tellsMissing_30 : decode cX12_tellsMissing 30 = .ok (.aload_n 0, 1) := by decide +kernel
theorem dX12_tellsMissing_31 : decode cX12_tellsMissing 31 = .ok (.getfield 23, 3) := by decide +kernel
theorem dX12_tellsMissing_34 : decode cX12_tellsMissing 34 = .ok (.sipush 279, 3) := by decide +kernel
theorem dX12_tellsMissing_37 : decode cX12_tellsMissing 37 = .ok (.iload_n 1, 1) := by decide +kernel
theorem dX12_tellsMissing_38 : decode cX12_tellsMissing 38 = .ok (.iadd, 1) := by decide +kernel
theorem dX12_tellsMissing_39 : decode cX12_tellsMissing 39 = .ok (.iconst 1, 1) := by decide +kernel
theorem dX12_tellsMissing_40 : decode cX12_tellsMissing 40 = .ok (.iastore, 1) := by decide +kernel
theorem dX12_tellsMissing_41 : decode cX12_tellsMissing 41 = .ok (.return_, 1) := by decide +kernel
theorem dX12_readsMissing_0 : decode cX12_readsMissing 0 = .ok (.aload_n 0, 1) := by decide +kernel
theorem dX12_readsMissing_1 : decode cX12_readsMissing 1 = .ok (.iconst 0, 1) := by decide +kernel
theorem dX12_readsMissing_2 : decode cX12_readsMissing 2 = .ok (.invokevirtual 158, 3) := by decide +kernel
theorem dX12_readsMissing_5 : decode cX12_readsMissing 5 = .ok (.istore_n 1, 1) := by decide +kernel
theorem dX12_readsMissing_6 : decode cX12_readsMissing 6 = .ok (.aload_n 0, 1) := by decide +kernel
theorem dX12_readsMissing_7 : decode cX12_readsMissing 7 = .ok (.iload_n 1, 1) := by decide +kernel
theorem dX12_readsMissing_8 : decode cX12_readsMissing 8 = .ok (.invokevirtual 161, 3) := by decide +kernel
theorem dX12_readsMissing_11 : decode cX12_readsMissing 11 = .ok (.aload_n 0, 1) := by decide +kernel
theorem dX12_readsMissing_12 : decode cX12_readsMissing 12 = .ok (.invokevirtual 118, 3) := by decide +kernel
theorem dX12_readsMissing_15 : decode cX12_readsMissing 15 = .ok (.ifCond .eq 13, 3) := by decide +kernel
theorem dX12_readsMissing_18 : decode cX12_readsMissing 18 = .ok (.aload_n 0, 1) := by decide +kernel
theorem dX12_readsMissing_19 : decode cX12_readsMissing 19 = .ok (.invokevirtual 122, 3) := by decide +kernel
theorem dX12_readsMissing_22 : decode cX12_readsMissing 22 = .ok (.invokestatic 137, 3) := by decide +kernel
theorem dX12_readsMissing_25 : decode cX12_readsMissing 25 = .ok (.ifCond .ne 4, 3) := by decide +kernel
theorem dX12_readsMissing_28 : decode cX12_readsMissing 28 = .ok (.return_, 1) := by decide +kernel
theorem dX12_readsMissing_29 : decode cX12_readsMissing 29 = .ok (.aload_n 0, 1) := by decide +kernel
theorem dX12_readsMissing_30 : decode cX12_readsMissing 30 = .ok (.iload_n 1, 1) := by decide +kernel
theorem dX12_readsMissing_31 : decode cX12_readsMissing 31 = .ok (.invokevirtual 158, 3) := by decide +kernel
theorem dX12_readsMissing_34 : decode cX12_readsMissing 34 = .ok (.istore_n 2, 1) := by decide +kernel
theorem dX12_readsMissing_35 : decode cX12_readsMissing 35 = .ok (.iload_n 1, 1) := by decide +kernel
theorem dX12_readsMissing_36 : decode cX12_readsMissing 36 = .ok (.iconst 1, 1) := by decide +kernel
theorem dX12_readsMissing_37 : decode cX12_readsMissing 37 = .ok (.iadd, 1) := by decide +kernel
theorem dX12_readsMissing_38 : decode cX12_readsMissing 38 = .ok (.istore_n 3, 1) := by decide +kernel
theorem dX12_readsMissing_39 : decode cX12_readsMissing 39 = .ok (.iload_n 3, 1) := by decide +kernel
theorem dX12_readsMissing_40 : decode cX12_readsMissing 40 = .ok (.iload_n 2, 1) := by decide +kernel
theorem dX12_readsMissing_41 : decode cX12_readsMissing 41 = .ok (.if_icmp .gt 21, 3) := by decide +kernel
theorem dX12_readsMissing_44 : decode cX12_readsMissing 44 = .ok (.aload_n 0, 1) := by decide +kernel
theorem dX12_readsMissing_45 : decode cX12_readsMissing 45 = .ok (.invokevirtual 118, 3) := by decide +kernel
theorem dX12_readsMissing_48 : decode cX12_readsMissing 48 = .ok (.ifCond .eq 14, 3) := by decide +kernel
theorem dX12_readsMissing_51 : decode cX12_readsMissing 51 = .ok (.aload_n 0, 1) := by decide +kernel
theorem dX12_readsMissing_52 : decode cX12_readsMissing 52 = .ok (.iload_n 3, 1) := by decide +kernel
theorem dX12_readsMissing_53 : decode cX12_readsMissing 53 = .ok (.invokevirtual 161, 3) := by decide +kernel
theorem dX12_readsMissing_56 : decode cX12_readsMissing 56 = .ok (.iinc 3 1, 3) := by decide +kernel
theorem dX12_readsMissing_59 : decode cX12_readsMissing 59 = .ok (.goto (-20), 3) := by decide +kernel
theorem dX12_readsMissing_62 : decode cX12_readsMissing 62 = .ok (.return_, 1) := by decide +kernel
theorem dX12_readsSlip_0 : decode cX12_readsSlip 0 = .ok (.aload_n 0, 1) := by decide +kernel
theorem dX12_readsSlip_1 : decode cX12_readsSlip 1 = .ok (.getfield 23, 3) := by decide +kernel
theorem dX12_readsSlip_4 : decode cX12_readsSlip 4 = .ok (.iconst 0, 1) := by decide +kernel
theorem dX12_readsSlip_5 : decode cX12_readsSlip 5 = .ok (.iaload, 1) := by decide +kernel
theorem dX12_readsSlip_6 : decode cX12_readsSlip 6 = .ok (.bipush 12, 2) := by decide +kernel
theorem dX12_readsSlip_8 : decode cX12_readsSlip 8 = .ok (.if_icmp .ne 9, 3) := by decide +kernel
theorem dX12_readsSlip_11 : decode cX12_readsSlip 11 = .ok (.aload_n 0, 1) := by decide +kernel
theorem dX12_readsSlip_12 : decode cX12_readsSlip 12 = .ok (.iload_n 1, 1) := by decide +kernel
theorem dX12_readsSlip_13 : decode cX12_readsSlip 13 = .ok (.invokevirtual 140, 3) := by decide +kernel
theorem dX12_readsSlip_16 : decode cX12_readsSlip 16 = .ok (.return_, 1) := by decide +kernel
theorem dX12_readsSlip_17 : decode cX12_readsSlip 17 = .ok (.aload_n 0, 1) := by decide +kernel
theorem dX12_readsSlip_18 : decode cX12_readsSlip 18 = .ok (.iconst 0, 1) := by decide +kernel
theorem dX12_readsSlip_19 : decode cX12_readsSlip 19 = .ok (.invokevirtual 158, 3) := by decide +kernel
theorem dX12_readsSlip_22 : decode cX12_readsSlip 22 = .ok (.istore_n 2, 1) := by decide +kernel
theorem dX12_readsSlip_23 : decode cX12_readsSlip 23 = .ok (.aload_n 0, 1) := by decide +kernel
theorem dX12_readsSlip_24 : decode cX12_readsSlip 24 = .ok (.invokevirtual 118, 3) := by decide +kernel
theorem dX12_readsSlip_27 : decode cX12_readsSlip 27 = .ok (.ifCond .eq 25, 3) := by decide +kernel
theorem dX12_readsSlip_30 : decode cX12_readsSlip 30 = .ok (.aload_n 0, 1) := by decide +kernel
theorem dX12_readsSlip_31 : decode cX12_readsSlip 31 = .ok (.getfield 23, 3) := by decide +kernel
theorem dX12_readsSlip_34 : decode cX12_readsSlip 34 = .ok (.sipush 279, 3) := by decide +kernel
theorem dX12_readsSlip_37 : decode cX12_readsSlip 37 = .ok (.iload_n 2, 1) := by decide +kernel
theorem dX12_readsSlip_38 : decode cX12_readsSlip 38 = .ok (.iadd, 1) := by decide +kernel
theorem dX12_readsSlip_39 : decode cX12_readsSlip 39 = .ok (.iaload, 1) := by decide +kernel
theorem dX12_readsSlip_40 : decode cX12_readsSlip 40 = .ok (.iconst 1, 1) := by decide +kernel
theorem dX12_readsSlip_41 : decode cX12_readsSlip 41 = .ok (.if_icmp .ne 11, 3) := by decide +kernel
theorem dX12_readsSlip_44 : decode cX12_readsSlip 44 = .ok (.aload_n 0, 1) := by decide +kernel
theorem dX12_readsSlip_45 : decode cX12_readsSlip 45 = .ok (.aload_n 0, 1) := by decide +kernel
theorem dX12_readsSlip_46 : decode cX12_readsSlip 46 = .ok (.getfield 112, 3) := by decide +kernel
theorem dX12_readsSlip_49 : decode cX12_readsSlip 49 = .ok (.invokevirtual 140, 3) := by decide +kernel
theorem dX12_readsSlip_52 : decode cX12_readsSlip 52 = .ok (.aload_n 0, 1) := by decide +kernel
theorem dX12_readsSlip_53 : decode cX12_readsSlip 53 = .ok (.ldc 164, 2) := by decide +kernel
theorem dX12_readsSlip_55 : decode cX12_readsSlip 55 = .ok (.invokevirtual 166, 3) := by decide +kernel
theorem dX12_readsSlip_58 : decode cX12_readsSlip 58 = .ok (.ifCond .eq 7, 3) := by decide +kernel
theorem dX12_readsSlip_61 : decode cX12_readsSlip 61 = .ok (.iconst 0, 1) := by decide +kernel
theorem dX12_readsSlip_62 : decode cX12_readsSlip 62 = .ok (.goto 17, 3) := by decide +kernel
theorem dX12_readsSlip_65 : decode cX12_readsSlip 65 = .ok (.aload_n 0, 1) := by decide +kernel
theorem dX12_readsSlip_66 : decode cX12_readsSlip 66 = .ok (.ldc 170, 2) := by decide +kernel
theorem dX12_readsSlip_68 : decode cX12_readsSlip 68 = .ok (.invokevirtual 166, 3) := by decide +kernel
theorem dX12_readsSlip_71 : decode cX12_readsSlip 71 = .ok (.ifCond .eq 7, 3) := by decide +kernel
theorem dX12_readsSlip_74 : decode cX12_readsSlip 74 = .ok (.iconst 1, 1) := by decide +kernel
theorem dX12_readsSlip_75 : decode cX12_readsSlip 75 = .ok (.goto 4, 3) := by decide +kernel
theorem dX12_readsSlip_78 : decode cX12_readsSlip 78 = .ok (.iconst (-1), 1) := by decide +kernel
theorem dX12_readsSlip_79 : decode cX12_readsSlip 79 = .ok (.istore_n 3, 1) := by decide +kernel
theorem dX12_readsSlip_80 : decode cX12_readsSlip 80 = .ok (.iload_n 3, 1) := by decide +kernel
theorem dX12_readsSlip_81 : decode cX12_readsSlip 81 = .ok (.iconst (-1), 1) := by decide +kernel
theorem dX12_readsSlip_82 : decode cX12_readsSlip 82 = .ok (.if_icmp .ne 11, 3) := by decide +kernel
theorem dX12_readsSlip_85 : decode cX12_readsSlip 85 = .ok (.aload_n 0, 1) := by decide +kernel
theorem dX12_readsSlip_86 : decode cX12_readsSlip 86 = .ok (.aload_n 0, 1) := by decide +kernel
theorem dX12_readsSlip_87 : decode cX12_readsSlip 87 = .ok (.invokevirtual 172, 3) := by decide +kernel
theorem dX12_readsSlip_90 : decode cX12_readsSlip 90 = .ok (.invokevirtual 140, 3) := by decide +kernel
theorem dX12_readsSlip_93 : decode cX12_readsSlip 93 = .ok (.iconst 5, 1) := by decide +kernel
theorem dX12_readsSlip_94 : decode cX12_readsSlip 94 = .ok (.iconst 3, 1) := by decide +kernel
theorem dX12_readsSlip_95 : decode cX12_readsSlip 95 = .ok (.aload_n 0, 1) := by decide +kernel
theorem dX12_readsSlip_96 : decode cX12_readsSlip 96 = .ok (.getfield 23, 3) := by decide +kernel
theorem dX12_readsSlip_99 : decode cX12_readsSlip 99 = .ok (.iconst 0, 1) := by decide +kernel
theorem dX12_readsSlip_100 : decode cX12_readsSlip 100 = .ok (.iaload, 1) := by decide +kernel
theorem dX12_readsSlip_101 : decode cX12_readsSlip 101 = .ok (.imul, 1) := by decide +kernel
theorem dX12_readsSlip_102 : decode cX12_readsSlip 102 = .ok (.iadd, 1) := by decide +kernel
theorem dX12_readsSlip_103 : decode cX12_readsSlip 103 = .ok (.istore 4, 2) := by decide +kernel
theorem dX12_readsSlip_105 : decode cX12_readsSlip 105 = .ok (.aload_n 0, 1) := by decide +kernel
theorem dX12_readsSlip_106 : decode cX12_readsSlip 106 = .ok (.getfield 23, 3) := by decide +kernel
theorem dX12_readsSlip_109 : decode cX12_readsSlip 109 = .ok (.iload 4, 2) := by decide +kernel
theorem dX12_readsSlip_111 : decode cX12_readsSlip 111 = .ok (.iload_n 2, 1) := by decide +kernel
theorem dX12_readsSlip_112 : decode cX12_readsSlip 112 = .ok (.iastore, 1) := by decide +kernel
theorem dX12_readsSlip_113 : decode cX12_readsSlip 113 = .ok (.aload_n 0, 1) := by decide +kernel
theorem dX12_readsSlip_114 : decode cX12_readsSlip 114 = .ok (.getfield 23, 3) := by decide +kernel
theorem dX12_readsSlip_117 : decode cX12_readsSlip 117 = .ok (.iload 4, 2) := by decide +kernel
theorem dX12_readsSlip_119 : decode cX12_readsSlip 119 = .ok (.iconst 1, 1) := by decide +kernel
theorem dX12_readsSlip_120 : decode cX12_readsSlip 120 = .ok (.iadd, 1) := by decide +kernel
theorem dX12_readsSlip_121 : decode cX12_readsSlip 121 = .ok (.iload_n 3, 1) := by decide +kernel
theorem dX12_readsSlip_122 : decode cX12_readsSlip 122 = .ok (.iastore, 1) := by decide +kernel
theorem dX12_readsSlip_123 : decode cX12_readsSlip 123 = .ok (.aload_n 0, 1) := by decide +kernel
theorem dX12_readsSlip_124 : decode cX12_readsSlip 124 = .ok (.getfield 23, 3) := by decide +kernel
theorem dX12_readsSlip_127 : decode cX12_readsSlip 127 = .ok (.iload 4, 2) := by decide +kernel
theorem dX12_readsSlip_129 : decode cX12_readsSlip 129 = .ok (.iconst 2, 1) := by decide +kernel
theorem dX12_readsSlip_130 : decode cX12_readsSlip 130 = .ok (.iadd, 1) := by decide +kernel
theorem dX12_readsSlip_131 : decode cX12_readsSlip 131 = .ok (.aload_n 0, 1) := by decide +kernel
theorem dX12_readsSlip_132 : decode cX12_readsSlip 132 = .ok (.iconst 1, 1) := by decide +kernel
theorem dX12_readsSlip_133 : decode cX12_readsSlip 133 = .ok (.iconst 2, 1) := by decide +kernel
theorem dX12_readsSlip_134 : decode cX12_readsSlip 134 = .ok (.invokevirtual 146, 3) := by decide +kernel
theorem dX12_readsSlip_137 : decode cX12_readsSlip 137 = .ok (.iastore, 1) := by decide +kernel
theorem dX12_readsSlip_138 : decode cX12_readsSlip 138 = .ok (.aload_n 0, 1) := by decide +kernel
theorem dX12_readsSlip_139 : decode cX12_readsSlip 139 = .ok (.getfield 23, 3) := by decide +kernel
theorem dX12_readsSlip_142 : decode cX12_readsSlip 142 = .ok (.iconst 0, 1) := by decide +kernel
theorem dX12_readsSlip_143 : decode cX12_readsSlip 143 = .ok (.dup2, 1) := by decide +kernel
theorem dX12_readsSlip_144 : decode cX12_readsSlip 144 = .ok (.iaload, 1) := by decide +kernel
theorem dX12_readsSlip_145 : decode cX12_readsSlip 145 = .ok (.iconst 1, 1) := by decide +kernel
theorem dX12_readsSlip_146 : decode cX12_readsSlip 146 = .ok (.iadd, 1) := by decide +kernel
theorem dX12_readsSlip_147 : decode cX12_readsSlip 147 = .ok (.iastore, 1) := by decide +kernel
theorem dX12_readsSlip_148 : decode cX12_readsSlip 148 = .ok (.return_, 1) := by decide +kernel
theorem dX12_tokenNow_0 : decode cX12_tokenNow 0 = .ok (.aload_n 0, 1) := by decide +kernel
theorem dX12_tokenNow_1 : decode cX12_tokenNow 1 = .ok (.invokevirtual 122, 3) := by decide +kernel
theorem dX12_tokenNow_4 : decode cX12_tokenNow 4 = .ok (.istore_n 1, 1) := by decide +kernel
theorem dX12_tokenNow_5 : decode cX12_tokenNow 5 = .ok (.aload_n 0, 1) := by decide +kernel
theorem dX12_tokenNow_6 : decode cX12_tokenNow 6 = .ok (.getfield 112, 3) := by decide +kernel
theorem dX12_tokenNow_9 : decode cX12_tokenNow 9 = .ok (.ireturn, 1) := by decide +kernel
theorem dX12_readsStyle_0 : decode cX12_readsStyle 0 = .ok (.aload_n 0, 1) := by decide +kernel
theorem dX12_readsStyle_1 : decode cX12_readsStyle 1 = .ok (.ldc 175, 2) := by decide +kernel
theorem dX12_readsStyle_3 : decode cX12_readsStyle 3 = .ok (.invokevirtual 166, 3) := by decide +kernel
theorem dX12_readsStyle_6 : decode cX12_readsStyle 6 = .ok (.ifCond .eq 7, 3) := by decide +kernel
theorem dX12_readsStyle_9 : decode cX12_readsStyle 9 = .ok (.iconst 0, 1) := by decide +kernel
theorem dX12_readsStyle_10 : decode cX12_readsStyle 10 = .ok (.goto 43, 3) := by decide +kernel
theorem dX12_readsStyle_13 : decode cX12_readsStyle 13 = .ok (.aload_n 0, 1) := by decide +kernel
theorem dX12_readsStyle_14 : decode cX12_readsStyle 14 = .ok (.ldc 177, 2) := by decide +kernel
theorem dX12_readsStyle_16 : decode cX12_readsStyle 16 = .ok (.invokevirtual 166, 3) := by decide +kernel
theorem dX12_readsStyle_19 : decode cX12_readsStyle 19 = .ok (.ifCond .eq 7, 3) := by decide +kernel
theorem dX12_readsStyle_22 : decode cX12_readsStyle 22 = .ok (.iconst 1, 1) := by decide +kernel
theorem dX12_readsStyle_23 : decode cX12_readsStyle 23 = .ok (.goto 30, 3) := by decide +kernel
theorem dX12_readsStyle_26 : decode cX12_readsStyle 26 = .ok (.aload_n 0, 1) := by decide +kernel
theorem dX12_readsStyle_27 : decode cX12_readsStyle 27 = .ok (.ldc 179, 2) := by decide +kernel
theorem dX12_readsStyle_29 : decode cX12_readsStyle 29 = .ok (.invokevirtual 166, 3) := by decide +kernel
theorem dX12_readsStyle_32 : decode cX12_readsStyle 32 = .ok (.ifCond .eq 7, 3) := by decide +kernel
theorem dX12_readsStyle_35 : decode cX12_readsStyle 35 = .ok (.iconst 2, 1) := by decide +kernel
theorem dX12_readsStyle_36 : decode cX12_readsStyle 36 = .ok (.goto 17, 3) := by decide +kernel
theorem dX12_readsStyle_39 : decode cX12_readsStyle 39 = .ok (.aload_n 0, 1) := by decide +kernel
theorem dX12_readsStyle_40 : decode cX12_readsStyle 40 = .ok (.ldc 181, 2) := by decide +kernel
theorem dX12_readsStyle_42 : decode cX12_readsStyle 42 = .ok (.invokevirtual 166, 3) := by decide +kernel
theorem dX12_readsStyle_45 : decode cX12_readsStyle 45 = .ok (.ifCond .eq 7, 3) := by decide +kernel
theorem dX12_readsStyle_48 : decode cX12_readsStyle 48 = .ok (.iconst 3, 1) := by decide +kernel
theorem dX12_readsStyle_49 : decode cX12_readsStyle 49 = .ok (.goto 4, 3) := by decide +kernel
theorem dX12_readsStyle_52 : decode cX12_readsStyle 52 = .ok (.iconst (-1), 1) := by decide +kernel
theorem dX12_readsStyle_53 : decode cX12_readsStyle 53 = .ok (.istore_n 1, 1) := by decide +kernel
theorem dX12_readsStyle_54 : decode cX12_readsStyle 54 = .ok (.iload_n 1, 1) := by decide +kernel
theorem dX12_readsStyle_55 : decode cX12_readsStyle 55 = .ok (.iconst (-1), 1) := by decide +kernel
theorem dX12_readsStyle_56 : decode cX12_readsStyle 56 = .ok (.if_icmp .ne 11, 3) := by decide +kernel
theorem dX12_readsStyle_59 : decode cX12_readsStyle 59 = .ok (.aload_n 0, 1) := by decide +kernel
theorem dX12_readsStyle_60 : decode cX12_readsStyle 60 = .ok (.aload_n 0, 1) := by decide +kernel
theorem dX12_readsStyle_61 : decode cX12_readsStyle 61 = .ok (.invokevirtual 172, 3) := by decide +kernel
theorem dX12_readsStyle_64 : decode cX12_readsStyle 64 = .ok (.invokevirtual 140, 3) := by decide +kernel
theorem dX12_readsStyle_67 : decode cX12_readsStyle 67 = .ok (.iload_n 1, 1) := by decide +kernel
theorem dX12_readsStyle_68 : decode cX12_readsStyle 68 = .ok (.ireturn, 1) := by decide +kernel
theorem dX12_readsLabel_0 : decode cX12_readsLabel 0 = .ok (.aload_n 0, 1) := by decide +kernel
theorem dX12_readsLabel_1 : decode cX12_readsLabel 1 = .ok (.getfield 23, 3) := by decide +kernel
theorem dX12_readsLabel_4 : decode cX12_readsLabel 4 = .ok (.iconst 1, 1) := by decide +kernel
theorem dX12_readsLabel_5 : decode cX12_readsLabel 5 = .ok (.iaload, 1) := by decide +kernel
theorem dX12_readsLabel_6 : decode cX12_readsLabel 6 = .ok (.bipush 12, 2) := by decide +kernel
theorem dX12_readsLabel_8 : decode cX12_readsLabel 8 = .ok (.if_icmp .ne 9, 3) := by decide +kernel
theorem dX12_readsLabel_11 : decode cX12_readsLabel 11 = .ok (.aload_n 0, 1) := by decide +kernel
theorem dX12_readsLabel_12 : decode cX12_readsLabel 12 = .ok (.iload_n 1, 1) := by decide +kernel
theorem dX12_readsLabel_13 : decode cX12_readsLabel 13 = .ok (.invokevirtual 140, 3) := by decide +kernel
theorem dX12_readsLabel_16 : decode cX12_readsLabel 16 = .ok (.return_, 1) := by decide +kernel
theorem dX12_readsLabel_17 : decode cX12_readsLabel 17 = .ok (.bipush 41, 2) := by decide +kernel
theorem dX12_readsLabel_19 : decode cX12_readsLabel 19 = .ok (.iconst 4, 1) := by decide +kernel
theorem dX12_readsLabel_20 : decode cX12_readsLabel 20 = .ok (.aload_n 0, 1) := by decide +kernel
theorem dX12_readsLabel_21 : decode cX12_readsLabel 21 = .ok (.getfield 23, 3) := by decide +kernel
theorem dX12_readsLabel_24 : decode cX12_readsLabel 24 = .ok (.iconst 1, 1) := by decide +kernel
theorem dX12_readsLabel_25 : decode cX12_readsLabel 25 = .ok (.iaload, 1) := by decide +kernel
theorem dX12_readsLabel_26 : decode cX12_readsLabel 26 = .ok (.imul, 1) := by decide +kernel
theorem dX12_readsLabel_27 : decode cX12_readsLabel 27 = .ok (.iadd, 1) := by decide +kernel
theorem dX12_readsLabel_28 : decode cX12_readsLabel 28 = .ok (.istore_n 2, 1) := by decide +kernel
theorem dX12_readsLabel_29 : decode cX12_readsLabel 29 = .ok (.aload_n 0, 1) := by decide +kernel
theorem dX12_readsLabel_30 : decode cX12_readsLabel 30 = .ok (.getfield 23, 3) := by decide +kernel
theorem dX12_readsLabel_33 : decode cX12_readsLabel 33 = .ok (.iload_n 2, 1) := by decide +kernel
theorem dX12_readsLabel_34 : decode cX12_readsLabel 34 = .ok (.aload_n 0, 1) := by decide +kernel
theorem dX12_readsLabel_35 : decode cX12_readsLabel 35 = .ok (.iconst 0, 1) := by decide +kernel
theorem dX12_readsLabel_36 : decode cX12_readsLabel 36 = .ok (.invokevirtual 158, 3) := by decide +kernel
theorem dX12_readsLabel_39 : decode cX12_readsLabel 39 = .ok (.iastore, 1) := by decide +kernel
theorem dX12_readsLabel_40 : decode cX12_readsLabel 40 = .ok (.aload_n 0, 1) := by decide +kernel
theorem dX12_readsLabel_41 : decode cX12_readsLabel 41 = .ok (.getfield 23, 3) := by decide +kernel
theorem dX12_readsLabel_44 : decode cX12_readsLabel 44 = .ok (.iload_n 2, 1) := by decide +kernel
theorem dX12_readsLabel_45 : decode cX12_readsLabel 45 = .ok (.iconst 1, 1) := by decide +kernel
theorem dX12_readsLabel_46 : decode cX12_readsLabel 46 = .ok (.iadd, 1) := by decide +kernel
theorem dX12_readsLabel_47 : decode cX12_readsLabel 47 = .ok (.aload_n 0, 1) := by decide +kernel
theorem dX12_readsLabel_48 : decode cX12_readsLabel 48 = .ok (.aload_n 0, 1) := by decide +kernel
theorem dX12_readsLabel_49 : decode cX12_readsLabel 49 = .ok (.getfield 23, 3) := by decide +kernel
theorem dX12_readsLabel_52 : decode cX12_readsLabel 52 = .ok (.iload_n 2, 1) := by decide +kernel
theorem dX12_readsLabel_53 : decode cX12_readsLabel 53 = .ok (.iaload, 1) := by decide +kernel
theorem dX12_readsLabel_54 : decode cX12_readsLabel 54 = .ok (.invokevirtual 158, 3) := by decide +kernel
theorem dX12_readsLabel_57 : decode cX12_readsLabel 57 = .ok (.iastore, 1) := by decide +kernel
theorem dX12_readsLabel_58 : decode cX12_readsLabel 58 = .ok (.aload_n 0, 1) := by decide +kernel
theorem dX12_readsLabel_59 : decode cX12_readsLabel 59 = .ok (.getfield 23, 3) := by decide +kernel
theorem dX12_readsLabel_62 : decode cX12_readsLabel 62 = .ok (.iload_n 2, 1) := by decide +kernel
theorem dX12_readsLabel_63 : decode cX12_readsLabel 63 = .ok (.iconst 2, 1) := by decide +kernel
theorem dX12_readsLabel_64 : decode cX12_readsLabel 64 = .ok (.iadd, 1) := by decide +kernel
theorem dX12_readsLabel_65 : decode cX12_readsLabel 65 = .ok (.aload_n 0, 1) := by decide +kernel
theorem dX12_readsLabel_66 : decode cX12_readsLabel 66 = .ok (.invokevirtual 183, 3) := by decide +kernel
theorem dX12_readsLabel_69 : decode cX12_readsLabel 69 = .ok (.iastore, 1) := by decide +kernel
theorem dX12_readsLabel_70 : decode cX12_readsLabel 70 = .ok (.aload_n 0, 1) := by decide +kernel
theorem dX12_readsLabel_71 : decode cX12_readsLabel 71 = .ok (.getfield 23, 3) := by decide +kernel
theorem dX12_readsLabel_74 : decode cX12_readsLabel 74 = .ok (.iload_n 2, 1) := by decide +kernel
theorem dX12_readsLabel_75 : decode cX12_readsLabel 75 = .ok (.iconst 3, 1) := by decide +kernel
theorem dX12_readsLabel_76 : decode cX12_readsLabel 76 = .ok (.iadd, 1) := by decide +kernel
theorem dX12_readsLabel_77 : decode cX12_readsLabel 77 = .ok (.aload_n 0, 1) := by decide +kernel
theorem dX12_readsLabel_78 : decode cX12_readsLabel 78 = .ok (.iconst 1, 1) := by decide +kernel
theorem dX12_readsLabel_79 : decode cX12_readsLabel 79 = .ok (.sipush 999, 3) := by decide +kernel
theorem dX12_readsLabel_82 : decode cX12_readsLabel 82 = .ok (.invokevirtual 146, 3) := by decide +kernel
theorem dX12_readsLabel_85 : decode cX12_readsLabel 85 = .ok (.iastore, 1) := by decide +kernel
theorem dX12_readsLabel_86 : decode cX12_readsLabel 86 = .ok (.aload_n 0, 1) := by decide +kernel
theorem dX12_readsLabel_87 : decode cX12_readsLabel 87 = .ok (.getfield 23, 3) := by decide +kernel
theorem dX12_readsLabel_90 : decode cX12_readsLabel 90 = .ok (.iconst 1, 1) := by decide +kernel
theorem dX12_readsLabel_91 : decode cX12_readsLabel 91 = .ok (.dup2, 1) := by decide +kernel
theorem dX12_readsLabel_92 : decode cX12_readsLabel 92 = .ok (.iaload, 1) := by decide +kernel
theorem dX12_readsLabel_93 : decode cX12_readsLabel 93 = .ok (.iconst 1, 1) := by decide +kernel
theorem dX12_readsLabel_94 : decode cX12_readsLabel 94 = .ok (.iadd, 1) := by decide +kernel
theorem dX12_readsLabel_95 : decode cX12_readsLabel 95 = .ok (.iastore, 1) := by decide +kernel
theorem dX12_readsLabel_96 : decode cX12_readsLabel 96 = .ok (.return_, 1) := by decide +kernel
theorem dX12_readsStatement_0 : decode cX12_readsStatement 0 = .ok (.aload_n 0, 1) := by decide +kernel
theorem dX12_readsStatement_1 : decode cX12_readsStatement 1 = .ok (.invokevirtual 122, 3) := by decide +kernel
theorem dX12_readsStatement_4 : decode cX12_readsStatement 4 = .ok (.istore_n 2, 1) := by decide +kernel
theorem dX12_readsStatement_5 : decode cX12_readsStatement 5 = .ok (.aload_n 0, 1) := by decide +kernel
theorem dX12_readsStatement_6 : decode cX12_readsStatement 6 = .ok (.getfield 112, 3) := by decide +kernel
theorem dX12_readsStatement_9 : decode cX12_readsStatement 9 = .ok (.istore_n 3, 1) := by decide +kernel
theorem dX12_readsStatement_10 : decode cX12_readsStatement 10 = .ok (.aload_n 0, 1) := by decide +kernel
theorem dX12_readsStatement_11 : decode cX12_readsStatement 11 = .ok (.ldc 186, 2) := by decide +kernel
theorem dX12_readsStatement_13 : decode cX12_readsStatement 13 = .ok (.invokevirtual 166, 3) := by decide +kernel
theorem dX12_readsStatement_16 : decode cX12_readsStatement 16 = .ok (.ifCond .eq 11, 3) := by decide +kernel
theorem dX12_readsStatement_19 : decode cX12_readsStatement 19 = .ok (.aload_n 0, 1) := by decide +kernel
theorem dX12_readsStatement_20 : decode cX12_readsStatement 20 = .ok (.iload_n 3, 1) := by decide +kernel
theorem dX12_readsStatement_21 : decode cX12_readsStatement 21 = .ok (.invokevirtual 187, 3) := by decide +kernel
theorem dX12_readsStatement_24 : decode cX12_readsStatement 24 = .ok (.goto 70, 3) := by decide +kernel
theorem dX12_readsStatement_27 : decode cX12_readsStatement 27 = .ok (.iload_n 1, 1) := by decide +kernel
theorem dX12_readsStatement_28 : decode cX12_readsStatement 28 = .ok (.ifCond .eq 11, 3) := by decide +kernel
theorem dX12_readsStatement_31 : decode cX12_readsStatement 31 = .ok (.aload_n 0, 1) := by decide +kernel
theorem dX12_readsStatement_32 : decode cX12_readsStatement 32 = .ok (.iload_n 3, 1) := by decide +kernel
theorem dX12_readsStatement_33 : decode cX12_readsStatement 33 = .ok (.invokevirtual 140, 3) := by decide +kernel
theorem dX12_readsStatement_36 : decode cX12_readsStatement 36 = .ok (.goto 58, 3) := by decide +kernel
theorem dX12_readsStatement_39 : decode cX12_readsStatement 39 = .ok (.aload_n 0, 1) := by decide +kernel
theorem dX12_readsStatement_40 : decode cX12_readsStatement 40 = .ok (.ldc 190, 2) := by decide +kernel
theorem dX12_readsStatement_42 : decode cX12_readsStatement 42 = .ok (.invokevirtual 166, 3) := by decide +kernel
theorem dX12_readsStatement_45 : decode cX12_readsStatement 45 = .ok (.ifCond .eq 10, 3) := by decide +kernel
theorem dX12_readsStatement_48 : decode cX12_readsStatement 48 = .ok (.aload_n 0, 1) := by decide +kernel
theorem dX12_readsStatement_49 : decode cX12_readsStatement 49 = .ok (.invokevirtual 192, 3) := by decide +kernel
theorem dX12_readsStatement_52 : decode cX12_readsStatement 52 = .ok (.goto 42, 3) := by decide +kernel
theorem dX12_readsStatement_55 : decode cX12_readsStatement 55 = .ok (.aload_n 0, 1) := by decide +kernel
theorem dX12_readsStatement_56 : decode cX12_readsStatement 56 = .ok (.ldc 195, 2) := by decide +kernel
theorem dX12_readsStatement_58 : decode cX12_readsStatement 58 = .ok (.invokevirtual 166, 3) := by decide +kernel
theorem dX12_readsStatement_61 : decode cX12_readsStatement 61 = .ok (.ifCond .eq 11, 3) := by decide +kernel
theorem dX12_readsStatement_64 : decode cX12_readsStatement 64 = .ok (.aload_n 0, 1) := by decide +kernel
theorem dX12_readsStatement_65 : decode cX12_readsStatement 65 = .ok (.iload_n 3, 1) := by decide +kernel
theorem dX12_readsStatement_66 : decode cX12_readsStatement 66 = .ok (.invokevirtual 197, 3) := by decide +kernel
theorem dX12_readsStatement_69 : decode cX12_readsStatement 69 = .ok (.goto 25, 3) := by decide +kernel
theorem dX12_readsStatement_72 : decode cX12_readsStatement 72 = .ok (.aload_n 0, 1) := by decide +kernel
theorem dX12_readsStatement_73 : decode cX12_readsStatement 73 = .ok (.ldc 200, 2) := by decide +kernel
theorem dX12_readsStatement_75 : decode cX12_readsStatement 75 = .ok (.invokevirtual 166, 3) := by decide +kernel
theorem dX12_readsStatement_78 : decode cX12_readsStatement 78 = .ok (.ifCond .eq 11, 3) := by decide +kernel
theorem dX12_readsStatement_81 : decode cX12_readsStatement 81 = .ok (.aload_n 0, 1) := by decide +kernel
theorem dX12_readsStatement_82 : decode cX12_readsStatement 82 = .ok (.iload_n 3, 1) := by decide +kernel
theorem dX12_readsStatement_83 : decode cX12_readsStatement 83 = .ok (.invokevirtual 202, 3) := by decide +kernel
theorem dX12_readsStatement_86 : decode cX12_readsStatement 86 = .ok (.goto 8, 3) := by decide +kernel
theorem dX12_readsStatement_89 : decode cX12_readsStatement 89 = .ok (.aload_n 0, 1) := by decide +kernel
theorem dX12_readsStatement_90 : decode cX12_readsStatement 90 = .ok (.iload_n 3, 1) := by decide +kernel
theorem dX12_readsStatement_91 : decode cX12_readsStatement 91 = .ok (.invokevirtual 140, 3) := by decide +kernel
theorem dX12_readsStatement_94 : decode cX12_readsStatement 94 = .ok (.return_, 1) := by decide +kernel
theorem dX12_readsText_0 : decode cX12_readsText 0 = .ok (.aload_n 0, 1) := by decide +kernel
theorem dX12_readsText_1 : decode cX12_readsText 1 = .ok (.iconst 0, 1) := by decide +kernel
theorem dX12_readsText_2 : decode cX12_readsText 2 = .ok (.putfield 105, 3) := by decide +kernel
theorem dX12_readsText_5 : decode cX12_readsText 5 = .ok (.aload_n 0, 1) := by decide +kernel
theorem dX12_readsText_6 : decode cX12_readsText 6 = .ok (.iconst (-1), 1) := by decide +kernel
theorem dX12_readsText_7 : decode cX12_readsText 7 = .ok (.putfield 115, 3) := by decide +kernel
theorem dX12_readsText_10 : decode cX12_readsText 10 = .ok (.aload_n 0, 1) := by decide +kernel
theorem dX12_readsText_11 : decode cX12_readsText 11 = .ok (.iconst 0, 1) := by decide +kernel
theorem dX12_readsText_12 : decode cX12_readsText 12 = .ok (.putfield 67, 3) := by decide +kernel
theorem dX12_readsText_15 : decode cX12_readsText 15 = .ok (.iconst 0, 1) := by decide +kernel
theorem dX12_readsText_16 : decode cX12_readsText 16 = .ok (.istore_n 1, 1) := by decide +kernel
theorem dX12_readsText_17 : decode cX12_readsText 17 = .ok (.iload_n 1, 1) := by decide +kernel
theorem dX12_readsText_18 : decode cX12_readsText 18 = .ok (.sipush 339, 3) := by decide +kernel
theorem dX12_readsText_21 : decode cX12_readsText 21 = .ok (.if_icmp .ge 16, 3) := by decide +kernel
theorem dX12_readsText_24 : decode cX12_readsText 24 = .ok (.aload_n 0, 1) := by decide +kernel
theorem dX12_readsText_25 : decode cX12_readsText 25 = .ok (.getfield 23, 3) := by decide +kernel
theorem dX12_readsText_28 : decode cX12_readsText 28 = .ok (.iload_n 1, 1) := by decide +kernel
theorem dX12_readsText_29 : decode cX12_readsText 29 = .ok (.iconst 0, 1) := by decide +kernel
theorem dX12_readsText_30 : decode cX12_readsText 30 = .ok (.iastore, 1) := by decide +kernel
theorem dX12_readsText_31 : decode cX12_readsText 31 = .ok (.iinc 1 1, 3) := by decide +kernel
theorem dX12_readsText_34 : decode cX12_readsText 34 = .ok (.goto (-17), 3) := by decide +kernel
theorem dX12_readsText_37 : decode cX12_readsText 37 = .ok (.aload_n 0, 1) := by decide +kernel
theorem dX12_readsText_38 : decode cX12_readsText 38 = .ok (.iconst 1, 1) := by decide +kernel
theorem dX12_readsText_39 : decode cX12_readsText 39 = .ok (.invokevirtual 205, 3) := by decide +kernel
theorem dX12_readsText_42 : decode cX12_readsText 42 = .ok (.aload_n 0, 1) := by decide +kernel
theorem dX12_readsText_43 : decode cX12_readsText 43 = .ok (.invokevirtual 118, 3) := by decide +kernel
theorem dX12_readsText_46 : decode cX12_readsText 46 = .ok (.ifCond .eq 30, 3) := by decide +kernel
theorem dX12_readsText_49 : decode cX12_readsText 49 = .ok (.aload_n 0, 1) := by decide +kernel
theorem dX12_readsText_50 : decode cX12_readsText 50 = .ok (.invokevirtual 122, 3) := by decide +kernel
theorem dX12_readsText_53 : decode cX12_readsText 53 = .ok (.bipush 59, 2) := by decide +kernel
theorem dX12_readsText_55 : decode cX12_readsText 55 = .ok (.if_icmp .ne 21, 3) := by decide +kernel
theorem dX12_readsText_58 : decode cX12_readsText 58 = .ok (.aload_n 0, 1) := by decide +kernel
theorem dX12_readsText_59 : decode cX12_readsText 59 = .ok (.dup, 1) := by decide +kernel
theorem dX12_readsText_60 : decode cX12_readsText 60 = .ok (.getfield 105, 3) := by decide +kernel
theorem dX12_readsText_63 : decode cX12_readsText 63 = .ok (.iconst 1, 1) := by decide +kernel
theorem dX12_readsText_64 : decode cX12_readsText 64 = .ok (.iadd, 1) := by decide +kernel
theorem dX12_readsText_65 : decode cX12_readsText 65 = .ok (.putfield 105, 3) := by decide +kernel
theorem dX12_readsText_68 : decode cX12_readsText 68 = .ok (.aload_n 0, 1) := by decide +kernel
theorem dX12_readsText_69 : decode cX12_readsText 69 = .ok (.iconst 0, 1) := by decide +kernel
theorem dX12_readsText_70 : decode cX12_readsText 70 = .ok (.invokevirtual 205, 3) := by decide +kernel
theorem dX12_readsText_73 : decode cX12_readsText 73 = .ok (.goto (-31), 3) := by decide +kernel
theorem dX12_readsText_76 : decode cX12_readsText 76 = .ok (.aload_n 0, 1) := by decide +kernel
theorem dX12_readsText_77 : decode cX12_readsText 77 = .ok (.invokevirtual 118, 3) := by decide +kernel
theorem dX12_readsText_80 : decode cX12_readsText 80 = .ok (.ifCond .eq 18, 3) := by decide +kernel
theorem dX12_readsText_83 : decode cX12_readsText 83 = .ok (.aload_n 0, 1) := by decide +kernel
theorem dX12_readsText_84 : decode cX12_readsText 84 = .ok (.invokevirtual 122, 3) := by decide +kernel
theorem dX12_readsText_87 : decode cX12_readsText 87 = .ok (.ifCond .lt 11, 3) := by decide +kernel
theorem dX12_readsText_90 : decode cX12_readsText 90 = .ok (.aload_n 0, 1) := by decide +kernel
theorem dX12_readsText_91 : decode cX12_readsText 91 = .ok (.aload_n 0, 1) := by decide +kernel
theorem dX12_readsText_92 : decode cX12_readsText 92 = .ok (.getfield 112, 3) := by decide +kernel
theorem dX12_readsText_95 : decode cX12_readsText 95 = .ok (.invokevirtual 140, 3) := by decide +kernel
theorem dX12_readsText_98 : decode cX12_readsText 98 = .ok (.aload_n 0, 1) := by decide +kernel
theorem dX12_readsText_99 : decode cX12_readsText 99 = .ok (.getfield 115, 3) := by decide +kernel
theorem dX12_readsText_102 : decode cX12_readsText 102 = .ok (.ifCond .ge 7, 3) := by decide +kernel
theorem dX12_readsText_105 : decode cX12_readsText 105 = .ok (.iconst (-1), 1) := by decide +kernel
theorem dX12_readsText_106 : decode cX12_readsText 106 = .ok (.goto 7, 3) := by decide +kernel
theorem dX12_readsText_109 : decode cX12_readsText 109 = .ok (.aload_n 0, 1) := by decide +kernel
theorem dX12_readsText_110 : decode cX12_readsText 110 = .ok (.getfield 115, 3) := by decide +kernel
theorem dX12_readsText_113 : decode cX12_readsText 113 = .ok (.ireturn, 1) := by decide +kernel
theorem dX12_errorPosition_0 : decode cX12_errorPosition 0 = .ok (.aload_n 0, 1) := by decide +kernel
theorem dX12_errorPosition_1 : decode cX12_errorPosition 1 = .ok (.iconst 0, 1) := by decide +kernel
theorem dX12_errorPosition_2 : decode cX12_errorPosition 2 = .ok (.putfield 3, 3) := by decide +kernel
theorem dX12_errorPosition_5 : decode cX12_errorPosition 5 = .ok (.aload_n 0, 1) := by decide +kernel
theorem dX12_errorPosition_6 : decode cX12_errorPosition 6 = .ok (.invokevirtual 209, 3) := by decide +kernel
theorem dX12_errorPosition_9 : decode cX12_errorPosition 9 = .ok (.ireturn, 1) := by decide +kernel
