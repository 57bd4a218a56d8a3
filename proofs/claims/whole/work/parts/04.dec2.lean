theorem dX12_load_0 : decode cX12_load 0 = .ok (.aload_n 0, 1) := by decide +kernel
theorem dX12_load_1 : decode cX12_load 1 = .ok (.iconst 0, 1) := by decide +kernel
theorem dX12_load_2 : decode cX12_load 2 = .ok (.putfield 3, 3) := by decide +kernel
theorem dX12_load_5 : decode cX12_load 5 = .ok (.aload_n 0, 1) := by decide +kernel
theorem dX12_load_6 : decode cX12_load 6 = .ok (.invokevirtual 209, 3) := by decide +kernel
theorem dX12_load_9 : decode cX12_load 9 = .ok (.iconst (-1), 1) := by decide +kernel
theorem dX12_load_10 : decode cX12_load 10 = .ok (.if_icmp .eq 9, 3) := by decide +kernel
theorem dX12_load_13 : decode cX12_load 13 = .ok (.aload_n 0, 1) := by decide +kernel
theorem dX12_load_14 : decode cX12_load 14 = .ok (.iconst 1, 1) := by decide +kernel
theorem dX12_load_15 : decode cX12_load 15 = .ok (.invokevirtual 94, 3) := by decide +kernel
theorem dX12_load_18 : decode cX12_load 18 = .ok (.ireturn, 1) := by decide +kernel
theorem dX12_load_19 : decode cX12_load 19 = .ok (.aload_n 0, 1) := by decide +kernel
theorem dX12_load_20 : decode cX12_load 20 = .ok (.iconst 0, 1) := by decide +kernel
theorem dX12_load_21 : decode cX12_load 21 = .ok (.putfield 87, 3) := by decide +kernel
theorem dX12_load_24 : decode cX12_load 24 = .ok (.aload_n 0, 1) := by decide +kernel
theorem dX12_load_25 : decode cX12_load 25 = .ok (.invokevirtual 70, 3) := by decide +kernel
theorem dX12_load_28 : decode cX12_load 28 = .ok (.aload_n 0, 1) := by decide +kernel
theorem dX12_load_29 : decode cX12_load 29 = .ok (.invokevirtual 212, 3) := by decide +kernel
theorem dX12_load_32 : decode cX12_load 32 = .ok (.ireturn, 1) := by decide +kernel
theorem dX12_leaves_0 : decode cX12_leaves 0 = .ok (.iconst 0, 1) := by decide +kernel
theorem dX12_leaves_1 : decode cX12_leaves 1 = .ok (.istore_n 1, 1) := by decide +kernel
theorem dX12_leaves_2 : decode cX12_leaves 2 = .ok (.iconst 0, 1) := by decide +kernel
theorem dX12_leaves_3 : decode cX12_leaves 3 = .ok (.istore_n 2, 1) := by decide +kernel
theorem dX12_leaves_4 : decode cX12_leaves 4 = .ok (.iload_n 2, 1) := by decide +kernel
theorem dX12_leaves_5 : decode cX12_leaves 5 = .ok (.aload_n 0, 1) := by decide +kernel
theorem dX12_leaves_6 : decode cX12_leaves 6 = .ok (.getfield 73, 3) := by decide +kernel
theorem dX12_leaves_9 : decode cX12_leaves 9 = .ok (.if_icmp .ge 18, 3) := by decide +kernel
theorem dX12_leaves_12 : decode cX12_leaves 12 = .ok (.iload_n 1, 1) := by decide +kernel
theorem dX12_leaves_13 : decode cX12_leaves 13 = .ok (.aload_n 0, 1) := by decide +kernel
theorem dX12_leaves_14 : decode cX12_leaves 14 = .ok (.getfield 13, 3) := by decide +kernel
theorem dX12_leaves_17 : decode cX12_leaves 17 = .ok (.iload_n 2, 1) := by decide +kernel
theorem dX12_leaves_18 : decode cX12_leaves 18 = .ok (.iaload, 1) := by decide +kernel
theorem dX12_leaves_19 : decode cX12_leaves 19 = .ok (.iadd, 1) := by decide +kernel
theorem dX12_leaves_20 : decode cX12_leaves 20 = .ok (.istore_n 1, 1) := by decide +kernel
theorem dX12_leaves_21 : decode cX12_leaves 21 = .ok (.iinc 2 1, 3) := by decide +kernel
theorem dX12_leaves_24 : decode cX12_leaves 24 = .ok (.goto (-20), 3) := by decide +kernel
theorem dX12_leaves_27 : decode cX12_leaves 27 = .ok (.iload_n 1, 1) := by decide +kernel
theorem dX12_leaves_28 : decode cX12_leaves 28 = .ok (.ireturn, 1) := by decide +kernel
theorem dX12_isLeaf_0 : decode cX12_isLeaf 0 = .ok (.iload_n 1, 1) := by decide +kernel
theorem dX12_isLeaf_1 : decode cX12_isLeaf 1 = .ok (.i2l, 1) := by decide +kernel
theorem dX12_isLeaf_2 : decode cX12_isLeaf 2 = .ok (.lconst 0, 1) := by decide +kernel
theorem dX12_isLeaf_3 : decode cX12_isLeaf 3 = .ok (.aload_n 0, 1) := by decide +kernel
theorem dX12_isLeaf_4 : decode cX12_isLeaf 4 = .ok (.invokevirtual 212, 3) := by decide +kernel
theorem dX12_isLeaf_7 : decode cX12_isLeaf 7 = .ok (.iconst 1, 1) := by decide +kernel
theorem dX12_isLeaf_8 : decode cX12_isLeaf 8 = .ok (.isub, 1) := by decide +kernel
theorem dX12_isLeaf_9 : decode cX12_isLeaf 9 = .ok (.i2l, 1) := by decide +kernel
theorem dX12_isLeaf_10 : decode cX12_isLeaf 10 = .ok (.invokestatic 101, 3) := by decide +kernel
theorem dX12_isLeaf_13 : decode cX12_isLeaf 13 = .ok (.ireturn, 1) := by decide +kernel
theorem dX12_isPresent_0 : decode cX12_isPresent 0 = .ok (.aload_n 0, 1) := by decide +kernel
theorem dX12_isPresent_1 : decode cX12_isPresent 1 = .ok (.getfield 20, 3) := by decide +kernel
theorem dX12_isPresent_4 : decode cX12_isPresent 4 = .ok (.sipush 279, 3) := by decide +kernel
theorem dX12_isPresent_7 : decode cX12_isPresent 7 = .ok (.iload_n 1, 1) := by decide +kernel
theorem dX12_isPresent_8 : decode cX12_isPresent 8 = .ok (.iadd, 1) := by decide +kernel
theorem dX12_isPresent_9 : decode cX12_isPresent 9 = .ok (.iaload, 1) := by decide +kernel
theorem dX12_isPresent_10 : decode cX12_isPresent 10 = .ok (.ifCond .ne 7, 3) := by decide +kernel
theorem dX12_isPresent_13 : decode cX12_isPresent 13 = .ok (.iconst 1, 1) := by decide +kernel
theorem dX12_isPresent_14 : decode cX12_isPresent 14 = .ok (.goto 4, 3) := by decide +kernel
theorem dX12_isPresent_17 : decode cX12_isPresent 17 = .ok (.iconst 0, 1) := by decide +kernel
theorem dX12_isPresent_18 : decode cX12_isPresent 18 = .ok (.ireturn, 1) := by decide +kernel
theorem dX12_present_0 : decode cX12_present 0 = .ok (.iconst 0, 1) := by decide +kernel
theorem dX12_present_1 : decode cX12_present 1 = .ok (.istore_n 1, 1) := by decide +kernel
theorem dX12_present_2 : decode cX12_present 2 = .ok (.iconst 0, 1) := by decide +kernel
theorem dX12_present_3 : decode cX12_present 3 = .ok (.istore_n 2, 1) := by decide +kernel
theorem dX12_present_4 : decode cX12_present 4 = .ok (.iload_n 2, 1) := by decide +kernel
theorem dX12_present_5 : decode cX12_present 5 = .ok (.aload_n 0, 1) := by decide +kernel
theorem dX12_present_6 : decode cX12_present 6 = .ok (.invokevirtual 212, 3) := by decide +kernel
theorem dX12_present_9 : decode cX12_present 9 = .ok (.if_icmp .ge 25, 3) := by decide +kernel
theorem dX12_present_12 : decode cX12_present 12 = .ok (.iload_n 1, 1) := by decide +kernel
theorem dX12_present_13 : decode cX12_present 13 = .ok (.aload_n 0, 1) := by decide +kernel
theorem dX12_present_14 : decode cX12_present 14 = .ok (.iload_n 2, 1) := by decide +kernel
theorem dX12_present_15 : decode cX12_present 15 = .ok (.invokevirtual 215, 3) := by decide +kernel
theorem dX12_present_18 : decode cX12_present 18 = .ok (.ifCond .eq 7, 3) := by decide +kernel
theorem dX12_present_21 : decode cX12_present 21 = .ok (.iconst 1, 1) := by decide +kernel
theorem dX12_present_22 : decode cX12_present 22 = .ok (.goto 4, 3) := by decide +kernel
theorem dX12_present_25 : decode cX12_present 25 = .ok (.iconst 0, 1) := by decide +kernel
theorem dX12_present_26 : decode cX12_present 26 = .ok (.iadd, 1) := by decide +kernel
theorem dX12_present_27 : decode cX12_present 27 = .ok (.istore_n 1, 1) := by decide +kernel
theorem dX12_present_28 : decode cX12_present 28 = .ok (.iinc 2 1, 3) := by decide +kernel
theorem dX12_present_31 : decode cX12_present 31 = .ok (.goto (-27), 3) := by decide +kernel
theorem dX12_present_34 : decode cX12_present 34 = .ok (.iload_n 1, 1) := by decide +kernel
theorem dX12_present_35 : decode cX12_present 35 = .ok (.ireturn, 1) := by decide +kernel
theorem dX12_isSlip_0 : decode cX12_isSlip 0 = .ok (.iload_n 1, 1) := by decide +kernel
theorem dX12_isSlip_1 : decode cX12_isSlip 1 = .ok (.i2l, 1) := by decide +kernel
theorem dX12_isSlip_2 : decode cX12_isSlip 2 = .ok (.lconst 0, 1) := by decide +kernel
theorem dX12_isSlip_3 : decode cX12_isSlip 3 = .ok (.aload_n 0, 1) := by decide +kernel
theorem dX12_isSlip_4 : decode cX12_isSlip 4 = .ok (.getfield 20, 3) := by decide +kernel
theorem dX12_isSlip_7 : decode cX12_isSlip 7 = .ok (.iconst 0, 1) := by decide +kernel
theorem dX12_isSlip_8 : decode cX12_isSlip 8 = .ok (.iaload, 1) := by decide +kernel
theorem dX12_isSlip_9 : decode cX12_isSlip 9 = .ok (.iconst 1, 1) := by decide +kernel
theorem dX12_isSlip_10 : decode cX12_isSlip 10 = .ok (.isub, 1) := by decide +kernel
theorem dX12_isSlip_11 : decode cX12_isSlip 11 = .ok (.i2l, 1) := by decide +kernel
theorem dX12_isSlip_12 : decode cX12_isSlip 12 = .ok (.invokestatic 101, 3) := by decide +kernel
theorem dX12_isSlip_15 : decode cX12_isSlip 15 = .ok (.ireturn, 1) := by decide +kernel
theorem dX12_ofSlip_0 : decode cX12_ofSlip 0 = .ok (.aload_n 0, 1) := by decide +kernel
theorem dX12_ofSlip_1 : decode cX12_ofSlip 1 = .ok (.getfield 20, 3) := by decide +kernel
theorem dX12_ofSlip_4 : decode cX12_ofSlip 4 = .ok (.iconst 5, 1) := by decide +kernel
theorem dX12_ofSlip_5 : decode cX12_ofSlip 5 = .ok (.iconst 3, 1) := by decide +kernel
theorem dX12_ofSlip_6 : decode cX12_ofSlip 6 = .ok (.iload_n 1, 1) := by decide +kernel
theorem dX12_ofSlip_7 : decode cX12_ofSlip 7 = .ok (.imul, 1) := by decide +kernel
theorem dX12_ofSlip_8 : decode cX12_ofSlip 8 = .ok (.iadd, 1) := by decide +kernel
theorem dX12_ofSlip_9 : decode cX12_ofSlip 9 = .ok (.iload_n 2, 1) := by decide +kernel
theorem dX12_ofSlip_10 : decode cX12_ofSlip 10 = .ok (.iadd, 1) := by decide +kernel
theorem dX12_ofSlip_11 : decode cX12_ofSlip 11 = .ok (.iaload, 1) := by decide +kernel
theorem dX12_ofSlip_12 : decode cX12_ofSlip 12 = .ok (.ireturn, 1) := by decide +kernel
theorem dX12_isAttached_0 : decode cX12_isAttached 0 = .ok (.aload_n 0, 1) := by decide +kernel
theorem dX12_isAttached_1 : decode cX12_isAttached 1 = .ok (.iload_n 1, 1) := by decide +kernel
theorem dX12_isAttached_2 : decode cX12_isAttached 2 = .ok (.iconst 0, 1) := by decide +kernel
theorem dX12_isAttached_3 : decode cX12_isAttached 3 = .ok (.invokevirtual 218, 3) := by decide +kernel
theorem dX12_isAttached_6 : decode cX12_isAttached 6 = .ok (.iconst (-1), 1) := by decide +kernel
theorem dX12_isAttached_7 : decode cX12_isAttached 7 = .ok (.if_icmp .eq 7, 3) := by decide +kernel
theorem dX12_isAttached_10 : decode cX12_isAttached 10 = .ok (.iconst 1, 1) := by decide +kernel
theorem dX12_isAttached_11 : decode cX12_isAttached 11 = .ok (.goto 4, 3) := by decide +kernel
theorem dX12_isAttached_14 : decode cX12_isAttached 14 = .ok (.iconst 0, 1) := by decide +kernel
theorem dX12_isAttached_15 : decode cX12_isAttached 15 = .ok (.ireturn, 1) := by decide +kernel
theorem dX12_isOn_0 : decode cX12_isOn 0 = .ok (.aload_n 0, 1) := by decide +kernel
theorem dX12_isOn_1 : decode cX12_isOn 1 = .ok (.iload_n 1, 1) := by decide +kernel
theorem dX12_isOn_2 : decode cX12_isOn 2 = .ok (.iconst 0, 1) := by decide +kernel
theorem dX12_isOn_3 : decode cX12_isOn 3 = .ok (.invokevirtual 218, 3) := by decide +kernel
theorem dX12_isOn_6 : decode cX12_isOn 6 = .ok (.iload_n 2, 1) := by decide +kernel
theorem dX12_isOn_7 : decode cX12_isOn 7 = .ok (.if_icmp .ne 17, 3) := by decide +kernel
theorem dX12_isOn_10 : decode cX12_isOn 10 = .ok (.aload_n 0, 1) := by decide +kernel
theorem dX12_isOn_11 : decode cX12_isOn 11 = .ok (.iload_n 1, 1) := by decide +kernel
theorem dX12_isOn_12 : decode cX12_isOn 12 = .ok (.iconst 1, 1) := by decide +kernel
theorem dX12_isOn_13 : decode cX12_isOn 13 = .ok (.invokevirtual 218, 3) := by decide +kernel
theorem dX12_isOn_16 : decode cX12_isOn 16 = .ok (.iload_n 3, 1) := by decide +kernel
theorem dX12_isOn_17 : decode cX12_isOn 17 = .ok (.if_icmp .ne 7, 3) := by decide +kernel
theorem dX12_isOn_20 : decode cX12_isOn 20 = .ok (.iconst 1, 1) := by decide +kernel
theorem dX12_isOn_21 : decode cX12_isOn 21 = .ok (.goto 4, 3) := by decide +kernel
theorem dX12_isOn_24 : decode cX12_isOn 24 = .ok (.iconst 0, 1) := by decide +kernel
theorem dX12_isOn_25 : decode cX12_isOn 25 = .ok (.ireturn, 1) := by decide +kernel
theorem dX12_slipsOn_0 : decode cX12_slipsOn 0 = .ok (.iconst 0, 1) := by decide +kernel
theorem dX12_slipsOn_1 : decode cX12_slipsOn 1 = .ok (.istore 4, 2) := by decide +kernel
theorem dX12_slipsOn_3 : decode cX12_slipsOn 3 = .ok (.iconst 0, 1) := by decide +kernel
theorem dX12_slipsOn_4 : decode cX12_slipsOn 4 = .ok (.istore 5, 2) := by decide +kernel
theorem dX12_slipsOn_6 : decode cX12_slipsOn 6 = .ok (.iload 5, 2) := by decide +kernel
theorem dX12_slipsOn_8 : decode cX12_slipsOn 8 = .ok (.iload_n 3, 1) := by decide +kernel
theorem dX12_slipsOn_9 : decode cX12_slipsOn 9 = .ok (.if_icmp .ge 30, 3) := by decide +kernel
theorem dX12_slipsOn_12 : decode cX12_slipsOn 12 = .ok (.iload 4, 2) := by decide +kernel
theorem dX12_slipsOn_14 : decode cX12_slipsOn 14 = .ok (.aload_n 0, 1) := by decide +kernel
theorem dX12_slipsOn_15 : decode cX12_slipsOn 15 = .ok (.iload 5, 2) := by decide +kernel
theorem dX12_slipsOn_17 : decode cX12_slipsOn 17 = .ok (.iload_n 1, 1) := by decide +kernel
theorem dX12_slipsOn_18 : decode cX12_slipsOn 18 = .ok (.iload_n 2, 1) := by decide +kernel
theorem dX12_slipsOn_19 : decode cX12_slipsOn 19 = .ok (.invokevirtual 221, 3) := by decide +kernel
theorem dX12_slipsOn_22 : decode cX12_slipsOn 22 = .ok (.ifCond .eq 7, 3) := by decide +kernel
theorem dX12_slipsOn_25 : decode cX12_slipsOn 25 = .ok (.iconst 1, 1) := by decide +kernel
theorem dX12_slipsOn_26 : decode cX12_slipsOn 26 = .ok (.goto 4, 3) := by decide +kernel
theorem dX12_slipsOn_29 : decode cX12_slipsOn 29 = .ok (.iconst 0, 1) := by decide +kernel
theorem dX12_slipsOn_30 : decode cX12_slipsOn 30 = .ok (.iadd, 1) := by decide +kernel
theorem dX12_slipsOn_31 : decode cX12_slipsOn 31 = .ok (.istore 4, 2) := by decide +kernel
theorem dX12_slipsOn_33 : decode cX12_slipsOn 33 = .ok (.iinc 5 1, 3) := by decide +kernel
theorem dX12_slipsOn_36 : decode cX12_slipsOn 36 = .ok (.goto (-30), 3) := by decide +kernel
theorem dX12_slipsOn_39 : decode cX12_slipsOn 39 = .ok (.iload 4, 2) := by decide +kernel
theorem dX12_slipsOn_41 : decode cX12_slipsOn 41 = .ok (.ireturn, 1) := by decide +kernel
theorem dX12_allOn_0 : decode cX12_allOn 0 = .ok (.aload_n 0, 1) := by decide +kernel
theorem dX12_allOn_1 : decode cX12_allOn 1 = .ok (.iload_n 1, 1) := by decide +kernel
theorem dX12_allOn_2 : decode cX12_allOn 2 = .ok (.iload_n 2, 1) := by decide +kernel
theorem dX12_allOn_3 : decode cX12_allOn 3 = .ok (.aload_n 0, 1) := by decide +kernel
theorem dX12_allOn_4 : decode cX12_allOn 4 = .ok (.getfield 20, 3) := by decide +kernel
theorem dX12_allOn_7 : decode cX12_allOn 7 = .ok (.iconst 0, 1) := by decide +kernel
theorem dX12_allOn_8 : decode cX12_allOn 8 = .ok (.iaload, 1) := by decide +kernel
theorem dX12_allOn_9 : decode cX12_allOn 9 = .ok (.invokevirtual 225, 3) := by decide +kernel
theorem dX12_allOn_12 : decode cX12_allOn 12 = .ok (.ireturn, 1) := by decide +kernel
theorem dX12_attached_0 : decode cX12_attached 0 = .ok (.iconst 0, 1) := by decide +kernel
theorem dX12_attached_1 : decode cX12_attached 1 = .ok (.istore_n 1, 1) := by decide +kernel
theorem dX12_attached_2 : decode cX12_attached 2 = .ok (.iconst 0, 1) := by decide +kernel
theorem dX12_attached_3 : decode cX12_attached 3 = .ok (.istore_n 2, 1) := by decide +kernel
theorem dX12_attached_4 : decode cX12_attached 4 = .ok (.iload_n 2, 1) := by decide +kernel
theorem dX12_attached_5 : decode cX12_attached 5 = .ok (.aload_n 0, 1) := by decide +kernel
theorem dX12_attached_6 : decode cX12_attached 6 = .ok (.getfield 20, 3) := by decide +kernel
theorem dX12_attached_9 : decode cX12_attached 9 = .ok (.iconst 0, 1) := by decide +kernel
theorem dX12_attached_10 : decode cX12_attached 10 = .ok (.iaload, 1) := by decide +kernel
theorem dX12_attached_11 : decode cX12_attached 11 = .ok (.if_icmp .ge 25, 3) := by decide +kernel
theorem dX12_attached_14 : decode cX12_attached 14 = .ok (.iload_n 1, 1) := by decide +kernel
theorem dX12_attached_15 : decode cX12_attached 15 = .ok (.aload_n 0, 1) := by decide +kernel
theorem dX12_attached_16 : decode cX12_attached 16 = .ok (.iload_n 2, 1) := by decide +kernel
theorem dX12_attached_17 : decode cX12_attached 17 = .ok (.invokevirtual 229, 3) := by decide +kernel
theorem dX12_attached_20 : decode cX12_attached 20 = .ok (.ifCond .eq 7, 3) := by decide +kernel
theorem dX12_attached_23 : decode cX12_attached 23 = .ok (.iconst 1, 1) := by decide +kernel
theorem dX12_attached_24 : decode cX12_attached 24 = .ok (.goto 4, 3) := by decide +kernel
theorem dX12_attached_27 : decode cX12_attached 27 = .ok (.iconst 0, 1) := by decide +kernel
theorem dX12_attached_28 : decode cX12_attached 28 = .ok (.iadd, 1) := by decide +kernel
theorem dX12_attached_29 : decode cX12_attached 29 = .ok (.istore_n 1, 1) := by decide +kernel
theorem dX12_attached_30 : decode cX12_attached 30 = .ok (.iinc 2 1, 3) := by decide +kernel
theorem dX12_attached_33 : decode cX12_attached 33 = .ok (.goto (-29), 3) := by decide +kernel
theorem dX12_attached_36 : decode cX12_attached 36 = .ok (.iload_n 1, 1) := by decide +kernel
theorem dX12_attached_37 : decode cX12_attached 37 = .ok (.ireturn, 1) := by decide +kernel
theorem dX12_isSide_0 : decode cX12_isSide 0 = .ok (.iload_n 0, 1) := by decide +kernel
theorem dX12_isSide_1 : decode cX12_isSide 1 = .ok (.ifCond .eq 8, 3) := by decide +kernel
theorem dX12_isSide_4 : decode cX12_isSide 4 = .ok (.iload_n 0, 1) := by decide +kernel
theorem dX12_isSide_5 : decode cX12_isSide 5 = .ok (.iconst 1, 1) := by decide +kernel
theorem dX12_isSide_6 : decode cX12_isSide 6 = .ok (.if_icmp .ne 7, 3) := by decide +kernel
theorem dX12_isSide_9 : decode cX12_isSide 9 = .ok (.iconst 1, 1) := by decide +kernel
theorem dX12_isSide_10 : decode cX12_isSide 10 = .ok (.goto 4, 3) := by decide +kernel
theorem dX12_isSide_13 : decode cX12_isSide 13 = .ok (.iconst 0, 1) := by decide +kernel
theorem dX12_isSide_14 : decode cX12_isSide 14 = .ok (.ireturn, 1) := by decide +kernel
theorem dX12_comes_0 : decode cX12_comes 0 = .ok (.aload_n 0, 1) := by decide +kernel
theorem dX12_comes_1 : decode cX12_comes 1 = .ok (.getfield 36, 3) := by decide +kernel
theorem dX12_comes_4 : decode cX12_comes 4 = .ok (.iconst 4, 1) := by decide +kernel
theorem dX12_comes_5 : decode cX12_comes 5 = .ok (.aload_n 0, 1) := by decide +kernel
theorem dX12_comes_6 : decode cX12_comes 6 = .ok (.getfield 232, 3) := by decide +kernel
theorem dX12_comes_9 : decode cX12_comes 9 = .ok (.imul, 1) := by decide +kernel
theorem dX12_comes_10 : decode cX12_comes 10 = .ok (.iload_n 1, 1) := by decide +kernel
theorem dX12_comes_11 : decode cX12_comes 11 = .ok (.iastore, 1) := by decide +kernel
theorem dX12_comes_12 : decode cX12_comes 12 = .ok (.aload_n 0, 1) := by decide +kernel
theorem dX12_comes_13 : decode cX12_comes 13 = .ok (.getfield 36, 3) := by decide +kernel
theorem dX12_comes_16 : decode cX12_comes 16 = .ok (.iconst 4, 1) := by decide +kernel
theorem dX12_comes_17 : decode cX12_comes 17 = .ok (.aload_n 0, 1) := by decide +kernel
theorem dX12_comes_18 : decode cX12_comes 18 = .ok (.getfield 232, 3) := by decide +kernel
theorem dX12_comes_21 : decode cX12_comes 21 = .ok (.imul, 1) := by decide +kernel
theorem dX12_comes_22 : decode cX12_comes 22 = .ok (.iconst 1, 1) := by decide +kernel
theorem dX12_comes_23 : decode cX12_comes 23 = .ok (.iadd, 1) := by decide +kernel
theorem dX12_comes_24 : decode cX12_comes 24 = .ok (.iload_n 2, 1) := by decide +kernel
theorem dX12_comes_25 : decode cX12_comes 25 = .ok (.iastore, 1) := by decide +kernel
theorem dX12_comes_26 : decode cX12_comes 26 = .ok (.aload_n 0, 1) := by decide +kernel
theorem dX12_comes_27 : decode cX12_comes 27 = .ok (.getfield 36, 3) := by decide +kernel
theorem dX12_comes_30 : decode cX12_comes 30 = .ok (.iconst 4, 1) := by decide +kernel
theorem dX12_comes_31 : decode cX12_comes 31 = .ok (.aload_n 0, 1) := by decide +kernel
theorem dX12_comes_32 : decode cX12_comes 32 = .ok (.getfield 232, 3) := by decide +kernel
theorem dX12_comes_35 : decode cX12_comes 35 = .ok (.imul, 1) := by decide +kernel
theorem dX12_comes_36 : decode cX12_comes 36 = .ok (.iconst 2, 1) := by decide +kernel
theorem dX12_comes_37 : decode cX12_comes 37 = .ok (.iadd, 1) := by decide +kernel
theorem dX12_comes_38 : decode cX12_comes 38 = .ok (.iload_n 3, 1) := by decide +kernel
theorem dX12_comes_39 : decode cX12_comes 39 = .ok (.iastore, 1) := by decide +kernel
theorem dX12_comes_40 : decode cX12_comes 40 = .ok (.aload_n 0, 1) := by decide +kernel
theorem dX12_comes_41 : decode cX12_comes 41 = .ok (.getfield 36, 3) := by decide +kernel
theorem dX12_comes_44 : decode cX12_comes 44 = .ok (.iconst 4, 1) := by decide +kernel
theorem dX12_comes_45 : decode cX12_comes 45 = .ok (.aload_n 0, 1) := by decide +kernel
theorem dX12_comes_46 : decode cX12_comes 46 = .ok (.getfield 232, 3) := by decide +kernel
theorem dX12_comes_49 : decode cX12_comes 49 = .ok (.imul, 1) := by decide +kernel
theorem dX12_comes_50 : decode cX12_comes 50 = .ok (.iconst 3, 1) := by decide +kernel
theorem dX12_comes_51 : decode cX12_comes 51 = .ok (.iadd, 1) := by decide +kernel
theorem dX12_comes_52 : decode cX12_comes 52 = .ok (.iload 4, 2) := by decide +kernel
theorem dX12_comes_54 : decode cX12_comes 54 = .ok (.iastore, 1) := by decide +kernel
theorem dX12_comes_55 : decode cX12_comes 55 = .ok (.aload_n 0, 1) := by decide +kernel
theorem dX12_comes_56 : decode cX12_comes 56 = .ok (.dup, 1) := by decide +kernel
theorem dX12_comes_57 : decode cX12_comes 57 = .ok (.getfield 232, 3) := by decide +kernel
theorem dX12_comes_60 : decode cX12_comes 60 = .ok (.iconst 1, 1) := by decide +kernel
theorem dX12_comes_61 : decode cX12_comes 61 = .ok (.iadd, 1) := by decide +kernel
theorem dX12_comes_62 : decode cX12_comes 62 = .ok (.putfield 232, 3) := by decide +kernel
theorem dX12_comes_65 : decode cX12_comes 65 = .ok (.return_, 1) := by decide +kernel
theorem dX12_laysOrder_0 : decode cX12_laysOrder 0 = .ok (.aload_n 0, 1) := by decide +kernel
theorem dX12_laysOrder_1 : decode cX12_laysOrder 1 = .ok (.iconst 0, 1) := by decide +kernel
theorem dX12_laysOrder_2 : decode cX12_laysOrder 2 = .ok (.putfield 232, 3) := by decide +kernel
theorem dX12_laysOrder_5 : decode cX12_laysOrder 5 = .ok (.iconst 0, 1) := by decide +kernel
theorem dX12_laysOrder_6 : decode cX12_laysOrder 6 = .ok (.istore_n 1, 1) := by decide +kernel
theorem dX12_laysOrder_7 : decode cX12_laysOrder 7 = .ok (.iload_n 1, 1) := by decide +kernel
theorem dX12_laysOrder_8 : decode cX12_laysOrder 8 = .ok (.iconst 2, 1) := by decide +kernel
theorem dX12_laysOrder_9 : decode cX12_laysOrder 9 = .ok (.aload_n 0, 1) := by decide +kernel
theorem dX12_laysOrder_10 : decode cX12_laysOrder 10 = .ok (.invokevirtual 212, 3) := by decide +kernel
theorem dX12_laysOrder_13 : decode cX12_laysOrder 13 = .ok (.imul, 1) := by decide +kernel
theorem dX12_laysOrder_14 : decode cX12_laysOrder 14 = .ok (.if_icmp .ge 96, 3) := by decide +kernel
theorem dX12_laysOrder_17 : decode cX12_laysOrder 17 = .ok (.aload_n 0, 1) := by decide +kernel
theorem dX12_laysOrder_18 : decode cX12_laysOrder 18 = .ok (.iload_n 1, 1) := by decide +kernel
theorem dX12_laysOrder_19 : decode cX12_laysOrder 19 = .ok (.iconst 2, 1) := by decide +kernel
theorem dX12_laysOrder_20 : decode cX12_laysOrder 20 = .ok (.idiv, 1) := by decide +kernel
theorem dX12_laysOrder_21 : decode cX12_laysOrder 21 = .ok (.invokevirtual 215, 3) := by decide +kernel
theorem dX12_laysOrder_24 : decode cX12_laysOrder 24 = .ok (.ifCond .ne 6, 3) := by decide +kernel
theorem dX12_laysOrder_27 : decode cX12_laysOrder 27 = .ok (.goto 77, 3) := by decide +kernel
theorem dX12_laysOrder_30 : decode cX12_laysOrder 30 = .ok (.aload_n 0, 1) := by decide +kernel
theorem dX12_laysOrder_31 : decode cX12_laysOrder 31 = .ok (.iload_n 1, 1) := by decide +kernel
theorem dX12_laysOrder_32 : decode cX12_laysOrder 32 = .ok (.iconst 2, 1) := by decide +kernel
theorem dX12_laysOrder_33 : decode cX12_laysOrder 33 = .ok (.idiv, 1) := by decide +kernel
theorem dX12_laysOrder_34 : decode cX12_laysOrder 34 = .ok (.iload_n 1, 1) := by decide +kernel
theorem dX12_laysOrder_35 : decode cX12_laysOrder 35 = .ok (.iconst 2, 1) := by decide +kernel
theorem dX12_laysOrder_36 : decode cX12_laysOrder 36 = .ok (.irem, 1) := by decide +kernel
theorem dX12_laysOrder_37 : decode cX12_laysOrder 37 = .ok (.iconst (-1), 1) := by decide +kernel
theorem dX12_laysOrder_38 : decode cX12_laysOrder 38 = .ok (.iconst (-1), 1) := by decide +kernel
theorem dX12_laysOrder_39 : decode cX12_laysOrder 39 = .ok (.invokevirtual 235, 3) := by decide +kernel
theorem dX12_laysOrder_42 : decode cX12_laysOrder 42 = .ok (.iconst 0, 1) := by decide +kernel
theorem dX12_laysOrder_43 : decode cX12_laysOrder 43 = .ok (.istore_n 2, 1) := by decide +kernel
theorem dX12_laysOrder_44 : decode cX12_laysOrder 44 = .ok (.iload_n 2, 1) := by decide +kernel
theorem dX12_laysOrder_45 : decode cX12_laysOrder 45 = .ok (.aload_n 0, 1) := by decide +kernel
theorem dX12_laysOrder_46 : decode cX12_laysOrder 46 = .ok (.getfield 20, 3) := by decide +kernel
theorem dX12_laysOrder_49 : decode cX12_laysOrder 49 = .ok (.iconst 0, 1) := by decide +kernel
theorem dX12_laysOrder_50 : decode cX12_laysOrder 50 = .ok (.iaload, 1) := by decide +kernel
theorem dX12_laysOrder_51 : decode cX12_laysOrder 51 = .ok (.if_icmp .ge 53, 3) := by decide +kernel
theorem dX12_laysOrder_54 : decode cX12_laysOrder 54 = .ok (.iconst 0, 1) := by decide +kernel
theorem dX12_laysOrder_55 : decode cX12_laysOrder 55 = .ok (.istore_n 3, 1) := by decide +kernel
theorem dX12_laysOrder_56 : decode cX12_laysOrder 56 = .ok (.iload_n 3, 1) := by decide +kernel
theorem dX12_laysOrder_57 : decode cX12_laysOrder 57 = .ok (.aload_n 0, 1) := by decide +kernel
theorem dX12_laysOrder_58 : decode cX12_laysOrder 58 = .ok (.iload_n 2, 1) := by decide +kernel
theorem dX12_laysOrder_59 : decode cX12_laysOrder 59 = .ok (.iconst 2, 1) := by decide +kernel
theorem dX12_laysOrder_60 : decode cX12_laysOrder 60 = .ok (.invokevirtual 218, 3) := by decide +kernel
theorem dX12_laysOrder_63 : decode cX12_laysOrder 63 = .ok (.if_icmp .ge 35, 3) := by decide +kernel
theorem dX12_laysOrder_66 : decode cX12_laysOrder 66 = .ok (.aload_n 0, 1) := by decide +kernel
theorem dX12_laysOrder_67 : decode cX12_laysOrder 67 = .ok (.iload_n 2, 1) := by decide +kernel
theorem dX12_laysOrder_68 : decode cX12_laysOrder 68 = .ok (.iload_n 1, 1) := by decide +kernel
theorem dX12_laysOrder_69 : decode cX12_laysOrder 69 = .ok (.iconst 2, 1) := by decide +kernel
theorem dX12_laysOrder_70 : decode cX12_laysOrder 70 = .ok (.idiv, 1) := by decide +kernel
theorem dX12_laysOrder_71 : decode cX12_laysOrder 71 = .ok (.iload_n 1, 1) := by decide +kernel
theorem dX12_laysOrder_72 : decode cX12_laysOrder 72 = .ok (.iconst 2, 1) := by decide +kernel
theorem dX12_laysOrder_73 : decode cX12_laysOrder 73 = .ok (.irem, 1) := by decide +kernel
theorem dX12_laysOrder_74 : decode cX12_laysOrder 74 = .ok (.invokevirtual 221, 3) := by decide +kernel
theorem dX12_laysOrder_77 : decode cX12_laysOrder 77 = .ok (.ifCond .eq 21, 3) := by decide +kernel
theorem dX12_laysOrder_80 : decode cX12_laysOrder 80 = .ok (.aload_n 0, 1) := by decide +kernel
theorem dX12_laysOrder_81 : decode cX12_laysOrder 81 = .ok (.iload_n 1, 1) := by decide +kernel
theorem dX12_laysOrder_82 : decode cX12_laysOrder 82 = .ok (.iconst 2, 1) := by decide +kernel
theorem dX12_laysOrder_83 : decode cX12_laysOrder 83 = .ok (.idiv, 1) := by decide +kernel
theorem dX12_laysOrder_84 : decode cX12_laysOrder 84 = .ok (.iload_n 1, 1) := by decide +kernel
theorem dX12_laysOrder_85 : decode cX12_laysOrder 85 = .ok (.iconst 2, 1) := by decide +kernel
theorem dX12_laysOrder_86 : decode cX12_laysOrder 86 = .ok (.irem, 1) := by decide +kernel
theorem dX12_laysOrder_87 : decode cX12_laysOrder 87 = .ok (.iload_n 2, 1) := by decide +kernel
theorem dX12_laysOrder_88 : decode cX12_laysOrder 88 = .ok (.iload_n 3, 1) := by decide +kernel
theorem dX12_laysOrder_89 : decode cX12_laysOrder 89 = .ok (.invokevirtual 235, 3) := by decide +kernel
theorem dX12_laysOrder_92 : decode cX12_laysOrder 92 = .ok (.iinc 3 1, 3) := by decide +kernel
theorem dX12_laysOrder_95 : decode cX12_laysOrder 95 = .ok (.goto (-39), 3) := by decide +kernel
theorem dX12_laysOrder_98 : decode cX12_laysOrder 98 = .ok (.iinc 2 1, 3) := by decide +kernel
theorem dX12_laysOrder_101 : decode cX12_laysOrder 101 = .ok (.goto (-57), 3) := by decide +kernel
theorem dX12_laysOrder_104 : decode cX12_laysOrder 104 = .ok (.iinc 1 1, 3) := by decide +kernel
theorem dX12_laysOrder_107 : decode cX12_laysOrder 107 = .ok (.goto (-100), 3) := by decide +kernel
theorem dX12_laysOrder_110 : decode cX12_laysOrder 110 = .ok (.return_, 1) := by decide +kernel
theorem dX12_placeOfLeaf_0 : decode cX12_placeOfLeaf 0 = .ok (.iconst 0, 1) := by decide +kernel
theorem dX12_placeOfLeaf_1 : decode cX12_placeOfLeaf 1 = .ok (.istore_n 3, 1) := by decide +kernel
theorem dX12_placeOfLeaf_2 : decode cX12_placeOfLeaf 2 = .ok (.iload_n 3, 1) := by decide +kernel
theorem dX12_placeOfLeaf_3 : decode cX12_placeOfLeaf 3 = .ok (.aload_n 0, 1) := by decide +kernel
theorem dX12_placeOfLeaf_4 : decode cX12_placeOfLeaf 4 = .ok (.getfield 232, 3) := by decide +kernel
theorem dX12_placeOfLeaf_7 : decode cX12_placeOfLeaf 7 = .ok (.if_icmp .ge 51, 3) := by decide +kernel
theorem dX12_placeOfLeaf_10 : decode cX12_placeOfLeaf 10 = .ok (.aload_n 0, 1) := by decide +kernel
theorem dX12_placeOfLeaf_11 : decode cX12_placeOfLeaf 11 = .ok (.getfield 36, 3) := by decide +kernel
theorem dX12_placeOfLeaf_14 : decode cX12_placeOfLeaf 14 = .ok (.iconst 4, 1) := by decide +kernel
theorem dX12_placeOfLeaf_15 : decode cX12_placeOfLeaf 15 = .ok (.iload_n 3, 1) := by decide +kernel
theorem dX12_placeOfLeaf_16 : decode cX12_placeOfLeaf 16 = .ok (.imul, 1) := by decide +kernel
theorem dX12_placeOfLeaf_17 : decode cX12_placeOfLeaf 17 = .ok (.iaload, 1) := by decide +kernel
theorem dX12_placeOfLeaf_18 : decode cX12_placeOfLeaf 18 = .ok (.iload_n 1, 1) := by decide +kernel
theorem dX12_placeOfLeaf_19 : decode cX12_placeOfLeaf 19 = .ok (.if_icmp .ne 33, 3) := by decide +kernel
theorem dX12_placeOfLeaf_22 : decode cX12_placeOfLeaf 22 = .ok (.aload_n 0, 1) := by decide +kernel
theorem dX12_placeOfLeaf_23 : decode cX12_placeOfLeaf 23 = .ok (.getfield 36, 3) := by decide +kernel
theorem dX12_placeOfLeaf_26 : decode cX12_placeOfLeaf 26 = .ok (.iconst 4, 1) := by decide +kernel
theorem dX12_placeOfLeaf_27 : decode cX12_placeOfLeaf 27 = .ok (.iload_n 3, 1) := by decide +kernel
theorem dX12_placeOfLeaf_28 : decode cX12_placeOfLeaf 28 = .ok (.imul, 1) := by decide +kernel
theorem dX12_placeOfLeaf_29 : decode cX12_placeOfLeaf 29 = .ok (.iconst 1, 1) := by decide +kernel
theorem dX12_placeOfLeaf_30 : decode cX12_placeOfLeaf 30 = .ok (.iadd, 1) := by decide +kernel
theorem dX12_placeOfLeaf_31 : decode cX12_placeOfLeaf 31 = .ok (.iaload, 1) := by decide +kernel
theorem dX12_placeOfLeaf_32 : decode cX12_placeOfLeaf 32 = .ok (.iload_n 2, 1) := by decide +kernel
theorem dX12_placeOfLeaf_33 : decode cX12_placeOfLeaf 33 = .ok (.if_icmp .ne 19, 3) := by decide +kernel
theorem dX12_placeOfLeaf_36 : decode cX12_placeOfLeaf 36 = .ok (.aload_n 0, 1) := by decide +kernel
theorem dX12_placeOfLeaf_37 : decode cX12_placeOfLeaf 37 = .ok (.getfield 36, 3) := by decide +kernel
theorem dX12_placeOfLeaf_40 : decode cX12_placeOfLeaf 40 = .ok (.iconst 4, 1) := by decide +kernel
theorem dX12_placeOfLeaf_41 : decode cX12_placeOfLeaf 41 = .ok (.iload_n 3, 1) := by decide +kernel
theorem dX12_placeOfLeaf_42 : decode cX12_placeOfLeaf 42 = .ok (.imul, 1) := by decide +kernel
theorem dX12_placeOfLeaf_43 : decode cX12_placeOfLeaf 43 = .ok (.iconst 2, 1) := by decide +kernel
theorem dX12_placeOfLeaf_44 : decode cX12_placeOfLeaf 44 = .ok (.iadd, 1) := by decide +kernel
theorem dX12_placeOfLeaf_45 : decode cX12_placeOfLeaf 45 = .ok (.iaload, 1) := by decide +kernel
theorem dX12_placeOfLeaf_46 : decode cX12_placeOfLeaf 46 = .ok (.iconst (-1), 1) := by decide +kernel
theorem dX12_placeOfLeaf_47 : decode cX12_placeOfLeaf 47 = .ok (.if_icmp .ne 5, 3) := by decide +kernel
theorem dX12_placeOfLeaf_50 : decode cX12_placeOfLeaf 50 = .ok (.iload_n 3, 1) := by decide +kernel
theorem dX12_placeOfLeaf_51 : decode cX12_placeOfLeaf 51 = .ok (.ireturn, 1) := by decide +kernel
theorem dX12_placeOfLeaf_52 : decode cX12_placeOfLeaf 52 = .ok (.iinc 3 1, 3) := by decide +kernel
theorem dX12_placeOfLeaf_55 : decode cX12_placeOfLeaf 55 = .ok (.goto (-53), 3) := by decide +kernel
theorem dX12_placeOfLeaf_58 : decode cX12_placeOfLeaf 58 = .ok (.iconst (-1), 1) := by decide +kernel
theorem dX12_placeOfLeaf_59 : decode cX12_placeOfLeaf 59 = .ok (.ireturn, 1) := by decide +kernel
theorem dX12_placeOfSlip_0 : decode cX12_placeOfSlip 0 = .ok (.iconst 0, 1) := by decide +kernel
theorem dX12_placeOfSlip_1 : decode cX12_placeOfSlip 1 = .ok (.istore_n 3, 1) := by decide +kernel
theorem dX12_placeOfSlip_2 : decode cX12_placeOfSlip 2 = .ok (.iload_n 3, 1) := by decide +kernel
theorem dX12_placeOfSlip_3 : decode cX12_placeOfSlip 3 = .ok (.aload_n 0, 1) := by decide +kernel
theorem dX12_placeOfSlip_4 : decode cX12_placeOfSlip 4 = .ok (.getfield 232, 3) := by decide +kernel
theorem dX12_placeOfSlip_7 : decode cX12_placeOfSlip 7 = .ok (.if_icmp .ge 39, 3) := by decide +kernel
theorem dX12_placeOfSlip_10 : decode cX12_placeOfSlip 10 = .ok (.aload_n 0, 1) := by decide +kernel
theorem dX12_placeOfSlip_11 : decode cX12_placeOfSlip 11 = .ok (.getfield 36, 3) := by decide +kernel
theorem dX12_placeOfSlip_14 : decode cX12_placeOfSlip 14 = .ok (.iconst 4, 1) := by decide +kernel
theorem dX12_placeOfSlip_15 : decode cX12_placeOfSlip 15 = .ok (.iload_n 3, 1) := by decide +kernel
theorem dX12_placeOfSlip_16 : decode cX12_placeOfSlip 16 = .ok (.imul, 1) := by decide +kernel
theorem dX12_placeOfSlip_17 : decode cX12_placeOfSlip 17 = .ok (.iconst 2, 1) := by decide +kernel
theorem dX12_placeOfSlip_18 : decode cX12_placeOfSlip 18 = .ok (.iadd, 1) := by decide +kernel
theorem dX12_placeOfSlip_19 : decode cX12_placeOfSlip 19 = .ok (.iaload, 1) := by decide +kernel
theorem dX12_placeOfSlip_20 : decode cX12_placeOfSlip 20 = .ok (.iload_n 1, 1) := by decide +kernel
theorem dX12_placeOfSlip_21 : decode cX12_placeOfSlip 21 = .ok (.if_icmp .ne 19, 3) := by decide +kernel
theorem dX12_placeOfSlip_24 : decode cX12_placeOfSlip 24 = .ok (.aload_n 0, 1) := by decide +kernel
theorem dX12_placeOfSlip_25 : decode cX12_placeOfSlip 25 = .ok (.getfield 36, 3) := by decide +kernel
theorem dX12_placeOfSlip_28 : decode cX12_placeOfSlip 28 = .ok (.iconst 4, 1) := by decide +kernel
theorem dX12_placeOfSlip_29 : decode cX12_placeOfSlip 29 = .ok (.iload_n 3, 1) := by decide +kernel
theorem dX12_placeOfSlip_30 : decode cX12_placeOfSlip 30 = .ok (.imul, 1) := by decide +kernel
theorem dX12_placeOfSlip_31 : decode cX12_placeOfSlip 31 = .ok (.iconst 3, 1) := by decide +kernel
theorem dX12_placeOfSlip_32 : decode cX12_placeOfSlip 32 = .ok (.iadd, 1) := by decide +kernel
theorem dX12_placeOfSlip_33 : decode cX12_placeOfSlip 33 = .ok (.iaload, 1) := by decide +kernel
theorem dX12_placeOfSlip_34 : decode cX12_placeOfSlip 34 = .ok (.iload_n 2, 1) := by decide +kernel
theorem dX12_placeOfSlip_35 : decode cX12_placeOfSlip 35 = .ok (.if_icmp .ne 5, 3) := by decide +kernel
theorem dX12_placeOfSlip_38 : decode cX12_placeOfSlip 38 = .ok (.iload_n 3, 1) := by decide +kernel
theorem dX12_placeOfSlip_39 : decode cX12_placeOfSlip 39 = .ok (.ireturn, 1) := by decide +kernel
theorem dX12_placeOfSlip_40 : decode cX12_placeOfSlip 40 = .ok (.iinc 3 1, 3) := by decide +kernel
theorem dX12_placeOfSlip_43 : decode cX12_placeOfSlip 43 = .ok (.goto (-41), 3) := by decide +kernel
theorem dX12_placeOfSlip_46 : decode cX12_placeOfSlip 46 = .ok (.iconst (-1), 1) := by decide +kernel
theorem dX12_placeOfSlip_47 : decode cX12_placeOfSlip 47 = .ok (.ireturn, 1) := by decide +kernel
theorem dX12_isPlace_0 : decode cX12_isPlace 0 = .ok (.aload_n 0, 1) := by decide +kernel
theorem dX12_isPlace_1 : decode cX12_isPlace 1 = .ok (.invokevirtual 239, 3) := by decide +kernel
theorem dX12_isPlace_4 : decode cX12_isPlace 4 = .ok (.iload_n 1, 1) := by decide +kernel
theorem dX12_isPlace_5 : decode cX12_isPlace 5 = .ok (.i2l, 1) := by decide +kernel
theorem dX12_isPlace_6 : decode cX12_isPlace 6 = .ok (.lconst 0, 1) := by decide +kernel
theorem dX12_isPlace_7 : decode cX12_isPlace 7 = .ok (.aload_n 0, 1) := by decide +kernel
theorem dX12_isPlace_8 : decode cX12_isPlace 8 = .ok (.getfield 232, 3) := by decide +kernel
theorem dX12_isPlace_11 : decode cX12_isPlace 11 = .ok (.iconst 1, 1) := by decide +kernel
theorem dX12_isPlace_12 : decode cX12_isPlace 12 = .ok (.isub, 1) := by decide +kernel
theorem dX12_isPlace_13 : decode cX12_isPlace 13 = .ok (.i2l, 1) := by decide +kernel
theorem dX12_isPlace_14 : decode cX12_isPlace 14 = .ok (.invokestatic 101, 3) := by decide +kernel
theorem dX12_isPlace_17 : decode cX12_isPlace 17 = .ok (.ireturn, 1) := by decide +kernel
theorem dX12_writes_0 : decode cX12_writes 0 = .ok (.aload_n 0, 1) := by decide +kernel
theorem dX12_writes_1 : decode cX12_writes 1 = .ok (.getfield 42, 3) := by decide +kernel
theorem dX12_writes_4 : decode cX12_writes 4 = .ok (.aload_n 0, 1) := by decide +kernel
theorem dX12_writes_5 : decode cX12_writes 5 = .ok (.getfield 242, 3) := by decide +kernel
theorem dX12_writes_8 : decode cX12_writes 8 = .ok (.iload_n 1, 1) := by decide +kernel
theorem dX12_writes_9 : decode cX12_writes 9 = .ok (.i2b, 1) := by decide +kernel
theorem dX12_writes_10 : decode cX12_writes 10 = .ok (.bastore, 1) := by decide +kernel
theorem dX12_writes_11 : decode cX12_writes 11 = .ok (.aload_n 0, 1) := by decide +kernel
theorem dX12_writes_12 : decode cX12_writes 12 = .ok (.dup, 1) := by decide +kernel
theorem dX12_writes_13 : decode cX12_writes 13 = .ok (.getfield 242, 3) := by decide +kernel
theorem dX12_writes_16 : decode cX12_writes 16 = .ok (.iconst 1, 1) := by decide +kernel
theorem dX12_writes_17 : decode cX12_writes 17 = .ok (.iadd, 1) := by decide +kernel
theorem dX12_writes_18 : decode cX12_writes 18 = .ok (.putfield 242, 3) := by decide +kernel
theorem dX12_writes_21 : decode cX12_writes 21 = .ok (.return_, 1) := by decide +kernel
theorem dX12_writesNumber_0 : decode cX12_writesNumber 0 = .ok (.iconst 1, 1) := by decide +kernel
theorem dX12_writesNumber_1 : decode cX12_writesNumber 1 = .ok (.istore_n 2, 1) := by decide +kernel
theorem dX12_writesNumber_2 : decode cX12_writesNumber 2 = .ok (.iload_n 1, 1) := by decide +kernel
theorem dX12_writesNumber_3 : decode cX12_writesNumber 3 = .ok (.iload_n 2, 1) := by decide +kernel
theorem dX12_writesNumber_4 : decode cX12_writesNumber 4 = .ok (.idiv, 1) := by decide +kernel
theorem dX12_writesNumber_5 : decode cX12_writesNumber 5 = .ok (.bipush 10, 2) := by decide +kernel
theorem dX12_writesNumber_7 : decode cX12_writesNumber 7 = .ok (.if_icmp .lt 11, 3) := by decide +kernel
theorem dX12_writesNumber_10 : decode cX12_writesNumber 10 = .ok (.iload_n 2, 1) := by decide +kernel
theorem dX12_writesNumber_11 : decode cX12_writesNumber 11 = .ok (.bipush 10, 2) := by decide +kernel
theorem dX12_writesNumber_13 : decode cX12_writesNumber 13 = .ok (.imul, 1) := by decide +kernel
theorem dX12_writesNumber_14 : decode cX12_writesNumber 14 = .ok (.istore_n 2, 1) := by decide +kernel
theorem dX12_writesNumber_15 : decode cX12_writesNumber 15 = .ok (.goto (-13), 3) := by decide +kernel
theorem dX12_writesNumber_18 : decode cX12_writesNumber 18 = .ok (.iload_n 2, 1) := by decide +kernel
theorem dX12_writesNumber_19 : decode cX12_writesNumber 19 = .ok (.istore_n 3, 1) := by decide +kernel
theorem dX12_writesNumber_20 : decode cX12_writesNumber 20 = .ok (.iload_n 3, 1) := by decide +kernel
theorem dX12_writesNumber_21 : decode cX12_writesNumber 21 = .ok (.ifCond .le 24, 3) := by decide +kernel
theorem dX12_writesNumber_24 : decode cX12_writesNumber 24 = .ok (.aload_n 0, 1) := by decide +kernel
theorem dX12_writesNumber_25 : decode cX12_writesNumber 25 = .ok (.bipush 48, 2) := by decide +kernel
theorem dX12_writesNumber_27 : decode cX12_writesNumber 27 = .ok (.iload_n 1, 1) := by decide +kernel
theorem dX12_writesNumber_28 : decode cX12_writesNumber 28 = .ok (.iload_n 3, 1) := by decide +kernel
theorem dX12_writesNumber_29 : decode cX12_writesNumber 29 = .ok (.idiv, 1) := by decide +kernel
theorem dX12_writesNumber_30 : decode cX12_writesNumber 30 = .ok (.bipush 10, 2) := by decide +kernel
theorem dX12_writesNumber_32 : decode cX12_writesNumber 32 = .ok (.irem, 1) := by decide +kernel
theorem dX12_writesNumber_33 : decode cX12_writesNumber 33 = .ok (.iadd, 1) := by decide +kernel
theorem dX12_writesNumber_34 : decode cX12_writesNumber 34 = .ok (.invokevirtual 245, 3) := by decide +kernel
theorem dX12_writesNumber_37 : decode cX12_writesNumber 37 = .ok (.iload_n 3, 1) := by decide +kernel
theorem dX12_writesNumber_38 : decode cX12_writesNumber 38 = .ok (.bipush 10, 2) := by decide +kernel
theorem dX12_writesNumber_40 : decode cX12_writesNumber 40 = .ok (.idiv, 1) := by decide +kernel
theorem dX12_writesNumber_41 : decode cX12_writesNumber 41 = .ok (.istore_n 3, 1) := by decide +kernel
theorem dX12_writesNumber_42 : decode cX12_writesNumber 42 = .ok (.goto (-22), 3) := by decide +kernel
theorem dX12_writesNumber_45 : decode cX12_writesNumber 45 = .ok (.return_, 1) := by decide +kernel
theorem dX12_writesRoman_0 : decode cX12_writesRoman 0 = .ok (.ldc 248, 2) := by decide +kernel
theorem dX12_writesRoman_2 : decode cX12_writesRoman 2 = .ok (.astore_n 2, 1) := by decide +kernel
theorem dX12_writesRoman_3 : decode cX12_writesRoman 3 = .ok (.iload_n 1, 1) := by decide +kernel
theorem dX12_writesRoman_4 : decode cX12_writesRoman 4 = .ok (.istore_n 3, 1) := by decide +kernel
theorem dX12_writesRoman_5 : decode cX12_writesRoman 5 = .ok (.iconst 0, 1) := by decide +kernel
theorem dX12_writesRoman_6 : decode cX12_writesRoman 6 = .ok (.istore 4, 2) := by decide +kernel
theorem dX12_writesRoman_8 : decode cX12_writesRoman 8 = .ok (.iload 4, 2) := by decide +kernel
theorem dX12_writesRoman_10 : decode cX12_writesRoman 10 = .ok (.bipush 13, 2) := by decide +kernel
theorem dX12_writesRoman_12 : decode cX12_writesRoman 12 = .ok (.if_icmp .ge 74, 3) := by decide +kernel
theorem dX12_writesRoman_15 : decode cX12_writesRoman 15 = .ok (.iload_n 3, 1) := by decide +kernel
theorem dX12_writesRoman_16 : decode cX12_writesRoman 16 = .ok (.aload_n 0, 1) := by decide +kernel
theorem dX12_writesRoman_17 : decode cX12_writesRoman 17 = .ok (.getfield 45, 3) := by decide +kernel
theorem dX12_writesRoman_20 : decode cX12_writesRoman 20 = .ok (.iload 4, 2) := by decide +kernel
theorem dX12_writesRoman_22 : decode cX12_writesRoman 22 = .ok (.iaload, 1) := by decide +kernel
theorem dX12_writesRoman_23 : decode cX12_writesRoman 23 = .ok (.if_icmp .lt 57, 3) := by decide +kernel
theorem dX12_writesRoman_26 : decode cX12_writesRoman 26 = .ok (.aload_n 0, 1) := by decide +kernel
theorem dX12_writesRoman_27 : decode cX12_writesRoman 27 = .ok (.aload_n 2, 1) := by decide +kernel
theorem dX12_writesRoman_28 : decode cX12_writesRoman 28 = .ok (.iconst 2, 1) := by decide +kernel
theorem dX12_writesRoman_29 : decode cX12_writesRoman 29 = .ok (.iload 4, 2) := by decide +kernel
theorem dX12_writesRoman_31 : decode cX12_writesRoman 31 = .ok (.imul, 1) := by decide +kernel
theorem dX12_writesRoman_32 : decode cX12_writesRoman 32 = .ok (.invokevirtual 133, 3) := by decide +kernel
theorem dX12_writesRoman_35 : decode cX12_writesRoman 35 = .ok (.invokevirtual 245, 3) := by decide +kernel
theorem dX12_writesRoman_38 : decode cX12_writesRoman 38 = .ok (.aload_n 2, 1) := by decide +kernel
theorem dX12_writesRoman_39 : decode cX12_writesRoman 39 = .ok (.iconst 2, 1) := by decide +kernel
theorem dX12_writesRoman_40 : decode cX12_writesRoman 40 = .ok (.iload 4, 2) := by decide +kernel
theorem dX12_writesRoman_42 : decode cX12_writesRoman 42 = .ok (.imul, 1) := by decide +kernel
theorem dX12_writesRoman_43 : decode cX12_writesRoman 43 = .ok (.iconst 1, 1) := by decide +kernel
theorem dX12_writesRoman_44 : decode cX12_writesRoman 44 = .ok (.iadd, 1) := by decide +kernel
theorem dX12_writesRoman_45 : decode cX12_writesRoman 45 = .ok (.invokevirtual 133, 3) := by decide +kernel
theorem dX12_writesRoman_48 : decode cX12_writesRoman 48 = .ok (.bipush 32, 2) := by decide +kernel
theorem dX12_writesRoman_50 : decode cX12_writesRoman 50 = .ok (.if_icmp .eq 17, 3) := by decide +kernel
theorem dX12_writesRoman_53 : decode cX12_writesRoman 53 = .ok (.aload_n 0, 1) := by decide +kernel
theorem dX12_writesRoman_54 : decode cX12_writesRoman 54 = .ok (.aload_n 2, 1) := by decide +kernel
theorem dX12_writesRoman_55 : decode cX12_writesRoman 55 = .ok (.iconst 2, 1) := by decide +kernel
theorem dX12_writesRoman_56 : decode cX12_writesRoman 56 = .ok (.iload 4, 2) := by decide +kernel
theorem dX12_writesRoman_58 : decode cX12_writesRoman 58 = .ok (.imul, 1) := by decide +kernel
theorem dX12_writesRoman_59 : decode cX12_writesRoman 59 = .ok (.iconst 1, 1) := by decide +kernel
theorem dX12_writesRoman_60 : decode cX12_writesRoman 60 = .ok (.iadd, 1) := by decide +kernel
theorem dX12_writesRoman_61 : decode cX12_writesRoman 61 = .ok (.invokevirtual 133, 3) := by decide +kernel
theorem dX12_writesRoman_64 : decode cX12_writesRoman 64 = .ok (.invokevirtual 245, 3) := by decide +kernel
theorem dX12_writesRoman_67 : decode cX12_writesRoman 67 = .ok (.iload_n 3, 1) := by decide +kernel
theorem dX12_writesRoman_68 : decode cX12_writesRoman 68 = .ok (.aload_n 0, 1) := by decide +kernel
theorem dX12_writesRoman_69 : decode cX12_writesRoman 69 = .ok (.getfield 45, 3) := by decide +kernel
theorem dX12_writesRoman_72 : decode cX12_writesRoman 72 = .ok (.iload 4, 2) := by decide +kernel
theorem dX12_writesRoman_74 : decode cX12_writesRoman 74 = .ok (.iaload, 1) := by decide +kernel
theorem dX12_writesRoman_75 : decode cX12_writesRoman 75 = .ok (.isub, 1) := by decide +kernel
theorem dX12_writesRoman_76 : decode cX12_writesRoman 76 = .ok (.istore_n 3, 1) := by decide +kernel
theorem dX12_writesRoman_77 : decode cX12_writesRoman 77 = .ok (.goto (-62), 3) := by decide +kernel
theorem dX12_writesRoman_80 : decode cX12_writesRoman 80 = .ok (.iinc 4 1, 3) := by decide +kernel
theorem dX12_writesRoman_83 : decode cX12_writesRoman 83 = .ok (.goto (-75), 3) := by decide +kernel
theorem dX12_writesRoman_86 : decode cX12_writesRoman 86 = .ok (.return_, 1) := by decide +kernel
theorem dX12_rangeOf_0 : decode cX12_rangeOf 0 = .ok (.aload_n 0, 1) := by decide +kernel
theorem dX12_rangeOf_1 : decode cX12_rangeOf 1 = .ok (.getfield 20, 3) := by decide +kernel
theorem dX12_rangeOf_4 : decode cX12_rangeOf 4 = .ok (.iconst 1, 1) := by decide +kernel
theorem dX12_rangeOf_5 : decode cX12_rangeOf 5 = .ok (.iaload, 1) := by decide +kernel
theorem dX12_rangeOf_6 : decode cX12_rangeOf 6 = .ok (.iconst 1, 1) := by decide +kernel
theorem dX12_rangeOf_7 : decode cX12_rangeOf 7 = .ok (.isub, 1) := by decide +kernel
theorem dX12_rangeOf_8 : decode cX12_rangeOf 8 = .ok (.istore_n 2, 1) := by decide +kernel
theorem dX12_rangeOf_9 : decode cX12_rangeOf 9 = .ok (.iload_n 2, 1) := by decide +kernel
theorem dX12_rangeOf_10 : decode cX12_rangeOf 10 = .ok (.ifCond .lt 45, 3) := by decide +kernel
theorem dX12_rangeOf_13 : decode cX12_rangeOf 13 = .ok (.iload_n 1, 1) := by decide +kernel
theorem dX12_rangeOf_14 : decode cX12_rangeOf 14 = .ok (.i2l, 1) := by decide +kernel
theorem dX12_rangeOf_15 : decode cX12_rangeOf 15 = .ok (.aload_n 0, 1) := by decide +kernel
theorem dX12_rangeOf_16 : decode cX12_rangeOf 16 = .ok (.getfield 20, 3) := by decide +kernel
theorem dX12_rangeOf_19 : decode cX12_rangeOf 19 = .ok (.bipush 41, 2) := by decide +kernel
theorem dX12_rangeOf_21 : decode cX12_rangeOf 21 = .ok (.iconst 4, 1) := by decide +kernel
theorem dX12_rangeOf_22 : decode cX12_rangeOf 22 = .ok (.iload_n 2, 1) := by decide +kernel
theorem dX12_rangeOf_23 : decode cX12_rangeOf 23 = .ok (.imul, 1) := by decide +kernel
theorem dX12_rangeOf_24 : decode cX12_rangeOf 24 = .ok (.iadd, 1) := by decide +kernel
theorem dX12_rangeOf_25 : decode cX12_rangeOf 25 = .ok (.iaload, 1) := by decide +kernel
theorem dX12_rangeOf_26 : decode cX12_rangeOf 26 = .ok (.i2l, 1) := by decide +kernel
theorem dX12_rangeOf_27 : decode cX12_rangeOf 27 = .ok (.aload_n 0, 1) := by decide +kernel
theorem dX12_rangeOf_28 : decode cX12_rangeOf 28 = .ok (.getfield 20, 3) := by decide +kernel
theorem dX12_rangeOf_31 : decode cX12_rangeOf 31 = .ok (.bipush 41, 2) := by decide +kernel
theorem dX12_rangeOf_33 : decode cX12_rangeOf 33 = .ok (.iconst 4, 1) := by decide +kernel
theorem dX12_rangeOf_34 : decode cX12_rangeOf 34 = .ok (.iload_n 2, 1) := by decide +kernel
theorem dX12_rangeOf_35 : decode cX12_rangeOf 35 = .ok (.imul, 1) := by decide +kernel
theorem dX12_rangeOf_36 : decode cX12_rangeOf 36 = .ok (.iadd, 1) := by decide +kernel
theorem dX12_rangeOf_37 : decode cX12_rangeOf 37 = .ok (.iconst 1, 1) := by decide +kernel
theorem dX12_rangeOf_38 : decode cX12_rangeOf 38 = .ok (.iadd, 1) := by decide +kernel
theorem dX12_rangeOf_39 : decode cX12_rangeOf 39 = .ok (.iaload, 1) := by decide +kernel
theorem dX12_rangeOf_40 : decode cX12_rangeOf 40 = .ok (.i2l, 1) := by decide +kernel
theorem dX12_rangeOf_41 : decode cX12_rangeOf 41 = .ok (.invokestatic 101, 3) := by decide +kernel
theorem dX12_rangeOf_44 : decode cX12_rangeOf 44 = .ok (.ifCond .eq 5, 3) := by decide +kernel
theorem dX12_rangeOf_47 : decode cX12_rangeOf 47 = .ok (.iload_n 2, 1) := by decide +kernel
theorem dX12_rangeOf_48 : decode cX12_rangeOf 48 = .ok (.ireturn, 1) := by decide +kernel
theorem dX12_rangeOf_49 : decode cX12_rangeOf 49 = .ok (.iinc 2 (-1), 3) := by decide +kernel
theorem dX12_rangeOf_52 : decode cX12_rangeOf 52 = .ok (.goto (-43), 3) := by decide +kernel
theorem dX12_rangeOf_55 : decode cX12_rangeOf 55 = .ok (.iconst (-1), 1) := by decide +kernel
theorem dX12_rangeOf_56 : decode cX12_rangeOf 56 = .ok (.ireturn, 1) := by decide +kernel
theorem dX12_writesLeafLabel_0 : decode cX12_writesLeafLabel 0 = .ok (.aload_n 0, 1) := by decide +kernel
theorem dX12_writesLeafLabel_1 : decode cX12_writesLeafLabel 1 = .ok (.iload_n 1, 1) := by decide +kernel
theorem dX12_writesLeafLabel_2 : decode cX12_writesLeafLabel 2 = .ok (.invokevirtual 250, 3) := by decide +kernel
theorem dX12_writesLeafLabel_5 : decode cX12_writesLeafLabel 5 = .ok (.istore_n 3, 1) := by decide +kernel
theorem dX12_writesLeafLabel_6 : decode cX12_writesLeafLabel 6 = .ok (.iload_n 3, 1) := by decide +kernel
theorem dX12_writesLeafLabel_7 : decode cX12_writesLeafLabel 7 = .ok (.iconst (-1), 1) := by decide +kernel
theorem dX12_writesLeafLabel_8 : decode cX12_writesLeafLabel 8 = .ok (.if_icmp .ne 4, 3) := by decide +kernel
theorem dX12_writesLeafLabel_11 : decode cX12_writesLeafLabel 11 = .ok (.return_, 1) := by decide +kernel
theorem dX12_writesLeafLabel_12 : decode cX12_writesLeafLabel 12 = .ok (.aload_n 0, 1) := by decide +kernel
theorem dX12_writesLeafLabel_13 : decode cX12_writesLeafLabel 13 = .ok (.getfield 20, 3) := by decide +kernel
theorem dX12_writesLeafLabel_16 : decode cX12_writesLeafLabel 16 = .ok (.bipush 41, 2) := by decide +kernel
theorem dX12_writesLeafLabel_18 : decode cX12_writesLeafLabel 18 = .ok (.iconst 4, 1) := by decide +kernel
theorem dX12_writesLeafLabel_19 : decode cX12_writesLeafLabel 19 = .ok (.iload_n 3, 1) := by decide +kernel
theorem dX12_writesLeafLabel_20 : decode cX12_writesLeafLabel 20 = .ok (.imul, 1) := by decide +kernel
theorem dX12_writesLeafLabel_21 : decode cX12_writesLeafLabel 21 = .ok (.iadd, 1) := by decide +kernel
theorem dX12_writesLeafLabel_22 : decode cX12_writesLeafLabel 22 = .ok (.iconst 2, 1) := by decide +kernel
theorem dX12_writesLeafLabel_23 : decode cX12_writesLeafLabel 23 = .ok (.iadd, 1) := by decide +kernel
theorem dX12_writesLeafLabel_24 : decode cX12_writesLeafLabel 24 = .ok (.iaload, 1) := by decide +kernel
theorem dX12_writesLeafLabel_25 : decode cX12_writesLeafLabel 25 = .ok (.istore 4, 2) := by decide +kernel
theorem dX12_writesLeafLabel_27 : decode cX12_writesLeafLabel 27 = .ok (.aload_n 0, 1) := by decide +kernel
theorem dX12_writesLeafLabel_28 : decode cX12_writesLeafLabel 28 = .ok (.getfield 20, 3) := by decide +kernel
theorem dX12_writesLeafLabel_31 : decode cX12_writesLeafLabel 31 = .ok (.bipush 41, 2) := by decide +kernel
theorem dX12_writesLeafLabel_33 : decode cX12_writesLeafLabel 33 = .ok (.iconst 4, 1) := by decide +kernel
theorem dX12_writesLeafLabel_34 : decode cX12_writesLeafLabel 34 = .ok (.iload_n 3, 1) := by decide +kernel
theorem dX12_writesLeafLabel_35 : decode cX12_writesLeafLabel 35 = .ok (.imul, 1) := by decide +kernel
theorem dX12_writesLeafLabel_36 : decode cX12_writesLeafLabel 36 = .ok (.iadd, 1) := by decide +kernel
theorem dX12_writesLeafLabel_37 : decode cX12_writesLeafLabel 37 = .ok (.iconst 3, 1) := by decide +kernel
theorem dX12_writesLeafLabel_38 : decode cX12_writesLeafLabel 38 = .ok (.iadd, 1) := by decide +kernel
theorem dX12_writesLeafLabel_39 : decode cX12_writesLeafLabel 39 = .ok (.iaload, 1) := by decide +kernel
theorem dX12_writesLeafLabel_40 : decode cX12_writesLeafLabel 40 = .ok (.istore 5, 2) := by decide +kernel
theorem dX12_writesLeafLabel_42 : decode cX12_writesLeafLabel 42 = .ok (.iload_n 1, 1) := by decide +kernel
theorem dX12_writesLeafLabel_43 : decode cX12_writesLeafLabel 43 = .ok (.aload_n 0, 1) := by decide +kernel
theorem dX12_writesLeafLabel_44 : decode cX12_writesLeafLabel 44 = .ok (.getfield 20, 3) := by decide +kernel
theorem dX12_writesLeafLabel_47 : decode cX12_writesLeafLabel 47 = .ok (.bipush 41, 2) := by decide +kernel
theorem dX12_writesLeafLabel_49 : decode cX12_writesLeafLabel 49 = .ok (.iconst 4, 1) := by decide +kernel
theorem dX12_writesLeafLabel_50 : decode cX12_writesLeafLabel 50 = .ok (.iload_n 3, 1) := by decide +kernel
theorem dX12_writesLeafLabel_51 : decode cX12_writesLeafLabel 51 = .ok (.imul, 1) := by decide +kernel
theorem dX12_writesLeafLabel_52 : decode cX12_writesLeafLabel 52 = .ok (.iadd, 1) := by decide +kernel
theorem dX12_writesLeafLabel_53 : decode cX12_writesLeafLabel 53 = .ok (.iaload, 1) := by decide +kernel
theorem dX12_writesLeafLabel_54 : decode cX12_writesLeafLabel 54 = .ok (.isub, 1) := by decide +kernel
theorem dX12_writesLeafLabel_55 : decode cX12_writesLeafLabel 55 = .ok (.istore 6, 2) := by decide +kernel
theorem dX12_writesLeafLabel_57 : decode cX12_writesLeafLabel 57 = .ok (.iload 4, 2) := by decide +kernel
theorem dX12_writesLeafLabel_59 : decode cX12_writesLeafLabel 59 = .ok (.ifCond .ne 30, 3) := by decide +kernel
theorem dX12_writesLeafLabel_62 : decode cX12_writesLeafLabel 62 = .ok (.aload_n 0, 1) := by decide +kernel
theorem dX12_writesLeafLabel_63 : decode cX12_writesLeafLabel 63 = .ok (.iload 5, 2) := by decide +kernel
theorem dX12_writesLeafLabel_65 : decode cX12_writesLeafLabel 65 = .ok (.iload 6, 2) := by decide +kernel
theorem dX12_writesLeafLabel_67 : decode cX12_writesLeafLabel 67 = .ok (.iadd, 1) := by decide +kernel
theorem dX12_writesLeafLabel_68 : decode cX12_writesLeafLabel 68 = .ok (.invokevirtual 253, 3) := by decide +kernel
theorem dX12_writesLeafLabel_71 : decode cX12_writesLeafLabel 71 = .ok (.aload_n 0, 1) := by decide +kernel
theorem dX12_writesLeafLabel_72 : decode cX12_writesLeafLabel 72 = .ok (.iload_n 2, 1) := by decide +kernel
theorem dX12_writesLeafLabel_73 : decode cX12_writesLeafLabel 73 = .ok (.ifCond .ne 8, 3) := by decide +kernel
theorem dX12_writesLeafLabel_76 : decode cX12_writesLeafLabel 76 = .ok (.bipush 114, 2) := by decide +kernel
theorem dX12_writesLeafLabel_78 : decode cX12_writesLeafLabel 78 = .ok (.goto 5, 3) := by decide +kernel
theorem dX12_writesLeafLabel_81 : decode cX12_writesLeafLabel 81 = .ok (.bipush 118, 2) := by decide +kernel
theorem dX12_writesLeafLabel_83 : decode cX12_writesLeafLabel 83 = .ok (.invokevirtual 245, 3) := by decide +kernel
theorem dX12_writesLeafLabel_86 : decode cX12_writesLeafLabel 86 = .ok (.goto 44, 3) := by decide +kernel
theorem dX12_writesLeafLabel_89 : decode cX12_writesLeafLabel 89 = .ok (.iload 4, 2) := by decide +kernel
theorem dX12_writesLeafLabel_91 : decode cX12_writesLeafLabel 91 = .ok (.iconst 1, 1) := by decide +kernel
theorem dX12_writesLeafLabel_92 : decode cX12_writesLeafLabel 92 = .ok (.if_icmp .ne 19, 3) := by decide +kernel
theorem dX12_writesLeafLabel_95 : decode cX12_writesLeafLabel 95 = .ok (.aload_n 0, 1) := by decide +kernel
theorem dX12_writesLeafLabel_96 : decode cX12_writesLeafLabel 96 = .ok (.iload 5, 2) := by decide +kernel
theorem dX12_writesLeafLabel_98 : decode cX12_writesLeafLabel 98 = .ok (.iconst 2, 1) := by decide +kernel
theorem dX12_writesLeafLabel_99 : decode cX12_writesLeafLabel 99 = .ok (.iload 6, 2) := by decide +kernel
theorem dX12_writesLeafLabel_101 : decode cX12_writesLeafLabel 101 = .ok (.imul, 1) := by decide +kernel
theorem dX12_writesLeafLabel_102 : decode cX12_writesLeafLabel 102 = .ok (.iadd, 1) := by decide +kernel
theorem dX12_writesLeafLabel_103 : decode cX12_writesLeafLabel 103 = .ok (.iload_n 2, 1) := by decide +kernel
theorem dX12_writesLeafLabel_104 : decode cX12_writesLeafLabel 104 = .ok (.iadd, 1) := by decide +kernel
theorem dX12_writesLeafLabel_105 : decode cX12_writesLeafLabel 105 = .ok (.invokevirtual 253, 3) := by decide +kernel
theorem dX12_writesLeafLabel_108 : decode cX12_writesLeafLabel 108 = .ok (.goto 22, 3) := by decide +kernel
theorem dX12_writesLeafLabel_111 : decode cX12_writesLeafLabel 111 = .ok (.iload 4, 2) := by decide +kernel
theorem dX12_writesLeafLabel_113 : decode cX12_writesLeafLabel 113 = .ok (.iconst 2, 1) := by decide +kernel
theorem dX12_writesLeafLabel_114 : decode cX12_writesLeafLabel 114 = .ok (.if_icmp .ne 16, 3) := by decide +kernel
theorem dX12_writesLeafLabel_117 : decode cX12_writesLeafLabel 117 = .ok (.aload_n 0, 1) := by decide +kernel
theorem dX12_writesLeafLabel_118 : decode cX12_writesLeafLabel 118 = .ok (.iload 5, 2) := by decide +kernel
theorem dX12_writesLeafLabel_120 : decode cX12_writesLeafLabel 120 = .ok (.iconst 2, 1) := by decide +kernel
theorem dX12_writesLeafLabel_121 : decode cX12_writesLeafLabel 121 = .ok (.iload 6, 2) := by decide +kernel
theorem dX12_writesLeafLabel_123 : decode cX12_writesLeafLabel 123 = .ok (.imul, 1) := by decide +kernel
theorem dX12_writesLeafLabel_124 : decode cX12_writesLeafLabel 124 = .ok (.iadd, 1) := by decide +kernel
theorem dX12_writesLeafLabel_125 : decode cX12_writesLeafLabel 125 = .ok (.iload_n 2, 1) := by decide +kernel
theorem dX12_writesLeafLabel_126 : decode cX12_writesLeafLabel 126 = .ok (.iadd, 1) := by decide +kernel
theorem dX12_writesLeafLabel_127 : decode cX12_writesLeafLabel 127 = .ok (.invokevirtual 256, 3) := by decide +kernel
theorem dX12_writesLeafLabel_130 : decode cX12_writesLeafLabel 130 = .ok (.return_, 1) := by decide +kernel
theorem dX12_laysLabel_0 : decode cX12_laysLabel 0 = .ok (.aload_n 0, 1) := by decide +kernel
theorem dX12_laysLabel_1 : decode cX12_laysLabel 1 = .ok (.iconst 0, 1) := by decide +kernel
theorem dX12_laysLabel_2 : decode cX12_laysLabel 2 = .ok (.putfield 242, 3) := by decide +kernel
theorem dX12_laysLabel_5 : decode cX12_laysLabel 5 = .ok (.aload_n 0, 1) := by decide +kernel
theorem dX12_laysLabel_6 : decode cX12_laysLabel 6 = .ok (.getfield 36, 3) := by decide +kernel
theorem dX12_laysLabel_9 : decode cX12_laysLabel 9 = .ok (.iconst 4, 1) := by decide +kernel
theorem dX12_laysLabel_10 : decode cX12_laysLabel 10 = .ok (.iload_n 1, 1) := by decide +kernel
theorem dX12_laysLabel_11 : decode cX12_laysLabel 11 = .ok (.imul, 1) := by decide +kernel
theorem dX12_laysLabel_12 : decode cX12_laysLabel 12 = .ok (.iaload, 1) := by decide +kernel
theorem dX12_laysLabel_13 : decode cX12_laysLabel 13 = .ok (.istore_n 2, 1) := by decide +kernel
theorem dX12_laysLabel_14 : decode cX12_laysLabel 14 = .ok (.aload_n 0, 1) := by decide +kernel
theorem dX12_laysLabel_15 : decode cX12_laysLabel 15 = .ok (.getfield 36, 3) := by decide +kernel
theorem dX12_laysLabel_18 : decode cX12_laysLabel 18 = .ok (.iconst 4, 1) := by decide +kernel
theorem dX12_laysLabel_19 : decode cX12_laysLabel 19 = .ok (.iload_n 1, 1) := by decide +kernel
theorem dX12_laysLabel_20 : decode cX12_laysLabel 20 = .ok (.imul, 1) := by decide +kernel
theorem dX12_laysLabel_21 : decode cX12_laysLabel 21 = .ok (.iconst 1, 1) := by decide +kernel
theorem dX12_laysLabel_22 : decode cX12_laysLabel 22 = .ok (.iadd, 1) := by decide +kernel
theorem dX12_laysLabel_23 : decode cX12_laysLabel 23 = .ok (.iaload, 1) := by decide +kernel
theorem dX12_laysLabel_24 : decode cX12_laysLabel 24 = .ok (.istore_n 3, 1) := by decide +kernel
theorem dX12_laysLabel_25 : decode cX12_laysLabel 25 = .ok (.aload_n 0, 1) := by decide +kernel
theorem dX12_laysLabel_26 : decode cX12_laysLabel 26 = .ok (.getfield 36, 3) := by decide +kernel
theorem dX12_laysLabel_29 : decode cX12_laysLabel 29 = .ok (.iconst 4, 1) := by decide +kernel
theorem dX12_laysLabel_30 : decode cX12_laysLabel 30 = .ok (.iload_n 1, 1) := by decide +kernel
theorem dX12_laysLabel_31 : decode cX12_laysLabel 31 = .ok (.imul, 1) := by decide +kernel
theorem dX12_laysLabel_32 : decode cX12_laysLabel 32 = .ok (.iconst 2, 1) := by decide +kernel
theorem dX12_laysLabel_33 : decode cX12_laysLabel 33 = .ok (.iadd, 1) := by decide +kernel
theorem dX12_laysLabel_34 : decode cX12_laysLabel 34 = .ok (.iaload, 1) := by decide +kernel
theorem dX12_laysLabel_35 : decode cX12_laysLabel 35 = .ok (.istore 4, 2) := by decide +kernel
theorem dX12_laysLabel_37 : decode cX12_laysLabel 37 = .ok (.aload_n 0, 1) := by decide +kernel
theorem dX12_laysLabel_38 : decode cX12_laysLabel 38 = .ok (.iload_n 2, 1) := by decide +kernel
theorem dX12_laysLabel_39 : decode cX12_laysLabel 39 = .ok (.iload_n 3, 1) := by decide +kernel
theorem dX12_laysLabel_40 : decode cX12_laysLabel 40 = .ok (.invokevirtual 259, 3) := by decide +kernel
theorem dX12_laysLabel_43 : decode cX12_laysLabel 43 = .ok (.iload 4, 2) := by decide +kernel
theorem dX12_laysLabel_45 : decode cX12_laysLabel 45 = .ok (.iconst (-1), 1) := by decide +kernel
theorem dX12_laysLabel_46 : decode cX12_laysLabel 46 = .ok (.if_icmp .ne 4, 3) := by decide +kernel
theorem dX12_laysLabel_49 : decode cX12_laysLabel 49 = .ok (.return_, 1) := by decide +kernel
theorem dX12_laysLabel_50 : decode cX12_laysLabel 50 = .ok (.aload_n 0, 1) := by decide +kernel
theorem dX12_laysLabel_51 : decode cX12_laysLabel 51 = .ok (.bipush 42, 2) := by decide +kernel
theorem dX12_laysLabel_53 : decode cX12_laysLabel 53 = .ok (.invokevirtual 245, 3) := by decide +kernel
theorem dX12_laysLabel_56 : decode cX12_laysLabel 56 = .ok (.aload_n 0, 1) := by decide +kernel
theorem dX12_laysLabel_57 : decode cX12_laysLabel 57 = .ok (.bipush 97, 2) := by decide +kernel
theorem dX12_laysLabel_59 : decode cX12_laysLabel 59 = .ok (.aload_n 0, 1) := by decide +kernel
theorem dX12_laysLabel_60 : decode cX12_laysLabel 60 = .ok (.iload_n 2, 1) := by decide +kernel
theorem dX12_laysLabel_61 : decode cX12_laysLabel 61 = .ok (.iload_n 3, 1) := by decide +kernel
theorem dX12_laysLabel_62 : decode cX12_laysLabel 62 = .ok (.iload 4, 2) := by decide +kernel
theorem dX12_laysLabel_64 : decode cX12_laysLabel 64 = .ok (.invokevirtual 225, 3) := by decide +kernel
theorem dX12_laysLabel_67 : decode cX12_laysLabel 67 = .ok (.iadd, 1) := by decide +kernel
theorem dX12_laysLabel_68 : decode cX12_laysLabel 68 = .ok (.invokevirtual 245, 3) := by decide +kernel
theorem dX12_laysLabel_71 : decode cX12_laysLabel 71 = .ok (.aload_n 0, 1) := by decide +kernel
theorem dX12_laysLabel_72 : decode cX12_laysLabel 72 = .ok (.getfield 36, 3) := by decide +kernel
theorem dX12_laysLabel_75 : decode cX12_laysLabel 75 = .ok (.iconst 4, 1) := by decide +kernel
theorem dX12_laysLabel_76 : decode cX12_laysLabel 76 = .ok (.iload_n 1, 1) := by decide +kernel
theorem dX12_laysLabel_77 : decode cX12_laysLabel 77 = .ok (.imul, 1) := by decide +kernel
theorem dX12_laysLabel_78 : decode cX12_laysLabel 78 = .ok (.iconst 3, 1) := by decide +kernel
theorem dX12_laysLabel_79 : decode cX12_laysLabel 79 = .ok (.iadd, 1) := by decide +kernel
theorem dX12_laysLabel_80 : decode cX12_laysLabel 80 = .ok (.iaload, 1) := by decide +kernel
theorem dX12_laysLabel_81 : decode cX12_laysLabel 81 = .ok (.iconst 1, 1) := by decide +kernel
theorem dX12_laysLabel_82 : decode cX12_laysLabel 82 = .ok (.if_icmp .ne 9, 3) := by decide +kernel
theorem dX12_laysLabel_85 : decode cX12_laysLabel 85 = .ok (.aload_n 0, 1) := by decide +kernel
theorem dX12_laysLabel_86 : decode cX12_laysLabel 86 = .ok (.bipush 118, 2) := by decide +kernel
theorem dX12_laysLabel_88 : decode cX12_laysLabel 88 = .ok (.invokevirtual 245, 3) := by decide +kernel
theorem dX12_laysLabel_91 : decode cX12_laysLabel 91 = .ok (.return_, 1) := by decide +kernel
theorem dX12_tells_0 : decode cX12_tells 0 = .ok (.iconst 0, 1) := by decide +kernel
theorem dX12_tells_1 : decode cX12_tells 1 = .ok (.istore_n 1, 1) := by decide +kernel
theorem dX12_tells_2 : decode cX12_tells 2 = .ok (.iload_n 1, 1) := by decide +kernel
theorem dX12_tells_3 : decode cX12_tells 3 = .ok (.aload_n 0, 1) := by decide +kernel
theorem dX12_tells_4 : decode cX12_tells 4 = .ok (.getfield 242, 3) := by decide +kernel
theorem dX12_tells_7 : decode cX12_tells 7 = .ok (.if_icmp .ge 21, 3) := by decide +kernel
theorem dX12_tells_10 : decode cX12_tells 10 = .ok (.aload_n 0, 1) := by decide +kernel
theorem dX12_tells_11 : decode cX12_tells 11 = .ok (.getfield 39, 3) := by decide +kernel
theorem dX12_tells_14 : decode cX12_tells 14 = .ok (.iload_n 1, 1) := by decide +kernel
theorem dX12_tells_15 : decode cX12_tells 15 = .ok (.aload_n 0, 1) := by decide +kernel
theorem dX12_tells_16 : decode cX12_tells 16 = .ok (.getfield 42, 3) := by decide +kernel
theorem dX12_tells_19 : decode cX12_tells 19 = .ok (.iload_n 1, 1) := by decide +kernel
theorem dX12_tells_20 : decode cX12_tells 20 = .ok (.baload, 1) := by decide +kernel
theorem dX12_tells_21 : decode cX12_tells 21 = .ok (.bastore, 1) := by decide +kernel
theorem dX12_tells_22 : decode cX12_tells 22 = .ok (.iinc 1 1, 3) := by decide +kernel
theorem dX12_tells_25 : decode cX12_tells 25 = .ok (.goto (-23), 3) := by decide +kernel
theorem dX12_tells_28 : decode cX12_tells 28 = .ok (.aload_n 0, 1) := by decide +kernel
theorem dX12_tells_29 : decode cX12_tells 29 = .ok (.aload_n 0, 1) := by decide +kernel
theorem dX12_tells_30 : decode cX12_tells 30 = .ok (.getfield 242, 3) := by decide +kernel
theorem dX12_tells_33 : decode cX12_tells 33 = .ok (.putfield 263, 3) := by decide +kernel
theorem dX12_tells_36 : decode cX12_tells 36 = .ok (.aload_n 0, 1) := by decide +kernel
theorem dX12_tells_37 : decode cX12_tells 37 = .ok (.getfield 242, 3) := by decide +kernel
theorem dX12_tells_40 : decode cX12_tells 40 = .ok (.ireturn, 1) := by decide +kernel
theorem dX12_ofScan_0 : decode cX12_ofScan 0 = .ok (.aload_n 0, 1) := by decide +kernel
theorem dX12_ofScan_1 : decode cX12_ofScan 1 = .ok (.getfield 20, 3) := by decide +kernel
theorem dX12_ofScan_4 : decode cX12_ofScan 4 = .ok (.bipush 89, 2) := by decide +kernel
theorem dX12_ofScan_6 : decode cX12_ofScan 6 = .ok (.iconst 3, 1) := by decide +kernel
theorem dX12_ofScan_7 : decode cX12_ofScan 7 = .ok (.iload_n 1, 1) := by decide +kernel
theorem dX12_ofScan_8 : decode cX12_ofScan 8 = .ok (.imul, 1) := by decide +kernel
theorem dX12_ofScan_9 : decode cX12_ofScan 9 = .ok (.iadd, 1) := by decide +kernel
theorem dX12_ofScan_10 : decode cX12_ofScan 10 = .ok (.iload_n 2, 1) := by decide +kernel
theorem dX12_ofScan_11 : decode cX12_ofScan 11 = .ok (.iadd, 1) := by decide +kernel
theorem dX12_ofScan_12 : decode cX12_ofScan 12 = .ok (.iaload, 1) := by decide +kernel
theorem dX12_ofScan_13 : decode cX12_ofScan 13 = .ok (.ireturn, 1) := by decide +kernel
theorem dX12_isScan_0 : decode cX12_isScan 0 = .ok (.iload_n 1, 1) := by decide +kernel
theorem dX12_isScan_1 : decode cX12_isScan 1 = .ok (.i2l, 1) := by decide +kernel
theorem dX12_isScan_2 : decode cX12_isScan 2 = .ok (.lconst 0, 1) := by decide +kernel
theorem dX12_isScan_3 : decode cX12_isScan 3 = .ok (.aload_n 0, 1) := by decide +kernel
theorem dX12_isScan_4 : decode cX12_isScan 4 = .ok (.getfield 20, 3) := by decide +kernel
theorem dX12_isScan_7 : decode cX12_isScan 7 = .ok (.iconst 2, 1) := by decide +kernel
theorem dX12_isScan_8 : decode cX12_isScan 8 = .ok (.iaload, 1) := by decide +kernel
theorem dX12_isScan_9 : decode cX12_isScan 9 = .ok (.iconst 1, 1) := by decide +kernel
theorem dX12_isScan_10 : decode cX12_isScan 10 = .ok (.isub, 1) := by decide +kernel
theorem dX12_isScan_11 : decode cX12_isScan 11 = .ok (.i2l, 1) := by decide +kernel
theorem dX12_isScan_12 : decode cX12_isScan 12 = .ok (.invokestatic 101, 3) := by decide +kernel
theorem dX12_isScan_15 : decode cX12_isScan 15 = .ok (.ireturn, 1) := by decide +kernel
theorem dX12_laysShown_0 : decode cX12_laysShown 0 = .ok (.aload_n 0, 1) := by decide +kernel
theorem dX12_laysShown_1 : decode cX12_laysShown 1 = .ok (.iload_n 1, 1) := by decide +kernel
theorem dX12_laysShown_2 : decode cX12_laysShown 2 = .ok (.iconst 1, 1) := by decide +kernel
theorem dX12_laysShown_3 : decode cX12_laysShown 3 = .ok (.invokevirtual 266, 3) := by decide +kernel
theorem dX12_laysShown_6 : decode cX12_laysShown 6 = .ok (.istore_n 2, 1) := by decide +kernel
theorem dX12_laysShown_7 : decode cX12_laysShown 7 = .ok (.aload_n 0, 1) := by decide +kernel
theorem dX12_laysShown_8 : decode cX12_laysShown 8 = .ok (.iload_n 1, 1) := by decide +kernel
theorem dX12_laysShown_9 : decode cX12_laysShown 9 = .ok (.iconst 2, 1) := by decide +kernel
theorem dX12_laysShown_10 : decode cX12_laysShown 10 = .ok (.invokevirtual 266, 3) := by decide +kernel
theorem dX12_laysShown_13 : decode cX12_laysShown 13 = .ok (.istore_n 3, 1) := by decide +kernel
theorem dX12_laysShown_14 : decode cX12_laysShown 14 = .ok (.aload_n 0, 1) := by decide +kernel
theorem dX12_laysShown_15 : decode cX12_laysShown 15 = .ok (.getfield 48, 3) := by decide +kernel
theorem dX12_laysShown_18 : decode cX12_laysShown 18 = .ok (.iconst 1, 1) := by decide +kernel
theorem dX12_laysShown_19 : decode cX12_laysShown 19 = .ok (.iconst (-1), 1) := by decide +kernel
theorem dX12_laysShown_20 : decode cX12_laysShown 20 = .ok (.iastore, 1) := by decide +kernel
theorem dX12_laysShown_21 : decode cX12_laysShown 21 = .ok (.aload_n 0, 1) := by decide +kernel
theorem dX12_laysShown_22 : decode cX12_laysShown 22 = .ok (.iload_n 1, 1) := by decide +kernel
theorem dX12_laysShown_23 : decode cX12_laysShown 23 = .ok (.iconst 0, 1) := by decide +kernel
theorem dX12_laysShown_24 : decode cX12_laysShown 24 = .ok (.invokevirtual 266, 3) := by decide +kernel
theorem dX12_laysShown_27 : decode cX12_laysShown 27 = .ok (.ifCond .ne 18, 3) := by decide +kernel
theorem dX12_laysShown_30 : decode cX12_laysShown 30 = .ok (.aload_n 0, 1) := by decide +kernel
theorem dX12_laysShown_31 : decode cX12_laysShown 31 = .ok (.getfield 48, 3) := by decide +kernel
theorem dX12_laysShown_34 : decode cX12_laysShown 34 = .ok (.iconst 0, 1) := by decide +kernel
theorem dX12_laysShown_35 : decode cX12_laysShown 35 = .ok (.aload_n 0, 1) := by decide +kernel
theorem dX12_laysShown_36 : decode cX12_laysShown 36 = .ok (.iload_n 2, 1) := by decide +kernel
theorem dX12_laysShown_37 : decode cX12_laysShown 37 = .ok (.iload_n 3, 1) := by decide +kernel
theorem dX12_laysShown_38 : decode cX12_laysShown 38 = .ok (.invokevirtual 269, 3) := by decide +kernel
theorem dX12_laysShown_41 : decode cX12_laysShown 41 = .ok (.iastore, 1) := by decide +kernel
theorem dX12_laysShown_42 : decode cX12_laysShown 42 = .ok (.goto 70, 3) := by decide +kernel
theorem dX12_laysShown_45 : decode cX12_laysShown 45 = .ok (.aload_n 0, 1) := by decide +kernel
theorem dX12_laysShown_46 : decode cX12_laysShown 46 = .ok (.iload_n 1, 1) := by decide +kernel
theorem dX12_laysShown_47 : decode cX12_laysShown 47 = .ok (.iconst 0, 1) := by decide +kernel
theorem dX12_laysShown_48 : decode cX12_laysShown 48 = .ok (.invokevirtual 266, 3) := by decide +kernel
theorem dX12_laysShown_51 : decode cX12_laysShown 51 = .ok (.iconst 2, 1) := by decide +kernel
theorem dX12_laysShown_52 : decode cX12_laysShown 52 = .ok (.if_icmp .ne 18, 3) := by decide +kernel
theorem dX12_laysShown_55 : decode cX12_laysShown 55 = .ok (.aload_n 0, 1) := by decide +kernel
theorem dX12_laysShown_56 : decode cX12_laysShown 56 = .ok (.getfield 48, 3) := by decide +kernel
theorem dX12_laysShown_59 : decode cX12_laysShown 59 = .ok (.iconst 0, 1) := by decide +kernel
theorem dX12_laysShown_60 : decode cX12_laysShown 60 = .ok (.aload_n 0, 1) := by decide +kernel
theorem dX12_laysShown_61 : decode cX12_laysShown 61 = .ok (.iload_n 2, 1) := by decide +kernel
theorem dX12_laysShown_62 : decode cX12_laysShown 62 = .ok (.iload_n 3, 1) := by decide +kernel
theorem dX12_laysShown_63 : decode cX12_laysShown 63 = .ok (.invokevirtual 272, 3) := by decide +kernel
theorem dX12_laysShown_66 : decode cX12_laysShown 66 = .ok (.iastore, 1) := by decide +kernel
theorem dX12_laysShown_67 : decode cX12_laysShown 67 = .ok (.goto 45, 3) := by decide +kernel
theorem dX12_laysShown_70 : decode cX12_laysShown 70 = .ok (.aload_n 0, 1) := by decide +kernel
theorem dX12_laysShown_71 : decode cX12_laysShown 71 = .ok (.getfield 48, 3) := by decide +kernel
theorem dX12_laysShown_74 : decode cX12_laysShown 74 = .ok (.iconst 0, 1) := by decide +kernel
theorem dX12_laysShown_75 : decode cX12_laysShown 75 = .ok (.iload_n 2, 1) := by decide +kernel
theorem dX12_laysShown_76 : decode cX12_laysShown 76 = .ok (.iconst (-1), 1) := by decide +kernel
theorem dX12_laysShown_77 : decode cX12_laysShown 77 = .ok (.if_icmp .ne 7, 3) := by decide +kernel
theorem dX12_laysShown_80 : decode cX12_laysShown 80 = .ok (.iconst (-1), 1) := by decide +kernel
theorem dX12_laysShown_81 : decode cX12_laysShown 81 = .ok (.goto 9, 3) := by decide +kernel
theorem dX12_laysShown_84 : decode cX12_laysShown 84 = .ok (.aload_n 0, 1) := by decide +kernel
theorem dX12_laysShown_85 : decode cX12_laysShown 85 = .ok (.iload_n 2, 1) := by decide +kernel
theorem dX12_laysShown_86 : decode cX12_laysShown 86 = .ok (.iconst 1, 1) := by decide +kernel
theorem dX12_laysShown_87 : decode cX12_laysShown 87 = .ok (.invokevirtual 269, 3) := by decide +kernel
theorem dX12_laysShown_90 : decode cX12_laysShown 90 = .ok (.iastore, 1) := by decide +kernel
theorem dX12_laysShown_91 : decode cX12_laysShown 91 = .ok (.aload_n 0, 1) := by decide +kernel
theorem dX12_laysShown_92 : decode cX12_laysShown 92 = .ok (.getfield 48, 3) := by decide +kernel
theorem dX12_laysShown_95 : decode cX12_laysShown 95 = .ok (.iconst 1, 1) := by decide +kernel
theorem dX12_laysShown_96 : decode cX12_laysShown 96 = .ok (.iload_n 3, 1) := by decide +kernel
theorem dX12_laysShown_97 : decode cX12_laysShown 97 = .ok (.iconst (-1), 1) := by decide +kernel
theorem dX12_laysShown_98 : decode cX12_laysShown 98 = .ok (.if_icmp .ne 7, 3) := by decide +kernel
theorem dX12_laysShown_101 : decode cX12_laysShown 101 = .ok (.iconst (-1), 1) := by decide +kernel
theorem dX12_laysShown_102 : decode cX12_laysShown 102 = .ok (.goto 9, 3) := by decide +kernel
theorem dX12_laysShown_105 : decode cX12_laysShown 105 = .ok (.aload_n 0, 1) := by decide +kernel
theorem dX12_laysShown_106 : decode cX12_laysShown 106 = .ok (.iload_n 3, 1) := by decide +kernel
theorem dX12_laysShown_107 : decode cX12_laysShown 107 = .ok (.iconst 0, 1) := by decide +kernel
theorem dX12_laysShown_108 : decode cX12_laysShown 108 = .ok (.invokevirtual 269, 3) := by decide +kernel
theorem dX12_laysShown_111 : decode cX12_laysShown 111 = .ok (.iastore, 1) := by decide +kernel
theorem dX12_laysShown_112 : decode cX12_laysShown 112 = .ok (.return_, 1) := by decide +kernel
theorem dX12_placeOfScan_0 : decode cX12_placeOfScan 0 = .ok (.aload_n 0, 1) := by decide +kernel
theorem dX12_placeOfScan_1 : decode cX12_placeOfScan 1 = .ok (.iload_n 1, 1) := by decide +kernel
theorem dX12_placeOfScan_2 : decode cX12_placeOfScan 2 = .ok (.invokevirtual 275, 3) := by decide +kernel
theorem dX12_placeOfScan_5 : decode cX12_placeOfScan 5 = .ok (.aload_n 0, 1) := by decide +kernel
theorem dX12_placeOfScan_6 : decode cX12_placeOfScan 6 = .ok (.getfield 48, 3) := by decide +kernel
theorem dX12_placeOfScan_9 : decode cX12_placeOfScan 9 = .ok (.iconst 0, 1) := by decide +kernel
theorem dX12_placeOfScan_10 : decode cX12_placeOfScan 10 = .ok (.iaload, 1) := by decide +kernel
theorem dX12_placeOfScan_11 : decode cX12_placeOfScan 11 = .ok (.iconst (-1), 1) := by decide +kernel
theorem dX12_placeOfScan_12 : decode cX12_placeOfScan 12 = .ok (.if_icmp .eq 13, 3) := by decide +kernel
theorem dX12_placeOfScan_15 : decode cX12_placeOfScan 15 = .ok (.aload_n 0, 1) := by decide +kernel
theorem dX12_placeOfScan_16 : decode cX12_placeOfScan 16 = .ok (.getfield 48, 3) := by decide +kernel
theorem dX12_placeOfScan_19 : decode cX12_placeOfScan 19 = .ok (.iconst 1, 1) := by decide +kernel
theorem dX12_placeOfScan_20 : decode cX12_placeOfScan 20 = .ok (.iaload, 1) := by decide +kernel
theorem dX12_placeOfScan_21 : decode cX12_placeOfScan 21 = .ok (.iconst (-1), 1) := by decide +kernel
theorem dX12_placeOfScan_22 : decode cX12_placeOfScan 22 = .ok (.if_icmp .ne 19, 3) := by decide +kernel
theorem dX12_placeOfScan_25 : decode cX12_placeOfScan 25 = .ok (.aload_n 0, 1) := by decide +kernel
theorem dX12_placeOfScan_26 : decode cX12_placeOfScan 26 = .ok (.getfield 48, 3) := by decide +kernel
theorem dX12_placeOfScan_29 : decode cX12_placeOfScan 29 = .ok (.iconst 0, 1) := by decide +kernel
theorem dX12_placeOfScan_30 : decode cX12_placeOfScan 30 = .ok (.iaload, 1) := by decide +kernel
theorem dX12_placeOfScan_31 : decode cX12_placeOfScan 31 = .ok (.aload_n 0, 1) := by decide +kernel
theorem dX12_placeOfScan_32 : decode cX12_placeOfScan 32 = .ok (.getfield 48, 3) := by decide +kernel
theorem dX12_placeOfScan_35 : decode cX12_placeOfScan 35 = .ok (.iconst 1, 1) := by decide +kernel
theorem dX12_placeOfScan_36 : decode cX12_placeOfScan 36 = .ok (.iaload, 1) := by decide +kernel
theorem dX12_placeOfScan_37 : decode cX12_placeOfScan 37 = .ok (.invokestatic 278, 3) := by decide +kernel
theorem dX12_placeOfScan_40 : decode cX12_placeOfScan 40 = .ok (.ireturn, 1) := by decide +kernel
theorem dX12_placeOfScan_41 : decode cX12_placeOfScan 41 = .ok (.aload_n 0, 1) := by decide +kernel
theorem dX12_placeOfScan_42 : decode cX12_placeOfScan 42 = .ok (.getfield 48, 3) := by decide +kernel
theorem dX12_placeOfScan_45 : decode cX12_placeOfScan 45 = .ok (.iconst 0, 1) := by decide +kernel
theorem dX12_placeOfScan_46 : decode cX12_placeOfScan 46 = .ok (.iaload, 1) := by decide +kernel
theorem dX12_placeOfScan_47 : decode cX12_placeOfScan 47 = .ok (.aload_n 0, 1) := by decide +kernel
theorem dX12_placeOfScan_48 : decode cX12_placeOfScan 48 = .ok (.getfield 48, 3) := by decide +kernel
theorem dX12_placeOfScan_51 : decode cX12_placeOfScan 51 = .ok (.iconst 1, 1) := by decide +kernel
theorem dX12_placeOfScan_52 : decode cX12_placeOfScan 52 = .ok (.iaload, 1) := by decide +kernel
theorem dX12_placeOfScan_53 : decode cX12_placeOfScan 53 = .ok (.invokestatic 150, 3) := by decide +kernel
theorem dX12_placeOfScan_56 : decode cX12_placeOfScan 56 = .ok (.ireturn, 1) := by decide +kernel
theorem dX12_isShown_0 : decode cX12_isShown 0 = .ok (.aload_n 0, 1) := by decide +kernel
theorem dX12_isShown_1 : decode cX12_isShown 1 = .ok (.iload_n 1, 1) := by decide +kernel
theorem dX12_isShown_2 : decode cX12_isShown 2 = .ok (.invokevirtual 275, 3) := by decide +kernel
theorem dX12_isShown_5 : decode cX12_isShown 5 = .ok (.aload_n 0, 1) := by decide +kernel
theorem dX12_isShown_6 : decode cX12_isShown 6 = .ok (.getfield 48, 3) := by decide +kernel
theorem dX12_isShown_9 : decode cX12_isShown 9 = .ok (.iconst 0, 1) := by decide +kernel
theorem dX12_isShown_10 : decode cX12_isShown 10 = .ok (.iaload, 1) := by decide +kernel
theorem dX12_isShown_11 : decode cX12_isShown 11 = .ok (.iload_n 2, 1) := by decide +kernel
theorem dX12_isShown_12 : decode cX12_isShown 12 = .ok (.if_icmp .eq 13, 3) := by decide +kernel
theorem dX12_isShown_15 : decode cX12_isShown 15 = .ok (.aload_n 0, 1) := by decide +kernel
theorem dX12_isShown_16 : decode cX12_isShown 16 = .ok (.getfield 48, 3) := by decide +kernel
theorem dX12_isShown_19 : decode cX12_isShown 19 = .ok (.iconst 1, 1) := by decide +kernel
theorem dX12_isShown_20 : decode cX12_isShown 20 = .ok (.iaload, 1) := by decide +kernel
theorem dX12_isShown_21 : decode cX12_isShown 21 = .ok (.iload_n 2, 1) := by decide +kernel
theorem dX12_isShown_22 : decode cX12_isShown 22 = .ok (.if_icmp .ne 7, 3) := by decide +kernel
theorem dX12_isShown_25 : decode cX12_isShown 25 = .ok (.iconst 1, 1) := by decide +kernel
theorem dX12_isShown_26 : decode cX12_isShown 26 = .ok (.goto 4, 3) := by decide +kernel
theorem dX12_isShown_29 : decode cX12_isShown 29 = .ok (.iconst 0, 1) := by decide +kernel
theorem dX12_isShown_30 : decode cX12_isShown 30 = .ok (.ireturn, 1) := by decide +kernel
theorem dX12_showingOf_0 : decode cX12_showingOf 0 = .ok (.iconst 0, 1) := by decide +kernel
theorem dX12_showingOf_1 : decode cX12_showingOf 1 = .ok (.istore_n 2, 1) := by decide +kernel
theorem dX12_showingOf_2 : decode cX12_showingOf 2 = .ok (.iconst 0, 1) := by decide +kernel
theorem dX12_showingOf_3 : decode cX12_showingOf 3 = .ok (.istore_n 3, 1) := by decide +kernel
theorem dX12_showingOf_4 : decode cX12_showingOf 4 = .ok (.iload_n 3, 1) := by decide +kernel
theorem dX12_showingOf_5 : decode cX12_showingOf 5 = .ok (.aload_n 0, 1) := by decide +kernel
theorem dX12_showingOf_6 : decode cX12_showingOf 6 = .ok (.getfield 20, 3) := by decide +kernel
theorem dX12_showingOf_9 : decode cX12_showingOf 9 = .ok (.iconst 2, 1) := by decide +kernel
theorem dX12_showingOf_10 : decode cX12_showingOf 10 = .ok (.iaload, 1) := by decide +kernel
theorem dX12_showingOf_11 : decode cX12_showingOf 11 = .ok (.if_icmp .ge 26, 3) := by decide +kernel
theorem dX12_showingOf_14 : decode cX12_showingOf 14 = .ok (.iload_n 2, 1) := by decide +kernel
theorem dX12_showingOf_15 : decode cX12_showingOf 15 = .ok (.aload_n 0, 1) := by decide +kernel
theorem dX12_showingOf_16 : decode cX12_showingOf 16 = .ok (.iload_n 3, 1) := by decide +kernel
theorem dX12_showingOf_17 : decode cX12_showingOf 17 = .ok (.iload_n 1, 1) := by decide +kernel
theorem dX12_showingOf_18 : decode cX12_showingOf 18 = .ok (.invokevirtual 281, 3) := by decide +kernel
theorem dX12_showingOf_21 : decode cX12_showingOf 21 = .ok (.ifCond .eq 7, 3) := by decide +kernel
theorem dX12_showingOf_24 : decode cX12_showingOf 24 = .ok (.iconst 1, 1) := by decide +kernel
theorem dX12_showingOf_25 : decode cX12_showingOf 25 = .ok (.goto 4, 3) := by decide +kernel
theorem dX12_showingOf_28 : decode cX12_showingOf 28 = .ok (.iconst 0, 1) := by decide +kernel
theorem dX12_showingOf_29 : decode cX12_showingOf 29 = .ok (.iadd, 1) := by decide +kernel
theorem dX12_showingOf_30 : decode cX12_showingOf 30 = .ok (.istore_n 2, 1) := by decide +kernel
theorem dX12_showingOf_31 : decode cX12_showingOf 31 = .ok (.iinc 3 1, 3) := by decide +kernel
theorem dX12_showingOf_34 : decode cX12_showingOf 34 = .ok (.goto (-30), 3) := by decide +kernel
theorem dX12_showingOf_37 : decode cX12_showingOf 37 = .ok (.iload_n 2, 1) := by decide +kernel
theorem dX12_showingOf_38 : decode cX12_showingOf 38 = .ok (.ireturn, 1) := by decide +kernel
theorem dX12_adds_0 : decode cX12_adds 0 = .ok (.aload_n 0, 1) := by decide +kernel
theorem dX12_adds_1 : decode cX12_adds 1 = .ok (.invokevirtual 285, 3) := by decide +kernel
theorem dX12_adds_4 : decode cX12_adds 4 = .ok (.bipush 89, 2) := by decide +kernel
theorem dX12_adds_6 : decode cX12_adds 6 = .ok (.iconst 3, 1) := by decide +kernel
theorem dX12_adds_7 : decode cX12_adds 7 = .ok (.aload_n 0, 1) := by decide +kernel
theorem dX12_adds_8 : decode cX12_adds 8 = .ok (.getfield 20, 3) := by decide +kernel
theorem dX12_adds_11 : decode cX12_adds 11 = .ok (.iconst 2, 1) := by decide +kernel
theorem dX12_adds_12 : decode cX12_adds 12 = .ok (.iaload, 1) := by decide +kernel
theorem dX12_adds_13 : decode cX12_adds 13 = .ok (.imul, 1) := by decide +kernel
theorem dX12_adds_14 : decode cX12_adds 14 = .ok (.iadd, 1) := by decide +kernel
theorem dX12_adds_15 : decode cX12_adds 15 = .ok (.istore 4, 2) := by decide +kernel
theorem dX12_adds_17 : decode cX12_adds 17 = .ok (.aload_n 0, 1) := by decide +kernel
theorem dX12_adds_18 : decode cX12_adds 18 = .ok (.getfield 20, 3) := by decide +kernel
theorem dX12_adds_21 : decode cX12_adds 21 = .ok (.iload 4, 2) := by decide +kernel
theorem dX12_adds_23 : decode cX12_adds 23 = .ok (.iload_n 1, 1) := by decide +kernel
theorem dX12_adds_24 : decode cX12_adds 24 = .ok (.iastore, 1) := by decide +kernel
theorem dX12_adds_25 : decode cX12_adds 25 = .ok (.aload_n 0, 1) := by decide +kernel
theorem dX12_adds_26 : decode cX12_adds 26 = .ok (.getfield 20, 3) := by decide +kernel
theorem dX12_adds_29 : decode cX12_adds 29 = .ok (.iload 4, 2) := by decide +kernel
theorem dX12_adds_31 : decode cX12_adds 31 = .ok (.iconst 1, 1) := by decide +kernel
theorem dX12_adds_32 : decode cX12_adds 32 = .ok (.iadd, 1) := by decide +kernel
theorem dX12_adds_33 : decode cX12_adds 33 = .ok (.iload_n 2, 1) := by decide +kernel
theorem dX12_adds_34 : decode cX12_adds 34 = .ok (.iastore, 1) := by decide +kernel
theorem dX12_adds_35 : decode cX12_adds 35 = .ok (.aload_n 0, 1) := by decide +kernel
theorem dX12_adds_36 : decode cX12_adds 36 = .ok (.getfield 20, 3) := by decide +kernel
theorem dX12_adds_39 : decode cX12_adds 39 = .ok (.iload 4, 2) := by decide +kernel
theorem dX12_adds_41 : decode cX12_adds 41 = .ok (.iconst 2, 1) := by decide +kernel
theorem dX12_adds_42 : decode cX12_adds 42 = .ok (.iadd, 1) := by decide +kernel
theorem dX12_adds_43 : decode cX12_adds 43 = .ok (.iload_n 3, 1) := by decide +kernel
theorem dX12_adds_44 : decode cX12_adds 44 = .ok (.iastore, 1) := by decide +kernel
theorem dX12_adds_45 : decode cX12_adds 45 = .ok (.aload_n 0, 1) := by decide +kernel
theorem dX12_adds_46 : decode cX12_adds 46 = .ok (.getfield 20, 3) := by decide +kernel
theorem dX12_adds_49 : decode cX12_adds 49 = .ok (.iconst 2, 1) := by decide +kernel
theorem dX12_adds_50 : decode cX12_adds 50 = .ok (.dup2, 1) := by decide +kernel
theorem dX12_adds_51 : decode cX12_adds 51 = .ok (.iaload, 1) := by decide +kernel
theorem dX12_adds_52 : decode cX12_adds 52 = .ok (.iconst 1, 1) := by decide +kernel
theorem dX12_adds_53 : decode cX12_adds 53 = .ok (.iadd, 1) := by decide +kernel
theorem dX12_adds_54 : decode cX12_adds 54 = .ok (.iastore, 1) := by decide +kernel
theorem dX12_adds_55 : decode cX12_adds 55 = .ok (.aload_n 0, 1) := by decide +kernel
theorem dX12_adds_56 : decode cX12_adds 56 = .ok (.getfield 20, 3) := by decide +kernel
theorem dX12_adds_59 : decode cX12_adds 59 = .ok (.iconst 2, 1) := by decide +kernel
theorem dX12_adds_60 : decode cX12_adds 60 = .ok (.iaload, 1) := by decide +kernel
theorem dX12_adds_61 : decode cX12_adds 61 = .ok (.iconst 1, 1) := by decide +kernel
theorem dX12_adds_62 : decode cX12_adds 62 = .ok (.isub, 1) := by decide +kernel
theorem dX12_adds_63 : decode cX12_adds 63 = .ok (.ireturn, 1) := by decide +kernel
theorem dX12_laysRow_0 : decode cX12_laysRow 0 = .ok (.aload_n 0, 1) := by decide +kernel
theorem dX12_laysRow_1 : decode cX12_laysRow 1 = .ok (.invokevirtual 239, 3) := by decide +kernel
theorem dX12_laysRow_4 : decode cX12_laysRow 4 = .ok (.aload_n 0, 1) := by decide +kernel
theorem dX12_laysRow_5 : decode cX12_laysRow 5 = .ok (.iconst 0, 1) := by decide +kernel
theorem dX12_laysRow_6 : decode cX12_laysRow 6 = .ok (.putfield 288, 3) := by decide +kernel
theorem dX12_laysRow_9 : decode cX12_laysRow 9 = .ok (.iconst 0, 1) := by decide +kernel
theorem dX12_laysRow_10 : decode cX12_laysRow 10 = .ok (.istore_n 1, 1) := by decide +kernel
theorem dX12_laysRow_11 : decode cX12_laysRow 11 = .ok (.iload_n 1, 1) := by decide +kernel
theorem dX12_laysRow_12 : decode cX12_laysRow 12 = .ok (.aload_n 0, 1) := by decide +kernel
theorem dX12_laysRow_13 : decode cX12_laysRow 13 = .ok (.getfield 20, 3) := by decide +kernel
theorem dX12_laysRow_16 : decode cX12_laysRow 16 = .ok (.iconst 2, 1) := by decide +kernel
theorem dX12_laysRow_17 : decode cX12_laysRow 17 = .ok (.iaload, 1) := by decide +kernel
theorem dX12_laysRow_18 : decode cX12_laysRow 18 = .ok (.if_icmp .ge 40, 3) := by decide +kernel
theorem dX12_laysRow_21 : decode cX12_laysRow 21 = .ok (.aload_n 0, 1) := by decide +kernel
theorem dX12_laysRow_22 : decode cX12_laysRow 22 = .ok (.iload_n 1, 1) := by decide +kernel
theorem dX12_laysRow_23 : decode cX12_laysRow 23 = .ok (.invokevirtual 291, 3) := by decide +kernel
theorem dX12_laysRow_26 : decode cX12_laysRow 26 = .ok (.istore_n 2, 1) := by decide +kernel
theorem dX12_laysRow_27 : decode cX12_laysRow 27 = .ok (.iload_n 2, 1) := by decide +kernel
theorem dX12_laysRow_28 : decode cX12_laysRow 28 = .ok (.iconst (-1), 1) := by decide +kernel
theorem dX12_laysRow_29 : decode cX12_laysRow 29 = .ok (.if_icmp .eq 23, 3) := by decide +kernel
theorem dX12_laysRow_32 : decode cX12_laysRow 32 = .ok (.aload_n 0, 1) := by decide +kernel
theorem dX12_laysRow_33 : decode cX12_laysRow 33 = .ok (.getfield 51, 3) := by decide +kernel
theorem dX12_laysRow_36 : decode cX12_laysRow 36 = .ok (.aload_n 0, 1) := by decide +kernel
theorem dX12_laysRow_37 : decode cX12_laysRow 37 = .ok (.getfield 288, 3) := by decide +kernel
theorem dX12_laysRow_40 : decode cX12_laysRow 40 = .ok (.iload_n 2, 1) := by decide +kernel
theorem dX12_laysRow_41 : decode cX12_laysRow 41 = .ok (.iastore, 1) := by decide +kernel
theorem dX12_laysRow_42 : decode cX12_laysRow 42 = .ok (.aload_n 0, 1) := by decide +kernel
theorem dX12_laysRow_43 : decode cX12_laysRow 43 = .ok (.dup, 1) := by decide +kernel
theorem dX12_laysRow_44 : decode cX12_laysRow 44 = .ok (.getfield 288, 3) := by decide +kernel
theorem dX12_laysRow_47 : decode cX12_laysRow 47 = .ok (.iconst 1, 1) := by decide +kernel
theorem dX12_laysRow_48 : decode cX12_laysRow 48 = .ok (.iadd, 1) := by decide +kernel
theorem dX12_laysRow_49 : decode cX12_laysRow 49 = .ok (.putfield 288, 3) := by decide +kernel
theorem dX12_laysRow_52 : decode cX12_laysRow 52 = .ok (.iinc 1 1, 3) := by decide +kernel
theorem dX12_laysRow_55 : decode cX12_laysRow 55 = .ok (.goto (-44), 3) := by decide +kernel
theorem dX12_laysRow_58 : decode cX12_laysRow 58 = .ok (.return_, 1) := by decide +kernel
theorem dX12_inversionsNow_0 : decode cX12_inversionsNow 0 = .ok (.aload_n 0, 1) := by decide +kernel
theorem dX12_inversionsNow_1 : decode cX12_inversionsNow 1 = .ok (.invokevirtual 294, 3) := by decide +kernel
theorem dX12_inversionsNow_4 : decode cX12_inversionsNow 4 = .ok (.iconst 0, 1) := by decide +kernel
theorem dX12_inversionsNow_5 : decode cX12_inversionsNow 5 = .ok (.istore_n 1, 1) := by decide +kernel
theorem dX12_inversionsNow_6 : decode cX12_inversionsNow 6 = .ok (.iconst 0, 1) := by decide +kernel
theorem dX12_inversionsNow_7 : decode cX12_inversionsNow 7 = .ok (.istore_n 2, 1) := by decide +kernel
theorem dX12_inversionsNow_8 : decode cX12_inversionsNow 8 = .ok (.iload_n 2, 1) := by decide +kernel
theorem dX12_inversionsNow_9 : decode cX12_inversionsNow 9 = .ok (.aload_n 0, 1) := by decide +kernel
theorem dX12_inversionsNow_10 : decode cX12_inversionsNow 10 = .ok (.getfield 288, 3) := by decide +kernel
theorem dX12_inversionsNow_13 : decode cX12_inversionsNow 13 = .ok (.if_icmp .ge 45, 3) := by decide +kernel
theorem dX12_inversionsNow_16 : decode cX12_inversionsNow 16 = .ok (.iconst 0, 1) := by decide +kernel
theorem dX12_inversionsNow_17 : decode cX12_inversionsNow 17 = .ok (.istore_n 3, 1) := by decide +kernel
theorem dX12_inversionsNow_18 : decode cX12_inversionsNow 18 = .ok (.iload_n 3, 1) := by decide +kernel
theorem dX12_inversionsNow_19 : decode cX12_inversionsNow 19 = .ok (.iload_n 2, 1) := by decide +kernel
theorem dX12_inversionsNow_20 : decode cX12_inversionsNow 20 = .ok (.if_icmp .ge 32, 3) := by decide +kernel
theorem dX12_inversionsNow_23 : decode cX12_inversionsNow 23 = .ok (.iload_n 1, 1) := by decide +kernel
theorem dX12_inversionsNow_24 : decode cX12_inversionsNow 24 = .ok (.aload_n 0, 1) := by decide +kernel
theorem dX12_inversionsNow_25 : decode cX12_inversionsNow 25 = .ok (.getfield 51, 3) := by decide +kernel
theorem dX12_inversionsNow_28 : decode cX12_inversionsNow 28 = .ok (.iload_n 2, 1) := by decide +kernel
theorem dX12_inversionsNow_29 : decode cX12_inversionsNow 29 = .ok (.iaload, 1) := by decide +kernel
theorem dX12_inversionsNow_30 : decode cX12_inversionsNow 30 = .ok (.aload_n 0, 1) := by decide +kernel
theorem dX12_inversionsNow_31 : decode cX12_inversionsNow 31 = .ok (.getfield 51, 3) := by decide +kernel
theorem dX12_inversionsNow_34 : decode cX12_inversionsNow 34 = .ok (.iload_n 3, 1) := by decide +kernel
theorem dX12_inversionsNow_35 : decode cX12_inversionsNow 35 = .ok (.iaload, 1) := by decide +kernel
theorem dX12_inversionsNow_36 : decode cX12_inversionsNow 36 = .ok (.if_icmp .ge 7, 3) := by decide +kernel
theorem dX12_inversionsNow_39 : decode cX12_inversionsNow 39 = .ok (.iconst 1, 1) := by decide +kernel
theorem dX12_inversionsNow_40 : decode cX12_inversionsNow 40 = .ok (.goto 4, 3) := by decide +kernel
theorem dX12_inversionsNow_43 : decode cX12_inversionsNow 43 = .ok (.iconst 0, 1) := by decide +kernel
theorem dX12_inversionsNow_44 : decode cX12_inversionsNow 44 = .ok (.iadd, 1) := by decide +kernel
theorem dX12_inversionsNow_45 : decode cX12_inversionsNow 45 = .ok (.istore_n 1, 1) := by decide +kernel
theorem dX12_inversionsNow_46 : decode cX12_inversionsNow 46 = .ok (.iinc 3 1, 3) := by decide +kernel
theorem dX12_inversionsNow_49 : decode cX12_inversionsNow 49 = .ok (.goto (-31), 3) := by decide +kernel
theorem dX12_inversionsNow_52 : decode cX12_inversionsNow 52 = .ok (.iinc 2 1, 3) := by decide +kernel
theorem dX12_inversionsNow_55 : decode cX12_inversionsNow 55 = .ok (.goto (-47), 3) := by decide +kernel
theorem dX12_inversionsNow_58 : decode cX12_inversionsNow 58 = .ok (.iload_n 1, 1) := by decide +kernel
theorem dX12_inversionsNow_59 : decode cX12_inversionsNow 59 = .ok (.ireturn, 1) := by decide +kernel
theorem dX12_opensAnew_0 : decode cX12_opensAnew 0 = .ok (.aload_n 0, 1) := by decide +kernel
theorem dX12_opensAnew_1 : decode cX12_opensAnew 1 = .ok (.getfield 20, 3) := by decide +kernel
theorem dX12_opensAnew_4 : decode cX12_opensAnew 4 = .ok (.iconst 3, 1) := by decide +kernel
theorem dX12_opensAnew_5 : decode cX12_opensAnew 5 = .ok (.iconst 0, 1) := by decide +kernel
theorem dX12_opensAnew_6 : decode cX12_opensAnew 6 = .ok (.iastore, 1) := by decide +kernel
theorem dX12_opensAnew_7 : decode cX12_opensAnew 7 = .ok (.aload_n 0, 1) := by decide +kernel
theorem dX12_opensAnew_8 : decode cX12_opensAnew 8 = .ok (.getfield 20, 3) := by decide +kernel
theorem dX12_opensAnew_11 : decode cX12_opensAnew 11 = .ok (.iconst 4, 1) := by decide +kernel
theorem dX12_opensAnew_12 : decode cX12_opensAnew 12 = .ok (.iconst 0, 1) := by decide +kernel
theorem dX12_opensAnew_13 : decode cX12_opensAnew 13 = .ok (.iastore, 1) := by decide +kernel
theorem dX12_opensAnew_14 : decode cX12_opensAnew 14 = .ok (.return_, 1) := by decide +kernel
theorem dX12_lose_0 : decode cX12_lose 0 = .ok (.aload_n 0, 1) := by decide +kernel
theorem dX12_lose_1 : decode cX12_lose 1 = .ok (.iconst 0, 1) := by decide +kernel
theorem dX12_lose_2 : decode cX12_lose 2 = .ok (.putfield 3, 3) := by decide +kernel
theorem dX12_lose_5 : decode cX12_lose 5 = .ok (.aload_n 0, 1) := by decide +kernel
theorem dX12_lose_6 : decode cX12_lose 6 = .ok (.iload_n 1, 1) := by decide +kernel
theorem dX12_lose_7 : decode cX12_lose 7 = .ok (.invokevirtual 297, 3) := by decide +kernel
theorem dX12_lose_10 : decode cX12_lose 10 = .ok (.ifCond .ne 9, 3) := by decide +kernel
theorem dX12_lose_13 : decode cX12_lose 13 = .ok (.aload_n 0, 1) := by decide +kernel
theorem dX12_lose_14 : decode cX12_lose 14 = .ok (.iconst 1, 1) := by decide +kernel
theorem dX12_lose_15 : decode cX12_lose 15 = .ok (.invokevirtual 94, 3) := by decide +kernel
theorem dX12_lose_18 : decode cX12_lose 18 = .ok (.ireturn, 1) := by decide +kernel
theorem dX12_lose_19 : decode cX12_lose 19 = .ok (.aload_n 0, 1) := by decide +kernel
theorem dX12_lose_20 : decode cX12_lose 20 = .ok (.iload_n 1, 1) := by decide +kernel
theorem dX12_lose_21 : decode cX12_lose 21 = .ok (.invokevirtual 215, 3) := by decide +kernel
theorem dX12_lose_24 : decode cX12_lose 24 = .ok (.ifCond .eq 19, 3) := by decide +kernel
theorem dX12_lose_27 : decode cX12_lose 27 = .ok (.aload_n 0, 1) := by decide +kernel
theorem dX12_lose_28 : decode cX12_lose 28 = .ok (.iload_n 1, 1) := by decide +kernel
theorem dX12_lose_29 : decode cX12_lose 29 = .ok (.iconst 0, 1) := by decide +kernel
theorem dX12_lose_30 : decode cX12_lose 30 = .ok (.invokevirtual 300, 3) := by decide +kernel
theorem dX12_lose_33 : decode cX12_lose 33 = .ok (.aload_n 0, 1) := by decide +kernel
theorem dX12_lose_34 : decode cX12_lose 34 = .ok (.iload_n 1, 1) := by decide +kernel
theorem dX12_lose_35 : decode cX12_lose 35 = .ok (.iconst 1, 1) := by decide +kernel
theorem dX12_lose_36 : decode cX12_lose 36 = .ok (.invokevirtual 300, 3) := by decide +kernel
theorem dX12_lose_39 : decode cX12_lose 39 = .ok (.iadd, 1) := by decide +kernel
theorem dX12_lose_40 : decode cX12_lose 40 = .ok (.ifCond .le 9, 3) := by decide +kernel
theorem dX12_lose_43 : decode cX12_lose 43 = .ok (.aload_n 0, 1) := by decide +kernel
theorem dX12_lose_44 : decode cX12_lose 44 = .ok (.iconst 2, 1) := by decide +kernel
theorem dX12_lose_45 : decode cX12_lose 45 = .ok (.invokevirtual 94, 3) := by decide +kernel
theorem dX12_lose_48 : decode cX12_lose 48 = .ok (.ireturn, 1) := by decide +kernel
theorem dX12_lose_49 : decode cX12_lose 49 = .ok (.aload_n 0, 1) := by decide +kernel
theorem dX12_lose_50 : decode cX12_lose 50 = .ok (.invokevirtual 285, 3) := by decide +kernel
theorem dX12_lose_53 : decode cX12_lose 53 = .ok (.aload_n 0, 1) := by decide +kernel
theorem dX12_lose_54 : decode cX12_lose 54 = .ok (.getfield 20, 3) := by decide +kernel
theorem dX12_lose_57 : decode cX12_lose 57 = .ok (.sipush 279, 3) := by decide +kernel
theorem dX12_lose_60 : decode cX12_lose 60 = .ok (.iload_n 1, 1) := by decide +kernel
theorem dX12_lose_61 : decode cX12_lose 61 = .ok (.iadd, 1) := by decide +kernel
theorem dX12_lose_62 : decode cX12_lose 62 = .ok (.iconst 1, 1) := by decide +kernel
theorem dX12_lose_63 : decode cX12_lose 63 = .ok (.iastore, 1) := by decide +kernel
theorem dX12_lose_64 : decode cX12_lose 64 = .ok (.aload_n 0, 1) := by decide +kernel
theorem dX12_lose_65 : decode cX12_lose 65 = .ok (.invokevirtual 303, 3) := by decide +kernel
theorem dX12_lose_68 : decode cX12_lose 68 = .ok (.aload_n 0, 1) := by decide +kernel
theorem dX12_lose_69 : decode cX12_lose 69 = .ok (.invokevirtual 306, 3) := by decide +kernel
theorem dX12_lose_72 : decode cX12_lose 72 = .ok (.ireturn, 1) := by decide +kernel
theorem dX12_find_0 : decode cX12_find 0 = .ok (.aload_n 0, 1) := by decide +kernel
theorem dX12_find_1 : decode cX12_find 1 = .ok (.iconst 0, 1) := by decide +kernel
theorem dX12_find_2 : decode cX12_find 2 = .ok (.putfield 3, 3) := by decide +kernel
theorem dX12_find_5 : decode cX12_find 5 = .ok (.aload_n 0, 1) := by decide +kernel
theorem dX12_find_6 : decode cX12_find 6 = .ok (.iload_n 1, 1) := by decide +kernel
theorem dX12_find_7 : decode cX12_find 7 = .ok (.invokevirtual 297, 3) := by decide +kernel
theorem dX12_find_10 : decode cX12_find 10 = .ok (.ifCond .ne 9, 3) := by decide +kernel
theorem dX12_find_13 : decode cX12_find 13 = .ok (.aload_n 0, 1) := by decide +kernel
theorem dX12_find_14 : decode cX12_find 14 = .ok (.iconst 1, 1) := by decide +kernel
theorem dX12_find_15 : decode cX12_find 15 = .ok (.invokevirtual 94, 3) := by decide +kernel
theorem dX12_find_18 : decode cX12_find 18 = .ok (.ireturn, 1) := by decide +kernel
theorem dX12_find_19 : decode cX12_find 19 = .ok (.aload_n 0, 1) := by decide +kernel
theorem dX12_find_20 : decode cX12_find 20 = .ok (.iload_n 1, 1) := by decide +kernel
theorem dX12_find_21 : decode cX12_find 21 = .ok (.invokevirtual 215, 3) := by decide +kernel
theorem dX12_find_24 : decode cX12_find 24 = .ok (.ifCond .eq 9, 3) := by decide +kernel
theorem dX12_find_27 : decode cX12_find 27 = .ok (.aload_n 0, 1) := by decide +kernel
theorem dX12_find_28 : decode cX12_find 28 = .ok (.iconst 2, 1) := by decide +kernel
theorem dX12_find_29 : decode cX12_find 29 = .ok (.invokevirtual 94, 3) := by decide +kernel
theorem dX12_find_32 : decode cX12_find 32 = .ok (.ireturn, 1) := by decide +kernel
theorem dX12_find_33 : decode cX12_find 33 = .ok (.aload_n 0, 1) := by decide +kernel
theorem dX12_find_34 : decode cX12_find 34 = .ok (.invokevirtual 285, 3) := by decide +kernel
theorem dX12_find_37 : decode cX12_find 37 = .ok (.aload_n 0, 1) := by decide +kernel
theorem dX12_find_38 : decode cX12_find 38 = .ok (.getfield 20, 3) := by decide +kernel
theorem dX12_find_41 : decode cX12_find 41 = .ok (.sipush 279, 3) := by decide +kernel
theorem dX12_find_44 : decode cX12_find 44 = .ok (.iload_n 1, 1) := by decide +kernel
theorem dX12_find_45 : decode cX12_find 45 = .ok (.iadd, 1) := by decide +kernel
theorem dX12_find_46 : decode cX12_find 46 = .ok (.iconst 0, 1) := by decide +kernel
theorem dX12_find_47 : decode cX12_find 47 = .ok (.iastore, 1) := by decide +kernel
theorem dX12_find_48 : decode cX12_find 48 = .ok (.aload_n 0, 1) := by decide +kernel
theorem dX12_find_49 : decode cX12_find 49 = .ok (.invokevirtual 303, 3) := by decide +kernel
theorem dX12_find_52 : decode cX12_find 52 = .ok (.aload_n 0, 1) := by decide +kernel
theorem dX12_find_53 : decode cX12_find 53 = .ok (.invokevirtual 306, 3) := by decide +kernel
theorem dX12_find_56 : decode cX12_find 56 = .ok (.ireturn, 1) := by decide +kernel
theorem dX12_attach_0 : decode cX12_attach 0 = .ok (.aload_n 0, 1) := by decide +kernel
theorem dX12_attach_1 : decode cX12_attach 1 = .ok (.iconst 0, 1) := by decide +kernel
theorem dX12_attach_2 : decode cX12_attach 2 = .ok (.putfield 3, 3) := by decide +kernel
theorem dX12_attach_5 : decode cX12_attach 5 = .ok (.aload_n 0, 1) := by decide +kernel
theorem dX12_attach_6 : decode cX12_attach 6 = .ok (.iload_n 1, 1) := by decide +kernel
theorem dX12_attach_7 : decode cX12_attach 7 = .ok (.invokevirtual 297, 3) := by decide +kernel
theorem dX12_attach_10 : decode cX12_attach 10 = .ok (.ifCond .ne 9, 3) := by decide +kernel
theorem dX12_attach_13 : decode cX12_attach 13 = .ok (.aload_n 0, 1) := by decide +kernel
theorem dX12_attach_14 : decode cX12_attach 14 = .ok (.iconst 1, 1) := by decide +kernel
theorem dX12_attach_15 : decode cX12_attach 15 = .ok (.invokevirtual 94, 3) := by decide +kernel
theorem dX12_attach_18 : decode cX12_attach 18 = .ok (.ireturn, 1) := by decide +kernel
theorem dX12_attach_19 : decode cX12_attach 19 = .ok (.iload_n 2, 1) := by decide +kernel
theorem dX12_attach_20 : decode cX12_attach 20 = .ok (.invokestatic 309, 3) := by decide +kernel
theorem dX12_attach_23 : decode cX12_attach 23 = .ok (.ifCond .eq 15, 3) := by decide +kernel
theorem dX12_attach_26 : decode cX12_attach 26 = .ok (.iload_n 3, 1) := by decide +kernel
theorem dX12_attach_27 : decode cX12_attach 27 = .ok (.i2l, 1) := by decide +kernel
theorem dX12_attach_28 : decode cX12_attach 28 = .ok (.lconst 1, 1) := by decide +kernel
theorem dX12_attach_29 : decode cX12_attach 29 = .ok (.ldc2_w 312, 3) := by decide +kernel
theorem dX12_attach_32 : decode cX12_attach 32 = .ok (.invokestatic 101, 3) := by decide +kernel
theorem dX12_attach_35 : decode cX12_attach 35 = .ok (.ifCond .ne 9, 3) := by decide +kernel
theorem dX12_attach_38 : decode cX12_attach 38 = .ok (.aload_n 0, 1) := by decide +kernel
theorem dX12_attach_39 : decode cX12_attach 39 = .ok (.iconst 2, 1) := by decide +kernel
theorem dX12_attach_40 : decode cX12_attach 40 = .ok (.invokevirtual 94, 3) := by decide +kernel
theorem dX12_attach_43 : decode cX12_attach 43 = .ok (.ireturn, 1) := by decide +kernel
theorem dX12_attach_44 : decode cX12_attach 44 = .ok (.aload_n 0, 1) := by decide +kernel
theorem dX12_attach_45 : decode cX12_attach 45 = .ok (.iload_n 1, 1) := by decide +kernel
theorem dX12_attach_46 : decode cX12_attach 46 = .ok (.invokevirtual 215, 3) := by decide +kernel
theorem dX12_attach_49 : decode cX12_attach 49 = .ok (.ifCond .eq 14, 3) := by decide +kernel
theorem dX12_attach_52 : decode cX12_attach 52 = .ok (.aload_n 0, 1) := by decide +kernel
theorem dX12_attach_53 : decode cX12_attach 53 = .ok (.getfield 20, 3) := by decide +kernel
theorem dX12_attach_56 : decode cX12_attach 56 = .ok (.iconst 0, 1) := by decide +kernel
theorem dX12_attach_57 : decode cX12_attach 57 = .ok (.iaload, 1) := by decide +kernel
theorem dX12_attach_58 : decode cX12_attach 58 = .ok (.bipush 12, 2) := by decide +kernel
theorem dX12_attach_60 : decode cX12_attach 60 = .ok (.if_icmp .ne 9, 3) := by decide +kernel
theorem dX12_attach_63 : decode cX12_attach 63 = .ok (.aload_n 0, 1) := by decide +kernel
theorem dX12_attach_64 : decode cX12_attach 64 = .ok (.iconst 3, 1) := by decide +kernel
theorem dX12_attach_65 : decode cX12_attach 65 = .ok (.invokevirtual 94, 3) := by decide +kernel
theorem dX12_attach_68 : decode cX12_attach 68 = .ok (.ireturn, 1) := by decide +kernel
theorem dX12_attach_69 : decode cX12_attach 69 = .ok (.aload_n 0, 1) := by decide +kernel
theorem dX12_attach_70 : decode cX12_attach 70 = .ok (.invokevirtual 285, 3) := by decide +kernel
theorem dX12_attach_73 : decode cX12_attach 73 = .ok (.iconst 5, 1) := by decide +kernel
theorem dX12_attach_74 : decode cX12_attach 74 = .ok (.iconst 3, 1) := by decide +kernel
theorem dX12_attach_75 : decode cX12_attach 75 = .ok (.aload_n 0, 1) := by decide +kernel
theorem dX12_attach_76 : decode cX12_attach 76 = .ok (.getfield 20, 3) := by decide +kernel
theorem dX12_attach_79 : decode cX12_attach 79 = .ok (.iconst 0, 1) := by decide +kernel
theorem dX12_attach_80 : decode cX12_attach 80 = .ok (.iaload, 1) := by decide +kernel
theorem dX12_attach_81 : decode cX12_attach 81 = .ok (.imul, 1) := by decide +kernel
theorem dX12_attach_82 : decode cX12_attach 82 = .ok (.iadd, 1) := by decide +kernel
theorem dX12_attach_83 : decode cX12_attach 83 = .ok (.istore 4, 2) := by decide +kernel
theorem dX12_attach_85 : decode cX12_attach 85 = .ok (.aload_n 0, 1) := by decide +kernel
theorem dX12_attach_86 : decode cX12_attach 86 = .ok (.getfield 20, 3) := by decide +kernel
theorem dX12_attach_89 : decode cX12_attach 89 = .ok (.iload 4, 2) := by decide +kernel
theorem dX12_attach_91 : decode cX12_attach 91 = .ok (.iload_n 1, 1) := by decide +kernel
theorem dX12_attach_92 : decode cX12_attach 92 = .ok (.iastore, 1) := by decide +kernel
theorem dX12_attach_93 : decode cX12_attach 93 = .ok (.aload_n 0, 1) := by decide +kernel
theorem dX12_attach_94 : decode cX12_attach 94 = .ok (.getfield 20, 3) := by decide +kernel
theorem dX12_attach_97 : decode cX12_attach 97 = .ok (.iload 4, 2) := by decide +kernel
theorem dX12_attach_99 : decode cX12_attach 99 = .ok (.iconst 1, 1) := by decide +kernel
theorem dX12_attach_100 : decode cX12_attach 100 = .ok (.iadd, 1) := by decide +kernel
theorem dX12_attach_101 : decode cX12_attach 101 = .ok (.iload_n 2, 1) := by decide +kernel
theorem dX12_attach_102 : decode cX12_attach 102 = .ok (.iastore, 1) := by decide +kernel
theorem dX12_attach_103 : decode cX12_attach 103 = .ok (.aload_n 0, 1) := by decide +kernel
theorem dX12_attach_104 : decode cX12_attach 104 = .ok (.getfield 20, 3) := by decide +kernel
theorem dX12_attach_107 : decode cX12_attach 107 = .ok (.iload 4, 2) := by decide +kernel
theorem dX12_attach_109 : decode cX12_attach 109 = .ok (.iconst 2, 1) := by decide +kernel
theorem dX12_attach_110 : decode cX12_attach 110 = .ok (.iadd, 1) := by decide +kernel
theorem dX12_attach_111 : decode cX12_attach 111 = .ok (.iload_n 3, 1) := by decide +kernel
theorem dX12_attach_112 : decode cX12_attach 112 = .ok (.iastore, 1) := by decide +kernel
theorem dX12_attach_113 : decode cX12_attach 113 = .ok (.aload_n 0, 1) := by decide +kernel
theorem dX12_attach_114 : decode cX12_attach 114 = .ok (.getfield 20, 3) := by decide +kernel
theorem dX12_attach_117 : decode cX12_attach 117 = .ok (.iconst 0, 1) := by decide +kernel
theorem dX12_attach_118 : decode cX12_attach 118 = .ok (.dup2, 1) := by decide +kernel
theorem dX12_attach_119 : decode cX12_attach 119 = .ok (.iaload, 1) := by decide +kernel
theorem dX12_attach_120 : decode cX12_attach 120 = .ok (.iconst 1, 1) := by decide +kernel
theorem dX12_attach_121 : decode cX12_attach 121 = .ok (.iadd, 1) := by decide +kernel
theorem dX12_attach_122 : decode cX12_attach 122 = .ok (.iastore, 1) := by decide +kernel
theorem dX12_attach_123 : decode cX12_attach 123 = .ok (.aload_n 0, 1) := by decide +kernel
theorem dX12_attach_124 : decode cX12_attach 124 = .ok (.getfield 20, 3) := by decide +kernel
theorem dX12_attach_127 : decode cX12_attach 127 = .ok (.iconst 0, 1) := by decide +kernel
theorem dX12_attach_128 : decode cX12_attach 128 = .ok (.iaload, 1) := by decide +kernel
theorem dX12_attach_129 : decode cX12_attach 129 = .ok (.iconst 1, 1) := by decide +kernel
theorem dX12_attach_130 : decode cX12_attach 130 = .ok (.isub, 1) := by decide +kernel
theorem dX12_attach_131 : decode cX12_attach 131 = .ok (.ireturn, 1) := by decide +kernel
theorem dX12_detach_0 : decode cX12_detach 0 = .ok (.aload_n 0, 1) := by decide +kernel
theorem dX12_detach_1 : decode cX12_detach 1 = .ok (.iconst 0, 1) := by decide +kernel
theorem dX12_detach_2 : decode cX12_detach 2 = .ok (.putfield 3, 3) := by decide +kernel
theorem dX12_detach_5 : decode cX12_detach 5 = .ok (.aload_n 0, 1) := by decide +kernel
theorem dX12_detach_6 : decode cX12_detach 6 = .ok (.iload_n 1, 1) := by decide +kernel
theorem dX12_detach_7 : decode cX12_detach 7 = .ok (.invokevirtual 314, 3) := by decide +kernel
theorem dX12_detach_10 : decode cX12_detach 10 = .ok (.ifCond .ne 9, 3) := by decide +kernel
theorem dX12_detach_13 : decode cX12_detach 13 = .ok (.aload_n 0, 1) := by decide +kernel
theorem dX12_detach_14 : decode cX12_detach 14 = .ok (.iconst 1, 1) := by decide +kernel
theorem dX12_detach_15 : decode cX12_detach 15 = .ok (.invokevirtual 94, 3) := by decide +kernel
theorem dX12_detach_18 : decode cX12_detach 18 = .ok (.ireturn, 1) := by decide +kernel
theorem dX12_detach_19 : decode cX12_detach 19 = .ok (.aload_n 0, 1) := by decide +kernel
theorem dX12_detach_20 : decode cX12_detach 20 = .ok (.iload_n 1, 1) := by decide +kernel
theorem dX12_detach_21 : decode cX12_detach 21 = .ok (.invokevirtual 229, 3) := by decide +kernel
theorem dX12_detach_24 : decode cX12_detach 24 = .ok (.ifCond .ne 9, 3) := by decide +kernel
theorem dX12_detach_27 : decode cX12_detach 27 = .ok (.aload_n 0, 1) := by decide +kernel
theorem dX12_detach_28 : decode cX12_detach 28 = .ok (.iconst 2, 1) := by decide +kernel
theorem dX12_detach_29 : decode cX12_detach 29 = .ok (.invokevirtual 94, 3) := by decide +kernel
theorem dX12_detach_32 : decode cX12_detach 32 = .ok (.ireturn, 1) := by decide +kernel
theorem dX12_detach_33 : decode cX12_detach 33 = .ok (.aload_n 0, 1) := by decide +kernel
theorem dX12_detach_34 : decode cX12_detach 34 = .ok (.invokevirtual 285, 3) := by decide +kernel
theorem dX12_detach_37 : decode cX12_detach 37 = .ok (.aload_n 0, 1) := by decide +kernel
theorem dX12_detach_38 : decode cX12_detach 38 = .ok (.getfield 20, 3) := by decide +kernel
theorem dX12_detach_41 : decode cX12_detach 41 = .ok (.iconst 5, 1) := by decide +kernel
theorem dX12_detach_42 : decode cX12_detach 42 = .ok (.iconst 3, 1) := by decide +kernel
theorem dX12_detach_43 : decode cX12_detach 43 = .ok (.iload_n 1, 1) := by decide +kernel
theorem dX12_detach_44 : decode cX12_detach 44 = .ok (.imul, 1) := by decide +kernel
theorem dX12_detach_45 : decode cX12_detach 45 = .ok (.iadd, 1) := by decide +kernel
theorem dX12_detach_46 : decode cX12_detach 46 = .ok (.iconst (-1), 1) := by decide +kernel
theorem dX12_detach_47 : decode cX12_detach 47 = .ok (.iastore, 1) := by decide +kernel
theorem dX12_detach_48 : decode cX12_detach 48 = .ok (.aload_n 0, 1) := by decide +kernel
theorem dX12_detach_49 : decode cX12_detach 49 = .ok (.getfield 20, 3) := by decide +kernel
theorem dX12_detach_52 : decode cX12_detach 52 = .ok (.iconst 5, 1) := by decide +kernel
theorem dX12_detach_53 : decode cX12_detach 53 = .ok (.iconst 3, 1) := by decide +kernel
theorem dX12_detach_54 : decode cX12_detach 54 = .ok (.iload_n 1, 1) := by decide +kernel
theorem dX12_detach_55 : decode cX12_detach 55 = .ok (.imul, 1) := by decide +kernel
theorem dX12_detach_56 : decode cX12_detach 56 = .ok (.iadd, 1) := by decide +kernel
theorem dX12_detach_57 : decode cX12_detach 57 = .ok (.iconst 1, 1) := by decide +kernel
theorem dX12_detach_58 : decode cX12_detach 58 = .ok (.iadd, 1) := by decide +kernel
theorem dX12_detach_59 : decode cX12_detach 59 = .ok (.iconst (-1), 1) := by decide +kernel
theorem dX12_detach_60 : decode cX12_detach 60 = .ok (.iastore, 1) := by decide +kernel
theorem dX12_detach_61 : decode cX12_detach 61 = .ok (.aload_n 0, 1) := by decide +kernel
theorem dX12_detach_62 : decode cX12_detach 62 = .ok (.invokevirtual 317, 3) := by decide +kernel
theorem dX12_detach_65 : decode cX12_detach 65 = .ok (.ireturn, 1) := by decide +kernel
theorem dX12_label_0 : decode cX12_label 0 = .ok (.aload_n 0, 1) := by decide +kernel
theorem dX12_label_1 : decode cX12_label 1 = .ok (.iconst 0, 1) := by decide +kernel
theorem dX12_label_2 : decode cX12_label 2 = .ok (.putfield 3, 3) := by decide +kernel
theorem dX12_label_5 : decode cX12_label 5 = .ok (.aload_n 0, 1) := by decide +kernel
theorem dX12_label_6 : decode cX12_label 6 = .ok (.iload_n 1, 1) := by decide +kernel
theorem dX12_label_7 : decode cX12_label 7 = .ok (.invokevirtual 297, 3) := by decide +kernel
theorem dX12_label_10 : decode cX12_label 10 = .ok (.ifCond .eq 11, 3) := by decide +kernel
theorem dX12_label_13 : decode cX12_label 13 = .ok (.aload_n 0, 1) := by decide +kernel
theorem dX12_label_14 : decode cX12_label 14 = .ok (.iload_n 2, 1) := by decide +kernel
theorem dX12_label_15 : decode cX12_label 15 = .ok (.invokevirtual 297, 3) := by decide +kernel
theorem dX12_label_18 : decode cX12_label 18 = .ok (.ifCond .ne 9, 3) := by decide +kernel
theorem dX12_label_21 : decode cX12_label 21 = .ok (.aload_n 0, 1) := by decide +kernel
theorem dX12_label_22 : decode cX12_label 22 = .ok (.iconst 1, 1) := by decide +kernel
theorem dX12_label_23 : decode cX12_label 23 = .ok (.invokevirtual 94, 3) := by decide +kernel
theorem dX12_label_26 : decode cX12_label 26 = .ok (.ireturn, 1) := by decide +kernel
theorem dX12_label_27 : decode cX12_label 27 = .ok (.iload_n 2, 1) := by decide +kernel
theorem dX12_label_28 : decode cX12_label 28 = .ok (.iload_n 1, 1) := by decide +kernel
theorem dX12_label_29 : decode cX12_label 29 = .ok (.if_icmp .lt 28, 3) := by decide +kernel
theorem dX12_label_32 : decode cX12_label 32 = .ok (.iload_n 3, 1) := by decide +kernel
theorem dX12_label_33 : decode cX12_label 33 = .ok (.i2l, 1) := by decide +kernel
theorem dX12_label_34 : decode cX12_label 34 = .ok (.lconst 0, 1) := by decide +kernel
theorem dX12_label_35 : decode cX12_label 35 = .ok (.ldc2_w 320, 3) := by decide +kernel
theorem dX12_label_38 : decode cX12_label 38 = .ok (.invokestatic 101, 3) := by decide +kernel
theorem dX12_label_41 : decode cX12_label 41 = .ok (.ifCond .eq 16, 3) := by decide +kernel
theorem dX12_label_44 : decode cX12_label 44 = .ok (.iload 4, 2) := by decide +kernel
theorem dX12_label_46 : decode cX12_label 46 = .ok (.i2l, 1) := by decide +kernel
theorem dX12_label_47 : decode cX12_label 47 = .ok (.lconst 1, 1) := by decide +kernel
theorem dX12_label_48 : decode cX12_label 48 = .ok (.ldc2_w 322, 3) := by decide +kernel
theorem dX12_label_51 : decode cX12_label 51 = .ok (.invokestatic 101, 3) := by decide +kernel
theorem dX12_label_54 : decode cX12_label 54 = .ok (.ifCond .ne 9, 3) := by decide +kernel
theorem dX12_label_57 : decode cX12_label 57 = .ok (.aload_n 0, 1) := by decide +kernel
theorem dX12_label_58 : decode cX12_label 58 = .ok (.iconst 2, 1) := by decide +kernel
theorem dX12_label_59 : decode cX12_label 59 = .ok (.invokevirtual 94, 3) := by decide +kernel
theorem dX12_label_62 : decode cX12_label 62 = .ok (.ireturn, 1) := by decide +kernel
theorem dX12_label_63 : decode cX12_label 63 = .ok (.aload_n 0, 1) := by decide +kernel
theorem dX12_label_64 : decode cX12_label 64 = .ok (.getfield 20, 3) := by decide +kernel
theorem dX12_label_67 : decode cX12_label 67 = .ok (.iconst 1, 1) := by decide +kernel
theorem dX12_label_68 : decode cX12_label 68 = .ok (.iaload, 1) := by decide +kernel
theorem dX12_label_69 : decode cX12_label 69 = .ok (.bipush 12, 2) := by decide +kernel
theorem dX12_label_71 : decode cX12_label 71 = .ok (.if_icmp .ne 9, 3) := by decide +kernel
theorem dX12_label_74 : decode cX12_label 74 = .ok (.aload_n 0, 1) := by decide +kernel
theorem dX12_label_75 : decode cX12_label 75 = .ok (.iconst 3, 1) := by decide +kernel
theorem dX12_label_76 : decode cX12_label 76 = .ok (.invokevirtual 94, 3) := by decide +kernel
theorem dX12_label_79 : decode cX12_label 79 = .ok (.ireturn, 1) := by decide +kernel
theorem dX12_label_80 : decode cX12_label 80 = .ok (.aload_n 0, 1) := by decide +kernel
theorem dX12_label_81 : decode cX12_label 81 = .ok (.invokevirtual 285, 3) := by decide +kernel
theorem dX12_label_84 : decode cX12_label 84 = .ok (.bipush 41, 2) := by decide +kernel
theorem dX12_label_86 : decode cX12_label 86 = .ok (.iconst 4, 1) := by decide +kernel
theorem dX12_label_87 : decode cX12_label 87 = .ok (.aload_n 0, 1) := by decide +kernel
theorem dX12_label_88 : decode cX12_label 88 = .ok (.getfield 20, 3) := by decide +kernel
theorem dX12_label_91 : decode cX12_label 91 = .ok (.iconst 1, 1) := by decide +kernel
theorem dX12_label_92 : decode cX12_label 92 = .ok (.iaload, 1) := by decide +kernel
theorem dX12_label_93 : decode cX12_label 93 = .ok (.imul, 1) := by decide +kernel
theorem dX12_label_94 : decode cX12_label 94 = .ok (.iadd, 1) := by decide +kernel
theorem dX12_label_95 : decode cX12_label 95 = .ok (.istore 5, 2) := by decide +kernel
theorem dX12_label_97 : decode cX12_label 97 = .ok (.aload_n 0, 1) := by decide +kernel
theorem dX12_label_98 : decode cX12_label 98 = .ok (.getfield 20, 3) := by decide +kernel
theorem dX12_label_101 : decode cX12_label 101 = .ok (.iload 5, 2) := by decide +kernel
theorem dX12_label_103 : decode cX12_label 103 = .ok (.iload_n 1, 1) := by decide +kernel
theorem dX12_label_104 : decode cX12_label 104 = .ok (.iastore, 1) := by decide +kernel
theorem dX12_label_105 : decode cX12_label 105 = .ok (.aload_n 0, 1) := by decide +kernel
theorem dX12_label_106 : decode cX12_label 106 = .ok (.getfield 20, 3) := by decide +kernel
theorem dX12_label_109 : decode cX12_label 109 = .ok (.iload 5, 2) := by decide +kernel
theorem dX12_label_111 : decode cX12_label 111 = .ok (.iconst 1, 1) := by decide +kernel
theorem dX12_label_112 : decode cX12_label 112 = .ok (.iadd, 1) := by decide +kernel
theorem dX12_label_113 : decode cX12_label 113 = .ok (.iload_n 2, 1) := by decide +kernel
theorem dX12_label_114 : decode cX12_label 114 = .ok (.iastore, 1) := by decide +kernel
theorem dX12_label_115 : decode cX12_label 115 = .ok (.aload_n 0, 1) := by decide +kernel
theorem dX12_label_116 : decode cX12_label 116 = .ok (.getfield 20, 3) := by decide +kernel
theorem dX12_label_119 : decode cX12_label 119 = .ok (.iload 5, 2) := by decide +kernel
theorem dX12_label_121 : decode cX12_label 121 = .ok (.iconst 2, 1) := by decide +kernel
theorem dX12_label_122 : decode cX12_label 122 = .ok (.iadd, 1) := by decide +kernel
theorem dX12_label_123 : decode cX12_label 123 = .ok (.iload_n 3, 1) := by decide +kernel
theorem dX12_label_124 : decode cX12_label 124 = .ok (.iastore, 1) := by decide +kernel
theorem dX12_label_125 : decode cX12_label 125 = .ok (.aload_n 0, 1) := by decide +kernel
theorem dX12_label_126 : decode cX12_label 126 = .ok (.getfield 20, 3) := by decide +kernel
theorem dX12_label_129 : decode cX12_label 129 = .ok (.iload 5, 2) := by decide +kernel
theorem dX12_label_131 : decode cX12_label 131 = .ok (.iconst 3, 1) := by decide +kernel
theorem dX12_label_132 : decode cX12_label 132 = .ok (.iadd, 1) := by decide +kernel
theorem dX12_label_133 : decode cX12_label 133 = .ok (.iload 4, 2) := by decide +kernel
theorem dX12_label_135 : decode cX12_label 135 = .ok (.iastore, 1) := by decide +kernel
theorem dX12_label_136 : decode cX12_label 136 = .ok (.aload_n 0, 1) := by decide +kernel
theorem dX12_label_137 : decode cX12_label 137 = .ok (.getfield 20, 3) := by decide +kernel
theorem dX12_label_140 : decode cX12_label 140 = .ok (.iconst 1, 1) := by decide +kernel
theorem dX12_label_141 : decode cX12_label 141 = .ok (.dup2, 1) := by decide +kernel
theorem dX12_label_142 : decode cX12_label 142 = .ok (.iaload, 1) := by decide +kernel
theorem dX12_label_143 : decode cX12_label 143 = .ok (.iconst 1, 1) := by decide +kernel
theorem dX12_label_144 : decode cX12_label 144 = .ok (.iadd, 1) := by decide +kernel
theorem dX12_label_145 : decode cX12_label 145 = .ok (.iastore, 1) := by decide +kernel
theorem dX12_label_146 : decode cX12_label 146 = .ok (.aload_n 0, 1) := by decide +kernel
theorem dX12_label_147 : decode cX12_label 147 = .ok (.getfield 20, 3) := by decide +kernel
theorem dX12_label_150 : decode cX12_label 150 = .ok (.iconst 1, 1) := by decide +kernel
theorem dX12_label_151 : decode cX12_label 151 = .ok (.iaload, 1) := by decide +kernel
theorem dX12_label_152 : decode cX12_label 152 = .ok (.ireturn, 1) := by decide +kernel
theorem dX12_scanLeaf_0 : decode cX12_scanLeaf 0 = .ok (.aload_n 0, 1) := by decide +kernel
theorem dX12_scanLeaf_1 : decode cX12_scanLeaf 1 = .ok (.iconst 0, 1) := by decide +kernel
theorem dX12_scanLeaf_2 : decode cX12_scanLeaf 2 = .ok (.putfield 3, 3) := by decide +kernel
theorem dX12_scanLeaf_5 : decode cX12_scanLeaf 5 = .ok (.aload_n 0, 1) := by decide +kernel
theorem dX12_scanLeaf_6 : decode cX12_scanLeaf 6 = .ok (.iload_n 1, 1) := by decide +kernel
theorem dX12_scanLeaf_7 : decode cX12_scanLeaf 7 = .ok (.invokevirtual 297, 3) := by decide +kernel
theorem dX12_scanLeaf_10 : decode cX12_scanLeaf 10 = .ok (.ifCond .ne 9, 3) := by decide +kernel
theorem dX12_scanLeaf_13 : decode cX12_scanLeaf 13 = .ok (.aload_n 0, 1) := by decide +kernel
theorem dX12_scanLeaf_14 : decode cX12_scanLeaf 14 = .ok (.iconst 1, 1) := by decide +kernel
theorem dX12_scanLeaf_15 : decode cX12_scanLeaf 15 = .ok (.invokevirtual 94, 3) := by decide +kernel
theorem dX12_scanLeaf_18 : decode cX12_scanLeaf 18 = .ok (.ireturn, 1) := by decide +kernel
theorem dX12_scanLeaf_19 : decode cX12_scanLeaf 19 = .ok (.iload_n 2, 1) := by decide +kernel
theorem dX12_scanLeaf_20 : decode cX12_scanLeaf 20 = .ok (.invokestatic 309, 3) := by decide +kernel
theorem dX12_scanLeaf_23 : decode cX12_scanLeaf 23 = .ok (.ifCond .ne 9, 3) := by decide +kernel
theorem dX12_scanLeaf_26 : decode cX12_scanLeaf 26 = .ok (.aload_n 0, 1) := by decide +kernel
theorem dX12_scanLeaf_27 : decode cX12_scanLeaf 27 = .ok (.iconst 2, 1) := by decide +kernel
theorem dX12_scanLeaf_28 : decode cX12_scanLeaf 28 = .ok (.invokevirtual 94, 3) := by decide +kernel
theorem dX12_scanLeaf_31 : decode cX12_scanLeaf 31 = .ok (.ireturn, 1) := by decide +kernel
theorem dX12_scanLeaf_32 : decode cX12_scanLeaf 32 = .ok (.aload_n 0, 1) := by decide +kernel
theorem dX12_scanLeaf_33 : decode cX12_scanLeaf 33 = .ok (.iload_n 1, 1) := by decide +kernel
theorem dX12_scanLeaf_34 : decode cX12_scanLeaf 34 = .ok (.invokevirtual 215, 3) := by decide +kernel
theorem dX12_scanLeaf_37 : decode cX12_scanLeaf 37 = .ok (.ifCond .eq 14, 3) := by decide +kernel
theorem dX12_scanLeaf_40 : decode cX12_scanLeaf 40 = .ok (.aload_n 0, 1) := by decide +kernel
theorem dX12_scanLeaf_41 : decode cX12_scanLeaf 41 = .ok (.getfield 20, 3) := by decide +kernel
theorem dX12_scanLeaf_44 : decode cX12_scanLeaf 44 = .ok (.iconst 2, 1) := by decide +kernel
theorem dX12_scanLeaf_45 : decode cX12_scanLeaf 45 = .ok (.iaload, 1) := by decide +kernel
theorem dX12_scanLeaf_46 : decode cX12_scanLeaf 46 = .ok (.bipush 60, 2) := by decide +kernel
theorem dX12_scanLeaf_48 : decode cX12_scanLeaf 48 = .ok (.if_icmp .ne 9, 3) := by decide +kernel
theorem dX12_scanLeaf_51 : decode cX12_scanLeaf 51 = .ok (.aload_n 0, 1) := by decide +kernel
theorem dX12_scanLeaf_52 : decode cX12_scanLeaf 52 = .ok (.iconst 3, 1) := by decide +kernel
theorem dX12_scanLeaf_53 : decode cX12_scanLeaf 53 = .ok (.invokevirtual 94, 3) := by decide +kernel
theorem dX12_scanLeaf_56 : decode cX12_scanLeaf 56 = .ok (.ireturn, 1) := by decide +kernel
theorem dX12_scanLeaf_57 : decode cX12_scanLeaf 57 = .ok (.aload_n 0, 1) := by decide +kernel
theorem dX12_scanLeaf_58 : decode cX12_scanLeaf 58 = .ok (.iconst 0, 1) := by decide +kernel
theorem dX12_scanLeaf_59 : decode cX12_scanLeaf 59 = .ok (.iload_n 1, 1) := by decide +kernel
theorem dX12_scanLeaf_60 : decode cX12_scanLeaf 60 = .ok (.iload_n 2, 1) := by decide +kernel
theorem dX12_scanLeaf_61 : decode cX12_scanLeaf 61 = .ok (.invokevirtual 324, 3) := by decide +kernel
theorem dX12_scanLeaf_64 : decode cX12_scanLeaf 64 = .ok (.ireturn, 1) := by decide +kernel
theorem dX12_scanOpening_0 : decode cX12_scanOpening 0 = .ok (.aload_n 0, 1) := by decide +kernel
theorem dX12_scanOpening_1 : decode cX12_scanOpening 1 = .ok (.iconst 0, 1) := by decide +kernel
theorem dX12_scanOpening_2 : decode cX12_scanOpening 2 = .ok (.putfield 3, 3) := by decide +kernel
theorem dX12_scanOpening_5 : decode cX12_scanOpening 5 = .ok (.aload_n 0, 1) := by decide +kernel
theorem dX12_scanOpening_6 : decode cX12_scanOpening 6 = .ok (.iload_n 1, 1) := by decide +kernel
theorem dX12_scanOpening_7 : decode cX12_scanOpening 7 = .ok (.invokevirtual 327, 3) := by decide +kernel
theorem dX12_scanOpening_10 : decode cX12_scanOpening 10 = .ok (.ifCond .ne 9, 3) := by decide +kernel
theorem dX12_scanOpening_13 : decode cX12_scanOpening 13 = .ok (.aload_n 0, 1) := by decide +kernel
theorem dX12_scanOpening_14 : decode cX12_scanOpening 14 = .ok (.iconst 1, 1) := by decide +kernel
theorem dX12_scanOpening_15 : decode cX12_scanOpening 15 = .ok (.invokevirtual 94, 3) := by decide +kernel
theorem dX12_scanOpening_18 : decode cX12_scanOpening 18 = .ok (.ireturn, 1) := by decide +kernel
theorem dX12_scanOpening_19 : decode cX12_scanOpening 19 = .ok (.aload_n 0, 1) := by decide +kernel
theorem dX12_scanOpening_20 : decode cX12_scanOpening 20 = .ok (.iload_n 1, 1) := by decide +kernel
theorem dX12_scanOpening_21 : decode cX12_scanOpening 21 = .ok (.invokevirtual 330, 3) := by decide +kernel
theorem dX12_scanOpening_24 : decode cX12_scanOpening 24 = .ok (.istore_n 2, 1) := by decide +kernel
theorem dX12_scanOpening_25 : decode cX12_scanOpening 25 = .ok (.aload_n 0, 1) := by decide +kernel
theorem dX12_scanOpening_26 : decode cX12_scanOpening 26 = .ok (.iload_n 1, 1) := by decide +kernel
theorem dX12_scanOpening_27 : decode cX12_scanOpening 27 = .ok (.invokevirtual 333, 3) := by decide +kernel
theorem dX12_scanOpening_30 : decode cX12_scanOpening 30 = .ok (.istore_n 3, 1) := by decide +kernel
theorem dX12_scanOpening_31 : decode cX12_scanOpening 31 = .ok (.iload_n 2, 1) := by decide +kernel
theorem dX12_scanOpening_32 : decode cX12_scanOpening 32 = .ok (.iconst (-1), 1) := by decide +kernel
theorem dX12_scanOpening_33 : decode cX12_scanOpening 33 = .ok (.if_icmp .ne 8, 3) := by decide +kernel
theorem dX12_scanOpening_36 : decode cX12_scanOpening 36 = .ok (.iload_n 3, 1) := by decide +kernel
theorem dX12_scanOpening_37 : decode cX12_scanOpening 37 = .ok (.iconst (-1), 1) := by decide +kernel
theorem dX12_scanOpening_38 : decode cX12_scanOpening 38 = .ok (.if_icmp .eq 14, 3) := by decide +kernel
theorem dX12_scanOpening_41 : decode cX12_scanOpening 41 = .ok (.aload_n 0, 1) := by decide +kernel
theorem dX12_scanOpening_42 : decode cX12_scanOpening 42 = .ok (.getfield 20, 3) := by decide +kernel
theorem dX12_scanOpening_45 : decode cX12_scanOpening 45 = .ok (.iconst 2, 1) := by decide +kernel
theorem dX12_scanOpening_46 : decode cX12_scanOpening 46 = .ok (.iaload, 1) := by decide +kernel
theorem dX12_scanOpening_47 : decode cX12_scanOpening 47 = .ok (.bipush 60, 2) := by decide +kernel
theorem dX12_scanOpening_49 : decode cX12_scanOpening 49 = .ok (.if_icmp .ne 9, 3) := by decide +kernel
theorem dX12_scanOpening_52 : decode cX12_scanOpening 52 = .ok (.aload_n 0, 1) := by decide +kernel
theorem dX12_scanOpening_53 : decode cX12_scanOpening 53 = .ok (.iconst 2, 1) := by decide +kernel
theorem dX12_scanOpening_54 : decode cX12_scanOpening 54 = .ok (.invokevirtual 94, 3) := by decide +kernel
theorem dX12_scanOpening_57 : decode cX12_scanOpening 57 = .ok (.ireturn, 1) := by decide +kernel
theorem dX12_scanOpening_58 : decode cX12_scanOpening 58 = .ok (.aload_n 0, 1) := by decide +kernel
theorem dX12_scanOpening_59 : decode cX12_scanOpening 59 = .ok (.iconst 1, 1) := by decide +kernel
theorem dX12_scanOpening_60 : decode cX12_scanOpening 60 = .ok (.iload_n 2, 1) := by decide +kernel
theorem dX12_scanOpening_61 : decode cX12_scanOpening 61 = .ok (.iload_n 3, 1) := by decide +kernel
theorem dX12_scanOpening_62 : decode cX12_scanOpening 62 = .ok (.invokevirtual 324, 3) := by decide +kernel
theorem dX12_scanOpening_65 : decode cX12_scanOpening 65 = .ok (.ireturn, 1) := by decide +kernel
theorem dX12_scanSlip_0 : decode cX12_scanSlip 0 = .ok (.aload_n 0, 1) := by decide +kernel
theorem dX12_scanSlip_1 : decode cX12_scanSlip 1 = .ok (.iconst 0, 1) := by decide +kernel
theorem dX12_scanSlip_2 : decode cX12_scanSlip 2 = .ok (.putfield 3, 3) := by decide +kernel
theorem dX12_scanSlip_5 : decode cX12_scanSlip 5 = .ok (.aload_n 0, 1) := by decide +kernel
theorem dX12_scanSlip_6 : decode cX12_scanSlip 6 = .ok (.iload_n 1, 1) := by decide +kernel
theorem dX12_scanSlip_7 : decode cX12_scanSlip 7 = .ok (.invokevirtual 314, 3) := by decide +kernel
theorem dX12_scanSlip_10 : decode cX12_scanSlip 10 = .ok (.ifCond .eq 21, 3) := by decide +kernel
theorem dX12_scanSlip_13 : decode cX12_scanSlip 13 = .ok (.iload_n 2, 1) := by decide +kernel
theorem dX12_scanSlip_14 : decode cX12_scanSlip 14 = .ok (.i2l, 1) := by decide +kernel
theorem dX12_scanSlip_15 : decode cX12_scanSlip 15 = .ok (.lconst 0, 1) := by decide +kernel
theorem dX12_scanSlip_16 : decode cX12_scanSlip 16 = .ok (.aload_n 0, 1) := by decide +kernel
theorem dX12_scanSlip_17 : decode cX12_scanSlip 17 = .ok (.iload_n 1, 1) := by decide +kernel
theorem dX12_scanSlip_18 : decode cX12_scanSlip 18 = .ok (.iconst 2, 1) := by decide +kernel
theorem dX12_scanSlip_19 : decode cX12_scanSlip 19 = .ok (.invokevirtual 218, 3) := by decide +kernel
theorem dX12_scanSlip_22 : decode cX12_scanSlip 22 = .ok (.iconst 1, 1) := by decide +kernel
theorem dX12_scanSlip_23 : decode cX12_scanSlip 23 = .ok (.isub, 1) := by decide +kernel
theorem dX12_scanSlip_24 : decode cX12_scanSlip 24 = .ok (.i2l, 1) := by decide +kernel
theorem dX12_scanSlip_25 : decode cX12_scanSlip 25 = .ok (.invokestatic 101, 3) := by decide +kernel
theorem dX12_scanSlip_28 : decode cX12_scanSlip 28 = .ok (.ifCond .ne 9, 3) := by decide +kernel
theorem dX12_scanSlip_31 : decode cX12_scanSlip 31 = .ok (.aload_n 0, 1) := by decide +kernel
theorem dX12_scanSlip_32 : decode cX12_scanSlip 32 = .ok (.iconst 1, 1) := by decide +kernel
theorem dX12_scanSlip_33 : decode cX12_scanSlip 33 = .ok (.invokevirtual 94, 3) := by decide +kernel
theorem dX12_scanSlip_36 : decode cX12_scanSlip 36 = .ok (.ireturn, 1) := by decide +kernel
theorem dX12_scanSlip_37 : decode cX12_scanSlip 37 = .ok (.aload_n 0, 1) := by decide +kernel
theorem dX12_scanSlip_38 : decode cX12_scanSlip 38 = .ok (.iload_n 1, 1) := by decide +kernel
theorem dX12_scanSlip_39 : decode cX12_scanSlip 39 = .ok (.invokevirtual 229, 3) := by decide +kernel
theorem dX12_scanSlip_42 : decode cX12_scanSlip 42 = .ok (.ifCond .eq 14, 3) := by decide +kernel
theorem dX12_scanSlip_45 : decode cX12_scanSlip 45 = .ok (.aload_n 0, 1) := by decide +kernel
theorem dX12_scanSlip_46 : decode cX12_scanSlip 46 = .ok (.getfield 20, 3) := by decide +kernel
theorem dX12_scanSlip_49 : decode cX12_scanSlip 49 = .ok (.iconst 2, 1) := by decide +kernel
theorem dX12_scanSlip_50 : decode cX12_scanSlip 50 = .ok (.iaload, 1) := by decide +kernel
theorem dX12_scanSlip_51 : decode cX12_scanSlip 51 = .ok (.bipush 60, 2) := by decide +kernel
theorem dX12_scanSlip_53 : decode cX12_scanSlip 53 = .ok (.if_icmp .ne 9, 3) := by decide +kernel
theorem dX12_scanSlip_56 : decode cX12_scanSlip 56 = .ok (.aload_n 0, 1) := by decide +kernel
theorem dX12_scanSlip_57 : decode cX12_scanSlip 57 = .ok (.iconst 2, 1) := by decide +kernel
theorem dX12_scanSlip_58 : decode cX12_scanSlip 58 = .ok (.invokevirtual 94, 3) := by decide +kernel
theorem dX12_scanSlip_61 : decode cX12_scanSlip 61 = .ok (.ireturn, 1) := by decide +kernel
theorem dX12_scanSlip_62 : decode cX12_scanSlip 62 = .ok (.aload_n 0, 1) := by decide +kernel
theorem dX12_scanSlip_63 : decode cX12_scanSlip 63 = .ok (.iconst 2, 1) := by decide +kernel
theorem dX12_scanSlip_64 : decode cX12_scanSlip 64 = .ok (.iload_n 1, 1) := by decide +kernel
theorem dX12_scanSlip_65 : decode cX12_scanSlip 65 = .ok (.iload_n 2, 1) := by decide +kernel
theorem dX12_scanSlip_66 : decode cX12_scanSlip 66 = .ok (.invokevirtual 324, 3) := by decide +kernel
theorem dX12_scanSlip_69 : decode cX12_scanSlip 69 = .ok (.ireturn, 1) := by decide +kernel
theorem dX12_swaps_0 : decode cX12_swaps 0 = .ok (.iconst 0, 1) := by decide +kernel
theorem dX12_swaps_1 : decode cX12_swaps 1 = .ok (.istore_n 3, 1) := by decide +kernel
theorem dX12_swaps_2 : decode cX12_swaps 2 = .ok (.iload_n 3, 1) := by decide +kernel
theorem dX12_swaps_3 : decode cX12_swaps 3 = .ok (.iconst 3, 1) := by decide +kernel
theorem dX12_swaps_4 : decode cX12_swaps 4 = .ok (.if_icmp .ge 51, 3) := by decide +kernel
theorem dX12_swaps_7 : decode cX12_swaps 7 = .ok (.aload_n 0, 1) := by decide +kernel
theorem dX12_swaps_8 : decode cX12_swaps 8 = .ok (.iload_n 1, 1) := by decide +kernel
theorem dX12_swaps_9 : decode cX12_swaps 9 = .ok (.iload_n 3, 1) := by decide +kernel
theorem dX12_swaps_10 : decode cX12_swaps 10 = .ok (.invokevirtual 266, 3) := by decide +kernel
theorem dX12_swaps_13 : decode cX12_swaps 13 = .ok (.istore 4, 2) := by decide +kernel
theorem dX12_swaps_15 : decode cX12_swaps 15 = .ok (.aload_n 0, 1) := by decide +kernel
theorem dX12_swaps_16 : decode cX12_swaps 16 = .ok (.getfield 20, 3) := by decide +kernel
theorem dX12_swaps_19 : decode cX12_swaps 19 = .ok (.bipush 89, 2) := by decide +kernel
theorem dX12_swaps_21 : decode cX12_swaps 21 = .ok (.iconst 3, 1) := by decide +kernel
theorem dX12_swaps_22 : decode cX12_swaps 22 = .ok (.iload_n 1, 1) := by decide +kernel
theorem dX12_swaps_23 : decode cX12_swaps 23 = .ok (.imul, 1) := by decide +kernel
theorem dX12_swaps_24 : decode cX12_swaps 24 = .ok (.iadd, 1) := by decide +kernel
theorem dX12_swaps_25 : decode cX12_swaps 25 = .ok (.iload_n 3, 1) := by decide +kernel
theorem dX12_swaps_26 : decode cX12_swaps 26 = .ok (.iadd, 1) := by decide +kernel
theorem dX12_swaps_27 : decode cX12_swaps 27 = .ok (.aload_n 0, 1) := by decide +kernel
theorem dX12_swaps_28 : decode cX12_swaps 28 = .ok (.iload_n 2, 1) := by decide +kernel
theorem dX12_swaps_29 : decode cX12_swaps 29 = .ok (.iload_n 3, 1) := by decide +kernel
theorem dX12_swaps_30 : decode cX12_swaps 30 = .ok (.invokevirtual 266, 3) := by decide +kernel
theorem dX12_swaps_33 : decode cX12_swaps 33 = .ok (.iastore, 1) := by decide +kernel
theorem dX12_swaps_34 : decode cX12_swaps 34 = .ok (.aload_n 0, 1) := by decide +kernel
theorem dX12_swaps_35 : decode cX12_swaps 35 = .ok (.getfield 20, 3) := by decide +kernel
theorem dX12_swaps_38 : decode cX12_swaps 38 = .ok (.bipush 89, 2) := by decide +kernel
theorem dX12_swaps_40 : decode cX12_swaps 40 = .ok (.iconst 3, 1) := by decide +kernel
theorem dX12_swaps_41 : decode cX12_swaps 41 = .ok (.iload_n 2, 1) := by decide +kernel
theorem dX12_swaps_42 : decode cX12_swaps 42 = .ok (.imul, 1) := by decide +kernel
theorem dX12_swaps_43 : decode cX12_swaps 43 = .ok (.iadd, 1) := by decide +kernel
theorem dX12_swaps_44 : decode cX12_swaps 44 = .ok (.iload_n 3, 1) := by decide +kernel
theorem dX12_swaps_45 : decode cX12_swaps 45 = .ok (.iadd, 1) := by decide +kernel
theorem dX12_swaps_46 : decode cX12_swaps 46 = .ok (.iload 4, 2) := by decide +kernel
theorem dX12_swaps_48 : decode cX12_swaps 48 = .ok (.iastore, 1) := by decide +kernel
theorem dX12_swaps_49 : decode cX12_swaps 49 = .ok (.iinc 3 1, 3) := by decide +kernel
theorem dX12_swaps_52 : decode cX12_swaps 52 = .ok (.goto (-50), 3) := by decide +kernel
theorem dX12_swaps_55 : decode cX12_swaps 55 = .ok (.return_, 1) := by decide +kernel
theorem dX12_goes_0 : decode cX12_goes 0 = .ok (.iload_n 2, 1) := by decide +kernel
theorem dX12_goes_1 : decode cX12_goes 1 = .ok (.iload_n 1, 1) := by decide +kernel
theorem dX12_goes_2 : decode cX12_goes 2 = .ok (.if_icmp .le 7, 3) := by decide +kernel
theorem dX12_goes_5 : decode cX12_goes 5 = .ok (.iconst 1, 1) := by decide +kernel
theorem dX12_goes_6 : decode cX12_goes 6 = .ok (.goto 4, 3) := by decide +kernel
theorem dX12_goes_9 : decode cX12_goes 9 = .ok (.iconst (-1), 1) := by decide +kernel
theorem dX12_goes_10 : decode cX12_goes 10 = .ok (.istore_n 3, 1) := by decide +kernel
theorem dX12_goes_11 : decode cX12_goes 11 = .ok (.iload_n 1, 1) := by decide +kernel
theorem dX12_goes_12 : decode cX12_goes 12 = .ok (.istore 4, 2) := by decide +kernel
theorem dX12_goes_14 : decode cX12_goes 14 = .ok (.iload 4, 2) := by decide +kernel
theorem dX12_goes_16 : decode cX12_goes 16 = .ok (.iload_n 2, 1) := by decide +kernel
theorem dX12_goes_17 : decode cX12_goes 17 = .ok (.if_icmp .eq 22, 3) := by decide +kernel
theorem dX12_goes_20 : decode cX12_goes 20 = .ok (.aload_n 0, 1) := by decide +kernel
theorem dX12_goes_21 : decode cX12_goes 21 = .ok (.iload 4, 2) := by decide +kernel
theorem dX12_goes_23 : decode cX12_goes 23 = .ok (.iload 4, 2) := by decide +kernel
theorem dX12_goes_25 : decode cX12_goes 25 = .ok (.iload_n 3, 1) := by decide +kernel
theorem dX12_goes_26 : decode cX12_goes 26 = .ok (.iadd, 1) := by decide +kernel
theorem dX12_goes_27 : decode cX12_goes 27 = .ok (.invokevirtual 336, 3) := by decide +kernel
theorem dX12_goes_30 : decode cX12_goes 30 = .ok (.iload 4, 2) := by decide +kernel
theorem dX12_goes_32 : decode cX12_goes 32 = .ok (.iload_n 3, 1) := by decide +kernel
theorem dX12_goes_33 : decode cX12_goes 33 = .ok (.iadd, 1) := by decide +kernel
theorem dX12_goes_34 : decode cX12_goes 34 = .ok (.istore 4, 2) := by decide +kernel
theorem dX12_goes_36 : decode cX12_goes 36 = .ok (.goto (-22), 3) := by decide +kernel
theorem dX12_goes_39 : decode cX12_goes 39 = .ok (.return_, 1) := by decide +kernel
theorem dX12_removeScan_0 : decode cX12_removeScan 0 = .ok (.aload_n 0, 1) := by decide +kernel
theorem dX12_removeScan_1 : decode cX12_removeScan 1 = .ok (.iconst 0, 1) := by decide +kernel
theorem dX12_removeScan_2 : decode cX12_removeScan 2 = .ok (.putfield 3, 3) := by decide +kernel
theorem dX12_removeScan_5 : decode cX12_removeScan 5 = .ok (.aload_n 0, 1) := by decide +kernel
theorem dX12_removeScan_6 : decode cX12_removeScan 6 = .ok (.iload_n 1, 1) := by decide +kernel
theorem dX12_removeScan_7 : decode cX12_removeScan 7 = .ok (.invokevirtual 339, 3) := by decide +kernel
theorem dX12_removeScan_10 : decode cX12_removeScan 10 = .ok (.ifCond .ne 9, 3) := by decide +kernel
theorem dX12_removeScan_13 : decode cX12_removeScan 13 = .ok (.aload_n 0, 1) := by decide +kernel
theorem dX12_removeScan_14 : decode cX12_removeScan 14 = .ok (.iconst 1, 1) := by decide +kernel
theorem dX12_removeScan_15 : decode cX12_removeScan 15 = .ok (.invokevirtual 94, 3) := by decide +kernel
theorem dX12_removeScan_18 : decode cX12_removeScan 18 = .ok (.ireturn, 1) := by decide +kernel
theorem dX12_removeScan_19 : decode cX12_removeScan 19 = .ok (.aload_n 0, 1) := by decide +kernel
theorem dX12_removeScan_20 : decode cX12_removeScan 20 = .ok (.invokevirtual 285, 3) := by decide +kernel
theorem dX12_removeScan_23 : decode cX12_removeScan 23 = .ok (.aload_n 0, 1) := by decide +kernel
theorem dX12_removeScan_24 : decode cX12_removeScan 24 = .ok (.iload_n 1, 1) := by decide +kernel
theorem dX12_removeScan_25 : decode cX12_removeScan 25 = .ok (.iconst 0, 1) := by decide +kernel
theorem dX12_removeScan_26 : decode cX12_removeScan 26 = .ok (.invokevirtual 266, 3) := by decide +kernel
theorem dX12_removeScan_29 : decode cX12_removeScan 29 = .ok (.istore_n 2, 1) := by decide +kernel
theorem dX12_removeScan_30 : decode cX12_removeScan 30 = .ok (.aload_n 0, 1) := by decide +kernel
theorem dX12_removeScan_31 : decode cX12_removeScan 31 = .ok (.iload_n 1, 1) := by decide +kernel
theorem dX12_removeScan_32 : decode cX12_removeScan 32 = .ok (.aload_n 0, 1) := by decide +kernel
theorem dX12_removeScan_33 : decode cX12_removeScan 33 = .ok (.getfield 20, 3) := by decide +kernel
theorem dX12_removeScan_36 : decode cX12_removeScan 36 = .ok (.iconst 2, 1) := by decide +kernel
theorem dX12_removeScan_37 : decode cX12_removeScan 37 = .ok (.iaload, 1) := by decide +kernel
theorem dX12_removeScan_38 : decode cX12_removeScan 38 = .ok (.iconst 1, 1) := by decide +kernel
theorem dX12_removeScan_39 : decode cX12_removeScan 39 = .ok (.isub, 1) := by decide +kernel
theorem dX12_removeScan_40 : decode cX12_removeScan 40 = .ok (.invokevirtual 342, 3) := by decide +kernel
theorem dX12_removeScan_43 : decode cX12_removeScan 43 = .ok (.aload_n 0, 1) := by decide +kernel
theorem dX12_removeScan_44 : decode cX12_removeScan 44 = .ok (.getfield 20, 3) := by decide +kernel
theorem dX12_removeScan_47 : decode cX12_removeScan 47 = .ok (.iconst 2, 1) := by decide +kernel
theorem dX12_removeScan_48 : decode cX12_removeScan 48 = .ok (.dup2, 1) := by decide +kernel
theorem dX12_removeScan_49 : decode cX12_removeScan 49 = .ok (.iaload, 1) := by decide +kernel
theorem dX12_removeScan_50 : decode cX12_removeScan 50 = .ok (.iconst 1, 1) := by decide +kernel
theorem dX12_removeScan_51 : decode cX12_removeScan 51 = .ok (.isub, 1) := by decide +kernel
theorem dX12_removeScan_52 : decode cX12_removeScan 52 = .ok (.iastore, 1) := by decide +kernel
theorem dX12_removeScan_53 : decode cX12_removeScan 53 = .ok (.iload_n 2, 1) := by decide +kernel
theorem dX12_removeScan_54 : decode cX12_removeScan 54 = .ok (.ireturn, 1) := by decide +kernel
theorem dX12_moveScan_0 : decode cX12_moveScan 0 = .ok (.aload_n 0, 1) := by decide +kernel
theorem dX12_moveScan_1 : decode cX12_moveScan 1 = .ok (.iconst 0, 1) := by decide +kernel
theorem dX12_moveScan_2 : decode cX12_moveScan 2 = .ok (.putfield 3, 3) := by decide +kernel
theorem dX12_moveScan_5 : decode cX12_moveScan 5 = .ok (.aload_n 0, 1) := by decide +kernel
theorem dX12_moveScan_6 : decode cX12_moveScan 6 = .ok (.iload_n 1, 1) := by decide +kernel
theorem dX12_moveScan_7 : decode cX12_moveScan 7 = .ok (.invokevirtual 339, 3) := by decide +kernel
theorem dX12_moveScan_10 : decode cX12_moveScan 10 = .ok (.ifCond .eq 11, 3) := by decide +kernel
theorem dX12_moveScan_13 : decode cX12_moveScan 13 = .ok (.aload_n 0, 1) := by decide +kernel
theorem dX12_moveScan_14 : decode cX12_moveScan 14 = .ok (.iload_n 2, 1) := by decide +kernel
theorem dX12_moveScan_15 : decode cX12_moveScan 15 = .ok (.invokevirtual 339, 3) := by decide +kernel
theorem dX12_moveScan_18 : decode cX12_moveScan 18 = .ok (.ifCond .ne 9, 3) := by decide +kernel
theorem dX12_moveScan_21 : decode cX12_moveScan 21 = .ok (.aload_n 0, 1) := by decide +kernel
theorem dX12_moveScan_22 : decode cX12_moveScan 22 = .ok (.iconst 1, 1) := by decide +kernel
theorem dX12_moveScan_23 : decode cX12_moveScan 23 = .ok (.invokevirtual 94, 3) := by decide +kernel
theorem dX12_moveScan_26 : decode cX12_moveScan 26 = .ok (.ireturn, 1) := by decide +kernel
theorem dX12_moveScan_27 : decode cX12_moveScan 27 = .ok (.aload_n 0, 1) := by decide +kernel
theorem dX12_moveScan_28 : decode cX12_moveScan 28 = .ok (.invokevirtual 285, 3) := by decide +kernel
theorem dX12_moveScan_31 : decode cX12_moveScan 31 = .ok (.aload_n 0, 1) := by decide +kernel
theorem dX12_moveScan_32 : decode cX12_moveScan 32 = .ok (.iload_n 1, 1) := by decide +kernel
theorem dX12_moveScan_33 : decode cX12_moveScan 33 = .ok (.iload_n 2, 1) := by decide +kernel
theorem dX12_moveScan_34 : decode cX12_moveScan 34 = .ok (.invokevirtual 342, 3) := by decide +kernel
theorem dX12_moveScan_37 : decode cX12_moveScan 37 = .ok (.aload_n 0, 1) := by decide +kernel
theorem dX12_moveScan_38 : decode cX12_moveScan 38 = .ok (.invokevirtual 345, 3) := by decide +kernel
theorem dX12_moveScan_41 : decode cX12_moveScan 41 = .ok (.ireturn, 1) := by decide +kernel
theorem dX12_sortScans_0 : decode cX12_sortScans 0 = .ok (.aload_n 0, 1) := by decide +kernel
theorem dX12_sortScans_1 : decode cX12_sortScans 1 = .ok (.iconst 0, 1) := by decide +kernel
theorem dX12_sortScans_2 : decode cX12_sortScans 2 = .ok (.putfield 3, 3) := by decide +kernel
theorem dX12_sortScans_5 : decode cX12_sortScans 5 = .ok (.aload_n 0, 1) := by decide +kernel
theorem dX12_sortScans_6 : decode cX12_sortScans 6 = .ok (.invokevirtual 285, 3) := by decide +kernel
theorem dX12_sortScans_9 : decode cX12_sortScans 9 = .ok (.aload_n 0, 1) := by decide +kernel
theorem dX12_sortScans_10 : decode cX12_sortScans 10 = .ok (.invokevirtual 239, 3) := by decide +kernel
theorem dX12_sortScans_13 : decode cX12_sortScans 13 = .ok (.aload_n 0, 1) := by decide +kernel
theorem dX12_sortScans_14 : decode cX12_sortScans 14 = .ok (.getfield 20, 3) := by decide +kernel
theorem dX12_sortScans_17 : decode cX12_sortScans 17 = .ok (.iconst 2, 1) := by decide +kernel
theorem dX12_sortScans_18 : decode cX12_sortScans 18 = .ok (.iaload, 1) := by decide +kernel
theorem dX12_sortScans_19 : decode cX12_sortScans 19 = .ok (.istore_n 1, 1) := by decide +kernel
theorem dX12_sortScans_20 : decode cX12_sortScans 20 = .ok (.iconst 0, 1) := by decide +kernel
theorem dX12_sortScans_21 : decode cX12_sortScans 21 = .ok (.istore_n 2, 1) := by decide +kernel
theorem dX12_sortScans_22 : decode cX12_sortScans 22 = .ok (.iload_n 2, 1) := by decide +kernel
theorem dX12_sortScans_23 : decode cX12_sortScans 23 = .ok (.iload_n 1, 1) := by decide +kernel
theorem dX12_sortScans_24 : decode cX12_sortScans 24 = .ok (.if_icmp .ge 16, 3) := by decide +kernel
theorem dX12_sortScans_27 : decode cX12_sortScans 27 = .ok (.aload_n 0, 1) := by decide +kernel
theorem dX12_sortScans_28 : decode cX12_sortScans 28 = .ok (.getfield 57, 3) := by decide +kernel
theorem dX12_sortScans_31 : decode cX12_sortScans 31 = .ok (.iload_n 2, 1) := by decide +kernel
theorem dX12_sortScans_32 : decode cX12_sortScans 32 = .ok (.iload_n 2, 1) := by decide +kernel
theorem dX12_sortScans_33 : decode cX12_sortScans 33 = .ok (.iastore, 1) := by decide +kernel
theorem dX12_sortScans_34 : decode cX12_sortScans 34 = .ok (.iinc 2 1, 3) := by decide +kernel
theorem dX12_sortScans_37 : decode cX12_sortScans 37 = .ok (.goto (-15), 3) := by decide +kernel
theorem dX12_sortScans_40 : decode cX12_sortScans 40 = .ok (.iconst 1, 1) := by decide +kernel
theorem dX12_sortScans_41 : decode cX12_sortScans 41 = .ok (.istore_n 2, 1) := by decide +kernel
theorem dX12_sortScans_42 : decode cX12_sortScans 42 = .ok (.iload_n 2, 1) := by decide +kernel
theorem dX12_sortScans_43 : decode cX12_sortScans 43 = .ok (.iload_n 1, 1) := by decide +kernel
theorem dX12_sortScans_44 : decode cX12_sortScans 44 = .ok (.if_icmp .ge 76, 3) := by decide +kernel
theorem dX12_sortScans_47 : decode cX12_sortScans 47 = .ok (.iload_n 2, 1) := by decide +kernel
theorem dX12_sortScans_48 : decode cX12_sortScans 48 = .ok (.istore_n 3, 1) := by decide +kernel
theorem dX12_sortScans_49 : decode cX12_sortScans 49 = .ok (.iload_n 3, 1) := by decide +kernel
theorem dX12_sortScans_50 : decode cX12_sortScans 50 = .ok (.ifCond .le 64, 3) := by decide +kernel
theorem dX12_sortScans_53 : decode cX12_sortScans 53 = .ok (.aload_n 0, 1) := by decide +kernel
theorem dX12_sortScans_54 : decode cX12_sortScans 54 = .ok (.iload_n 3, 1) := by decide +kernel
theorem dX12_sortScans_55 : decode cX12_sortScans 55 = .ok (.invokevirtual 348, 3) := by decide +kernel
theorem dX12_sortScans_58 : decode cX12_sortScans 58 = .ok (.aload_n 0, 1) := by decide +kernel
theorem dX12_sortScans_59 : decode cX12_sortScans 59 = .ok (.iload_n 3, 1) := by decide +kernel
theorem dX12_sortScans_60 : decode cX12_sortScans 60 = .ok (.iconst 1, 1) := by decide +kernel
theorem dX12_sortScans_61 : decode cX12_sortScans 61 = .ok (.isub, 1) := by decide +kernel
theorem dX12_sortScans_62 : decode cX12_sortScans 62 = .ok (.invokevirtual 348, 3) := by decide +kernel
theorem dX12_sortScans_65 : decode cX12_sortScans 65 = .ok (.if_icmp .ge 49, 3) := by decide +kernel
theorem dX12_sortScans_68 : decode cX12_sortScans 68 = .ok (.aload_n 0, 1) := by decide +kernel
theorem dX12_sortScans_69 : decode cX12_sortScans 69 = .ok (.iload_n 3, 1) := by decide +kernel
theorem dX12_sortScans_70 : decode cX12_sortScans 70 = .ok (.iload_n 3, 1) := by decide +kernel
theorem dX12_sortScans_71 : decode cX12_sortScans 71 = .ok (.iconst 1, 1) := by decide +kernel
theorem dX12_sortScans_72 : decode cX12_sortScans 72 = .ok (.isub, 1) := by decide +kernel
theorem dX12_sortScans_73 : decode cX12_sortScans 73 = .ok (.invokevirtual 336, 3) := by decide +kernel
theorem dX12_sortScans_76 : decode cX12_sortScans 76 = .ok (.aload_n 0, 1) := by decide +kernel
theorem dX12_sortScans_77 : decode cX12_sortScans 77 = .ok (.getfield 57, 3) := by decide +kernel
theorem dX12_sortScans_80 : decode cX12_sortScans 80 = .ok (.iload_n 3, 1) := by decide +kernel
theorem dX12_sortScans_81 : decode cX12_sortScans 81 = .ok (.iaload, 1) := by decide +kernel
theorem dX12_sortScans_82 : decode cX12_sortScans 82 = .ok (.istore 4, 2) := by decide +kernel
theorem dX12_sortScans_84 : decode cX12_sortScans 84 = .ok (.aload_n 0, 1) := by decide +kernel
theorem dX12_sortScans_85 : decode cX12_sortScans 85 = .ok (.getfield 57, 3) := by decide +kernel
theorem dX12_sortScans_88 : decode cX12_sortScans 88 = .ok (.iload_n 3, 1) := by decide +kernel
theorem dX12_sortScans_89 : decode cX12_sortScans 89 = .ok (.aload_n 0, 1) := by decide +kernel
theorem dX12_sortScans_90 : decode cX12_sortScans 90 = .ok (.getfield 57, 3) := by decide +kernel
theorem dX12_sortScans_93 : decode cX12_sortScans 93 = .ok (.iload_n 3, 1) := by decide +kernel
theorem dX12_sortScans_94 : decode cX12_sortScans 94 = .ok (.iconst 1, 1) := by decide +kernel
theorem dX12_sortScans_95 : decode cX12_sortScans 95 = .ok (.isub, 1) := by decide +kernel
theorem dX12_sortScans_96 : decode cX12_sortScans 96 = .ok (.iaload, 1) := by decide +kernel
theorem dX12_sortScans_97 : decode cX12_sortScans 97 = .ok (.iastore, 1) := by decide +kernel
theorem dX12_sortScans_98 : decode cX12_sortScans 98 = .ok (.aload_n 0, 1) := by decide +kernel
theorem dX12_sortScans_99 : decode cX12_sortScans 99 = .ok (.getfield 57, 3) := by decide +kernel
theorem dX12_sortScans_102 : decode cX12_sortScans 102 = .ok (.iload_n 3, 1) := by decide +kernel
theorem dX12_sortScans_103 : decode cX12_sortScans 103 = .ok (.iconst 1, 1) := by decide +kernel
theorem dX12_sortScans_104 : decode cX12_sortScans 104 = .ok (.isub, 1) := by decide +kernel
theorem dX12_sortScans_105 : decode cX12_sortScans 105 = .ok (.iload 4, 2) := by decide +kernel
theorem dX12_sortScans_107 : decode cX12_sortScans 107 = .ok (.iastore, 1) := by decide +kernel
theorem dX12_sortScans_108 : decode cX12_sortScans 108 = .ok (.iinc 3 (-1), 3) := by decide +kernel
theorem dX12_sortScans_111 : decode cX12_sortScans 111 = .ok (.goto (-62), 3) := by decide +kernel
theorem dX12_sortScans_114 : decode cX12_sortScans 114 = .ok (.iinc 2 1, 3) := by decide +kernel
theorem dX12_sortScans_117 : decode cX12_sortScans 117 = .ok (.goto (-75), 3) := by decide +kernel
theorem dX12_sortScans_120 : decode cX12_sortScans 120 = .ok (.iconst 0, 1) := by decide +kernel
theorem dX12_sortScans_121 : decode cX12_sortScans 121 = .ok (.istore_n 2, 1) := by decide +kernel
theorem dX12_sortScans_122 : decode cX12_sortScans 122 = .ok (.iconst 0, 1) := by decide +kernel
theorem dX12_sortScans_123 : decode cX12_sortScans 123 = .ok (.istore_n 3, 1) := by decide +kernel
theorem dX12_sortScans_124 : decode cX12_sortScans 124 = .ok (.iload_n 3, 1) := by decide +kernel
theorem dX12_sortScans_125 : decode cX12_sortScans 125 = .ok (.iload_n 1, 1) := by decide +kernel
theorem dX12_sortScans_126 : decode cX12_sortScans 126 = .ok (.if_icmp .ge 27, 3) := by decide +kernel
theorem dX12_sortScans_129 : decode cX12_sortScans 129 = .ok (.iload_n 2, 1) := by decide +kernel
theorem dX12_sortScans_130 : decode cX12_sortScans 130 = .ok (.aload_n 0, 1) := by decide +kernel
theorem dX12_sortScans_131 : decode cX12_sortScans 131 = .ok (.getfield 57, 3) := by decide +kernel
theorem dX12_sortScans_134 : decode cX12_sortScans 134 = .ok (.iload_n 3, 1) := by decide +kernel
theorem dX12_sortScans_135 : decode cX12_sortScans 135 = .ok (.iaload, 1) := by decide +kernel
theorem dX12_sortScans_136 : decode cX12_sortScans 136 = .ok (.iload_n 3, 1) := by decide +kernel
theorem dX12_sortScans_137 : decode cX12_sortScans 137 = .ok (.if_icmp .eq 7, 3) := by decide +kernel
theorem dX12_sortScans_140 : decode cX12_sortScans 140 = .ok (.iconst 1, 1) := by decide +kernel
theorem dX12_sortScans_141 : decode cX12_sortScans 141 = .ok (.goto 4, 3) := by decide +kernel
theorem dX12_sortScans_144 : decode cX12_sortScans 144 = .ok (.iconst 0, 1) := by decide +kernel
theorem dX12_sortScans_145 : decode cX12_sortScans 145 = .ok (.iadd, 1) := by decide +kernel
theorem dX12_sortScans_146 : decode cX12_sortScans 146 = .ok (.istore_n 2, 1) := by decide +kernel
theorem dX12_sortScans_147 : decode cX12_sortScans 147 = .ok (.iinc 3 1, 3) := by decide +kernel
theorem dX12_sortScans_150 : decode cX12_sortScans 150 = .ok (.goto (-26), 3) := by decide +kernel
theorem dX12_sortScans_153 : decode cX12_sortScans 153 = .ok (.iload_n 2, 1) := by decide +kernel
theorem dX12_sortScans_154 : decode cX12_sortScans 154 = .ok (.ireturn, 1) := by decide +kernel
theorem dX12_rank_0 : decode cX12_rank 0 = .ok (.aload_n 0, 1) := by decide +kernel
theorem dX12_rank_1 : decode cX12_rank 1 = .ok (.iload_n 1, 1) := by decide +kernel
theorem dX12_rank_2 : decode cX12_rank 2 = .ok (.invokevirtual 291, 3) := by decide +kernel
theorem dX12_rank_5 : decode cX12_rank 5 = .ok (.istore_n 2, 1) := by decide +kernel
theorem dX12_rank_6 : decode cX12_rank 6 = .ok (.iload_n 2, 1) := by decide +kernel
theorem dX12_rank_7 : decode cX12_rank 7 = .ok (.iconst (-1), 1) := by decide +kernel
theorem dX12_rank_8 : decode cX12_rank 8 = .ok (.if_icmp .ne 9, 3) := by decide +kernel
theorem dX12_rank_11 : decode cX12_rank 11 = .ok (.sipush 144, 3) := by decide +kernel
theorem dX12_rank_14 : decode cX12_rank 14 = .ok (.goto 4, 3) := by decide +kernel
theorem dX12_rank_17 : decode cX12_rank 17 = .ok (.iload_n 2, 1) := by decide +kernel
theorem dX12_rank_18 : decode cX12_rank 18 = .ok (.ireturn, 1) := by decide +kernel
theorem dX12_openings_0 : decode cX12_openings 0 = .ok (.aload_n 0, 1) := by decide +kernel
theorem dX12_openings_1 : decode cX12_openings 1 = .ok (.invokevirtual 306, 3) := by decide +kernel
theorem dX12_openings_4 : decode cX12_openings 4 = .ok (.iconst 1, 1) := by decide +kernel
theorem dX12_openings_5 : decode cX12_openings 5 = .ok (.iadd, 1) := by decide +kernel
theorem dX12_openings_6 : decode cX12_openings 6 = .ok (.ireturn, 1) := by decide +kernel
theorem dX12_isOpening_0 : decode cX12_isOpening 0 = .ok (.iload_n 1, 1) := by decide +kernel
theorem dX12_isOpening_1 : decode cX12_isOpening 1 = .ok (.i2l, 1) := by decide +kernel
theorem dX12_isOpening_2 : decode cX12_isOpening 2 = .ok (.lconst 0, 1) := by decide +kernel
theorem dX12_isOpening_3 : decode cX12_isOpening 3 = .ok (.aload_n 0, 1) := by decide +kernel
theorem dX12_isOpening_4 : decode cX12_isOpening 4 = .ok (.invokevirtual 351, 3) := by decide +kernel
theorem dX12_isOpening_7 : decode cX12_isOpening 7 = .ok (.iconst 1, 1) := by decide +kernel
theorem dX12_isOpening_8 : decode cX12_isOpening 8 = .ok (.isub, 1) := by decide +kernel
theorem dX12_isOpening_9 : decode cX12_isOpening 9 = .ok (.i2l, 1) := by decide +kernel
theorem dX12_isOpening_10 : decode cX12_isOpening 10 = .ok (.invokestatic 101, 3) := by decide +kernel
theorem dX12_isOpening_13 : decode cX12_isOpening 13 = .ok (.ireturn, 1) := by decide +kernel
theorem dX12_presentAt_0 : decode cX12_presentAt 0 = .ok (.iload_n 1, 1) := by decide +kernel
theorem dX12_presentAt_1 : decode cX12_presentAt 1 = .ok (.istore_n 2, 1) := by decide +kernel
theorem dX12_presentAt_2 : decode cX12_presentAt 2 = .ok (.iconst 0, 1) := by decide +kernel
theorem dX12_presentAt_3 : decode cX12_presentAt 3 = .ok (.istore_n 3, 1) := by decide +kernel
theorem dX12_presentAt_4 : decode cX12_presentAt 4 = .ok (.iload_n 3, 1) := by decide +kernel
theorem dX12_presentAt_5 : decode cX12_presentAt 5 = .ok (.aload_n 0, 1) := by decide +kernel
theorem dX12_presentAt_6 : decode cX12_presentAt 6 = .ok (.invokevirtual 212, 3) := by decide +kernel
theorem dX12_presentAt_9 : decode cX12_presentAt 9 = .ok (.if_icmp .ge 33, 3) := by decide +kernel
theorem dX12_presentAt_12 : decode cX12_presentAt 12 = .ok (.iload_n 1, 1) := by decide +kernel
theorem dX12_presentAt_13 : decode cX12_presentAt 13 = .ok (.ifCond .lt 29, 3) := by decide +kernel
theorem dX12_presentAt_16 : decode cX12_presentAt 16 = .ok (.aload_n 0, 1) := by decide +kernel
theorem dX12_presentAt_17 : decode cX12_presentAt 17 = .ok (.iload_n 3, 1) := by decide +kernel
theorem dX12_presentAt_18 : decode cX12_presentAt 18 = .ok (.invokevirtual 215, 3) := by decide +kernel
theorem dX12_presentAt_21 : decode cX12_presentAt 21 = .ok (.ifCond .ne 6, 3) := by decide +kernel
theorem dX12_presentAt_24 : decode cX12_presentAt 24 = .ok (.goto 12, 3) := by decide +kernel
theorem dX12_presentAt_27 : decode cX12_presentAt 27 = .ok (.iload_n 2, 1) := by decide +kernel
theorem dX12_presentAt_28 : decode cX12_presentAt 28 = .ok (.ifCond .ne 5, 3) := by decide +kernel
theorem dX12_presentAt_31 : decode cX12_presentAt 31 = .ok (.iload_n 3, 1) := by decide +kernel
theorem dX12_presentAt_32 : decode cX12_presentAt 32 = .ok (.ireturn, 1) := by decide +kernel
theorem dX12_presentAt_33 : decode cX12_presentAt 33 = .ok (.iinc 2 (-1), 3) := by decide +kernel
theorem dX12_presentAt_36 : decode cX12_presentAt 36 = .ok (.iinc 3 1, 3) := by decide +kernel
theorem dX12_presentAt_39 : decode cX12_presentAt 39 = .ok (.goto (-35), 3) := by decide +kernel
theorem dX12_presentAt_42 : decode cX12_presentAt 42 = .ok (.iconst (-1), 1) := by decide +kernel
theorem dX12_presentAt_43 : decode cX12_presentAt 43 = .ok (.ireturn, 1) := by decide +kernel
theorem dX12_leftOf_0 : decode cX12_leftOf 0 = .ok (.aload_n 0, 1) := by decide +kernel
theorem dX12_leftOf_1 : decode cX12_leftOf 1 = .ok (.iload_n 1, 1) := by decide +kernel
theorem dX12_leftOf_2 : decode cX12_leftOf 2 = .ok (.iconst 1, 1) := by decide +kernel
theorem dX12_leftOf_3 : decode cX12_leftOf 3 = .ok (.isub, 1) := by decide +kernel
theorem dX12_leftOf_4 : decode cX12_leftOf 4 = .ok (.invokevirtual 354, 3) := by decide +kernel
theorem dX12_leftOf_7 : decode cX12_leftOf 7 = .ok (.ireturn, 1) := by decide +kernel
theorem dX12_rightOf_0 : decode cX12_rightOf 0 = .ok (.aload_n 0, 1) := by decide +kernel
theorem dX12_rightOf_1 : decode cX12_rightOf 1 = .ok (.iload_n 1, 1) := by decide +kernel
theorem dX12_rightOf_2 : decode cX12_rightOf 2 = .ok (.invokevirtual 354, 3) := by decide +kernel
theorem dX12_rightOf_5 : decode cX12_rightOf 5 = .ok (.ireturn, 1) := by decide +kernel
theorem dX12_gapOf_0 : decode cX12_gapOf 0 = .ok (.aload_n 0, 1) := by decide +kernel
theorem dX12_gapOf_1 : decode cX12_gapOf 1 = .ok (.iload_n 1, 1) := by decide +kernel
theorem dX12_gapOf_2 : decode cX12_gapOf 2 = .ok (.invokevirtual 330, 3) := by decide +kernel
theorem dX12_gapOf_5 : decode cX12_gapOf 5 = .ok (.istore_n 2, 1) := by decide +kernel
theorem dX12_gapOf_6 : decode cX12_gapOf 6 = .ok (.aload_n 0, 1) := by decide +kernel
theorem dX12_gapOf_7 : decode cX12_gapOf 7 = .ok (.iload_n 1, 1) := by decide +kernel
theorem dX12_gapOf_8 : decode cX12_gapOf 8 = .ok (.invokevirtual 333, 3) := by decide +kernel
theorem dX12_gapOf_11 : decode cX12_gapOf 11 = .ok (.iconst (-1), 1) := by decide +kernel
theorem dX12_gapOf_12 : decode cX12_gapOf 12 = .ok (.if_icmp .ne 10, 3) := by decide +kernel
theorem dX12_gapOf_15 : decode cX12_gapOf 15 = .ok (.aload_n 0, 1) := by decide +kernel
theorem dX12_gapOf_16 : decode cX12_gapOf 16 = .ok (.invokevirtual 212, 3) := by decide +kernel
theorem dX12_gapOf_19 : decode cX12_gapOf 19 = .ok (.goto 8, 3) := by decide +kernel
theorem dX12_gapOf_22 : decode cX12_gapOf 22 = .ok (.aload_n 0, 1) := by decide +kernel
theorem dX12_gapOf_23 : decode cX12_gapOf 23 = .ok (.iload_n 1, 1) := by decide +kernel
theorem dX12_gapOf_24 : decode cX12_gapOf 24 = .ok (.invokevirtual 333, 3) := by decide +kernel
theorem dX12_gapOf_27 : decode cX12_gapOf 27 = .ok (.istore_n 3, 1) := by decide +kernel
theorem dX12_gapOf_28 : decode cX12_gapOf 28 = .ok (.iload_n 3, 1) := by decide +kernel
theorem dX12_gapOf_29 : decode cX12_gapOf 29 = .ok (.iload_n 2, 1) := by decide +kernel
theorem dX12_gapOf_30 : decode cX12_gapOf 30 = .ok (.isub, 1) := by decide +kernel
theorem dX12_gapOf_31 : decode cX12_gapOf 31 = .ok (.iconst 1, 1) := by decide +kernel
theorem dX12_gapOf_32 : decode cX12_gapOf 32 = .ok (.isub, 1) := by decide +kernel
theorem dX12_gapOf_33 : decode cX12_gapOf 33 = .ok (.ireturn, 1) := by decide +kernel
theorem dX12_viewGoes_0 : decode cX12_viewGoes 0 = .ok (.aload_n 0, 1) := by decide +kernel
theorem dX12_viewGoes_1 : decode cX12_viewGoes 1 = .ok (.getfield 20, 3) := by decide +kernel
theorem dX12_viewGoes_4 : decode cX12_viewGoes 4 = .ok (.iconst 4, 1) := by decide +kernel
theorem dX12_viewGoes_5 : decode cX12_viewGoes 5 = .ok (.iaload, 1) := by decide +kernel
theorem dX12_viewGoes_6 : decode cX12_viewGoes 6 = .ok (.bipush 10, 2) := by decide +kernel
theorem dX12_viewGoes_8 : decode cX12_viewGoes 8 = .ok (.if_icmp .ne 49, 3) := by decide +kernel
theorem dX12_viewGoes_11 : decode cX12_viewGoes 11 = .ok (.iconst 1, 1) := by decide +kernel
theorem dX12_viewGoes_12 : decode cX12_viewGoes 12 = .ok (.istore_n 2, 1) := by decide +kernel
theorem dX12_viewGoes_13 : decode cX12_viewGoes 13 = .ok (.iload_n 2, 1) := by decide +kernel
theorem dX12_viewGoes_14 : decode cX12_viewGoes 14 = .ok (.bipush 10, 2) := by decide +kernel
theorem dX12_viewGoes_16 : decode cX12_viewGoes 16 = .ok (.if_icmp .ge 31, 3) := by decide +kernel
theorem dX12_viewGoes_19 : decode cX12_viewGoes 19 = .ok (.aload_n 0, 1) := by decide +kernel
theorem dX12_viewGoes_20 : decode cX12_viewGoes 20 = .ok (.getfield 20, 3) := by decide +kernel
theorem dX12_viewGoes_23 : decode cX12_viewGoes 23 = .ok (.sipush 269, 3) := by decide +kernel
theorem dX12_viewGoes_26 : decode cX12_viewGoes 26 = .ok (.iload_n 2, 1) := by decide +kernel
theorem dX12_viewGoes_27 : decode cX12_viewGoes 27 = .ok (.iadd, 1) := by decide +kernel
theorem dX12_viewGoes_28 : decode cX12_viewGoes 28 = .ok (.iconst 1, 1) := by decide +kernel
theorem dX12_viewGoes_29 : decode cX12_viewGoes 29 = .ok (.isub, 1) := by decide +kernel
theorem dX12_viewGoes_30 : decode cX12_viewGoes 30 = .ok (.aload_n 0, 1) := by decide +kernel
theorem dX12_viewGoes_31 : decode cX12_viewGoes 31 = .ok (.getfield 20, 3) := by decide +kernel
theorem dX12_viewGoes_34 : decode cX12_viewGoes 34 = .ok (.sipush 269, 3) := by decide +kernel
theorem dX12_viewGoes_37 : decode cX12_viewGoes 37 = .ok (.iload_n 2, 1) := by decide +kernel
theorem dX12_viewGoes_38 : decode cX12_viewGoes 38 = .ok (.iadd, 1) := by decide +kernel
theorem dX12_viewGoes_39 : decode cX12_viewGoes 39 = .ok (.iaload, 1) := by decide +kernel
theorem dX12_viewGoes_40 : decode cX12_viewGoes 40 = .ok (.iastore, 1) := by decide +kernel
theorem dX12_viewGoes_41 : decode cX12_viewGoes 41 = .ok (.iinc 2 1, 3) := by decide +kernel
theorem dX12_viewGoes_44 : decode cX12_viewGoes 44 = .ok (.goto (-31), 3) := by decide +kernel
theorem dX12_viewGoes_47 : decode cX12_viewGoes 47 = .ok (.aload_n 0, 1) := by decide +kernel
theorem dX12_viewGoes_48 : decode cX12_viewGoes 48 = .ok (.getfield 20, 3) := by decide +kernel
theorem dX12_viewGoes_51 : decode cX12_viewGoes 51 = .ok (.iconst 4, 1) := by decide +kernel
theorem dX12_viewGoes_52 : decode cX12_viewGoes 52 = .ok (.dup2, 1) := by decide +kernel
theorem dX12_viewGoes_53 : decode cX12_viewGoes 53 = .ok (.iaload, 1) := by decide +kernel
theorem dX12_viewGoes_54 : decode cX12_viewGoes 54 = .ok (.iconst 1, 1) := by decide +kernel
theorem dX12_viewGoes_55 : decode cX12_viewGoes 55 = .ok (.isub, 1) := by decide +kernel
theorem dX12_viewGoes_56 : decode cX12_viewGoes 56 = .ok (.iastore, 1) := by decide +kernel
theorem dX12_viewGoes_57 : decode cX12_viewGoes 57 = .ok (.aload_n 0, 1) := by decide +kernel
theorem dX12_viewGoes_58 : decode cX12_viewGoes 58 = .ok (.getfield 20, 3) := by decide +kernel
theorem dX12_viewGoes_61 : decode cX12_viewGoes 61 = .ok (.sipush 269, 3) := by decide +kernel
theorem dX12_viewGoes_64 : decode cX12_viewGoes 64 = .ok (.aload_n 0, 1) := by decide +kernel
theorem dX12_viewGoes_65 : decode cX12_viewGoes 65 = .ok (.getfield 20, 3) := by decide +kernel
theorem dX12_viewGoes_68 : decode cX12_viewGoes 68 = .ok (.iconst 4, 1) := by decide +kernel
theorem dX12_viewGoes_69 : decode cX12_viewGoes 69 = .ok (.iaload, 1) := by decide +kernel
theorem dX12_viewGoes_70 : decode cX12_viewGoes 70 = .ok (.iadd, 1) := by decide +kernel
theorem dX12_viewGoes_71 : decode cX12_viewGoes 71 = .ok (.aload_n 0, 1) := by decide +kernel
theorem dX12_viewGoes_72 : decode cX12_viewGoes 72 = .ok (.getfield 20, 3) := by decide +kernel
theorem dX12_viewGoes_75 : decode cX12_viewGoes 75 = .ok (.iconst 3, 1) := by decide +kernel
theorem dX12_viewGoes_76 : decode cX12_viewGoes 76 = .ok (.iaload, 1) := by decide +kernel
theorem dX12_viewGoes_77 : decode cX12_viewGoes 77 = .ok (.iastore, 1) := by decide +kernel
theorem dX12_viewGoes_78 : decode cX12_viewGoes 78 = .ok (.aload_n 0, 1) := by decide +kernel
theorem dX12_viewGoes_79 : decode cX12_viewGoes 79 = .ok (.getfield 20, 3) := by decide +kernel
theorem dX12_viewGoes_82 : decode cX12_viewGoes 82 = .ok (.iconst 4, 1) := by decide +kernel
theorem dX12_viewGoes_83 : decode cX12_viewGoes 83 = .ok (.dup2, 1) := by decide +kernel
theorem dX12_viewGoes_84 : decode cX12_viewGoes 84 = .ok (.iaload, 1) := by decide +kernel
theorem dX12_viewGoes_85 : decode cX12_viewGoes 85 = .ok (.iconst 1, 1) := by decide +kernel
theorem dX12_viewGoes_86 : decode cX12_viewGoes 86 = .ok (.iadd, 1) := by decide +kernel
theorem dX12_viewGoes_87 : decode cX12_viewGoes 87 = .ok (.iastore, 1) := by decide +kernel
theorem dX12_viewGoes_88 : decode cX12_viewGoes 88 = .ok (.aload_n 0, 1) := by decide +kernel
theorem dX12_viewGoes_89 : decode cX12_viewGoes 89 = .ok (.getfield 20, 3) := by decide +kernel
theorem dX12_viewGoes_92 : decode cX12_viewGoes 92 = .ok (.iconst 3, 1) := by decide +kernel
theorem dX12_viewGoes_93 : decode cX12_viewGoes 93 = .ok (.iload_n 1, 1) := by decide +kernel
theorem dX12_viewGoes_94 : decode cX12_viewGoes 94 = .ok (.iastore, 1) := by decide +kernel
theorem dX12_viewGoes_95 : decode cX12_viewGoes 95 = .ok (.return_, 1) := by decide +kernel
theorem dX12_turn_0 : decode cX12_turn 0 = .ok (.aload_n 0, 1) := by decide +kernel
theorem dX12_turn_1 : decode cX12_turn 1 = .ok (.iconst 0, 1) := by decide +kernel
theorem dX12_turn_2 : decode cX12_turn 2 = .ok (.putfield 3, 3) := by decide +kernel
theorem dX12_turn_5 : decode cX12_turn 5 = .ok (.iload_n 1, 1) := by decide +kernel
theorem dX12_turn_6 : decode cX12_turn 6 = .ok (.ifCond .ne 9, 3) := by decide +kernel
theorem dX12_turn_9 : decode cX12_turn 9 = .ok (.aload_n 0, 1) := by decide +kernel
theorem dX12_turn_10 : decode cX12_turn 10 = .ok (.iconst 1, 1) := by decide +kernel
theorem dX12_turn_11 : decode cX12_turn 11 = .ok (.invokevirtual 94, 3) := by decide +kernel
theorem dX12_turn_14 : decode cX12_turn 14 = .ok (.ireturn, 1) := by decide +kernel
theorem dX12_turn_15 : decode cX12_turn 15 = .ok (.aload_n 0, 1) := by decide +kernel
theorem dX12_turn_16 : decode cX12_turn 16 = .ok (.getfield 20, 3) := by decide +kernel
theorem dX12_turn_19 : decode cX12_turn 19 = .ok (.iconst 3, 1) := by decide +kernel
theorem dX12_turn_20 : decode cX12_turn 20 = .ok (.iaload, 1) := by decide +kernel
theorem dX12_turn_21 : decode cX12_turn 21 = .ok (.i2l, 1) := by decide +kernel
theorem dX12_turn_22 : decode cX12_turn 22 = .ok (.iload_n 1, 1) := by decide +kernel
theorem dX12_turn_23 : decode cX12_turn 23 = .ok (.i2l, 1) := by decide +kernel
theorem dX12_turn_24 : decode cX12_turn 24 = .ok (.ladd, 1) := by decide +kernel
theorem dX12_turn_25 : decode cX12_turn 25 = .ok (.lstore_n 2, 1) := by decide +kernel
theorem dX12_turn_26 : decode cX12_turn 26 = .ok (.lload_n 2, 1) := by decide +kernel
theorem dX12_turn_27 : decode cX12_turn 27 = .ok (.lconst 0, 1) := by decide +kernel
theorem dX12_turn_28 : decode cX12_turn 28 = .ok (.aload_n 0, 1) := by decide +kernel
theorem dX12_turn_29 : decode cX12_turn 29 = .ok (.invokevirtual 351, 3) := by decide +kernel
theorem dX12_turn_32 : decode cX12_turn 32 = .ok (.iconst 1, 1) := by decide +kernel
theorem dX12_turn_33 : decode cX12_turn 33 = .ok (.isub, 1) := by decide +kernel
theorem dX12_turn_34 : decode cX12_turn 34 = .ok (.i2l, 1) := by decide +kernel
theorem dX12_turn_35 : decode cX12_turn 35 = .ok (.invokestatic 101, 3) := by decide +kernel
theorem dX12_turn_38 : decode cX12_turn 38 = .ok (.ifCond .ne 9, 3) := by decide +kernel
theorem dX12_turn_41 : decode cX12_turn 41 = .ok (.aload_n 0, 1) := by decide +kernel
theorem dX12_turn_42 : decode cX12_turn 42 = .ok (.iconst 2, 1) := by decide +kernel
theorem dX12_turn_43 : decode cX12_turn 43 = .ok (.invokevirtual 94, 3) := by decide +kernel
theorem dX12_turn_46 : decode cX12_turn 46 = .ok (.ireturn, 1) := by decide +kernel
theorem dX12_turn_47 : decode cX12_turn 47 = .ok (.aload_n 0, 1) := by decide +kernel
theorem dX12_turn_48 : decode cX12_turn 48 = .ok (.invokevirtual 285, 3) := by decide +kernel
theorem dX12_turn_51 : decode cX12_turn 51 = .ok (.aload_n 0, 1) := by decide +kernel
theorem dX12_turn_52 : decode cX12_turn 52 = .ok (.lload_n 2, 1) := by decide +kernel
theorem dX12_turn_53 : decode cX12_turn 53 = .ok (.l2i, 1) := by decide +kernel
theorem dX12_turn_54 : decode cX12_turn 54 = .ok (.invokevirtual 357, 3) := by decide +kernel
theorem dX12_turn_57 : decode cX12_turn 57 = .ok (.aload_n 0, 1) := by decide +kernel
theorem dX12_turn_58 : decode cX12_turn 58 = .ok (.getfield 20, 3) := by decide +kernel
theorem dX12_turn_61 : decode cX12_turn 61 = .ok (.iconst 3, 1) := by decide +kernel
theorem dX12_turn_62 : decode cX12_turn 62 = .ok (.iaload, 1) := by decide +kernel
theorem dX12_turn_63 : decode cX12_turn 63 = .ok (.ireturn, 1) := by decide +kernel
theorem dX12_openingOf_0 : decode cX12_openingOf 0 = .ok (.iload_n 2, 1) := by decide +kernel
theorem dX12_openingOf_1 : decode cX12_openingOf 1 = .ok (.istore_n 3, 1) := by decide +kernel
theorem dX12_openingOf_2 : decode cX12_openingOf 2 = .ok (.iconst 0, 1) := by decide +kernel
theorem dX12_openingOf_3 : decode cX12_openingOf 3 = .ok (.istore 4, 2) := by decide +kernel
theorem dX12_openingOf_5 : decode cX12_openingOf 5 = .ok (.iload 4, 2) := by decide +kernel
theorem dX12_openingOf_7 : decode cX12_openingOf 7 = .ok (.iload_n 1, 1) := by decide +kernel
theorem dX12_openingOf_8 : decode cX12_openingOf 8 = .ok (.if_icmp .ge 26, 3) := by decide +kernel
theorem dX12_openingOf_11 : decode cX12_openingOf 11 = .ok (.iload_n 3, 1) := by decide +kernel
theorem dX12_openingOf_12 : decode cX12_openingOf 12 = .ok (.aload_n 0, 1) := by decide +kernel
theorem dX12_openingOf_13 : decode cX12_openingOf 13 = .ok (.iload 4, 2) := by decide +kernel
theorem dX12_openingOf_15 : decode cX12_openingOf 15 = .ok (.invokevirtual 215, 3) := by decide +kernel
theorem dX12_openingOf_18 : decode cX12_openingOf 18 = .ok (.ifCond .eq 7, 3) := by decide +kernel
theorem dX12_openingOf_21 : decode cX12_openingOf 21 = .ok (.iconst 1, 1) := by decide +kernel
theorem dX12_openingOf_22 : decode cX12_openingOf 22 = .ok (.goto 4, 3) := by decide +kernel
theorem dX12_openingOf_25 : decode cX12_openingOf 25 = .ok (.iconst 0, 1) := by decide +kernel
theorem dX12_openingOf_26 : decode cX12_openingOf 26 = .ok (.iadd, 1) := by decide +kernel
theorem dX12_openingOf_27 : decode cX12_openingOf 27 = .ok (.istore_n 3, 1) := by decide +kernel
theorem dX12_openingOf_28 : decode cX12_openingOf 28 = .ok (.iinc 4 1, 3) := by decide +kernel
theorem dX12_openingOf_31 : decode cX12_openingOf 31 = .ok (.goto (-26), 3) := by decide +kernel
theorem dX12_openingOf_34 : decode cX12_openingOf 34 = .ok (.iload_n 3, 1) := by decide +kernel
theorem dX12_openingOf_35 : decode cX12_openingOf 35 = .ok (.ireturn, 1) := by decide +kernel
theorem dX12_goTo_0 : decode cX12_goTo 0 = .ok (.aload_n 0, 1) := by decide +kernel
theorem dX12_goTo_1 : decode cX12_goTo 1 = .ok (.iconst 0, 1) := by decide +kernel
theorem dX12_goTo_2 : decode cX12_goTo 2 = .ok (.putfield 3, 3) := by decide +kernel
theorem dX12_goTo_5 : decode cX12_goTo 5 = .ok (.aload_n 0, 1) := by decide +kernel
theorem dX12_goTo_6 : decode cX12_goTo 6 = .ok (.iload_n 1, 1) := by decide +kernel
theorem dX12_goTo_7 : decode cX12_goTo 7 = .ok (.invokevirtual 360, 3) := by decide +kernel
theorem dX12_goTo_10 : decode cX12_goTo 10 = .ok (.ifCond .ne 9, 3) := by decide +kernel
theorem dX12_goTo_13 : decode cX12_goTo 13 = .ok (.aload_n 0, 1) := by decide +kernel
theorem dX12_goTo_14 : decode cX12_goTo 14 = .ok (.iconst 1, 1) := by decide +kernel
theorem dX12_goTo_15 : decode cX12_goTo 15 = .ok (.invokevirtual 94, 3) := by decide +kernel
theorem dX12_goTo_18 : decode cX12_goTo 18 = .ok (.ireturn, 1) := by decide +kernel
theorem dX12_goTo_19 : decode cX12_goTo 19 = .ok (.aload_n 0, 1) := by decide +kernel
theorem dX12_goTo_20 : decode cX12_goTo 20 = .ok (.invokevirtual 285, 3) := by decide +kernel
theorem dX12_goTo_23 : decode cX12_goTo 23 = .ok (.aload_n 0, 1) := by decide +kernel
theorem dX12_goTo_24 : decode cX12_goTo 24 = .ok (.aload_n 0, 1) := by decide +kernel
theorem dX12_goTo_25 : decode cX12_goTo 25 = .ok (.aload_n 0, 1) := by decide +kernel
theorem dX12_goTo_26 : decode cX12_goTo 26 = .ok (.getfield 36, 3) := by decide +kernel
theorem dX12_goTo_29 : decode cX12_goTo 29 = .ok (.iconst 4, 1) := by decide +kernel
theorem dX12_goTo_30 : decode cX12_goTo 30 = .ok (.iload_n 1, 1) := by decide +kernel
theorem dX12_goTo_31 : decode cX12_goTo 31 = .ok (.imul, 1) := by decide +kernel
theorem dX12_goTo_32 : decode cX12_goTo 32 = .ok (.iaload, 1) := by decide +kernel
theorem dX12_goTo_33 : decode cX12_goTo 33 = .ok (.aload_n 0, 1) := by decide +kernel
theorem dX12_goTo_34 : decode cX12_goTo 34 = .ok (.getfield 36, 3) := by decide +kernel
theorem dX12_goTo_37 : decode cX12_goTo 37 = .ok (.iconst 4, 1) := by decide +kernel
theorem dX12_goTo_38 : decode cX12_goTo 38 = .ok (.iload_n 1, 1) := by decide +kernel
theorem dX12_goTo_39 : decode cX12_goTo 39 = .ok (.imul, 1) := by decide +kernel
theorem dX12_goTo_40 : decode cX12_goTo 40 = .ok (.iconst 1, 1) := by decide +kernel
theorem dX12_goTo_41 : decode cX12_goTo 41 = .ok (.iadd, 1) := by decide +kernel
theorem dX12_goTo_42 : decode cX12_goTo 42 = .ok (.iaload, 1) := by decide +kernel
theorem dX12_goTo_43 : decode cX12_goTo 43 = .ok (.invokevirtual 363, 3) := by decide +kernel
theorem dX12_goTo_46 : decode cX12_goTo 46 = .ok (.invokevirtual 357, 3) := by decide +kernel
theorem dX12_goTo_49 : decode cX12_goTo 49 = .ok (.aload_n 0, 1) := by decide +kernel
theorem dX12_goTo_50 : decode cX12_goTo 50 = .ok (.getfield 20, 3) := by decide +kernel
theorem dX12_goTo_53 : decode cX12_goTo 53 = .ok (.iconst 3, 1) := by decide +kernel
theorem dX12_goTo_54 : decode cX12_goTo 54 = .ok (.iaload, 1) := by decide +kernel
theorem dX12_goTo_55 : decode cX12_goTo 55 = .ok (.ireturn, 1) := by decide +kernel
theorem dX12_goBack_0 : decode cX12_goBack 0 = .ok (.aload_n 0, 1) := by decide +kernel
theorem dX12_goBack_1 : decode cX12_goBack 1 = .ok (.iconst 0, 1) := by decide +kernel
theorem dX12_goBack_2 : decode cX12_goBack 2 = .ok (.putfield 3, 3) := by decide +kernel
theorem dX12_goBack_5 : decode cX12_goBack 5 = .ok (.aload_n 0, 1) := by decide +kernel
theorem dX12_goBack_6 : decode cX12_goBack 6 = .ok (.getfield 20, 3) := by decide +kernel
theorem dX12_goBack_9 : decode cX12_goBack 9 = .ok (.iconst 4, 1) := by decide +kernel
theorem dX12_goBack_10 : decode cX12_goBack 10 = .ok (.iaload, 1) := by decide +kernel
theorem dX12_goBack_11 : decode cX12_goBack 11 = .ok (.ifCond .ne 9, 3) := by decide +kernel
theorem dX12_goBack_14 : decode cX12_goBack 14 = .ok (.aload_n 0, 1) := by decide +kernel
theorem dX12_goBack_15 : decode cX12_goBack 15 = .ok (.iconst 1, 1) := by decide +kernel
theorem dX12_goBack_16 : decode cX12_goBack 16 = .ok (.invokevirtual 94, 3) := by decide +kernel
theorem dX12_goBack_19 : decode cX12_goBack 19 = .ok (.ireturn, 1) := by decide +kernel
theorem dX12_goBack_20 : decode cX12_goBack 20 = .ok (.aload_n 0, 1) := by decide +kernel
theorem dX12_goBack_21 : decode cX12_goBack 21 = .ok (.invokevirtual 285, 3) := by decide +kernel
theorem dX12_goBack_24 : decode cX12_goBack 24 = .ok (.aload_n 0, 1) := by decide +kernel
theorem dX12_goBack_25 : decode cX12_goBack 25 = .ok (.getfield 20, 3) := by decide +kernel
theorem dX12_goBack_28 : decode cX12_goBack 28 = .ok (.iconst 4, 1) := by decide +kernel
theorem dX12_goBack_29 : decode cX12_goBack 29 = .ok (.dup2, 1) := by decide +kernel
theorem dX12_goBack_30 : decode cX12_goBack 30 = .ok (.iaload, 1) := by decide +kernel
theorem dX12_goBack_31 : decode cX12_goBack 31 = .ok (.iconst 1, 1) := by decide +kernel
theorem dX12_goBack_32 : decode cX12_goBack 32 = .ok (.isub, 1) := by decide +kernel
theorem dX12_goBack_33 : decode cX12_goBack 33 = .ok (.iastore, 1) := by decide +kernel
theorem dX12_goBack_34 : decode cX12_goBack 34 = .ok (.aload_n 0, 1) := by decide +kernel
theorem dX12_goBack_35 : decode cX12_goBack 35 = .ok (.getfield 20, 3) := by decide +kernel
theorem dX12_goBack_38 : decode cX12_goBack 38 = .ok (.iconst 3, 1) := by decide +kernel
theorem dX12_goBack_39 : decode cX12_goBack 39 = .ok (.aload_n 0, 1) := by decide +kernel
theorem dX12_goBack_40 : decode cX12_goBack 40 = .ok (.getfield 20, 3) := by decide +kernel
theorem dX12_goBack_43 : decode cX12_goBack 43 = .ok (.sipush 269, 3) := by decide +kernel
theorem dX12_goBack_46 : decode cX12_goBack 46 = .ok (.aload_n 0, 1) := by decide +kernel
theorem dX12_goBack_47 : decode cX12_goBack 47 = .ok (.getfield 20, 3) := by decide +kernel
theorem dX12_goBack_50 : decode cX12_goBack 50 = .ok (.iconst 4, 1) := by decide +kernel
theorem dX12_goBack_51 : decode cX12_goBack 51 = .ok (.iaload, 1) := by decide +kernel
theorem dX12_goBack_52 : decode cX12_goBack 52 = .ok (.iadd, 1) := by decide +kernel
theorem dX12_goBack_53 : decode cX12_goBack 53 = .ok (.iaload, 1) := by decide +kernel
theorem dX12_goBack_54 : decode cX12_goBack 54 = .ok (.iastore, 1) := by decide +kernel
theorem dX12_goBack_55 : decode cX12_goBack 55 = .ok (.aload_n 0, 1) := by decide +kernel
theorem dX12_goBack_56 : decode cX12_goBack 56 = .ok (.getfield 20, 3) := by decide +kernel
theorem dX12_goBack_59 : decode cX12_goBack 59 = .ok (.iconst 3, 1) := by decide +kernel
theorem dX12_goBack_60 : decode cX12_goBack 60 = .ok (.iaload, 1) := by decide +kernel
theorem dX12_goBack_61 : decode cX12_goBack 61 = .ok (.ireturn, 1) := by decide +kernel
theorem dX12_volume_0 : decode cX12_volume 0 = .ok (.aload_n 0, 1) := by decide +kernel
theorem dX12_volume_1 : decode cX12_volume 1 = .ok (.iconst 0, 1) := by decide +kernel
theorem dX12_volume_2 : decode cX12_volume 2 = .ok (.putfield 3, 3) := by decide +kernel
theorem dX12_volume_5 : decode cX12_volume 5 = .ok (.iload_n 1, 1) := by decide +kernel
theorem dX12_volume_6 : decode cX12_volume 6 = .ok (.tableswitch 72 0 5 #[38, 43, 48, 53, 60, 65], 38) := by decide +kernel
theorem dX12_volume_44 : decode cX12_volume 44 = .ok (.aload_n 0, 1) := by decide +kernel
theorem dX12_volume_45 : decode cX12_volume 45 = .ok (.getfield 73, 3) := by decide +kernel
theorem dX12_volume_48 : decode cX12_volume 48 = .ok (.ireturn, 1) := by decide +kernel
theorem dX12_volume_49 : decode cX12_volume 49 = .ok (.aload_n 0, 1) := by decide +kernel
theorem dX12_volume_50 : decode cX12_volume 50 = .ok (.invokevirtual 212, 3) := by decide +kernel
theorem dX12_volume_53 : decode cX12_volume 53 = .ok (.ireturn, 1) := by decide +kernel
theorem dX12_volume_54 : decode cX12_volume 54 = .ok (.aload_n 0, 1) := by decide +kernel
theorem dX12_volume_55 : decode cX12_volume 55 = .ok (.invokevirtual 306, 3) := by decide +kernel
theorem dX12_volume_58 : decode cX12_volume 58 = .ok (.ireturn, 1) := by decide +kernel
theorem dX12_volume_59 : decode cX12_volume 59 = .ok (.aload_n 0, 1) := by decide +kernel
theorem dX12_volume_60 : decode cX12_volume 60 = .ok (.getfield 20, 3) := by decide +kernel
theorem dX12_volume_63 : decode cX12_volume 63 = .ok (.iconst 0, 1) := by decide +kernel
theorem dX12_volume_64 : decode cX12_volume 64 = .ok (.iaload, 1) := by decide +kernel
theorem dX12_volume_65 : decode cX12_volume 65 = .ok (.ireturn, 1) := by decide +kernel
theorem dX12_volume_66 : decode cX12_volume 66 = .ok (.aload_n 0, 1) := by decide +kernel
theorem dX12_volume_67 : decode cX12_volume 67 = .ok (.invokevirtual 317, 3) := by decide +kernel
theorem dX12_volume_70 : decode cX12_volume 70 = .ok (.ireturn, 1) := by decide +kernel
theorem dX12_volume_71 : decode cX12_volume 71 = .ok (.aload_n 0, 1) := by decide +kernel
theorem dX12_volume_72 : decode cX12_volume 72 = .ok (.getfield 20, 3) := by decide +kernel
theorem dX12_volume_75 : decode cX12_volume 75 = .ok (.iconst 1, 1) := by decide +kernel
theorem dX12_volume_76 : decode cX12_volume 76 = .ok (.iaload, 1) := by decide +kernel
theorem dX12_volume_77 : decode cX12_volume 77 = .ok (.ireturn, 1) := by decide +kernel
theorem dX12_volume_78 : decode cX12_volume 78 = .ok (.aload_n 0, 1) := by decide +kernel
theorem dX12_volume_79 : decode cX12_volume 79 = .ok (.iconst 1, 1) := by decide +kernel
theorem dX12_volume_80 : decode cX12_volume 80 = .ok (.invokevirtual 94, 3) := by decide +kernel
theorem dX12_volume_83 : decode cX12_volume 83 = .ok (.ireturn, 1) := by decide +kernel
theorem dX12_quireOf_0 : decode cX12_quireOf 0 = .ok (.iconst 0, 1) := by decide +kernel
theorem dX12_quireOf_1 : decode cX12_quireOf 1 = .ok (.istore_n 2, 1) := by decide +kernel
theorem dX12_quireOf_2 : decode cX12_quireOf 2 = .ok (.aload_n 0, 1) := by decide +kernel
theorem dX12_quireOf_3 : decode cX12_quireOf 3 = .ok (.getfield 13, 3) := by decide +kernel
theorem dX12_quireOf_6 : decode cX12_quireOf 6 = .ok (.iconst 0, 1) := by decide +kernel
theorem dX12_quireOf_7 : decode cX12_quireOf 7 = .ok (.iaload, 1) := by decide +kernel
theorem dX12_quireOf_8 : decode cX12_quireOf 8 = .ok (.istore_n 3, 1) := by decide +kernel
theorem dX12_quireOf_9 : decode cX12_quireOf 9 = .ok (.iload_n 1, 1) := by decide +kernel
theorem dX12_quireOf_10 : decode cX12_quireOf 10 = .ok (.iload_n 3, 1) := by decide +kernel
theorem dX12_quireOf_11 : decode cX12_quireOf 11 = .ok (.if_icmp .lt 18, 3) := by decide +kernel
theorem dX12_quireOf_14 : decode cX12_quireOf 14 = .ok (.iinc 2 1, 3) := by decide +kernel
theorem dX12_quireOf_17 : decode cX12_quireOf 17 = .ok (.iload_n 3, 1) := by decide +kernel
theorem dX12_quireOf_18 : decode cX12_quireOf 18 = .ok (.aload_n 0, 1) := by decide +kernel
theorem dX12_quireOf_19 : decode cX12_quireOf 19 = .ok (.getfield 13, 3) := by decide +kernel
theorem dX12_quireOf_22 : decode cX12_quireOf 22 = .ok (.iload_n 2, 1) := by decide +kernel
theorem dX12_quireOf_23 : decode cX12_quireOf 23 = .ok (.iaload, 1) := by decide +kernel
theorem dX12_quireOf_24 : decode cX12_quireOf 24 = .ok (.iadd, 1) := by decide +kernel
theorem dX12_quireOf_25 : decode cX12_quireOf 25 = .ok (.istore_n 3, 1) := by decide +kernel
theorem dX12_quireOf_26 : decode cX12_quireOf 26 = .ok (.goto (-17), 3) := by decide +kernel
theorem dX12_quireOf_29 : decode cX12_quireOf 29 = .ok (.iload_n 2, 1) := by decide +kernel
theorem dX12_quireOf_30 : decode cX12_quireOf 30 = .ok (.ireturn, 1) := by decide +kernel
theorem dX12_firstOf_0 : decode cX12_firstOf 0 = .ok (.iconst 0, 1) := by decide +kernel
theorem dX12_firstOf_1 : decode cX12_firstOf 1 = .ok (.istore_n 2, 1) := by decide +kernel
theorem dX12_firstOf_2 : decode cX12_firstOf 2 = .ok (.iconst 0, 1) := by decide +kernel
theorem dX12_firstOf_3 : decode cX12_firstOf 3 = .ok (.istore_n 3, 1) := by decide +kernel
theorem dX12_firstOf_4 : decode cX12_firstOf 4 = .ok (.iload_n 3, 1) := by decide +kernel
theorem dX12_firstOf_5 : decode cX12_firstOf 5 = .ok (.iload_n 1, 1) := by decide +kernel
theorem dX12_firstOf_6 : decode cX12_firstOf 6 = .ok (.if_icmp .ge 18, 3) := by decide +kernel
theorem dX12_firstOf_9 : decode cX12_firstOf 9 = .ok (.iload_n 2, 1) := by decide +kernel
theorem dX12_firstOf_10 : decode cX12_firstOf 10 = .ok (.aload_n 0, 1) := by decide +kernel
theorem dX12_firstOf_11 : decode cX12_firstOf 11 = .ok (.getfield 13, 3) := by decide +kernel
theorem dX12_firstOf_14 : decode cX12_firstOf 14 = .ok (.iload_n 3, 1) := by decide +kernel
theorem dX12_firstOf_15 : decode cX12_firstOf 15 = .ok (.iaload, 1) := by decide +kernel
theorem dX12_firstOf_16 : decode cX12_firstOf 16 = .ok (.iadd, 1) := by decide +kernel
theorem dX12_firstOf_17 : decode cX12_firstOf 17 = .ok (.istore_n 2, 1) := by decide +kernel
theorem dX12_firstOf_18 : decode cX12_firstOf 18 = .ok (.iinc 3 1, 3) := by decide +kernel
theorem dX12_firstOf_21 : decode cX12_firstOf 21 = .ok (.goto (-17), 3) := by decide +kernel
theorem dX12_firstOf_24 : decode cX12_firstOf 24 = .ok (.iload_n 2, 1) := by decide +kernel
theorem dX12_firstOf_25 : decode cX12_firstOf 25 = .ok (.ireturn, 1) := by decide +kernel
theorem dX12_leaf_0 : decode cX12_leaf 0 = .ok (.aload_n 0, 1) := by decide +kernel
theorem dX12_leaf_1 : decode cX12_leaf 1 = .ok (.iconst 0, 1) := by decide +kernel
theorem dX12_leaf_2 : decode cX12_leaf 2 = .ok (.putfield 3, 3) := by decide +kernel
theorem dX12_leaf_5 : decode cX12_leaf 5 = .ok (.aload_n 0, 1) := by decide +kernel
theorem dX12_leaf_6 : decode cX12_leaf 6 = .ok (.iload_n 1, 1) := by decide +kernel
theorem dX12_leaf_7 : decode cX12_leaf 7 = .ok (.invokevirtual 297, 3) := by decide +kernel
theorem dX12_leaf_10 : decode cX12_leaf 10 = .ok (.ifCond .ne 9, 3) := by decide +kernel
theorem dX12_leaf_13 : decode cX12_leaf 13 = .ok (.aload_n 0, 1) := by decide +kernel
theorem dX12_leaf_14 : decode cX12_leaf 14 = .ok (.iconst 1, 1) := by decide +kernel
theorem dX12_leaf_15 : decode cX12_leaf 15 = .ok (.invokevirtual 94, 3) := by decide +kernel
theorem dX12_leaf_18 : decode cX12_leaf 18 = .ok (.ireturn, 1) := by decide +kernel
theorem dX12_leaf_19 : decode cX12_leaf 19 = .ok (.aload_n 0, 1) := by decide +kernel
theorem dX12_leaf_20 : decode cX12_leaf 20 = .ok (.iload_n 1, 1) := by decide +kernel
theorem dX12_leaf_21 : decode cX12_leaf 21 = .ok (.invokevirtual 366, 3) := by decide +kernel
theorem dX12_leaf_24 : decode cX12_leaf 24 = .ok (.istore_n 3, 1) := by decide +kernel
theorem dX12_leaf_25 : decode cX12_leaf 25 = .ok (.iload_n 1, 1) := by decide +kernel
theorem dX12_leaf_26 : decode cX12_leaf 26 = .ok (.aload_n 0, 1) := by decide +kernel
theorem dX12_leaf_27 : decode cX12_leaf 27 = .ok (.iload_n 3, 1) := by decide +kernel
theorem dX12_leaf_28 : decode cX12_leaf 28 = .ok (.invokevirtual 369, 3) := by decide +kernel
theorem dX12_leaf_31 : decode cX12_leaf 31 = .ok (.isub, 1) := by decide +kernel
theorem dX12_leaf_32 : decode cX12_leaf 32 = .ok (.istore 4, 2) := by decide +kernel
theorem dX12_leaf_34 : decode cX12_leaf 34 = .ok (.iload_n 2, 1) := by decide +kernel
theorem dX12_leaf_35 : decode cX12_leaf 35 = .ok (.tableswitch 88 0 5 #[37, 51, 53, 56, 74, 81], 37) := by decide +kernel
theorem dX12_leaf_72 : decode cX12_leaf 72 = .ok (.aload_n 0, 1) := by decide +kernel
theorem dX12_leaf_73 : decode cX12_leaf 73 = .ok (.iload_n 1, 1) := by decide +kernel
theorem dX12_leaf_74 : decode cX12_leaf 74 = .ok (.invokevirtual 215, 3) := by decide +kernel
theorem dX12_leaf_77 : decode cX12_leaf 77 = .ok (.ifCond .eq 7, 3) := by decide +kernel
theorem dX12_leaf_80 : decode cX12_leaf 80 = .ok (.iconst 1, 1) := by decide +kernel
theorem dX12_leaf_81 : decode cX12_leaf 81 = .ok (.goto 4, 3) := by decide +kernel
theorem dX12_leaf_84 : decode cX12_leaf 84 = .ok (.iconst 0, 1) := by decide +kernel
theorem dX12_leaf_85 : decode cX12_leaf 85 = .ok (.ireturn, 1) := by decide +kernel
theorem dX12_leaf_86 : decode cX12_leaf 86 = .ok (.iload_n 3, 1) := by decide +kernel
theorem dX12_leaf_87 : decode cX12_leaf 87 = .ok (.ireturn, 1) := by decide +kernel
theorem dX12_leaf_88 : decode cX12_leaf 88 = .ok (.iload 4, 2) := by decide +kernel
theorem dX12_leaf_90 : decode cX12_leaf 90 = .ok (.ireturn, 1) := by decide +kernel
theorem dX12_leaf_91 : decode cX12_leaf 91 = .ok (.aload_n 0, 1) := by decide +kernel
theorem dX12_leaf_92 : decode cX12_leaf 92 = .ok (.iload_n 3, 1) := by decide +kernel
theorem dX12_leaf_93 : decode cX12_leaf 93 = .ok (.invokevirtual 369, 3) := by decide +kernel
theorem dX12_leaf_96 : decode cX12_leaf 96 = .ok (.aload_n 0, 1) := by decide +kernel
theorem dX12_leaf_97 : decode cX12_leaf 97 = .ok (.getfield 13, 3) := by decide +kernel
theorem dX12_leaf_100 : decode cX12_leaf 100 = .ok (.iload_n 3, 1) := by decide +kernel
theorem dX12_leaf_101 : decode cX12_leaf 101 = .ok (.iaload, 1) := by decide +kernel
theorem dX12_leaf_102 : decode cX12_leaf 102 = .ok (.iadd, 1) := by decide +kernel
theorem dX12_leaf_103 : decode cX12_leaf 103 = .ok (.iconst 1, 1) := by decide +kernel
theorem dX12_leaf_104 : decode cX12_leaf 104 = .ok (.isub, 1) := by decide +kernel
theorem dX12_leaf_105 : decode cX12_leaf 105 = .ok (.iload 4, 2) := by decide +kernel
theorem dX12_leaf_107 : decode cX12_leaf 107 = .ok (.isub, 1) := by decide +kernel
theorem dX12_leaf_108 : decode cX12_leaf 108 = .ok (.ireturn, 1) := by decide +kernel
theorem dX12_leaf_109 : decode cX12_leaf 109 = .ok (.aload_n 0, 1) := by decide +kernel
theorem dX12_leaf_110 : decode cX12_leaf 110 = .ok (.iload_n 1, 1) := by decide +kernel
theorem dX12_leaf_111 : decode cX12_leaf 111 = .ok (.iconst 0, 1) := by decide +kernel
theorem dX12_leaf_112 : decode cX12_leaf 112 = .ok (.invokevirtual 300, 3) := by decide +kernel
theorem dX12_leaf_115 : decode cX12_leaf 115 = .ok (.ireturn, 1) := by decide +kernel
theorem dX12_leaf_116 : decode cX12_leaf 116 = .ok (.aload_n 0, 1) := by decide +kernel
theorem dX12_leaf_117 : decode cX12_leaf 117 = .ok (.iload_n 1, 1) := by decide +kernel
theorem dX12_leaf_118 : decode cX12_leaf 118 = .ok (.iconst 1, 1) := by decide +kernel
theorem dX12_leaf_119 : decode cX12_leaf 119 = .ok (.invokevirtual 300, 3) := by decide +kernel
theorem dX12_leaf_122 : decode cX12_leaf 122 = .ok (.ireturn, 1) := by decide +kernel
theorem dX12_leaf_123 : decode cX12_leaf 123 = .ok (.aload_n 0, 1) := by decide +kernel
theorem dX12_leaf_124 : decode cX12_leaf 124 = .ok (.iconst 2, 1) := by decide +kernel
theorem dX12_leaf_125 : decode cX12_leaf 125 = .ok (.invokevirtual 94, 3) := by decide +kernel
theorem dX12_leaf_128 : decode cX12_leaf 128 = .ok (.ireturn, 1) := by decide +kernel
theorem dX12_slip_0 : decode cX12_slip 0 = .ok (.aload_n 0, 1) := by decide +kernel
theorem dX12_slip_1 : decode cX12_slip 1 = .ok (.iconst 0, 1) := by decide +kernel
theorem dX12_slip_2 : decode cX12_slip 2 = .ok (.putfield 3, 3) := by decide +kernel
theorem dX12_slip_5 : decode cX12_slip 5 = .ok (.aload_n 0, 1) := by decide +kernel
theorem dX12_slip_6 : decode cX12_slip 6 = .ok (.iload_n 1, 1) := by decide +kernel
theorem dX12_slip_7 : decode cX12_slip 7 = .ok (.invokevirtual 314, 3) := by decide +kernel
theorem dX12_slip_10 : decode cX12_slip 10 = .ok (.ifCond .ne 9, 3) := by decide +kernel
theorem dX12_slip_13 : decode cX12_slip 13 = .ok (.aload_n 0, 1) := by decide +kernel
theorem dX12_slip_14 : decode cX12_slip 14 = .ok (.iconst 1, 1) := by decide +kernel
theorem dX12_slip_15 : decode cX12_slip 15 = .ok (.invokevirtual 94, 3) := by decide +kernel
theorem dX12_slip_18 : decode cX12_slip 18 = .ok (.ireturn, 1) := by decide +kernel
theorem dX12_slip_19 : decode cX12_slip 19 = .ok (.iload_n 2, 1) := by decide +kernel
theorem dX12_slip_20 : decode cX12_slip 20 = .ok (.i2l, 1) := by decide +kernel
theorem dX12_slip_21 : decode cX12_slip 21 = .ok (.lconst 0, 1) := by decide +kernel
theorem dX12_slip_22 : decode cX12_slip 22 = .ok (.ldc2_w 312, 3) := by decide +kernel
theorem dX12_slip_25 : decode cX12_slip 25 = .ok (.invokestatic 101, 3) := by decide +kernel
theorem dX12_slip_28 : decode cX12_slip 28 = .ok (.ifCond .eq 12, 3) := by decide +kernel
theorem dX12_slip_31 : decode cX12_slip 31 = .ok (.aload_n 0, 1) := by decide +kernel
theorem dX12_slip_32 : decode cX12_slip 32 = .ok (.iload_n 1, 1) := by decide +kernel
theorem dX12_slip_33 : decode cX12_slip 33 = .ok (.iload_n 2, 1) := by decide +kernel
theorem dX12_slip_34 : decode cX12_slip 34 = .ok (.invokevirtual 218, 3) := by decide +kernel
theorem dX12_slip_37 : decode cX12_slip 37 = .ok (.goto 8, 3) := by decide +kernel
theorem dX12_slip_40 : decode cX12_slip 40 = .ok (.aload_n 0, 1) := by decide +kernel
theorem dX12_slip_41 : decode cX12_slip 41 = .ok (.iconst 2, 1) := by decide +kernel
theorem dX12_slip_42 : decode cX12_slip 42 = .ok (.invokevirtual 94, 3) := by decide +kernel
theorem dX12_slip_45 : decode cX12_slip 45 = .ok (.ireturn, 1) := by decide +kernel
theorem dX12_writesMissing_0 : decode cX12_writesMissing 0 = .ok (.iconst 0, 1) := by decide +kernel
theorem dX12_writesMissing_1 : decode cX12_writesMissing 1 = .ok (.istore_n 2, 1) := by decide +kernel
theorem dX12_writesMissing_2 : decode cX12_writesMissing 2 = .ok (.iconst 0, 1) := by decide +kernel
theorem dX12_writesMissing_3 : decode cX12_writesMissing 3 = .ok (.istore_n 3, 1) := by decide +kernel
theorem dX12_writesMissing_4 : decode cX12_writesMissing 4 = .ok (.iload_n 3, 1) := by decide +kernel
theorem dX12_writesMissing_5 : decode cX12_writesMissing 5 = .ok (.aload_n 0, 1) := by decide +kernel
theorem dX12_writesMissing_6 : decode cX12_writesMissing 6 = .ok (.getfield 13, 3) := by decide +kernel
theorem dX12_writesMissing_9 : decode cX12_writesMissing 9 = .ok (.iload_n 1, 1) := by decide +kernel
theorem dX12_writesMissing_10 : decode cX12_writesMissing 10 = .ok (.iaload, 1) := by decide +kernel
theorem dX12_writesMissing_11 : decode cX12_writesMissing 11 = .ok (.if_icmp .ge 61, 3) := by decide +kernel
theorem dX12_writesMissing_14 : decode cX12_writesMissing 14 = .ok (.aload_n 0, 1) := by decide +kernel
theorem dX12_writesMissing_15 : decode cX12_writesMissing 15 = .ok (.aload_n 0, 1) := by decide +kernel
theorem dX12_writesMissing_16 : decode cX12_writesMissing 16 = .ok (.iload_n 1, 1) := by decide +kernel
theorem dX12_writesMissing_17 : decode cX12_writesMissing 17 = .ok (.invokevirtual 369, 3) := by decide +kernel
theorem dX12_writesMissing_20 : decode cX12_writesMissing 20 = .ok (.iload_n 3, 1) := by decide +kernel
theorem dX12_writesMissing_21 : decode cX12_writesMissing 21 = .ok (.iadd, 1) := by decide +kernel
theorem dX12_writesMissing_22 : decode cX12_writesMissing 22 = .ok (.invokevirtual 215, 3) := by decide +kernel
theorem dX12_writesMissing_25 : decode cX12_writesMissing 25 = .ok (.ifCond .eq 6, 3) := by decide +kernel
theorem dX12_writesMissing_28 : decode cX12_writesMissing 28 = .ok (.goto 38, 3) := by decide +kernel
theorem dX12_writesMissing_31 : decode cX12_writesMissing 31 = .ok (.aload_n 0, 1) := by decide +kernel
theorem dX12_writesMissing_32 : decode cX12_writesMissing 32 = .ok (.iload_n 2, 1) := by decide +kernel
theorem dX12_writesMissing_33 : decode cX12_writesMissing 33 = .ok (.ifCond .ne 8, 3) := by decide +kernel
theorem dX12_writesMissing_36 : decode cX12_writesMissing 36 = .ok (.bipush 40, 2) := by decide +kernel
theorem dX12_writesMissing_38 : decode cX12_writesMissing 38 = .ok (.goto 5, 3) := by decide +kernel
theorem dX12_writesMissing_41 : decode cX12_writesMissing 41 = .ok (.bipush 44, 2) := by decide +kernel
theorem dX12_writesMissing_43 : decode cX12_writesMissing 43 = .ok (.invokevirtual 245, 3) := by decide +kernel
theorem dX12_writesMissing_46 : decode cX12_writesMissing 46 = .ok (.iload_n 2, 1) := by decide +kernel
theorem dX12_writesMissing_47 : decode cX12_writesMissing 47 = .ok (.ifCond .ne 9, 3) := by decide +kernel
theorem dX12_writesMissing_50 : decode cX12_writesMissing 50 = .ok (.aload_n 0, 1) := by decide +kernel
theorem dX12_writesMissing_51 : decode cX12_writesMissing 51 = .ok (.bipush 45, 2) := by decide +kernel
theorem dX12_writesMissing_53 : decode cX12_writesMissing 53 = .ok (.invokevirtual 245, 3) := by decide +kernel
theorem dX12_writesMissing_56 : decode cX12_writesMissing 56 = .ok (.aload_n 0, 1) := by decide +kernel
theorem dX12_writesMissing_57 : decode cX12_writesMissing 57 = .ok (.iload_n 3, 1) := by decide +kernel
theorem dX12_writesMissing_58 : decode cX12_writesMissing 58 = .ok (.iconst 1, 1) := by decide +kernel
theorem dX12_writesMissing_59 : decode cX12_writesMissing 59 = .ok (.iadd, 1) := by decide +kernel
theorem dX12_writesMissing_60 : decode cX12_writesMissing 60 = .ok (.invokevirtual 253, 3) := by decide +kernel
theorem dX12_writesMissing_63 : decode cX12_writesMissing 63 = .ok (.iinc 2 1, 3) := by decide +kernel
theorem dX12_writesMissing_66 : decode cX12_writesMissing 66 = .ok (.iinc 3 1, 3) := by decide +kernel
theorem dX12_writesMissing_69 : decode cX12_writesMissing 69 = .ok (.goto (-65), 3) := by decide +kernel
theorem dX12_writesMissing_72 : decode cX12_writesMissing 72 = .ok (.iload_n 2, 1) := by decide +kernel
theorem dX12_writesMissing_73 : decode cX12_writesMissing 73 = .ok (.ifCond .le 9, 3) := by decide +kernel
theorem dX12_writesMissing_76 : decode cX12_writesMissing 76 = .ok (.aload_n 0, 1) := by decide +kernel
theorem dX12_writesMissing_77 : decode cX12_writesMissing 77 = .ok (.bipush 41, 2) := by decide +kernel
theorem dX12_writesMissing_79 : decode cX12_writesMissing 79 = .ok (.invokevirtual 245, 3) := by decide +kernel
theorem dX12_writesMissing_82 : decode cX12_writesMissing 82 = .ok (.return_, 1) := by decide +kernel
theorem dX12_formatCollation_0 : decode cX12_formatCollation 0 = .ok (.aload_n 0, 1) := by decide +kernel
theorem dX12_formatCollation_1 : decode cX12_formatCollation 1 = .ok (.iconst 0, 1) := by decide +kernel
theorem dX12_formatCollation_2 : decode cX12_formatCollation 2 = .ok (.putfield 3, 3) := by decide +kernel
theorem dX12_formatCollation_5 : decode cX12_formatCollation 5 = .ok (.aload_n 0, 1) := by decide +kernel
theorem dX12_formatCollation_6 : decode cX12_formatCollation 6 = .ok (.iconst 0, 1) := by decide +kernel
theorem dX12_formatCollation_7 : decode cX12_formatCollation 7 = .ok (.putfield 242, 3) := by decide +kernel
theorem dX12_formatCollation_10 : decode cX12_formatCollation 10 = .ok (.iconst 0, 1) := by decide +kernel
theorem dX12_formatCollation_11 : decode cX12_formatCollation 11 = .ok (.istore_n 1, 1) := by decide +kernel
theorem dX12_formatCollation_12 : decode cX12_formatCollation 12 = .ok (.iload_n 1, 1) := by decide +kernel
theorem dX12_formatCollation_13 : decode cX12_formatCollation 13 = .ok (.aload_n 0, 1) := by decide +kernel
theorem dX12_formatCollation_14 : decode cX12_formatCollation 14 = .ok (.getfield 73, 3) := by decide +kernel
theorem dX12_formatCollation_17 : decode cX12_formatCollation 17 = .ok (.if_icmp .ge 42, 3) := by decide +kernel
theorem dX12_formatCollation_20 : decode cX12_formatCollation 20 = .ok (.iload_n 1, 1) := by decide +kernel
theorem dX12_formatCollation_21 : decode cX12_formatCollation 21 = .ok (.ifCond .le 9, 3) := by decide +kernel
theorem dX12_formatCollation_24 : decode cX12_formatCollation 24 = .ok (.aload_n 0, 1) := by decide +kernel
theorem dX12_formatCollation_25 : decode cX12_formatCollation 25 = .ok (.bipush 32, 2) := by decide +kernel
theorem dX12_formatCollation_27 : decode cX12_formatCollation 27 = .ok (.invokevirtual 245, 3) := by decide +kernel
theorem dX12_formatCollation_30 : decode cX12_formatCollation 30 = .ok (.aload_n 0, 1) := by decide +kernel
theorem dX12_formatCollation_31 : decode cX12_formatCollation 31 = .ok (.bipush 65, 2) := by decide +kernel
theorem dX12_formatCollation_33 : decode cX12_formatCollation 33 = .ok (.iload_n 1, 1) := by decide +kernel
theorem dX12_formatCollation_34 : decode cX12_formatCollation 34 = .ok (.iadd, 1) := by decide +kernel
theorem dX12_formatCollation_35 : decode cX12_formatCollation 35 = .ok (.invokevirtual 245, 3) := by decide +kernel
theorem dX12_formatCollation_38 : decode cX12_formatCollation 38 = .ok (.aload_n 0, 1) := by decide +kernel
theorem dX12_formatCollation_39 : decode cX12_formatCollation 39 = .ok (.aload_n 0, 1) := by decide +kernel
theorem dX12_formatCollation_40 : decode cX12_formatCollation 40 = .ok (.getfield 13, 3) := by decide +kernel
theorem dX12_formatCollation_43 : decode cX12_formatCollation 43 = .ok (.iload_n 1, 1) := by decide +kernel
theorem dX12_formatCollation_44 : decode cX12_formatCollation 44 = .ok (.iaload, 1) := by decide +kernel
theorem dX12_formatCollation_45 : decode cX12_formatCollation 45 = .ok (.invokevirtual 253, 3) := by decide +kernel
theorem dX12_formatCollation_48 : decode cX12_formatCollation 48 = .ok (.aload_n 0, 1) := by decide +kernel
theorem dX12_formatCollation_49 : decode cX12_formatCollation 49 = .ok (.iload_n 1, 1) := by decide +kernel
theorem dX12_formatCollation_50 : decode cX12_formatCollation 50 = .ok (.invokevirtual 372, 3) := by decide +kernel
theorem dX12_formatCollation_53 : decode cX12_formatCollation 53 = .ok (.iinc 1 1, 3) := by decide +kernel
theorem dX12_formatCollation_56 : decode cX12_formatCollation 56 = .ok (.goto (-44), 3) := by decide +kernel
theorem dX12_formatCollation_59 : decode cX12_formatCollation 59 = .ok (.aload_n 0, 1) := by decide +kernel
theorem dX12_formatCollation_60 : decode cX12_formatCollation 60 = .ok (.invokevirtual 375, 3) := by decide +kernel
theorem dX12_formatCollation_63 : decode cX12_formatCollation 63 = .ok (.ireturn, 1) := by decide +kernel
theorem dX12_formattedByte_0 : decode cX12_formattedByte 0 = .ok (.aload_n 0, 1) := by decide +kernel
theorem dX12_formattedByte_1 : decode cX12_formattedByte 1 = .ok (.iconst 0, 1) := by decide +kernel
theorem dX12_formattedByte_2 : decode cX12_formattedByte 2 = .ok (.putfield 3, 3) := by decide +kernel
theorem dX12_formattedByte_5 : decode cX12_formattedByte 5 = .ok (.iload_n 1, 1) := by decide +kernel
theorem dX12_formattedByte_6 : decode cX12_formattedByte 6 = .ok (.i2l, 1) := by decide +kernel
theorem dX12_formattedByte_7 : decode cX12_formattedByte 7 = .ok (.lconst 0, 1) := by decide +kernel
theorem dX12_formattedByte_8 : decode cX12_formattedByte 8 = .ok (.aload_n 0, 1) := by decide +kernel
theorem dX12_formattedByte_9 : decode cX12_formattedByte 9 = .ok (.getfield 263, 3) := by decide +kernel
theorem dX12_formattedByte_12 : decode cX12_formattedByte 12 = .ok (.iconst 1, 1) := by decide +kernel
theorem dX12_formattedByte_13 : decode cX12_formattedByte 13 = .ok (.isub, 1) := by decide +kernel
theorem dX12_formattedByte_14 : decode cX12_formattedByte 14 = .ok (.i2l, 1) := by decide +kernel
theorem dX12_formattedByte_15 : decode cX12_formattedByte 15 = .ok (.invokestatic 101, 3) := by decide +kernel
theorem dX12_formattedByte_18 : decode cX12_formattedByte 18 = .ok (.ifCond .eq 12, 3) := by decide +kernel
theorem dX12_formattedByte_21 : decode cX12_formattedByte 21 = .ok (.aload_n 0, 1) := by decide +kernel
theorem dX12_formattedByte_22 : decode cX12_formattedByte 22 = .ok (.getfield 39, 3) := by decide +kernel
theorem dX12_formattedByte_25 : decode cX12_formattedByte 25 = .ok (.iload_n 1, 1) := by decide +kernel
theorem dX12_formattedByte_26 : decode cX12_formattedByte 26 = .ok (.baload, 1) := by decide +kernel
theorem dX12_formattedByte_27 : decode cX12_formattedByte 27 = .ok (.goto 8, 3) := by decide +kernel
theorem dX12_formattedByte_30 : decode cX12_formattedByte 30 = .ok (.aload_n 0, 1) := by decide +kernel
theorem dX12_formattedByte_31 : decode cX12_formattedByte 31 = .ok (.iconst 1, 1) := by decide +kernel
theorem dX12_formattedByte_32 : decode cX12_formattedByte 32 = .ok (.invokevirtual 94, 3) := by decide +kernel
theorem dX12_formattedByte_35 : decode cX12_formattedByte 35 = .ok (.ireturn, 1) := by decide +kernel
theorem dX12_placeCount_0 : decode cX12_placeCount 0 = .ok (.aload_n 0, 1) := by decide +kernel
theorem dX12_placeCount_1 : decode cX12_placeCount 1 = .ok (.iconst 0, 1) := by decide +kernel
theorem dX12_placeCount_2 : decode cX12_placeCount 2 = .ok (.putfield 3, 3) := by decide +kernel
theorem dX12_placeCount_5 : decode cX12_placeCount 5 = .ok (.aload_n 0, 1) := by decide +kernel
theorem dX12_placeCount_6 : decode cX12_placeCount 6 = .ok (.invokevirtual 239, 3) := by decide +kernel
theorem dX12_placeCount_9 : decode cX12_placeCount 9 = .ok (.aload_n 0, 1) := by decide +kernel
theorem dX12_placeCount_10 : decode cX12_placeCount 10 = .ok (.getfield 232, 3) := by decide +kernel
theorem dX12_placeCount_13 : decode cX12_placeCount 13 = .ok (.ireturn, 1) := by decide +kernel
theorem dX12_sideAt_0 : decode cX12_sideAt 0 = .ok (.aload_n 0, 1) := by decide +kernel
theorem dX12_sideAt_1 : decode cX12_sideAt 1 = .ok (.iconst 0, 1) := by decide +kernel
theorem dX12_sideAt_2 : decode cX12_sideAt 2 = .ok (.putfield 3, 3) := by decide +kernel
theorem dX12_sideAt_5 : decode cX12_sideAt 5 = .ok (.aload_n 0, 1) := by decide +kernel
theorem dX12_sideAt_6 : decode cX12_sideAt 6 = .ok (.iload_n 1, 1) := by decide +kernel
theorem dX12_sideAt_7 : decode cX12_sideAt 7 = .ok (.invokevirtual 360, 3) := by decide +kernel
theorem dX12_sideAt_10 : decode cX12_sideAt 10 = .ok (.ifCond .ne 9, 3) := by decide +kernel
theorem dX12_sideAt_13 : decode cX12_sideAt 13 = .ok (.aload_n 0, 1) := by decide +kernel
theorem dX12_sideAt_14 : decode cX12_sideAt 14 = .ok (.iconst 1, 1) := by decide +kernel
theorem dX12_sideAt_15 : decode cX12_sideAt 15 = .ok (.invokevirtual 94, 3) := by decide +kernel
theorem dX12_sideAt_18 : decode cX12_sideAt 18 = .ok (.ireturn, 1) := by decide +kernel
theorem dX12_sideAt_19 : decode cX12_sideAt 19 = .ok (.iload_n 2, 1) := by decide +kernel
theorem dX12_sideAt_20 : decode cX12_sideAt 20 = .ok (.i2l, 1) := by decide +kernel
theorem dX12_sideAt_21 : decode cX12_sideAt 21 = .ok (.lconst 0, 1) := by decide +kernel
theorem dX12_sideAt_22 : decode cX12_sideAt 22 = .ok (.ldc2_w 320, 3) := by decide +kernel
theorem dX12_sideAt_25 : decode cX12_sideAt 25 = .ok (.invokestatic 101, 3) := by decide +kernel
theorem dX12_sideAt_28 : decode cX12_sideAt 28 = .ok (.ifCond .eq 16, 3) := by decide +kernel
theorem dX12_sideAt_31 : decode cX12_sideAt 31 = .ok (.aload_n 0, 1) := by decide +kernel
theorem dX12_sideAt_32 : decode cX12_sideAt 32 = .ok (.getfield 36, 3) := by decide +kernel
theorem dX12_sideAt_35 : decode cX12_sideAt 35 = .ok (.iconst 4, 1) := by decide +kernel
theorem dX12_sideAt_36 : decode cX12_sideAt 36 = .ok (.iload_n 1, 1) := by decide +kernel
theorem dX12_sideAt_37 : decode cX12_sideAt 37 = .ok (.imul, 1) := by decide +kernel
theorem dX12_sideAt_38 : decode cX12_sideAt 38 = .ok (.iload_n 2, 1) := by decide +kernel
theorem dX12_sideAt_39 : decode cX12_sideAt 39 = .ok (.iadd, 1) := by decide +kernel
theorem dX12_sideAt_40 : decode cX12_sideAt 40 = .ok (.iaload, 1) := by decide +kernel
theorem dX12_sideAt_41 : decode cX12_sideAt 41 = .ok (.goto 8, 3) := by decide +kernel
theorem dX12_sideAt_44 : decode cX12_sideAt 44 = .ok (.aload_n 0, 1) := by decide +kernel
theorem dX12_sideAt_45 : decode cX12_sideAt 45 = .ok (.iconst 2, 1) := by decide +kernel
theorem dX12_sideAt_46 : decode cX12_sideAt 46 = .ok (.invokevirtual 94, 3) := by decide +kernel
theorem dX12_sideAt_49 : decode cX12_sideAt 49 = .ok (.ireturn, 1) := by decide +kernel
theorem dX12_placeOf_0 : decode cX12_placeOf 0 = .ok (.aload_n 0, 1) := by decide +kernel
theorem dX12_placeOf_1 : decode cX12_placeOf 1 = .ok (.iconst 0, 1) := by decide +kernel
theorem dX12_placeOf_2 : decode cX12_placeOf 2 = .ok (.putfield 3, 3) := by decide +kernel
theorem dX12_placeOf_5 : decode cX12_placeOf 5 = .ok (.aload_n 0, 1) := by decide +kernel
theorem dX12_placeOf_6 : decode cX12_placeOf 6 = .ok (.iload_n 1, 1) := by decide +kernel
theorem dX12_placeOf_7 : decode cX12_placeOf 7 = .ok (.invokevirtual 297, 3) := by decide +kernel
theorem dX12_placeOf_10 : decode cX12_placeOf 10 = .ok (.ifCond .ne 9, 3) := by decide +kernel
theorem dX12_placeOf_13 : decode cX12_placeOf 13 = .ok (.aload_n 0, 1) := by decide +kernel
theorem dX12_placeOf_14 : decode cX12_placeOf 14 = .ok (.iconst 1, 1) := by decide +kernel
theorem dX12_placeOf_15 : decode cX12_placeOf 15 = .ok (.invokevirtual 94, 3) := by decide +kernel
theorem dX12_placeOf_18 : decode cX12_placeOf 18 = .ok (.ireturn, 1) := by decide +kernel
theorem dX12_placeOf_19 : decode cX12_placeOf 19 = .ok (.aload_n 0, 1) := by decide +kernel
theorem dX12_placeOf_20 : decode cX12_placeOf 20 = .ok (.invokevirtual 239, 3) := by decide +kernel
theorem dX12_placeOf_23 : decode cX12_placeOf 23 = .ok (.iload_n 2, 1) := by decide +kernel
theorem dX12_placeOf_24 : decode cX12_placeOf 24 = .ok (.invokestatic 309, 3) := by decide +kernel
theorem dX12_placeOf_27 : decode cX12_placeOf 27 = .ok (.ifCond .eq 12, 3) := by decide +kernel
theorem dX12_placeOf_30 : decode cX12_placeOf 30 = .ok (.aload_n 0, 1) := by decide +kernel
theorem dX12_placeOf_31 : decode cX12_placeOf 31 = .ok (.iload_n 1, 1) := by decide +kernel
theorem dX12_placeOf_32 : decode cX12_placeOf 32 = .ok (.iload_n 2, 1) := by decide +kernel
theorem dX12_placeOf_33 : decode cX12_placeOf 33 = .ok (.invokevirtual 269, 3) := by decide +kernel
theorem dX12_placeOf_36 : decode cX12_placeOf 36 = .ok (.goto 8, 3) := by decide +kernel
theorem dX12_placeOf_39 : decode cX12_placeOf 39 = .ok (.aload_n 0, 1) := by decide +kernel
theorem dX12_placeOf_40 : decode cX12_placeOf 40 = .ok (.iconst 2, 1) := by decide +kernel
theorem dX12_placeOf_41 : decode cX12_placeOf 41 = .ok (.invokevirtual 94, 3) := by decide +kernel
theorem dX12_placeOf_44 : decode cX12_placeOf 44 = .ok (.ireturn, 1) := by decide +kernel
theorem dX12_formatLabel_0 : decode cX12_formatLabel 0 = .ok (.aload_n 0, 1) := by decide +kernel
theorem dX12_formatLabel_1 : decode cX12_formatLabel 1 = .ok (.iconst 0, 1) := by decide +kernel
theorem dX12_formatLabel_2 : decode cX12_formatLabel 2 = .ok (.putfield 3, 3) := by decide +kernel
theorem dX12_formatLabel_5 : decode cX12_formatLabel 5 = .ok (.aload_n 0, 1) := by decide +kernel
theorem dX12_formatLabel_6 : decode cX12_formatLabel 6 = .ok (.iload_n 1, 1) := by decide +kernel
theorem dX12_formatLabel_7 : decode cX12_formatLabel 7 = .ok (.invokevirtual 360, 3) := by decide +kernel
theorem dX12_formatLabel_10 : decode cX12_formatLabel 10 = .ok (.ifCond .ne 9, 3) := by decide +kernel
theorem dX12_formatLabel_13 : decode cX12_formatLabel 13 = .ok (.aload_n 0, 1) := by decide +kernel
theorem dX12_formatLabel_14 : decode cX12_formatLabel 14 = .ok (.iconst 1, 1) := by decide +kernel
theorem dX12_formatLabel_15 : decode cX12_formatLabel 15 = .ok (.invokevirtual 94, 3) := by decide +kernel
theorem dX12_formatLabel_18 : decode cX12_formatLabel 18 = .ok (.ireturn, 1) := by decide +kernel
theorem dX12_formatLabel_19 : decode cX12_formatLabel 19 = .ok (.aload_n 0, 1) := by decide +kernel
theorem dX12_formatLabel_20 : decode cX12_formatLabel 20 = .ok (.iload_n 1, 1) := by decide +kernel
theorem dX12_formatLabel_21 : decode cX12_formatLabel 21 = .ok (.invokevirtual 378, 3) := by decide +kernel
theorem dX12_formatLabel_24 : decode cX12_formatLabel 24 = .ok (.aload_n 0, 1) := by decide +kernel
theorem dX12_formatLabel_25 : decode cX12_formatLabel 25 = .ok (.invokevirtual 375, 3) := by decide +kernel
theorem dX12_formatLabel_28 : decode cX12_formatLabel 28 = .ok (.ireturn, 1) := by decide +kernel
theorem dX12_formatLeafLabel_0 : decode cX12_formatLeafLabel 0 = .ok (.aload_n 0, 1) := by decide +kernel
theorem dX12_formatLeafLabel_1 : decode cX12_formatLeafLabel 1 = .ok (.iconst 0, 1) := by decide +kernel
theorem dX12_formatLeafLabel_2 : decode cX12_formatLeafLabel 2 = .ok (.putfield 3, 3) := by decide +kernel
theorem dX12_formatLeafLabel_5 : decode cX12_formatLeafLabel 5 = .ok (.aload_n 0, 1) := by decide +kernel
theorem dX12_formatLeafLabel_6 : decode cX12_formatLeafLabel 6 = .ok (.iload_n 1, 1) := by decide +kernel
theorem dX12_formatLeafLabel_7 : decode cX12_formatLeafLabel 7 = .ok (.invokevirtual 297, 3) := by decide +kernel
theorem dX12_formatLeafLabel_10 : decode cX12_formatLeafLabel 10 = .ok (.ifCond .ne 9, 3) := by decide +kernel
theorem dX12_formatLeafLabel_13 : decode cX12_formatLeafLabel 13 = .ok (.aload_n 0, 1) := by decide +kernel
theorem dX12_formatLeafLabel_14 : decode cX12_formatLeafLabel 14 = .ok (.iconst 1, 1) := by decide +kernel
theorem dX12_formatLeafLabel_15 : decode cX12_formatLeafLabel 15 = .ok (.invokevirtual 94, 3) := by decide +kernel
theorem dX12_formatLeafLabel_18 : decode cX12_formatLeafLabel 18 = .ok (.ireturn, 1) := by decide +kernel
theorem dX12_formatLeafLabel_19 : decode cX12_formatLeafLabel 19 = .ok (.iload_n 2, 1) := by decide +kernel
theorem dX12_formatLeafLabel_20 : decode cX12_formatLeafLabel 20 = .ok (.invokestatic 309, 3) := by decide +kernel
theorem dX12_formatLeafLabel_23 : decode cX12_formatLeafLabel 23 = .ok (.ifCond .ne 9, 3) := by decide +kernel
theorem dX12_formatLeafLabel_26 : decode cX12_formatLeafLabel 26 = .ok (.aload_n 0, 1) := by decide +kernel
theorem dX12_formatLeafLabel_27 : decode cX12_formatLeafLabel 27 = .ok (.iconst 2, 1) := by decide +kernel
theorem dX12_formatLeafLabel_28 : decode cX12_formatLeafLabel 28 = .ok (.invokevirtual 94, 3) := by decide +kernel
theorem dX12_formatLeafLabel_31 : decode cX12_formatLeafLabel 31 = .ok (.ireturn, 1) := by decide +kernel
theorem dX12_formatLeafLabel_32 : decode cX12_formatLeafLabel 32 = .ok (.aload_n 0, 1) := by decide +kernel
theorem dX12_formatLeafLabel_33 : decode cX12_formatLeafLabel 33 = .ok (.iconst 0, 1) := by decide +kernel
theorem dX12_formatLeafLabel_34 : decode cX12_formatLeafLabel 34 = .ok (.putfield 242, 3) := by decide +kernel
theorem dX12_formatLeafLabel_37 : decode cX12_formatLeafLabel 37 = .ok (.aload_n 0, 1) := by decide +kernel
theorem dX12_formatLeafLabel_38 : decode cX12_formatLeafLabel 38 = .ok (.iload_n 1, 1) := by decide +kernel
theorem dX12_formatLeafLabel_39 : decode cX12_formatLeafLabel 39 = .ok (.iload_n 2, 1) := by decide +kernel
theorem dX12_formatLeafLabel_40 : decode cX12_formatLeafLabel 40 = .ok (.invokevirtual 259, 3) := by decide +kernel
theorem dX12_formatLeafLabel_43 : decode cX12_formatLeafLabel 43 = .ok (.aload_n 0, 1) := by decide +kernel
theorem dX12_formatLeafLabel_44 : decode cX12_formatLeafLabel 44 = .ok (.invokevirtual 375, 3) := by decide +kernel
theorem dX12_formatLeafLabel_47 : decode cX12_formatLeafLabel 47 = .ok (.ireturn, 1) := by decide +kernel
theorem dX12_isBuffer_0 : decode cX12_isBuffer 0 = .ok (.aload_n 0, 1) := by decide +kernel
theorem dX12_isBuffer_1 : decode cX12_isBuffer 1 = .ok (.iload_n 1, 1) := by decide +kernel
theorem dX12_isBuffer_2 : decode cX12_isBuffer 2 = .ok (.invokevirtual 378, 3) := by decide +kernel
theorem dX12_isBuffer_5 : decode cX12_isBuffer 5 = .ok (.aload_n 0, 1) := by decide +kernel
theorem dX12_isBuffer_6 : decode cX12_isBuffer 6 = .ok (.getfield 242, 3) := by decide +kernel
theorem dX12_isBuffer_9 : decode cX12_isBuffer 9 = .ok (.aload_n 0, 1) := by decide +kernel
theorem dX12_isBuffer_10 : decode cX12_isBuffer 10 = .ok (.getfield 87, 3) := by decide +kernel
theorem dX12_isBuffer_13 : decode cX12_isBuffer 13 = .ok (.if_icmp .ne 7, 3) := by decide +kernel
theorem dX12_isBuffer_16 : decode cX12_isBuffer 16 = .ok (.iconst 1, 1) := by decide +kernel
theorem dX12_isBuffer_17 : decode cX12_isBuffer 17 = .ok (.goto 4, 3) := by decide +kernel
theorem dX12_isBuffer_20 : decode cX12_isBuffer 20 = .ok (.iconst 0, 1) := by decide +kernel
theorem dX12_isBuffer_21 : decode cX12_isBuffer 21 = .ok (.istore_n 2, 1) := by decide +kernel
theorem dX12_isBuffer_22 : decode cX12_isBuffer 22 = .ok (.iconst 0, 1) := by decide +kernel
theorem dX12_isBuffer_23 : decode cX12_isBuffer 23 = .ok (.istore_n 3, 1) := by decide +kernel
theorem dX12_isBuffer_24 : decode cX12_isBuffer 24 = .ok (.iload_n 3, 1) := by decide +kernel
theorem dX12_isBuffer_25 : decode cX12_isBuffer 25 = .ok (.aload_n 0, 1) := by decide +kernel
theorem dX12_isBuffer_26 : decode cX12_isBuffer 26 = .ok (.getfield 242, 3) := by decide +kernel
theorem dX12_isBuffer_29 : decode cX12_isBuffer 29 = .ok (.if_icmp .ge 34, 3) := by decide +kernel
theorem dX12_isBuffer_32 : decode cX12_isBuffer 32 = .ok (.iload_n 2, 1) := by decide +kernel
theorem dX12_isBuffer_33 : decode cX12_isBuffer 33 = .ok (.ifCond .eq 30, 3) := by decide +kernel
theorem dX12_isBuffer_36 : decode cX12_isBuffer 36 = .ok (.aload_n 0, 1) := by decide +kernel
theorem dX12_isBuffer_37 : decode cX12_isBuffer 37 = .ok (.getfield 42, 3) := by decide +kernel
theorem dX12_isBuffer_40 : decode cX12_isBuffer 40 = .ok (.iload_n 3, 1) := by decide +kernel
theorem dX12_isBuffer_41 : decode cX12_isBuffer 41 = .ok (.baload, 1) := by decide +kernel
theorem dX12_isBuffer_42 : decode cX12_isBuffer 42 = .ok (.aload_n 0, 1) := by decide +kernel
theorem dX12_isBuffer_43 : decode cX12_isBuffer 43 = .ok (.getfield 32, 3) := by decide +kernel
theorem dX12_isBuffer_46 : decode cX12_isBuffer 46 = .ok (.iload_n 3, 1) := by decide +kernel
theorem dX12_isBuffer_47 : decode cX12_isBuffer 47 = .ok (.baload, 1) := by decide +kernel
theorem dX12_isBuffer_48 : decode cX12_isBuffer 48 = .ok (.if_icmp .ne 7, 3) := by decide +kernel
theorem dX12_isBuffer_51 : decode cX12_isBuffer 51 = .ok (.iconst 1, 1) := by decide +kernel
theorem dX12_isBuffer_52 : decode cX12_isBuffer 52 = .ok (.goto 4, 3) := by decide +kernel
theorem dX12_isBuffer_55 : decode cX12_isBuffer 55 = .ok (.iconst 0, 1) := by decide +kernel
theorem dX12_isBuffer_56 : decode cX12_isBuffer 56 = .ok (.istore_n 2, 1) := by decide +kernel
theorem dX12_isBuffer_57 : decode cX12_isBuffer 57 = .ok (.iinc 3 1, 3) := by decide +kernel
theorem dX12_isBuffer_60 : decode cX12_isBuffer 60 = .ok (.goto (-36), 3) := by decide +kernel
theorem dX12_isBuffer_63 : decode cX12_isBuffer 63 = .ok (.iload_n 2, 1) := by decide +kernel
theorem dX12_isBuffer_64 : decode cX12_isBuffer 64 = .ok (.ireturn, 1) := by decide +kernel
theorem dX12_findLabel_0 : decode cX12_findLabel 0 = .ok (.aload_n 0, 1) := by decide +kernel
theorem dX12_findLabel_1 : decode cX12_findLabel 1 = .ok (.iconst 0, 1) := by decide +kernel
theorem dX12_findLabel_2 : decode cX12_findLabel 2 = .ok (.putfield 3, 3) := by decide +kernel
theorem dX12_findLabel_5 : decode cX12_findLabel 5 = .ok (.aload_n 0, 1) := by decide +kernel
theorem dX12_findLabel_6 : decode cX12_findLabel 6 = .ok (.invokevirtual 239, 3) := by decide +kernel
theorem dX12_findLabel_9 : decode cX12_findLabel 9 = .ok (.iload_n 1, 1) := by decide +kernel
theorem dX12_findLabel_10 : decode cX12_findLabel 10 = .ok (.i2l, 1) := by decide +kernel
theorem dX12_findLabel_11 : decode cX12_findLabel 11 = .ok (.lconst 0, 1) := by decide +kernel
theorem dX12_findLabel_12 : decode cX12_findLabel 12 = .ok (.aload_n 0, 1) := by decide +kernel
theorem dX12_findLabel_13 : decode cX12_findLabel 13 = .ok (.getfield 232, 3) := by decide +kernel
theorem dX12_findLabel_16 : decode cX12_findLabel 16 = .ok (.i2l, 1) := by decide +kernel
theorem dX12_findLabel_17 : decode cX12_findLabel 17 = .ok (.invokestatic 101, 3) := by decide +kernel
theorem dX12_findLabel_20 : decode cX12_findLabel 20 = .ok (.ifCond .ne 9, 3) := by decide +kernel
theorem dX12_findLabel_23 : decode cX12_findLabel 23 = .ok (.aload_n 0, 1) := by decide +kernel
theorem dX12_findLabel_24 : decode cX12_findLabel 24 = .ok (.iconst 1, 1) := by decide +kernel
theorem dX12_findLabel_25 : decode cX12_findLabel 25 = .ok (.invokevirtual 94, 3) := by decide +kernel
theorem dX12_findLabel_28 : decode cX12_findLabel 28 = .ok (.ireturn, 1) := by decide +kernel
theorem dX12_findLabel_29 : decode cX12_findLabel 29 = .ok (.iload_n 1, 1) := by decide +kernel
theorem dX12_findLabel_30 : decode cX12_findLabel 30 = .ok (.istore_n 2, 1) := by decide +kernel
theorem dX12_findLabel_31 : decode cX12_findLabel 31 = .ok (.iload_n 2, 1) := by decide +kernel
theorem dX12_findLabel_32 : decode cX12_findLabel 32 = .ok (.aload_n 0, 1) := by decide +kernel
theorem dX12_findLabel_33 : decode cX12_findLabel 33 = .ok (.getfield 232, 3) := by decide +kernel
theorem dX12_findLabel_36 : decode cX12_findLabel 36 = .ok (.if_icmp .ge 19, 3) := by decide +kernel
theorem dX12_findLabel_39 : decode cX12_findLabel 39 = .ok (.aload_n 0, 1) := by decide +kernel
theorem dX12_findLabel_40 : decode cX12_findLabel 40 = .ok (.iload_n 2, 1) := by decide +kernel
theorem dX12_findLabel_41 : decode cX12_findLabel 41 = .ok (.invokevirtual 381, 3) := by decide +kernel
theorem dX12_findLabel_44 : decode cX12_findLabel 44 = .ok (.ifCond .eq 5, 3) := by decide +kernel
theorem dX12_findLabel_47 : decode cX12_findLabel 47 = .ok (.iload_n 2, 1) := by decide +kernel
theorem dX12_findLabel_48 : decode cX12_findLabel 48 = .ok (.ireturn, 1) := by decide +kernel
theorem dX12_findLabel_49 : decode cX12_findLabel 49 = .ok (.iinc 2 1, 3) := by decide +kernel
theorem dX12_findLabel_52 : decode cX12_findLabel 52 = .ok (.goto (-21), 3) := by decide +kernel
theorem dX12_findLabel_55 : decode cX12_findLabel 55 = .ok (.iconst (-1), 1) := by decide +kernel
theorem dX12_findLabel_56 : decode cX12_findLabel 56 = .ok (.ireturn, 1) := by decide +kernel
theorem dX12_isSought_0 : decode cX12_isSought 0 = .ok (.aload_n 0, 1) := by decide +kernel
theorem dX12_isSought_1 : decode cX12_isSought 1 = .ok (.iload_n 1, 1) := by decide +kernel
theorem dX12_isSought_2 : decode cX12_isSought 2 = .ok (.invokevirtual 378, 3) := by decide +kernel
theorem dX12_isSought_5 : decode cX12_isSought 5 = .ok (.aload_n 0, 1) := by decide +kernel
theorem dX12_isSought_6 : decode cX12_isSought 6 = .ok (.getfield 242, 3) := by decide +kernel
theorem dX12_isSought_9 : decode cX12_isSought 9 = .ok (.iload_n 2, 1) := by decide +kernel
theorem dX12_isSought_10 : decode cX12_isSought 10 = .ok (.if_icmp .ne 7, 3) := by decide +kernel
theorem dX12_isSought_13 : decode cX12_isSought 13 = .ok (.iconst 1, 1) := by decide +kernel
theorem dX12_isSought_14 : decode cX12_isSought 14 = .ok (.goto 4, 3) := by decide +kernel
theorem dX12_isSought_17 : decode cX12_isSought 17 = .ok (.iconst 0, 1) := by decide +kernel
theorem dX12_isSought_18 : decode cX12_isSought 18 = .ok (.istore_n 3, 1) := by decide +kernel
theorem dX12_isSought_19 : decode cX12_isSought 19 = .ok (.iconst 0, 1) := by decide +kernel
theorem dX12_isSought_20 : decode cX12_isSought 20 = .ok (.istore 4, 2) := by decide +kernel
theorem dX12_isSought_22 : decode cX12_isSought 22 = .ok (.iload 4, 2) := by decide +kernel
theorem dX12_isSought_24 : decode cX12_isSought 24 = .ok (.aload_n 0, 1) := by decide +kernel
theorem dX12_isSought_25 : decode cX12_isSought 25 = .ok (.getfield 242, 3) := by decide +kernel
theorem dX12_isSought_28 : decode cX12_isSought 28 = .ok (.if_icmp .ge 36, 3) := by decide +kernel
theorem dX12_isSought_31 : decode cX12_isSought 31 = .ok (.iload_n 3, 1) := by decide +kernel
theorem dX12_isSought_32 : decode cX12_isSought 32 = .ok (.ifCond .eq 32, 3) := by decide +kernel
theorem dX12_isSought_35 : decode cX12_isSought 35 = .ok (.aload_n 0, 1) := by decide +kernel
theorem dX12_isSought_36 : decode cX12_isSought 36 = .ok (.getfield 42, 3) := by decide +kernel
theorem dX12_isSought_39 : decode cX12_isSought 39 = .ok (.iload 4, 2) := by decide +kernel
theorem dX12_isSought_41 : decode cX12_isSought 41 = .ok (.baload, 1) := by decide +kernel
theorem dX12_isSought_42 : decode cX12_isSought 42 = .ok (.aload_n 0, 1) := by decide +kernel
theorem dX12_isSought_43 : decode cX12_isSought 43 = .ok (.getfield 60, 3) := by decide +kernel
theorem dX12_isSought_46 : decode cX12_isSought 46 = .ok (.iload 4, 2) := by decide +kernel
theorem dX12_isSought_48 : decode cX12_isSought 48 = .ok (.baload, 1) := by decide +kernel
theorem dX12_isSought_49 : decode cX12_isSought 49 = .ok (.if_icmp .ne 7, 3) := by decide +kernel
theorem dX12_isSought_52 : decode cX12_isSought 52 = .ok (.iconst 1, 1) := by decide +kernel
theorem dX12_isSought_53 : decode cX12_isSought 53 = .ok (.goto 4, 3) := by decide +kernel
theorem dX12_isSought_56 : decode cX12_isSought 56 = .ok (.iconst 0, 1) := by decide +kernel
theorem dX12_isSought_57 : decode cX12_isSought 57 = .ok (.istore_n 3, 1) := by decide +kernel
theorem dX12_isSought_58 : decode cX12_isSought 58 = .ok (.iinc 4 1, 3) := by decide +kernel
theorem dX12_isSought_61 : decode cX12_isSought 61 = .ok (.goto (-39), 3) := by decide +kernel
theorem dX12_isSought_64 : decode cX12_isSought 64 = .ok (.iload_n 3, 1) := by decide +kernel
theorem dX12_isSought_65 : decode cX12_isSought 65 = .ok (.ireturn, 1) := by decide +kernel
theorem dX12_sameLabels_0 : decode cX12_sameLabels 0 = .ok (.aload_n 0, 1) := by decide +kernel
theorem dX12_sameLabels_1 : decode cX12_sameLabels 1 = .ok (.iconst 0, 1) := by decide +kernel
theorem dX12_sameLabels_2 : decode cX12_sameLabels 2 = .ok (.putfield 3, 3) := by decide +kernel
theorem dX12_sameLabels_5 : decode cX12_sameLabels 5 = .ok (.aload_n 0, 1) := by decide +kernel
theorem dX12_sameLabels_6 : decode cX12_sameLabels 6 = .ok (.iload_n 1, 1) := by decide +kernel
theorem dX12_sameLabels_7 : decode cX12_sameLabels 7 = .ok (.invokevirtual 360, 3) := by decide +kernel
theorem dX12_sameLabels_10 : decode cX12_sameLabels 10 = .ok (.ifCond .ne 9, 3) := by decide +kernel
theorem dX12_sameLabels_13 : decode cX12_sameLabels 13 = .ok (.aload_n 0, 1) := by decide +kernel
theorem dX12_sameLabels_14 : decode cX12_sameLabels 14 = .ok (.iconst 1, 1) := by decide +kernel
theorem dX12_sameLabels_15 : decode cX12_sameLabels 15 = .ok (.invokevirtual 94, 3) := by decide +kernel
theorem dX12_sameLabels_18 : decode cX12_sameLabels 18 = .ok (.ireturn, 1) := by decide +kernel
theorem dX12_sameLabels_19 : decode cX12_sameLabels 19 = .ok (.aload_n 0, 1) := by decide +kernel
theorem dX12_sameLabels_20 : decode cX12_sameLabels 20 = .ok (.iload_n 1, 1) := by decide +kernel
theorem dX12_sameLabels_21 : decode cX12_sameLabels 21 = .ok (.invokevirtual 378, 3) := by decide +kernel
theorem dX12_sameLabels_24 : decode cX12_sameLabels 24 = .ok (.aload_n 0, 1) := by decide +kernel
theorem dX12_sameLabels_25 : decode cX12_sameLabels 25 = .ok (.getfield 242, 3) := by decide +kernel
theorem dX12_sameLabels_28 : decode cX12_sameLabels 28 = .ok (.istore_n 2, 1) := by decide +kernel
theorem dX12_sameLabels_29 : decode cX12_sameLabels 29 = .ok (.iconst 0, 1) := by decide +kernel
theorem dX12_sameLabels_30 : decode cX12_sameLabels 30 = .ok (.istore_n 3, 1) := by decide +kernel
theorem dX12_sameLabels_31 : decode cX12_sameLabels 31 = .ok (.iload_n 3, 1) := by decide +kernel
theorem dX12_sameLabels_32 : decode cX12_sameLabels 32 = .ok (.iload_n 2, 1) := by decide +kernel
theorem dX12_sameLabels_33 : decode cX12_sameLabels 33 = .ok (.if_icmp .ge 21, 3) := by decide +kernel
theorem dX12_sameLabels_36 : decode cX12_sameLabels 36 = .ok (.aload_n 0, 1) := by decide +kernel
theorem dX12_sameLabels_37 : decode cX12_sameLabels 37 = .ok (.getfield 60, 3) := by decide +kernel
theorem dX12_sameLabels_40 : decode cX12_sameLabels 40 = .ok (.iload_n 3, 1) := by decide +kernel
theorem dX12_sameLabels_41 : decode cX12_sameLabels 41 = .ok (.aload_n 0, 1) := by decide +kernel
theorem dX12_sameLabels_42 : decode cX12_sameLabels 42 = .ok (.getfield 42, 3) := by decide +kernel
theorem dX12_sameLabels_45 : decode cX12_sameLabels 45 = .ok (.iload_n 3, 1) := by decide +kernel
theorem dX12_sameLabels_46 : decode cX12_sameLabels 46 = .ok (.baload, 1) := by decide +kernel
theorem dX12_sameLabels_47 : decode cX12_sameLabels 47 = .ok (.bastore, 1) := by decide +kernel
theorem dX12_sameLabels_48 : decode cX12_sameLabels 48 = .ok (.iinc 3 1, 3) := by decide +kernel
theorem dX12_sameLabels_51 : decode cX12_sameLabels 51 = .ok (.goto (-20), 3) := by decide +kernel
theorem dX12_sameLabels_54 : decode cX12_sameLabels 54 = .ok (.iconst 0, 1) := by decide +kernel
theorem dX12_sameLabels_55 : decode cX12_sameLabels 55 = .ok (.istore_n 3, 1) := by decide +kernel
theorem dX12_sameLabels_56 : decode cX12_sameLabels 56 = .ok (.iconst 0, 1) := by decide +kernel
theorem dX12_sameLabels_57 : decode cX12_sameLabels 57 = .ok (.istore 4, 2) := by decide +kernel
theorem dX12_sameLabels_59 : decode cX12_sameLabels 59 = .ok (.iload 4, 2) := by decide +kernel
theorem dX12_sameLabels_61 : decode cX12_sameLabels 61 = .ok (.aload_n 0, 1) := by decide +kernel
theorem dX12_sameLabels_62 : decode cX12_sameLabels 62 = .ok (.getfield 232, 3) := by decide +kernel
theorem dX12_sameLabels_65 : decode cX12_sameLabels 65 = .ok (.if_icmp .ge 27, 3) := by decide +kernel
theorem dX12_sameLabels_68 : decode cX12_sameLabels 68 = .ok (.iload_n 3, 1) := by decide +kernel
theorem dX12_sameLabels_69 : decode cX12_sameLabels 69 = .ok (.aload_n 0, 1) := by decide +kernel
theorem dX12_sameLabels_70 : decode cX12_sameLabels 70 = .ok (.iload 4, 2) := by decide +kernel
theorem dX12_sameLabels_72 : decode cX12_sameLabels 72 = .ok (.iload_n 2, 1) := by decide +kernel
theorem dX12_sameLabels_73 : decode cX12_sameLabels 73 = .ok (.invokevirtual 384, 3) := by decide +kernel
theorem dX12_sameLabels_76 : decode cX12_sameLabels 76 = .ok (.ifCond .eq 7, 3) := by decide +kernel
theorem dX12_sameLabels_79 : decode cX12_sameLabels 79 = .ok (.iconst 1, 1) := by decide +kernel
theorem dX12_sameLabels_80 : decode cX12_sameLabels 80 = .ok (.goto 4, 3) := by decide +kernel
theorem dX12_sameLabels_83 : decode cX12_sameLabels 83 = .ok (.iconst 0, 1) := by decide +kernel
theorem dX12_sameLabels_84 : decode cX12_sameLabels 84 = .ok (.iadd, 1) := by decide +kernel
theorem dX12_sameLabels_85 : decode cX12_sameLabels 85 = .ok (.istore_n 3, 1) := by decide +kernel
theorem dX12_sameLabels_86 : decode cX12_sameLabels 86 = .ok (.iinc 4 1, 3) := by decide +kernel
theorem dX12_sameLabels_89 : decode cX12_sameLabels 89 = .ok (.goto (-30), 3) := by decide +kernel
theorem dX12_sameLabels_92 : decode cX12_sameLabels 92 = .ok (.iload_n 3, 1) := by decide +kernel
theorem dX12_sameLabels_93 : decode cX12_sameLabels 93 = .ok (.ireturn, 1) := by decide +kernel
theorem dX12_openingCount_0 : decode cX12_openingCount 0 = .ok (.aload_n 0, 1) := by decide +kernel
theorem dX12_openingCount_1 : decode cX12_openingCount 1 = .ok (.iconst 0, 1) := by decide +kernel
theorem dX12_openingCount_2 : decode cX12_openingCount 2 = .ok (.putfield 3, 3) := by decide +kernel
theorem dX12_openingCount_5 : decode cX12_openingCount 5 = .ok (.aload_n 0, 1) := by decide +kernel
theorem dX12_openingCount_6 : decode cX12_openingCount 6 = .ok (.invokevirtual 351, 3) := by decide +kernel
theorem dX12_openingCount_9 : decode cX12_openingCount 9 = .ok (.ireturn, 1) := by decide +kernel
theorem dX12_scansOn_0 : decode cX12_scansOn 0 = .ok (.aload_n 0, 1) := by decide +kernel
theorem dX12_scansOn_1 : decode cX12_scansOn 1 = .ok (.invokevirtual 239, 3) := by decide +kernel
theorem dX12_scansOn_4 : decode cX12_scansOn 4 = .ok (.iconst 0, 1) := by decide +kernel
theorem dX12_scansOn_5 : decode cX12_scansOn 5 = .ok (.istore_n 2, 1) := by decide +kernel
theorem dX12_scansOn_6 : decode cX12_scansOn 6 = .ok (.iconst 0, 1) := by decide +kernel
theorem dX12_scansOn_7 : decode cX12_scansOn 7 = .ok (.istore_n 3, 1) := by decide +kernel
theorem dX12_scansOn_8 : decode cX12_scansOn 8 = .ok (.iload_n 3, 1) := by decide +kernel
theorem dX12_scansOn_9 : decode cX12_scansOn 9 = .ok (.aload_n 0, 1) := by decide +kernel
theorem dX12_scansOn_10 : decode cX12_scansOn 10 = .ok (.getfield 20, 3) := by decide +kernel
theorem dX12_scansOn_13 : decode cX12_scansOn 13 = .ok (.iconst 2, 1) := by decide +kernel
theorem dX12_scansOn_14 : decode cX12_scansOn 14 = .ok (.iaload, 1) := by decide +kernel
theorem dX12_scansOn_15 : decode cX12_scansOn 15 = .ok (.if_icmp .ge 100, 3) := by decide +kernel
theorem dX12_scansOn_18 : decode cX12_scansOn 18 = .ok (.aload_n 0, 1) := by decide +kernel
theorem dX12_scansOn_19 : decode cX12_scansOn 19 = .ok (.iload_n 3, 1) := by decide +kernel
theorem dX12_scansOn_20 : decode cX12_scansOn 20 = .ok (.invokevirtual 275, 3) := by decide +kernel
theorem dX12_scansOn_23 : decode cX12_scansOn 23 = .ok (.iconst 0, 1) := by decide +kernel
theorem dX12_scansOn_24 : decode cX12_scansOn 24 = .ok (.istore 4, 2) := by decide +kernel
theorem dX12_scansOn_26 : decode cX12_scansOn 26 = .ok (.iconst 0, 1) := by decide +kernel
theorem dX12_scansOn_27 : decode cX12_scansOn 27 = .ok (.istore 5, 2) := by decide +kernel
theorem dX12_scansOn_29 : decode cX12_scansOn 29 = .ok (.iload 5, 2) := by decide +kernel
theorem dX12_scansOn_31 : decode cX12_scansOn 31 = .ok (.iconst 2, 1) := by decide +kernel
theorem dX12_scansOn_32 : decode cX12_scansOn 32 = .ok (.if_icmp .ge 64, 3) := by decide +kernel
theorem dX12_scansOn_35 : decode cX12_scansOn 35 = .ok (.aload_n 0, 1) := by decide +kernel
theorem dX12_scansOn_36 : decode cX12_scansOn 36 = .ok (.getfield 48, 3) := by decide +kernel
theorem dX12_scansOn_39 : decode cX12_scansOn 39 = .ok (.iload 5, 2) := by decide +kernel
theorem dX12_scansOn_41 : decode cX12_scansOn 41 = .ok (.iaload, 1) := by decide +kernel
theorem dX12_scansOn_42 : decode cX12_scansOn 42 = .ok (.istore 6, 2) := by decide +kernel
theorem dX12_scansOn_44 : decode cX12_scansOn 44 = .ok (.iload 4, 2) := by decide +kernel
theorem dX12_scansOn_46 : decode cX12_scansOn 46 = .ok (.ifCond .ne 37, 3) := by decide +kernel
theorem dX12_scansOn_49 : decode cX12_scansOn 49 = .ok (.iload 6, 2) := by decide +kernel
theorem dX12_scansOn_51 : decode cX12_scansOn 51 = .ok (.iconst (-1), 1) := by decide +kernel
theorem dX12_scansOn_52 : decode cX12_scansOn 52 = .ok (.if_icmp .eq 35, 3) := by decide +kernel
theorem dX12_scansOn_55 : decode cX12_scansOn 55 = .ok (.aload_n 0, 1) := by decide +kernel
theorem dX12_scansOn_56 : decode cX12_scansOn 56 = .ok (.aload_n 0, 1) := by decide +kernel
theorem dX12_scansOn_57 : decode cX12_scansOn 57 = .ok (.getfield 36, 3) := by decide +kernel
theorem dX12_scansOn_60 : decode cX12_scansOn 60 = .ok (.iconst 4, 1) := by decide +kernel
theorem dX12_scansOn_61 : decode cX12_scansOn 61 = .ok (.iload 6, 2) := by decide +kernel
theorem dX12_scansOn_63 : decode cX12_scansOn 63 = .ok (.imul, 1) := by decide +kernel
theorem dX12_scansOn_64 : decode cX12_scansOn 64 = .ok (.iaload, 1) := by decide +kernel
theorem dX12_scansOn_65 : decode cX12_scansOn 65 = .ok (.aload_n 0, 1) := by decide +kernel
theorem dX12_scansOn_66 : decode cX12_scansOn 66 = .ok (.getfield 36, 3) := by decide +kernel
theorem dX12_scansOn_69 : decode cX12_scansOn 69 = .ok (.iconst 4, 1) := by decide +kernel
theorem dX12_scansOn_70 : decode cX12_scansOn 70 = .ok (.iload 6, 2) := by decide +kernel
theorem dX12_scansOn_72 : decode cX12_scansOn 72 = .ok (.imul, 1) := by decide +kernel
theorem dX12_scansOn_73 : decode cX12_scansOn 73 = .ok (.iconst 1, 1) := by decide +kernel
theorem dX12_scansOn_74 : decode cX12_scansOn 74 = .ok (.iadd, 1) := by decide +kernel
theorem dX12_scansOn_75 : decode cX12_scansOn 75 = .ok (.iaload, 1) := by decide +kernel
theorem dX12_scansOn_76 : decode cX12_scansOn 76 = .ok (.invokevirtual 363, 3) := by decide +kernel
theorem dX12_scansOn_79 : decode cX12_scansOn 79 = .ok (.iload_n 1, 1) := by decide +kernel
theorem dX12_scansOn_80 : decode cX12_scansOn 80 = .ok (.if_icmp .ne 7, 3) := by decide +kernel
theorem dX12_scansOn_83 : decode cX12_scansOn 83 = .ok (.iconst 1, 1) := by decide +kernel
theorem dX12_scansOn_84 : decode cX12_scansOn 84 = .ok (.goto 4, 3) := by decide +kernel
theorem dX12_scansOn_87 : decode cX12_scansOn 87 = .ok (.iconst 0, 1) := by decide +kernel
theorem dX12_scansOn_88 : decode cX12_scansOn 88 = .ok (.istore 4, 2) := by decide +kernel
theorem dX12_scansOn_90 : decode cX12_scansOn 90 = .ok (.iinc 5 1, 3) := by decide +kernel
theorem dX12_scansOn_93 : decode cX12_scansOn 93 = .ok (.goto (-64), 3) := by decide +kernel
theorem dX12_scansOn_96 : decode cX12_scansOn 96 = .ok (.iload_n 2, 1) := by decide +kernel
theorem dX12_scansOn_97 : decode cX12_scansOn 97 = .ok (.iload 4, 2) := by decide +kernel
theorem dX12_scansOn_99 : decode cX12_scansOn 99 = .ok (.ifCond .eq 7, 3) := by decide +kernel
theorem dX12_scansOn_102 : decode cX12_scansOn 102 = .ok (.iconst 1, 1) := by decide +kernel
theorem dX12_scansOn_103 : decode cX12_scansOn 103 = .ok (.goto 4, 3) := by decide +kernel
theorem dX12_scansOn_106 : decode cX12_scansOn 106 = .ok (.iconst 0, 1) := by decide +kernel
theorem dX12_scansOn_107 : decode cX12_scansOn 107 = .ok (.iadd, 1) := by decide +kernel
theorem dX12_scansOn_108 : decode cX12_scansOn 108 = .ok (.istore_n 2, 1) := by decide +kernel
theorem dX12_scansOn_109 : decode cX12_scansOn 109 = .ok (.iinc 3 1, 3) := by decide +kernel
theorem dX12_scansOn_112 : decode cX12_scansOn 112 = .ok (.goto (-104), 3) := by decide +kernel
theorem dX12_scansOn_115 : decode cX12_scansOn 115 = .ok (.iload_n 2, 1) := by decide +kernel
theorem dX12_scansOn_116 : decode cX12_scansOn 116 = .ok (.ireturn, 1) := by decide +kernel
theorem dX12_opening_0 : decode cX12_opening 0 = .ok (.aload_n 0, 1) := by decide +kernel
theorem dX12_opening_1 : decode cX12_opening 1 = .ok (.iconst 0, 1) := by decide +kernel
theorem dX12_opening_2 : decode cX12_opening 2 = .ok (.putfield 3, 3) := by decide +kernel
theorem dX12_opening_5 : decode cX12_opening 5 = .ok (.aload_n 0, 1) := by decide +kernel
theorem dX12_opening_6 : decode cX12_opening 6 = .ok (.iload_n 1, 1) := by decide +kernel
theorem dX12_opening_7 : decode cX12_opening 7 = .ok (.invokevirtual 327, 3) := by decide +kernel
theorem dX12_opening_10 : decode cX12_opening 10 = .ok (.ifCond .ne 9, 3) := by decide +kernel
theorem dX12_opening_13 : decode cX12_opening 13 = .ok (.aload_n 0, 1) := by decide +kernel
theorem dX12_opening_14 : decode cX12_opening 14 = .ok (.iconst 1, 1) := by decide +kernel
theorem dX12_opening_15 : decode cX12_opening 15 = .ok (.invokevirtual 94, 3) := by decide +kernel
theorem dX12_opening_18 : decode cX12_opening 18 = .ok (.ireturn, 1) := by decide +kernel
theorem dX12_opening_19 : decode cX12_opening 19 = .ok (.aload_n 0, 1) := by decide +kernel
theorem dX12_opening_20 : decode cX12_opening 20 = .ok (.iload_n 1, 1) := by decide +kernel
theorem dX12_opening_21 : decode cX12_opening 21 = .ok (.invokevirtual 330, 3) := by decide +kernel
theorem dX12_opening_24 : decode cX12_opening 24 = .ok (.istore_n 3, 1) := by decide +kernel
theorem dX12_opening_25 : decode cX12_opening 25 = .ok (.aload_n 0, 1) := by decide +kernel
theorem dX12_opening_26 : decode cX12_opening 26 = .ok (.iload_n 1, 1) := by decide +kernel
theorem dX12_opening_27 : decode cX12_opening 27 = .ok (.invokevirtual 333, 3) := by decide +kernel
theorem dX12_opening_30 : decode cX12_opening 30 = .ok (.istore 4, 2) := by decide +kernel
theorem dX12_opening_32 : decode cX12_opening 32 = .ok (.iload_n 2, 1) := by decide +kernel
theorem dX12_opening_33 : decode cX12_opening 33 = .ok (.tableswitch 86 0 4 #[35, 37, 40, 46, 80], 35) := by decide +kernel
theorem dX12_opening_68 : decode cX12_opening 68 = .ok (.iload_n 3, 1) := by decide +kernel
theorem dX12_opening_69 : decode cX12_opening 69 = .ok (.ireturn, 1) := by decide +kernel
theorem dX12_opening_70 : decode cX12_opening 70 = .ok (.iload 4, 2) := by decide +kernel
theorem dX12_opening_72 : decode cX12_opening 72 = .ok (.ireturn, 1) := by decide +kernel
theorem dX12_opening_73 : decode cX12_opening 73 = .ok (.aload_n 0, 1) := by decide +kernel
theorem dX12_opening_74 : decode cX12_opening 74 = .ok (.iload_n 1, 1) := by decide +kernel
theorem dX12_opening_75 : decode cX12_opening 75 = .ok (.invokevirtual 387, 3) := by decide +kernel
theorem dX12_opening_78 : decode cX12_opening 78 = .ok (.ireturn, 1) := by decide +kernel
theorem dX12_opening_79 : decode cX12_opening 79 = .ok (.iload_n 3, 1) := by decide +kernel
theorem dX12_opening_80 : decode cX12_opening 80 = .ok (.iconst (-1), 1) := by decide +kernel
theorem dX12_opening_81 : decode cX12_opening 81 = .ok (.if_icmp .ne 7, 3) := by decide +kernel
theorem dX12_opening_84 : decode cX12_opening 84 = .ok (.iconst 0, 1) := by decide +kernel
theorem dX12_opening_85 : decode cX12_opening 85 = .ok (.goto 9, 3) := by decide +kernel
theorem dX12_opening_88 : decode cX12_opening 88 = .ok (.aload_n 0, 1) := by decide +kernel
theorem dX12_opening_89 : decode cX12_opening 89 = .ok (.iload_n 3, 1) := by decide +kernel
theorem dX12_opening_90 : decode cX12_opening 90 = .ok (.iconst 1, 1) := by decide +kernel
theorem dX12_opening_91 : decode cX12_opening 91 = .ok (.invokevirtual 300, 3) := by decide +kernel
theorem dX12_opening_94 : decode cX12_opening 94 = .ok (.iload 4, 2) := by decide +kernel
theorem dX12_opening_96 : decode cX12_opening 96 = .ok (.iconst (-1), 1) := by decide +kernel
theorem dX12_opening_97 : decode cX12_opening 97 = .ok (.if_icmp .ne 7, 3) := by decide +kernel
theorem dX12_opening_100 : decode cX12_opening 100 = .ok (.iconst 0, 1) := by decide +kernel
theorem dX12_opening_101 : decode cX12_opening 101 = .ok (.goto 10, 3) := by decide +kernel
theorem dX12_opening_104 : decode cX12_opening 104 = .ok (.aload_n 0, 1) := by decide +kernel
theorem dX12_opening_105 : decode cX12_opening 105 = .ok (.iload 4, 2) := by decide +kernel
theorem dX12_opening_107 : decode cX12_opening 107 = .ok (.iconst 0, 1) := by decide +kernel
theorem dX12_opening_108 : decode cX12_opening 108 = .ok (.invokevirtual 300, 3) := by decide +kernel
theorem dX12_opening_111 : decode cX12_opening 111 = .ok (.iadd, 1) := by decide +kernel
theorem dX12_opening_112 : decode cX12_opening 112 = .ok (.ireturn, 1) := by decide +kernel
theorem dX12_opening_113 : decode cX12_opening 113 = .ok (.aload_n 0, 1) := by decide +kernel
theorem dX12_opening_114 : decode cX12_opening 114 = .ok (.iload_n 1, 1) := by decide +kernel
theorem dX12_opening_115 : decode cX12_opening 115 = .ok (.invokevirtual 390, 3) := by decide +kernel
theorem dX12_opening_118 : decode cX12_opening 118 = .ok (.ireturn, 1) := by decide +kernel
theorem dX12_opening_119 : decode cX12_opening 119 = .ok (.aload_n 0, 1) := by decide +kernel
theorem dX12_opening_120 : decode cX12_opening 120 = .ok (.iconst 2, 1) := by decide +kernel
theorem dX12_opening_121 : decode cX12_opening 121 = .ok (.invokevirtual 94, 3) := by decide +kernel
theorem dX12_opening_124 : decode cX12_opening 124 = .ok (.ireturn, 1) := by decide +kernel
theorem dX12_view_0 : decode cX12_view 0 = .ok (.aload_n 0, 1) := by decide +kernel
theorem dX12_view_1 : decode cX12_view 1 = .ok (.iconst 0, 1) := by decide +kernel
theorem dX12_view_2 : decode cX12_view 2 = .ok (.putfield 3, 3) := by decide +kernel
theorem dX12_view_5 : decode cX12_view 5 = .ok (.aload_n 0, 1) := by decide +kernel
theorem dX12_view_6 : decode cX12_view 6 = .ok (.getfield 20, 3) := by decide +kernel
theorem dX12_view_9 : decode cX12_view 9 = .ok (.iconst 3, 1) := by decide +kernel
theorem dX12_view_10 : decode cX12_view 10 = .ok (.iaload, 1) := by decide +kernel
theorem dX12_view_11 : decode cX12_view 11 = .ok (.ireturn, 1) := by decide +kernel
theorem dX12_trailLength_0 : decode cX12_trailLength 0 = .ok (.aload_n 0, 1) := by decide +kernel
theorem dX12_trailLength_1 : decode cX12_trailLength 1 = .ok (.iconst 0, 1) := by decide +kernel
theorem dX12_trailLength_2 : decode cX12_trailLength 2 = .ok (.putfield 3, 3) := by decide +kernel
theorem dX12_trailLength_5 : decode cX12_trailLength 5 = .ok (.aload_n 0, 1) := by decide +kernel
theorem dX12_trailLength_6 : decode cX12_trailLength 6 = .ok (.getfield 20, 3) := by decide +kernel
theorem dX12_trailLength_9 : decode cX12_trailLength 9 = .ok (.iconst 4, 1) := by decide +kernel
theorem dX12_trailLength_10 : decode cX12_trailLength 10 = .ok (.iaload, 1) := by decide +kernel
theorem dX12_trailLength_11 : decode cX12_trailLength 11 = .ok (.ireturn, 1) := by decide +kernel
theorem dX12_scanCount_0 : decode cX12_scanCount 0 = .ok (.aload_n 0, 1) := by decide +kernel
theorem dX12_scanCount_1 : decode cX12_scanCount 1 = .ok (.iconst 0, 1) := by decide +kernel
theorem dX12_scanCount_2 : decode cX12_scanCount 2 = .ok (.putfield 3, 3) := by decide +kernel
theorem dX12_scanCount_5 : decode cX12_scanCount 5 = .ok (.aload_n 0, 1) := by decide +kernel
