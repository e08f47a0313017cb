/-! decode rows, by program -/
theorem dX0_init_0 : decode cX0_init 0 = .ok (.aload_n 0, 1) := by decide +kernel
theorem dX0_init_1 : decode cX0_init 1 = .ok (.invokespecial 1, 3) := by decide +kernel
theorem dX0_init_4 : decode cX0_init 4 = .ok (.aload_n 0, 1) := by decide +kernel
theorem dX0_init_5 : decode cX0_init 5 = .ok (.iload_n 1, 1) := by decide +kernel
theorem dX0_init_6 : decode cX0_init 6 = .ok (.putfield 7, 3) := by decide +kernel
theorem dX0_init_9 : decode cX0_init 9 = .ok (.aload_n 0, 1) := by decide +kernel
theorem dX0_init_10 : decode cX0_init 10 = .ok (.iload_n 2, 1) := by decide +kernel
theorem dX0_init_11 : decode cX0_init 11 = .ok (.putfield 13, 3) := by decide +kernel
theorem dX0_init_14 : decode cX0_init 14 = .ok (.return_, 1) := by decide +kernel
theorem dX2_init_0 : decode cX2_init 0 = .ok (.aload_n 0, 1) := by decide +kernel
theorem dX2_init_1 : decode cX2_init 1 = .ok (.invokespecial 3, 3) := by decide +kernel
theorem dX2_init_4 : decode cX2_init 4 = .ok (.aload_n 0, 1) := by decide +kernel
theorem dX2_init_5 : decode cX2_init 5 = .ok (.iload_n 1, 1) := by decide +kernel
theorem dX2_init_6 : decode cX2_init 6 = .ok (.putfield 9, 3) := by decide +kernel
theorem dX2_init_9 : decode cX2_init 9 = .ok (.return_, 1) := by decide +kernel
theorem dX2_child_0 : decode cX2_child 0 = .ok (.iload_n 1, 1) := by decide +kernel
theorem dX2_child_1 : decode cX2_child 1 = .ok (.ifCond .ne 10, 3) := by decide +kernel
theorem dX2_child_4 : decode cX2_child 4 = .ok (.aload_n 0, 1) := by decide +kernel
theorem dX2_child_5 : decode cX2_child 5 = .ok (.getfield 15, 3) := by decide +kernel
theorem dX2_child_8 : decode cX2_child 8 = .ok (.goto 7, 3) := by decide +kernel
theorem dX2_child_11 : decode cX2_child 11 = .ok (.aload_n 0, 1) := by decide +kernel
theorem dX2_child_12 : decode cX2_child 12 = .ok (.getfield 19, 3) := by decide +kernel
theorem dX2_child_15 : decode cX2_child 15 = .ok (.areturn, 1) := by decide +kernel
theorem dX2_setChild_0 : decode cX2_setChild 0 = .ok (.iload_n 1, 1) := by decide +kernel
theorem dX2_setChild_1 : decode cX2_setChild 1 = .ok (.ifCond .ne 11, 3) := by decide +kernel
theorem dX2_setChild_4 : decode cX2_setChild 4 = .ok (.aload_n 0, 1) := by decide +kernel
theorem dX2_setChild_5 : decode cX2_setChild 5 = .ok (.aload_n 2, 1) := by decide +kernel
theorem dX2_setChild_6 : decode cX2_setChild 6 = .ok (.putfield 15, 3) := by decide +kernel
theorem dX2_setChild_9 : decode cX2_setChild 9 = .ok (.goto 8, 3) := by decide +kernel
theorem dX2_setChild_12 : decode cX2_setChild 12 = .ok (.aload_n 0, 1) := by decide +kernel
theorem dX2_setChild_13 : decode cX2_setChild 13 = .ok (.aload_n 2, 1) := by decide +kernel
theorem dX2_setChild_14 : decode cX2_setChild 14 = .ok (.putfield 19, 3) := by decide +kernel
theorem dX2_setChild_17 : decode cX2_setChild 17 = .ok (.return_, 1) := by decide +kernel
theorem dX2_sideOf_0 : decode cX2_sideOf 0 = .ok (.aload_n 1, 1) := by decide +kernel
theorem dX2_sideOf_1 : decode cX2_sideOf 1 = .ok (.aload_n 0, 1) := by decide +kernel
theorem dX2_sideOf_2 : decode cX2_sideOf 2 = .ok (.getfield 15, 3) := by decide +kernel
theorem dX2_sideOf_5 : decode cX2_sideOf 5 = .ok (.if_acmp .ne 7, 3) := by decide +kernel
theorem dX2_sideOf_8 : decode cX2_sideOf 8 = .ok (.iconst 0, 1) := by decide +kernel
theorem dX2_sideOf_9 : decode cX2_sideOf 9 = .ok (.goto 4, 3) := by decide +kernel
theorem dX2_sideOf_12 : decode cX2_sideOf 12 = .ok (.iconst 1, 1) := by decide +kernel
theorem dX2_sideOf_13 : decode cX2_sideOf 13 = .ok (.ireturn, 1) := by decide +kernel
theorem dX3_init_0 : decode cX3_init 0 = .ok (.aload_n 0, 1) := by decide +kernel
theorem dX3_init_1 : decode cX3_init 1 = .ok (.invokespecial 1, 3) := by decide +kernel
theorem dX3_init_4 : decode cX3_init 4 = .ok (.aload_n 0, 1) := by decide +kernel
theorem dX3_init_5 : decode cX3_init 5 = .ok (.iload_n 1, 1) := by decide +kernel
theorem dX3_init_6 : decode cX3_init 6 = .ok (.newarray .byte, 2) := by decide +kernel
theorem dX3_init_8 : decode cX3_init 8 = .ok (.putfield 7, 3) := by decide +kernel
theorem dX3_init_11 : decode cX3_init 11 = .ok (.return_, 1) := by decide +kernel
theorem dX3_append_0 : decode cX3_append 0 = .ok (.aload_n 0, 1) := by decide +kernel
theorem dX3_append_1 : decode cX3_append 1 = .ok (.getfield 13, 3) := by decide +kernel
theorem dX3_append_4 : decode cX3_append 4 = .ok (.aload_n 0, 1) := by decide +kernel
theorem dX3_append_5 : decode cX3_append 5 = .ok (.getfield 7, 3) := by decide +kernel
theorem dX3_append_8 : decode cX3_append 8 = .ok (.arraylength, 1) := by decide +kernel
theorem dX3_append_9 : decode cX3_append 9 = .ok (.if_icmp .ge 23, 3) := by decide +kernel
theorem dX3_append_12 : decode cX3_append 12 = .ok (.aload_n 0, 1) := by decide +kernel
theorem dX3_append_13 : decode cX3_append 13 = .ok (.getfield 7, 3) := by decide +kernel
theorem dX3_append_16 : decode cX3_append 16 = .ok (.aload_n 0, 1) := by decide +kernel
theorem dX3_append_17 : decode cX3_append 17 = .ok (.getfield 13, 3) := by decide +kernel
theorem dX3_append_20 : decode cX3_append 20 = .ok (.iload_n 1, 1) := by decide +kernel
theorem dX3_append_21 : decode cX3_append 21 = .ok (.bastore, 1) := by decide +kernel
theorem dX3_append_22 : decode cX3_append 22 = .ok (.aload_n 0, 1) := by decide +kernel
theorem dX3_append_23 : decode cX3_append 23 = .ok (.dup, 1) := by decide +kernel
theorem dX3_append_24 : decode cX3_append 24 = .ok (.getfield 13, 3) := by decide +kernel
theorem dX3_append_27 : decode cX3_append 27 = .ok (.iconst 1, 1) := by decide +kernel
theorem dX3_append_28 : decode cX3_append 28 = .ok (.iadd, 1) := by decide +kernel
theorem dX3_append_29 : decode cX3_append 29 = .ok (.putfield 13, 3) := by decide +kernel
theorem dX3_append_32 : decode cX3_append 32 = .ok (.return_, 1) := by decide +kernel
