/-! decode rows, by program -/
theorem dX1_init_0 : decode cX1_init 0 = .ok (.aload_n 0, 1) := by decide +kernel
theorem dX1_init_1 : decode cX1_init 1 = .ok (.invokespecial 3, 3) := by decide +kernel
theorem dX1_init_4 : decode cX1_init 4 = .ok (.aload_n 0, 1) := by decide +kernel
theorem dX1_init_5 : decode cX1_init 5 = .ok (.iload_n 1, 1) := by decide +kernel
theorem dX1_init_6 : decode cX1_init 6 = .ok (.putfield 9, 3) := by decide +kernel
theorem dX1_init_9 : decode cX1_init 9 = .ok (.aload_n 0, 1) := by decide +kernel
theorem dX1_init_10 : decode cX1_init 10 = .ok (.iload_n 1, 1) := by decide +kernel
theorem dX1_init_11 : decode cX1_init 11 = .ok (.bipush 16, 2) := by decide +kernel
theorem dX1_init_13 : decode cX1_init 13 = .ok (.invokestatic 15, 3) := by decide +kernel
theorem dX1_init_16 : decode cX1_init 16 = .ok (.putfield 21, 3) := by decide +kernel
theorem dX1_init_19 : decode cX1_init 19 = .ok (.aload_n 0, 1) := by decide +kernel
theorem dX1_init_20 : decode cX1_init 20 = .ok (.aload_n 0, 1) := by decide +kernel
theorem dX1_init_21 : decode cX1_init 21 = .ok (.getfield 21, 3) := by decide +kernel
theorem dX1_init_24 : decode cX1_init 24 = .ok (.bipush 16, 2) := by decide +kernel
theorem dX1_init_26 : decode cX1_init 26 = .ok (.imul, 1) := by decide +kernel
theorem dX1_init_27 : decode cX1_init 27 = .ok (.newarray .byte, 2) := by decide +kernel
theorem dX1_init_29 : decode cX1_init 29 = .ok (.putfield 24, 3) := by decide +kernel
theorem dX1_init_32 : decode cX1_init 32 = .ok (.aload_n 0, 1) := by decide +kernel
theorem dX1_init_33 : decode cX1_init 33 = .ok (.new 28, 3) := by decide +kernel
theorem dX1_init_36 : decode cX1_init 36 = .ok (.dup, 1) := by decide +kernel
theorem dX1_init_37 : decode cX1_init 37 = .ok (.iconst 0, 1) := by decide +kernel
theorem dX1_init_38 : decode cX1_init 38 = .ok (.iconst 0, 1) := by decide +kernel
theorem dX1_init_39 : decode cX1_init 39 = .ok (.invokespecial 30, 3) := by decide +kernel
theorem dX1_init_42 : decode cX1_init 42 = .ok (.putfield 33, 3) := by decide +kernel
theorem dX1_init_45 : decode cX1_init 45 = .ok (.aload_n 0, 1) := by decide +kernel
theorem dX1_init_46 : decode cX1_init 46 = .ok (.getfield 33, 3) := by decide +kernel
theorem dX1_init_49 : decode cX1_init 49 = .ok (.new 28, 3) := by decide +kernel
theorem dX1_init_52 : decode cX1_init 52 = .ok (.dup, 1) := by decide +kernel
theorem dX1_init_53 : decode cX1_init 53 = .ok (.iconst 0, 1) := by decide +kernel
theorem dX1_init_54 : decode cX1_init 54 = .ok (.aload_n 0, 1) := by decide +kernel
theorem dX1_init_55 : decode cX1_init 55 = .ok (.getfield 21, 3) := by decide +kernel
theorem dX1_init_58 : decode cX1_init 58 = .ok (.invokespecial 30, 3) := by decide +kernel
theorem dX1_init_61 : decode cX1_init 61 = .ok (.putfield 37, 3) := by decide +kernel
theorem dX1_init_64 : decode cX1_init 64 = .ok (.return_, 1) := by decide +kernel
theorem dX1_take_0 : decode cX1_take 0 = .ok (.aload_n 0, 1) := by decide +kernel
theorem dX1_take_1 : decode cX1_take 1 = .ok (.iload_n 2, 1) := by decide +kernel
theorem dX1_take_2 : decode cX1_take 2 = .ok (.invokevirtual 40, 3) := by decide +kernel
theorem dX1_take_5 : decode cX1_take 5 = .ok (.astore_n 3, 1) := by decide +kernel
theorem dX1_take_6 : decode cX1_take 6 = .ok (.aload_n 3, 1) := by decide +kernel
theorem dX1_take_7 : decode cX1_take 7 = .ok (.ifnonnull 32, 3) := by decide +kernel
theorem dX1_take_10 : decode cX1_take 10 = .ok (.aload_n 0, 1) := by decide +kernel
theorem dX1_take_11 : decode cX1_take 11 = .ok (.getfield 21, 3) := by decide +kernel
theorem dX1_take_14 : decode cX1_take 14 = .ok (.aload_n 0, 1) := by decide +kernel
theorem dX1_take_15 : decode cX1_take 15 = .ok (.getfield 44, 3) := by decide +kernel
theorem dX1_take_18 : decode cX1_take 18 = .ok (.isub, 1) := by decide +kernel
theorem dX1_take_19 : decode cX1_take 19 = .ok (.iload_n 2, 1) := by decide +kernel
theorem dX1_take_20 : decode cX1_take 20 = .ok (.if_icmp .ge 19, 3) := by decide +kernel
theorem dX1_take_23 : decode cX1_take 23 = .ok (.aload_n 0, 1) := by decide +kernel
theorem dX1_take_24 : decode cX1_take 24 = .ok (.aload_n 0, 1) := by decide +kernel
theorem dX1_take_25 : decode cX1_take 25 = .ok (.getfield 44, 3) := by decide +kernel
theorem dX1_take_28 : decode cX1_take 28 = .ok (.iload_n 2, 1) := by decide +kernel
theorem dX1_take_29 : decode cX1_take 29 = .ok (.iadd, 1) := by decide +kernel
theorem dX1_take_30 : decode cX1_take 30 = .ok (.invokevirtual 47, 3) := by decide +kernel
theorem dX1_take_33 : decode cX1_take 33 = .ok (.aload_n 0, 1) := by decide +kernel
theorem dX1_take_34 : decode cX1_take 34 = .ok (.iload_n 2, 1) := by decide +kernel
theorem dX1_take_35 : decode cX1_take 35 = .ok (.invokevirtual 40, 3) := by decide +kernel
theorem dX1_take_38 : decode cX1_take 38 = .ok (.astore_n 3, 1) := by decide +kernel
theorem dX1_take_39 : decode cX1_take 39 = .ok (.aload_n 3, 1) := by decide +kernel
theorem dX1_take_40 : decode cX1_take 40 = .ok (.ifnonnull 8, 3) := by decide +kernel
theorem dX1_take_43 : decode cX1_take 43 = .ok (.aload_n 0, 1) := by decide +kernel
theorem dX1_take_44 : decode cX1_take 44 = .ok (.invokevirtual 51, 3) := by decide +kernel
theorem dX1_take_47 : decode cX1_take 47 = .ok (.astore_n 3, 1) := by decide +kernel
theorem dX1_take_48 : decode cX1_take 48 = .ok (.aload_n 3, 1) := by decide +kernel
theorem dX1_take_49 : decode cX1_take 49 = .ok (.iload_n 2, 1) := by decide +kernel
theorem dX1_take_50 : decode cX1_take 50 = .ok (.invokestatic 55, 3) := by decide +kernel
theorem dX1_take_53 : decode cX1_take 53 = .ok (.aload_n 3, 1) := by decide +kernel
theorem dX1_take_54 : decode cX1_take 54 = .ok (.aload_n 1, 1) := by decide +kernel
theorem dX1_take_55 : decode cX1_take 55 = .ok (.putfield 59, 3) := by decide +kernel
theorem dX1_take_58 : decode cX1_take 58 = .ok (.aload_n 0, 1) := by decide +kernel
theorem dX1_take_59 : decode cX1_take 59 = .ok (.dup, 1) := by decide +kernel
theorem dX1_take_60 : decode cX1_take 60 = .ok (.getfield 44, 3) := by decide +kernel
theorem dX1_take_63 : decode cX1_take 63 = .ok (.iload_n 2, 1) := by decide +kernel
theorem dX1_take_64 : decode cX1_take 64 = .ok (.iadd, 1) := by decide +kernel
theorem dX1_take_65 : decode cX1_take 65 = .ok (.putfield 44, 3) := by decide +kernel
theorem dX1_take_68 : decode cX1_take 68 = .ok (.aload_n 3, 1) := by decide +kernel
theorem dX1_take_69 : decode cX1_take 69 = .ok (.areturn, 1) := by decide +kernel
theorem dX1_giveBack_0 : decode cX1_giveBack 0 = .ok (.aload_n 1, 1) := by decide +kernel
theorem dX1_giveBack_1 : decode cX1_giveBack 1 = .ok (.aconst_null, 1) := by decide +kernel
theorem dX1_giveBack_2 : decode cX1_giveBack 2 = .ok (.putfield 59, 3) := by decide +kernel
theorem dX1_giveBack_5 : decode cX1_giveBack 5 = .ok (.aload_n 0, 1) := by decide +kernel
theorem dX1_giveBack_6 : decode cX1_giveBack 6 = .ok (.dup, 1) := by decide +kernel
theorem dX1_giveBack_7 : decode cX1_giveBack 7 = .ok (.getfield 44, 3) := by decide +kernel
theorem dX1_giveBack_10 : decode cX1_giveBack 10 = .ok (.aload_n 1, 1) := by decide +kernel
theorem dX1_giveBack_11 : decode cX1_giveBack 11 = .ok (.getfield 63, 3) := by decide +kernel
theorem dX1_giveBack_14 : decode cX1_giveBack 14 = .ok (.isub, 1) := by decide +kernel
theorem dX1_giveBack_15 : decode cX1_giveBack 15 = .ok (.putfield 44, 3) := by decide +kernel
theorem dX1_giveBack_18 : decode cX1_giveBack 18 = .ok (.return_, 1) := by decide +kernel
theorem dX1_empty_0 : decode cX1_empty 0 = .ok (.aload_n 0, 1) := by decide +kernel
theorem dX1_empty_1 : decode cX1_empty 1 = .ok (.getfield 33, 3) := by decide +kernel
theorem dX1_empty_4 : decode cX1_empty 4 = .ok (.new 28, 3) := by decide +kernel
theorem dX1_empty_7 : decode cX1_empty 7 = .ok (.dup, 1) := by decide +kernel
theorem dX1_empty_8 : decode cX1_empty 8 = .ok (.iconst 0, 1) := by decide +kernel
theorem dX1_empty_9 : decode cX1_empty 9 = .ok (.aload_n 0, 1) := by decide +kernel
theorem dX1_empty_10 : decode cX1_empty 10 = .ok (.getfield 21, 3) := by decide +kernel
theorem dX1_empty_13 : decode cX1_empty 13 = .ok (.invokespecial 30, 3) := by decide +kernel
theorem dX1_empty_16 : decode cX1_empty 16 = .ok (.putfield 37, 3) := by decide +kernel
theorem dX1_empty_19 : decode cX1_empty 19 = .ok (.aload_n 0, 1) := by decide +kernel
theorem dX1_empty_20 : decode cX1_empty 20 = .ok (.iconst 0, 1) := by decide +kernel
theorem dX1_empty_21 : decode cX1_empty 21 = .ok (.putfield 44, 3) := by decide +kernel
theorem dX1_empty_24 : decode cX1_empty 24 = .ok (.return_, 1) := by decide +kernel
theorem dX1_write_0 : decode cX1_write 0 = .ok (.aload_n 2, 1) := by decide +kernel
theorem dX1_write_1 : decode cX1_write 1 = .ok (.getfield 66, 3) := by decide +kernel
theorem dX1_write_4 : decode cX1_write 4 = .ok (.iconst 0, 1) := by decide +kernel
theorem dX1_write_5 : decode cX1_write 5 = .ok (.aload_n 0, 1) := by decide +kernel
theorem dX1_write_6 : decode cX1_write 6 = .ok (.getfield 24, 3) := by decide +kernel
theorem dX1_write_9 : decode cX1_write 9 = .ok (.aload_n 1, 1) := by decide +kernel
theorem dX1_write_10 : decode cX1_write 10 = .ok (.getfield 69, 3) := by decide +kernel
theorem dX1_write_13 : decode cX1_write 13 = .ok (.bipush 16, 2) := by decide +kernel
theorem dX1_write_15 : decode cX1_write 15 = .ok (.imul, 1) := by decide +kernel
theorem dX1_write_16 : decode cX1_write 16 = .ok (.iload_n 3, 1) := by decide +kernel
theorem dX1_write_17 : decode cX1_write 17 = .ok (.invokestatic 72, 3) := by decide +kernel
theorem dX1_write_20 : decode cX1_write 20 = .ok (.return_, 1) := by decide +kernel
theorem dX1_read_0 : decode cX1_read 0 = .ok (.aload_n 0, 1) := by decide +kernel
theorem dX1_read_1 : decode cX1_read 1 = .ok (.getfield 24, 3) := by decide +kernel
theorem dX1_read_4 : decode cX1_read 4 = .ok (.aload_n 1, 1) := by decide +kernel
theorem dX1_read_5 : decode cX1_read 5 = .ok (.getfield 69, 3) := by decide +kernel
theorem dX1_read_8 : decode cX1_read 8 = .ok (.bipush 16, 2) := by decide +kernel
theorem dX1_read_10 : decode cX1_read 10 = .ok (.imul, 1) := by decide +kernel
theorem dX1_read_11 : decode cX1_read 11 = .ok (.iload_n 2, 1) := by decide +kernel
theorem dX1_read_12 : decode cX1_read 12 = .ok (.iadd, 1) := by decide +kernel
theorem dX1_read_13 : decode cX1_read 13 = .ok (.aload 4, 2) := by decide +kernel
theorem dX1_read_15 : decode cX1_read 15 = .ok (.getfield 66, 3) := by decide +kernel
theorem dX1_read_18 : decode cX1_read 18 = .ok (.iconst 0, 1) := by decide +kernel
theorem dX1_read_19 : decode cX1_read 19 = .ok (.iload_n 3, 1) := by decide +kernel
theorem dX1_read_20 : decode cX1_read 20 = .ok (.invokestatic 72, 3) := by decide +kernel
theorem dX1_read_23 : decode cX1_read 23 = .ok (.aload 4, 2) := by decide +kernel
theorem dX1_read_25 : decode cX1_read 25 = .ok (.iload_n 3, 1) := by decide +kernel
theorem dX1_read_26 : decode cX1_read 26 = .ok (.putfield 76, 3) := by decide +kernel
theorem dX1_read_29 : decode cX1_read 29 = .ok (.return_, 1) := by decide +kernel
theorem dX1_compareRow_0 : decode cX1_compareRow 0 = .ok (.aload_n 0, 1) := by decide +kernel
theorem dX1_compareRow_1 : decode cX1_compareRow 1 = .ok (.aload_n 1, 1) := by decide +kernel
theorem dX1_compareRow_2 : decode cX1_compareRow 2 = .ok (.getfield 66, 3) := by decide +kernel
theorem dX1_compareRow_5 : decode cX1_compareRow 5 = .ok (.iconst 0, 1) := by decide +kernel
theorem dX1_compareRow_6 : decode cX1_compareRow 6 = .ok (.iload_n 2, 1) := by decide +kernel
theorem dX1_compareRow_7 : decode cX1_compareRow 7 = .ok (.aload_n 3, 1) := by decide +kernel
theorem dX1_compareRow_8 : decode cX1_compareRow 8 = .ok (.invokevirtual 79, 3) := by decide +kernel
theorem dX1_compareRow_11 : decode cX1_compareRow 11 = .ok (.ireturn, 1) := by decide +kernel
theorem dX1_compareNodes_0 : decode cX1_compareNodes 0 = .ok (.aload_n 0, 1) := by decide +kernel
theorem dX1_compareNodes_1 : decode cX1_compareNodes 1 = .ok (.aload_n 0, 1) := by decide +kernel
theorem dX1_compareNodes_2 : decode cX1_compareNodes 2 = .ok (.getfield 24, 3) := by decide +kernel
theorem dX1_compareNodes_5 : decode cX1_compareNodes 5 = .ok (.aload_n 1, 1) := by decide +kernel
theorem dX1_compareNodes_6 : decode cX1_compareNodes 6 = .ok (.getfield 83, 3) := by decide +kernel
theorem dX1_compareNodes_9 : decode cX1_compareNodes 9 = .ok (.getfield 69, 3) := by decide +kernel
theorem dX1_compareNodes_12 : decode cX1_compareNodes 12 = .ok (.bipush 16, 2) := by decide +kernel
theorem dX1_compareNodes_14 : decode cX1_compareNodes 14 = .ok (.imul, 1) := by decide +kernel
theorem dX1_compareNodes_15 : decode cX1_compareNodes 15 = .ok (.aload_n 1, 1) := by decide +kernel
theorem dX1_compareNodes_16 : decode cX1_compareNodes 16 = .ok (.getfield 88, 3) := by decide +kernel
theorem dX1_compareNodes_19 : decode cX1_compareNodes 19 = .ok (.aload_n 2, 1) := by decide +kernel
theorem dX1_compareNodes_20 : decode cX1_compareNodes 20 = .ok (.invokevirtual 79, 3) := by decide +kernel
theorem dX1_compareNodes_23 : decode cX1_compareNodes 23 = .ok (.ireturn, 1) := by decide +kernel
theorem dX1_compareBytes_0 : decode cX1_compareBytes 0 = .ok (.aload 4, 2) := by decide +kernel
theorem dX1_compareBytes_2 : decode cX1_compareBytes 2 = .ok (.getfield 83, 3) := by decide +kernel
theorem dX1_compareBytes_5 : decode cX1_compareBytes 5 = .ok (.getfield 69, 3) := by decide +kernel
theorem dX1_compareBytes_8 : decode cX1_compareBytes 8 = .ok (.bipush 16, 2) := by decide +kernel
theorem dX1_compareBytes_10 : decode cX1_compareBytes 10 = .ok (.imul, 1) := by decide +kernel
theorem dX1_compareBytes_11 : decode cX1_compareBytes 11 = .ok (.istore 5, 2) := by decide +kernel
theorem dX1_compareBytes_13 : decode cX1_compareBytes 13 = .ok (.iload_n 3, 1) := by decide +kernel
theorem dX1_compareBytes_14 : decode cX1_compareBytes 14 = .ok (.aload 4, 2) := by decide +kernel
theorem dX1_compareBytes_16 : decode cX1_compareBytes 16 = .ok (.getfield 88, 3) := by decide +kernel
theorem dX1_compareBytes_19 : decode cX1_compareBytes 19 = .ok (.invokestatic 15, 3) := by decide +kernel
theorem dX1_compareBytes_22 : decode cX1_compareBytes 22 = .ok (.istore 6, 2) := by decide +kernel
theorem dX1_compareBytes_24 : decode cX1_compareBytes 24 = .ok (.iconst 0, 1) := by decide +kernel
theorem dX1_compareBytes_25 : decode cX1_compareBytes 25 = .ok (.istore 7, 2) := by decide +kernel
theorem dX1_compareBytes_27 : decode cX1_compareBytes 27 = .ok (.iload 7, 2) := by decide +kernel
theorem dX1_compareBytes_29 : decode cX1_compareBytes 29 = .ok (.iload 6, 2) := by decide +kernel
theorem dX1_compareBytes_31 : decode cX1_compareBytes 31 = .ok (.if_icmp .ge 40, 3) := by decide +kernel
theorem dX1_compareBytes_34 : decode cX1_compareBytes 34 = .ok (.aload_n 1, 1) := by decide +kernel
theorem dX1_compareBytes_35 : decode cX1_compareBytes 35 = .ok (.iload_n 2, 1) := by decide +kernel
theorem dX1_compareBytes_36 : decode cX1_compareBytes 36 = .ok (.iload 7, 2) := by decide +kernel
theorem dX1_compareBytes_38 : decode cX1_compareBytes 38 = .ok (.iadd, 1) := by decide +kernel
theorem dX1_compareBytes_39 : decode cX1_compareBytes 39 = .ok (.invokestatic 91, 3) := by decide +kernel
theorem dX1_compareBytes_42 : decode cX1_compareBytes 42 = .ok (.aload_n 0, 1) := by decide +kernel
theorem dX1_compareBytes_43 : decode cX1_compareBytes 43 = .ok (.getfield 24, 3) := by decide +kernel
theorem dX1_compareBytes_46 : decode cX1_compareBytes 46 = .ok (.iload 5, 2) := by decide +kernel
theorem dX1_compareBytes_48 : decode cX1_compareBytes 48 = .ok (.iload 7, 2) := by decide +kernel
theorem dX1_compareBytes_50 : decode cX1_compareBytes 50 = .ok (.iadd, 1) := by decide +kernel
theorem dX1_compareBytes_51 : decode cX1_compareBytes 51 = .ok (.invokestatic 91, 3) := by decide +kernel
theorem dX1_compareBytes_54 : decode cX1_compareBytes 54 = .ok (.isub, 1) := by decide +kernel
theorem dX1_compareBytes_55 : decode cX1_compareBytes 55 = .ok (.istore 8, 2) := by decide +kernel
theorem dX1_compareBytes_57 : decode cX1_compareBytes 57 = .ok (.iload 8, 2) := by decide +kernel
theorem dX1_compareBytes_59 : decode cX1_compareBytes 59 = .ok (.ifCond .eq 6, 3) := by decide +kernel
theorem dX1_compareBytes_62 : decode cX1_compareBytes 62 = .ok (.iload 8, 2) := by decide +kernel
theorem dX1_compareBytes_64 : decode cX1_compareBytes 64 = .ok (.ireturn, 1) := by decide +kernel
theorem dX1_compareBytes_65 : decode cX1_compareBytes 65 = .ok (.iinc 7 1, 3) := by decide +kernel
theorem dX1_compareBytes_68 : decode cX1_compareBytes 68 = .ok (.goto (-41), 3) := by decide +kernel
theorem dX1_compareBytes_71 : decode cX1_compareBytes 71 = .ok (.iload_n 3, 1) := by decide +kernel
theorem dX1_compareBytes_72 : decode cX1_compareBytes 72 = .ok (.aload 4, 2) := by decide +kernel
theorem dX1_compareBytes_74 : decode cX1_compareBytes 74 = .ok (.getfield 88, 3) := by decide +kernel
theorem dX1_compareBytes_77 : decode cX1_compareBytes 77 = .ok (.isub, 1) := by decide +kernel
theorem dX1_compareBytes_78 : decode cX1_compareBytes 78 = .ok (.ireturn, 1) := by decide +kernel
theorem dX1_firstFit_0 : decode cX1_firstFit 0 = .ok (.aload_n 0, 1) := by decide +kernel
theorem dX1_firstFit_1 : decode cX1_firstFit 1 = .ok (.getfield 33, 3) := by decide +kernel
theorem dX1_firstFit_4 : decode cX1_firstFit 4 = .ok (.getfield 37, 3) := by decide +kernel
theorem dX1_firstFit_7 : decode cX1_firstFit 7 = .ok (.astore_n 2, 1) := by decide +kernel
theorem dX1_firstFit_8 : decode cX1_firstFit 8 = .ok (.aload_n 2, 1) := by decide +kernel
theorem dX1_firstFit_9 : decode cX1_firstFit 9 = .ok (.ifnull 32, 3) := by decide +kernel
theorem dX1_firstFit_12 : decode cX1_firstFit 12 = .ok (.aload_n 2, 1) := by decide +kernel
theorem dX1_firstFit_13 : decode cX1_firstFit 13 = .ok (.getfield 59, 3) := by decide +kernel
theorem dX1_firstFit_16 : decode cX1_firstFit 16 = .ok (.ifnonnull 17, 3) := by decide +kernel
theorem dX1_firstFit_19 : decode cX1_firstFit 19 = .ok (.aload_n 2, 1) := by decide +kernel
theorem dX1_firstFit_20 : decode cX1_firstFit 20 = .ok (.invokestatic 95, 3) := by decide +kernel
theorem dX1_firstFit_23 : decode cX1_firstFit 23 = .ok (.aload_n 2, 1) := by decide +kernel
theorem dX1_firstFit_24 : decode cX1_firstFit 24 = .ok (.getfield 63, 3) := by decide +kernel
theorem dX1_firstFit_27 : decode cX1_firstFit 27 = .ok (.iload_n 1, 1) := by decide +kernel
theorem dX1_firstFit_28 : decode cX1_firstFit 28 = .ok (.if_icmp .lt 5, 3) := by decide +kernel
theorem dX1_firstFit_31 : decode cX1_firstFit 31 = .ok (.aload_n 2, 1) := by decide +kernel
theorem dX1_firstFit_32 : decode cX1_firstFit 32 = .ok (.areturn, 1) := by decide +kernel
theorem dX1_firstFit_33 : decode cX1_firstFit 33 = .ok (.aload_n 2, 1) := by decide +kernel
theorem dX1_firstFit_34 : decode cX1_firstFit 34 = .ok (.getfield 37, 3) := by decide +kernel
theorem dX1_firstFit_37 : decode cX1_firstFit 37 = .ok (.astore_n 2, 1) := by decide +kernel
theorem dX1_firstFit_38 : decode cX1_firstFit 38 = .ok (.goto (-30), 3) := by decide +kernel
theorem dX1_firstFit_41 : decode cX1_firstFit 41 = .ok (.aconst_null, 1) := by decide +kernel
theorem dX1_firstFit_42 : decode cX1_firstFit 42 = .ok (.areturn, 1) := by decide +kernel
theorem dX1_joinFreeOnes_0 : decode cX1_joinFreeOnes 0 = .ok (.aload_n 0, 1) := by decide +kernel
theorem dX1_joinFreeOnes_1 : decode cX1_joinFreeOnes 1 = .ok (.getfield 37, 3) := by decide +kernel
theorem dX1_joinFreeOnes_4 : decode cX1_joinFreeOnes 4 = .ok (.astore_n 1, 1) := by decide +kernel
theorem dX1_joinFreeOnes_5 : decode cX1_joinFreeOnes 5 = .ok (.aload_n 1, 1) := by decide +kernel
theorem dX1_joinFreeOnes_6 : decode cX1_joinFreeOnes 6 = .ok (.ifnull 31, 3) := by decide +kernel
theorem dX1_joinFreeOnes_9 : decode cX1_joinFreeOnes 9 = .ok (.aload_n 1, 1) := by decide +kernel
theorem dX1_joinFreeOnes_10 : decode cX1_joinFreeOnes 10 = .ok (.getfield 59, 3) := by decide +kernel
theorem dX1_joinFreeOnes_13 : decode cX1_joinFreeOnes 13 = .ok (.ifnonnull 24, 3) := by decide +kernel
theorem dX1_joinFreeOnes_16 : decode cX1_joinFreeOnes 16 = .ok (.aload_n 0, 1) := by decide +kernel
theorem dX1_joinFreeOnes_17 : decode cX1_joinFreeOnes 17 = .ok (.dup, 1) := by decide +kernel
theorem dX1_joinFreeOnes_18 : decode cX1_joinFreeOnes 18 = .ok (.getfield 63, 3) := by decide +kernel
theorem dX1_joinFreeOnes_21 : decode cX1_joinFreeOnes 21 = .ok (.aload_n 1, 1) := by decide +kernel
theorem dX1_joinFreeOnes_22 : decode cX1_joinFreeOnes 22 = .ok (.getfield 63, 3) := by decide +kernel
theorem dX1_joinFreeOnes_25 : decode cX1_joinFreeOnes 25 = .ok (.iadd, 1) := by decide +kernel
theorem dX1_joinFreeOnes_26 : decode cX1_joinFreeOnes 26 = .ok (.putfield 63, 3) := by decide +kernel
theorem dX1_joinFreeOnes_29 : decode cX1_joinFreeOnes 29 = .ok (.aload_n 1, 1) := by decide +kernel
theorem dX1_joinFreeOnes_30 : decode cX1_joinFreeOnes 30 = .ok (.getfield 37, 3) := by decide +kernel
theorem dX1_joinFreeOnes_33 : decode cX1_joinFreeOnes 33 = .ok (.astore_n 1, 1) := by decide +kernel
theorem dX1_joinFreeOnes_34 : decode cX1_joinFreeOnes 34 = .ok (.goto (-29), 3) := by decide +kernel
theorem dX1_joinFreeOnes_37 : decode cX1_joinFreeOnes 37 = .ok (.aload_n 0, 1) := by decide +kernel
theorem dX1_joinFreeOnes_38 : decode cX1_joinFreeOnes 38 = .ok (.aload_n 1, 1) := by decide +kernel
theorem dX1_joinFreeOnes_39 : decode cX1_joinFreeOnes 39 = .ok (.putfield 37, 3) := by decide +kernel
theorem dX1_joinFreeOnes_42 : decode cX1_joinFreeOnes 42 = .ok (.return_, 1) := by decide +kernel
theorem dX1_cut_0 : decode cX1_cut 0 = .ok (.aload_n 0, 1) := by decide +kernel
theorem dX1_cut_1 : decode cX1_cut 1 = .ok (.getfield 63, 3) := by decide +kernel
theorem dX1_cut_4 : decode cX1_cut 4 = .ok (.iload_n 1, 1) := by decide +kernel
theorem dX1_cut_5 : decode cX1_cut 5 = .ok (.if_icmp .le 41, 3) := by decide +kernel
theorem dX1_cut_8 : decode cX1_cut 8 = .ok (.new 28, 3) := by decide +kernel
theorem dX1_cut_11 : decode cX1_cut 11 = .ok (.dup, 1) := by decide +kernel
theorem dX1_cut_12 : decode cX1_cut 12 = .ok (.aload_n 0, 1) := by decide +kernel
theorem dX1_cut_13 : decode cX1_cut 13 = .ok (.getfield 69, 3) := by decide +kernel
theorem dX1_cut_16 : decode cX1_cut 16 = .ok (.iload_n 1, 1) := by decide +kernel
theorem dX1_cut_17 : decode cX1_cut 17 = .ok (.iadd, 1) := by decide +kernel
theorem dX1_cut_18 : decode cX1_cut 18 = .ok (.aload_n 0, 1) := by decide +kernel
theorem dX1_cut_19 : decode cX1_cut 19 = .ok (.getfield 63, 3) := by decide +kernel
theorem dX1_cut_22 : decode cX1_cut 22 = .ok (.iload_n 1, 1) := by decide +kernel
theorem dX1_cut_23 : decode cX1_cut 23 = .ok (.isub, 1) := by decide +kernel
theorem dX1_cut_24 : decode cX1_cut 24 = .ok (.invokespecial 30, 3) := by decide +kernel
theorem dX1_cut_27 : decode cX1_cut 27 = .ok (.astore_n 2, 1) := by decide +kernel
theorem dX1_cut_28 : decode cX1_cut 28 = .ok (.aload_n 2, 1) := by decide +kernel
theorem dX1_cut_29 : decode cX1_cut 29 = .ok (.aload_n 0, 1) := by decide +kernel
theorem dX1_cut_30 : decode cX1_cut 30 = .ok (.getfield 37, 3) := by decide +kernel
theorem dX1_cut_33 : decode cX1_cut 33 = .ok (.putfield 37, 3) := by decide +kernel
theorem dX1_cut_36 : decode cX1_cut 36 = .ok (.aload_n 0, 1) := by decide +kernel
theorem dX1_cut_37 : decode cX1_cut 37 = .ok (.aload_n 2, 1) := by decide +kernel
theorem dX1_cut_38 : decode cX1_cut 38 = .ok (.putfield 37, 3) := by decide +kernel
theorem dX1_cut_41 : decode cX1_cut 41 = .ok (.aload_n 0, 1) := by decide +kernel
theorem dX1_cut_42 : decode cX1_cut 42 = .ok (.iload_n 1, 1) := by decide +kernel
theorem dX1_cut_43 : decode cX1_cut 43 = .ok (.putfield 63, 3) := by decide +kernel
theorem dX1_cut_46 : decode cX1_cut 46 = .ok (.return_, 1) := by decide +kernel
theorem dX1_grow_0 : decode cX1_grow 0 = .ok (.aload_n 0, 1) := by decide +kernel
theorem dX1_grow_1 : decode cX1_grow 1 = .ok (.getfield 9, 3) := by decide +kernel
theorem dX1_grow_4 : decode cX1_grow 4 = .ok (.iload_n 1, 1) := by decide +kernel
theorem dX1_grow_5 : decode cX1_grow 5 = .ok (.iconst 2, 1) := by decide +kernel
theorem dX1_grow_6 : decode cX1_grow 6 = .ok (.aload_n 0, 1) := by decide +kernel
theorem dX1_grow_7 : decode cX1_grow 7 = .ok (.getfield 21, 3) := by decide +kernel
theorem dX1_grow_10 : decode cX1_grow 10 = .ok (.imul, 1) := by decide +kernel
theorem dX1_grow_11 : decode cX1_grow 11 = .ok (.invokestatic 99, 3) := by decide +kernel
theorem dX1_grow_14 : decode cX1_grow 14 = .ok (.invokestatic 15, 3) := by decide +kernel
theorem dX1_grow_17 : decode cX1_grow 17 = .ok (.istore_n 2, 1) := by decide +kernel
theorem dX1_grow_18 : decode cX1_grow 18 = .ok (.aload_n 0, 1) := by decide +kernel
theorem dX1_grow_19 : decode cX1_grow 19 = .ok (.getfield 33, 3) := by decide +kernel
theorem dX1_grow_22 : decode cX1_grow 22 = .ok (.astore_n 3, 1) := by decide +kernel
theorem dX1_grow_23 : decode cX1_grow 23 = .ok (.aload_n 3, 1) := by decide +kernel
theorem dX1_grow_24 : decode cX1_grow 24 = .ok (.getfield 37, 3) := by decide +kernel
theorem dX1_grow_27 : decode cX1_grow 27 = .ok (.ifnull 11, 3) := by decide +kernel
theorem dX1_grow_30 : decode cX1_grow 30 = .ok (.aload_n 3, 1) := by decide +kernel
theorem dX1_grow_31 : decode cX1_grow 31 = .ok (.getfield 37, 3) := by decide +kernel
theorem dX1_grow_34 : decode cX1_grow 34 = .ok (.astore_n 3, 1) := by decide +kernel
theorem dX1_grow_35 : decode cX1_grow 35 = .ok (.goto (-12), 3) := by decide +kernel
theorem dX1_grow_38 : decode cX1_grow 38 = .ok (.aload_n 3, 1) := by decide +kernel
theorem dX1_grow_39 : decode cX1_grow 39 = .ok (.new 28, 3) := by decide +kernel
theorem dX1_grow_42 : decode cX1_grow 42 = .ok (.dup, 1) := by decide +kernel
theorem dX1_grow_43 : decode cX1_grow 43 = .ok (.aload_n 0, 1) := by decide +kernel
theorem dX1_grow_44 : decode cX1_grow 44 = .ok (.getfield 21, 3) := by decide +kernel
theorem dX1_grow_47 : decode cX1_grow 47 = .ok (.iload_n 2, 1) := by decide +kernel
theorem dX1_grow_48 : decode cX1_grow 48 = .ok (.aload_n 0, 1) := by decide +kernel
theorem dX1_grow_49 : decode cX1_grow 49 = .ok (.getfield 21, 3) := by decide +kernel
theorem dX1_grow_52 : decode cX1_grow 52 = .ok (.isub, 1) := by decide +kernel
theorem dX1_grow_53 : decode cX1_grow 53 = .ok (.invokespecial 30, 3) := by decide +kernel
theorem dX1_grow_56 : decode cX1_grow 56 = .ok (.putfield 37, 3) := by decide +kernel
theorem dX1_grow_59 : decode cX1_grow 59 = .ok (.aload_n 0, 1) := by decide +kernel
theorem dX1_grow_60 : decode cX1_grow 60 = .ok (.aload_n 0, 1) := by decide +kernel
theorem dX1_grow_61 : decode cX1_grow 61 = .ok (.getfield 24, 3) := by decide +kernel
theorem dX1_grow_64 : decode cX1_grow 64 = .ok (.iload_n 2, 1) := by decide +kernel
theorem dX1_grow_65 : decode cX1_grow 65 = .ok (.bipush 16, 2) := by decide +kernel
theorem dX1_grow_67 : decode cX1_grow 67 = .ok (.imul, 1) := by decide +kernel
theorem dX1_grow_68 : decode cX1_grow 68 = .ok (.invokestatic 102, 3) := by decide +kernel
theorem dX1_grow_71 : decode cX1_grow 71 = .ok (.putfield 24, 3) := by decide +kernel
theorem dX1_grow_74 : decode cX1_grow 74 = .ok (.aload_n 0, 1) := by decide +kernel
theorem dX1_grow_75 : decode cX1_grow 75 = .ok (.iload_n 2, 1) := by decide +kernel
theorem dX1_grow_76 : decode cX1_grow 76 = .ok (.putfield 21, 3) := by decide +kernel
theorem dX1_grow_79 : decode cX1_grow 79 = .ok (.return_, 1) := by decide +kernel
theorem dX1_pushTogether_0 : decode cX1_pushTogether 0 = .ok (.iconst 0, 1) := by decide +kernel
theorem dX1_pushTogether_1 : decode cX1_pushTogether 1 = .ok (.istore_n 1, 1) := by decide +kernel
theorem dX1_pushTogether_2 : decode cX1_pushTogether 2 = .ok (.aload_n 0, 1) := by decide +kernel
theorem dX1_pushTogether_3 : decode cX1_pushTogether 3 = .ok (.getfield 33, 3) := by decide +kernel
theorem dX1_pushTogether_6 : decode cX1_pushTogether 6 = .ok (.astore_n 2, 1) := by decide +kernel
theorem dX1_pushTogether_7 : decode cX1_pushTogether 7 = .ok (.aload_n 0, 1) := by decide +kernel
theorem dX1_pushTogether_8 : decode cX1_pushTogether 8 = .ok (.getfield 33, 3) := by decide +kernel
theorem dX1_pushTogether_11 : decode cX1_pushTogether 11 = .ok (.getfield 37, 3) := by decide +kernel
theorem dX1_pushTogether_14 : decode cX1_pushTogether 14 = .ok (.astore_n 3, 1) := by decide +kernel
theorem dX1_pushTogether_15 : decode cX1_pushTogether 15 = .ok (.aload_n 3, 1) := by decide +kernel
theorem dX1_pushTogether_16 : decode cX1_pushTogether 16 = .ok (.ifnull 38, 3) := by decide +kernel
theorem dX1_pushTogether_19 : decode cX1_pushTogether 19 = .ok (.aload_n 3, 1) := by decide +kernel
theorem dX1_pushTogether_20 : decode cX1_pushTogether 20 = .ok (.getfield 59, 3) := by decide +kernel
theorem dX1_pushTogether_23 : decode cX1_pushTogether 23 = .ok (.ifnull 23, 3) := by decide +kernel
theorem dX1_pushTogether_26 : decode cX1_pushTogether 26 = .ok (.aload_n 0, 1) := by decide +kernel
theorem dX1_pushTogether_27 : decode cX1_pushTogether 27 = .ok (.aload_n 3, 1) := by decide +kernel
theorem dX1_pushTogether_28 : decode cX1_pushTogether 28 = .ok (.iload_n 1, 1) := by decide +kernel
theorem dX1_pushTogether_29 : decode cX1_pushTogether 29 = .ok (.invokevirtual 108, 3) := by decide +kernel
theorem dX1_pushTogether_32 : decode cX1_pushTogether 32 = .ok (.iload_n 1, 1) := by decide +kernel
theorem dX1_pushTogether_33 : decode cX1_pushTogether 33 = .ok (.aload_n 3, 1) := by decide +kernel
theorem dX1_pushTogether_34 : decode cX1_pushTogether 34 = .ok (.getfield 63, 3) := by decide +kernel
theorem dX1_pushTogether_37 : decode cX1_pushTogether 37 = .ok (.iadd, 1) := by decide +kernel
theorem dX1_pushTogether_38 : decode cX1_pushTogether 38 = .ok (.istore_n 1, 1) := by decide +kernel
theorem dX1_pushTogether_39 : decode cX1_pushTogether 39 = .ok (.aload_n 2, 1) := by decide +kernel
theorem dX1_pushTogether_40 : decode cX1_pushTogether 40 = .ok (.aload_n 3, 1) := by decide +kernel
theorem dX1_pushTogether_41 : decode cX1_pushTogether 41 = .ok (.putfield 37, 3) := by decide +kernel
theorem dX1_pushTogether_44 : decode cX1_pushTogether 44 = .ok (.aload_n 3, 1) := by decide +kernel
theorem dX1_pushTogether_45 : decode cX1_pushTogether 45 = .ok (.astore_n 2, 1) := by decide +kernel
theorem dX1_pushTogether_46 : decode cX1_pushTogether 46 = .ok (.aload_n 3, 1) := by decide +kernel
theorem dX1_pushTogether_47 : decode cX1_pushTogether 47 = .ok (.getfield 37, 3) := by decide +kernel
theorem dX1_pushTogether_50 : decode cX1_pushTogether 50 = .ok (.astore_n 3, 1) := by decide +kernel
theorem dX1_pushTogether_51 : decode cX1_pushTogether 51 = .ok (.goto (-36), 3) := by decide +kernel
theorem dX1_pushTogether_54 : decode cX1_pushTogether 54 = .ok (.new 28, 3) := by decide +kernel
theorem dX1_pushTogether_57 : decode cX1_pushTogether 57 = .ok (.dup, 1) := by decide +kernel
theorem dX1_pushTogether_58 : decode cX1_pushTogether 58 = .ok (.iload_n 1, 1) := by decide +kernel
theorem dX1_pushTogether_59 : decode cX1_pushTogether 59 = .ok (.aload_n 0, 1) := by decide +kernel
theorem dX1_pushTogether_60 : decode cX1_pushTogether 60 = .ok (.getfield 21, 3) := by decide +kernel
theorem dX1_pushTogether_63 : decode cX1_pushTogether 63 = .ok (.iload_n 1, 1) := by decide +kernel
theorem dX1_pushTogether_64 : decode cX1_pushTogether 64 = .ok (.isub, 1) := by decide +kernel
theorem dX1_pushTogether_65 : decode cX1_pushTogether 65 = .ok (.invokespecial 30, 3) := by decide +kernel
theorem dX1_pushTogether_68 : decode cX1_pushTogether 68 = .ok (.astore_n 3, 1) := by decide +kernel
theorem dX1_pushTogether_69 : decode cX1_pushTogether 69 = .ok (.aload_n 2, 1) := by decide +kernel
theorem dX1_pushTogether_70 : decode cX1_pushTogether 70 = .ok (.aload_n 3, 1) := by decide +kernel
theorem dX1_pushTogether_71 : decode cX1_pushTogether 71 = .ok (.putfield 37, 3) := by decide +kernel
theorem dX1_pushTogether_74 : decode cX1_pushTogether 74 = .ok (.aload_n 3, 1) := by decide +kernel
theorem dX1_pushTogether_75 : decode cX1_pushTogether 75 = .ok (.areturn, 1) := by decide +kernel
theorem dX1_moveTo_0 : decode cX1_moveTo 0 = .ok (.aload_n 0, 1) := by decide +kernel
theorem dX1_moveTo_1 : decode cX1_moveTo 1 = .ok (.getfield 24, 3) := by decide +kernel
theorem dX1_moveTo_4 : decode cX1_moveTo 4 = .ok (.aload_n 1, 1) := by decide +kernel
theorem dX1_moveTo_5 : decode cX1_moveTo 5 = .ok (.getfield 69, 3) := by decide +kernel
theorem dX1_moveTo_8 : decode cX1_moveTo 8 = .ok (.bipush 16, 2) := by decide +kernel
theorem dX1_moveTo_10 : decode cX1_moveTo 10 = .ok (.imul, 1) := by decide +kernel
theorem dX1_moveTo_11 : decode cX1_moveTo 11 = .ok (.aload_n 0, 1) := by decide +kernel
theorem dX1_moveTo_12 : decode cX1_moveTo 12 = .ok (.getfield 24, 3) := by decide +kernel
theorem dX1_moveTo_15 : decode cX1_moveTo 15 = .ok (.iload_n 2, 1) := by decide +kernel
theorem dX1_moveTo_16 : decode cX1_moveTo 16 = .ok (.bipush 16, 2) := by decide +kernel
theorem dX1_moveTo_18 : decode cX1_moveTo 18 = .ok (.imul, 1) := by decide +kernel
theorem dX1_moveTo_19 : decode cX1_moveTo 19 = .ok (.aload_n 1, 1) := by decide +kernel
theorem dX1_moveTo_20 : decode cX1_moveTo 20 = .ok (.getfield 63, 3) := by decide +kernel
theorem dX1_moveTo_23 : decode cX1_moveTo 23 = .ok (.bipush 16, 2) := by decide +kernel
theorem dX1_moveTo_25 : decode cX1_moveTo 25 = .ok (.imul, 1) := by decide +kernel
theorem dX1_moveTo_26 : decode cX1_moveTo 26 = .ok (.invokestatic 72, 3) := by decide +kernel
theorem dX1_moveTo_29 : decode cX1_moveTo 29 = .ok (.aload_n 1, 1) := by decide +kernel
theorem dX1_moveTo_30 : decode cX1_moveTo 30 = .ok (.iload_n 2, 1) := by decide +kernel
theorem dX1_moveTo_31 : decode cX1_moveTo 31 = .ok (.putfield 69, 3) := by decide +kernel
theorem dX1_moveTo_34 : decode cX1_moveTo 34 = .ok (.return_, 1) := by decide +kernel
theorem dX1_isSound_0 : decode cX1_isSound 0 = .ok (.iconst 0, 1) := by decide +kernel
theorem dX1_isSound_1 : decode cX1_isSound 1 = .ok (.istore_n 1, 1) := by decide +kernel
theorem dX1_isSound_2 : decode cX1_isSound 2 = .ok (.iconst 0, 1) := by decide +kernel
theorem dX1_isSound_3 : decode cX1_isSound 3 = .ok (.istore_n 2, 1) := by decide +kernel
theorem dX1_isSound_4 : decode cX1_isSound 4 = .ok (.aload_n 0, 1) := by decide +kernel
theorem dX1_isSound_5 : decode cX1_isSound 5 = .ok (.getfield 33, 3) := by decide +kernel
theorem dX1_isSound_8 : decode cX1_isSound 8 = .ok (.getfield 37, 3) := by decide +kernel
theorem dX1_isSound_11 : decode cX1_isSound 11 = .ok (.astore_n 3, 1) := by decide +kernel
theorem dX1_isSound_12 : decode cX1_isSound 12 = .ok (.aload_n 3, 1) := by decide +kernel
theorem dX1_isSound_13 : decode cX1_isSound 13 = .ok (.ifnull 54, 3) := by decide +kernel
theorem dX1_isSound_16 : decode cX1_isSound 16 = .ok (.aload_n 3, 1) := by decide +kernel
theorem dX1_isSound_17 : decode cX1_isSound 17 = .ok (.getfield 69, 3) := by decide +kernel
theorem dX1_isSound_20 : decode cX1_isSound 20 = .ok (.iload_n 1, 1) := by decide +kernel
theorem dX1_isSound_21 : decode cX1_isSound 21 = .ok (.if_icmp .ne 11, 3) := by decide +kernel
theorem dX1_isSound_24 : decode cX1_isSound 24 = .ok (.aload_n 3, 1) := by decide +kernel
theorem dX1_isSound_25 : decode cX1_isSound 25 = .ok (.getfield 63, 3) := by decide +kernel
theorem dX1_isSound_28 : decode cX1_isSound 28 = .ok (.iconst 1, 1) := by decide +kernel
theorem dX1_isSound_29 : decode cX1_isSound 29 = .ok (.if_icmp .ge 5, 3) := by decide +kernel
theorem dX1_isSound_32 : decode cX1_isSound 32 = .ok (.iconst 0, 1) := by decide +kernel
theorem dX1_isSound_33 : decode cX1_isSound 33 = .ok (.ireturn, 1) := by decide +kernel
theorem dX1_isSound_34 : decode cX1_isSound 34 = .ok (.iload_n 1, 1) := by decide +kernel
theorem dX1_isSound_35 : decode cX1_isSound 35 = .ok (.aload_n 3, 1) := by decide +kernel
theorem dX1_isSound_36 : decode cX1_isSound 36 = .ok (.getfield 63, 3) := by decide +kernel
theorem dX1_isSound_39 : decode cX1_isSound 39 = .ok (.iadd, 1) := by decide +kernel
theorem dX1_isSound_40 : decode cX1_isSound 40 = .ok (.istore_n 1, 1) := by decide +kernel
theorem dX1_isSound_41 : decode cX1_isSound 41 = .ok (.iload_n 2, 1) := by decide +kernel
theorem dX1_isSound_42 : decode cX1_isSound 42 = .ok (.aload_n 3, 1) := by decide +kernel
theorem dX1_isSound_43 : decode cX1_isSound 43 = .ok (.getfield 59, 3) := by decide +kernel
theorem dX1_isSound_46 : decode cX1_isSound 46 = .ok (.ifnonnull 7, 3) := by decide +kernel
theorem dX1_isSound_49 : decode cX1_isSound 49 = .ok (.iconst 0, 1) := by decide +kernel
theorem dX1_isSound_50 : decode cX1_isSound 50 = .ok (.goto 7, 3) := by decide +kernel
theorem dX1_isSound_53 : decode cX1_isSound 53 = .ok (.aload_n 3, 1) := by decide +kernel
theorem dX1_isSound_54 : decode cX1_isSound 54 = .ok (.getfield 63, 3) := by decide +kernel
theorem dX1_isSound_57 : decode cX1_isSound 57 = .ok (.iadd, 1) := by decide +kernel
theorem dX1_isSound_58 : decode cX1_isSound 58 = .ok (.istore_n 2, 1) := by decide +kernel
theorem dX1_isSound_59 : decode cX1_isSound 59 = .ok (.aload_n 3, 1) := by decide +kernel
theorem dX1_isSound_60 : decode cX1_isSound 60 = .ok (.getfield 37, 3) := by decide +kernel
theorem dX1_isSound_63 : decode cX1_isSound 63 = .ok (.astore_n 3, 1) := by decide +kernel
theorem dX1_isSound_64 : decode cX1_isSound 64 = .ok (.goto (-52), 3) := by decide +kernel
theorem dX1_isSound_67 : decode cX1_isSound 67 = .ok (.iload_n 1, 1) := by decide +kernel
theorem dX1_isSound_68 : decode cX1_isSound 68 = .ok (.aload_n 0, 1) := by decide +kernel
theorem dX1_isSound_69 : decode cX1_isSound 69 = .ok (.getfield 21, 3) := by decide +kernel
theorem dX1_isSound_72 : decode cX1_isSound 72 = .ok (.if_icmp .ne 41, 3) := by decide +kernel
theorem dX1_isSound_75 : decode cX1_isSound 75 = .ok (.aload_n 0, 1) := by decide +kernel
theorem dX1_isSound_76 : decode cX1_isSound 76 = .ok (.getfield 21, 3) := by decide +kernel
theorem dX1_isSound_79 : decode cX1_isSound 79 = .ok (.aload_n 0, 1) := by decide +kernel
theorem dX1_isSound_80 : decode cX1_isSound 80 = .ok (.getfield 9, 3) := by decide +kernel
theorem dX1_isSound_83 : decode cX1_isSound 83 = .ok (.if_icmp .gt 30, 3) := by decide +kernel
theorem dX1_isSound_86 : decode cX1_isSound 86 = .ok (.aload_n 0, 1) := by decide +kernel
theorem dX1_isSound_87 : decode cX1_isSound 87 = .ok (.getfield 24, 3) := by decide +kernel
theorem dX1_isSound_90 : decode cX1_isSound 90 = .ok (.arraylength, 1) := by decide +kernel
theorem dX1_isSound_91 : decode cX1_isSound 91 = .ok (.aload_n 0, 1) := by decide +kernel
theorem dX1_isSound_92 : decode cX1_isSound 92 = .ok (.getfield 21, 3) := by decide +kernel
theorem dX1_isSound_95 : decode cX1_isSound 95 = .ok (.bipush 16, 2) := by decide +kernel
theorem dX1_isSound_97 : decode cX1_isSound 97 = .ok (.imul, 1) := by decide +kernel
theorem dX1_isSound_98 : decode cX1_isSound 98 = .ok (.if_icmp .ne 15, 3) := by decide +kernel
theorem dX1_isSound_101 : decode cX1_isSound 101 = .ok (.iload_n 2, 1) := by decide +kernel
theorem dX1_isSound_102 : decode cX1_isSound 102 = .ok (.aload_n 0, 1) := by decide +kernel
theorem dX1_isSound_103 : decode cX1_isSound 103 = .ok (.getfield 44, 3) := by decide +kernel
theorem dX1_isSound_106 : decode cX1_isSound 106 = .ok (.if_icmp .ne 7, 3) := by decide +kernel
theorem dX1_isSound_109 : decode cX1_isSound 109 = .ok (.iconst 1, 1) := by decide +kernel
theorem dX1_isSound_110 : decode cX1_isSound 110 = .ok (.goto 4, 3) := by decide +kernel
theorem dX1_isSound_113 : decode cX1_isSound 113 = .ok (.iconst 0, 1) := by decide +kernel
theorem dX1_isSound_114 : decode cX1_isSound 114 = .ok (.ireturn, 1) := by decide +kernel
