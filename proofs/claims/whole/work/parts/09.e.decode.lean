/-! decode rows, by program -/
theorem dX6_init_0 : decode cX6_init 0 = .ok (.aload_n 0, 1) := by decide +kernel
theorem dX6_init_1 : decode cX6_init 1 = .ok (.invokespecial 1, 3) := by decide +kernel
theorem dX6_init_4 : decode cX6_init 4 = .ok (.aload_n 0, 1) := by decide +kernel
theorem dX6_init_5 : decode cX6_init 5 = .ok (.sipush 600, 3) := by decide +kernel
theorem dX6_init_8 : decode cX6_init 8 = .ok (.newarray .int, 2) := by decide +kernel
theorem dX6_init_10 : decode cX6_init 10 = .ok (.putfield 7, 3) := by decide +kernel
theorem dX6_init_13 : decode cX6_init 13 = .ok (.aload_n 0, 1) := by decide +kernel
theorem dX6_init_14 : decode cX6_init 14 = .ok (.sipush 512, 3) := by decide +kernel
theorem dX6_init_17 : decode cX6_init 17 = .ok (.newarray .int, 2) := by decide +kernel
theorem dX6_init_19 : decode cX6_init 19 = .ok (.putfield 13, 3) := by decide +kernel
theorem dX6_init_22 : decode cX6_init 22 = .ok (.aload_n 0, 1) := by decide +kernel
theorem dX6_init_23 : decode cX6_init 23 = .ok (.ldc 16, 2) := by decide +kernel
theorem dX6_init_25 : decode cX6_init 25 = .ok (.newarray .int, 2) := by decide +kernel
theorem dX6_init_27 : decode cX6_init 27 = .ok (.putfield 17, 3) := by decide +kernel
theorem dX6_init_30 : decode cX6_init 30 = .ok (.aload_n 0, 1) := by decide +kernel
theorem dX6_init_31 : decode cX6_init 31 = .ok (.sipush 1025, 3) := by decide +kernel
theorem dX6_init_34 : decode cX6_init 34 = .ok (.newarray .int, 2) := by decide +kernel
theorem dX6_init_36 : decode cX6_init 36 = .ok (.putfield 20, 3) := by decide +kernel
theorem dX6_init_39 : decode cX6_init 39 = .ok (.aload_n 0, 1) := by decide +kernel
theorem dX6_init_40 : decode cX6_init 40 = .ok (.sipush 1025, 3) := by decide +kernel
theorem dX6_init_43 : decode cX6_init 43 = .ok (.newarray .int, 2) := by decide +kernel
theorem dX6_init_45 : decode cX6_init 45 = .ok (.putfield 23, 3) := by decide +kernel
theorem dX6_init_48 : decode cX6_init 48 = .ok (.aload_n 0, 1) := by decide +kernel
theorem dX6_init_49 : decode cX6_init 49 = .ok (.iconst (-1), 1) := by decide +kernel
theorem dX6_init_50 : decode cX6_init 50 = .ok (.putfield 26, 3) := by decide +kernel
theorem dX6_init_53 : decode cX6_init 53 = .ok (.aload_n 0, 1) := by decide +kernel
theorem dX6_init_54 : decode cX6_init 54 = .ok (.iload_n 1, 1) := by decide +kernel
theorem dX6_init_55 : decode cX6_init 55 = .ok (.iconst 1, 1) := by decide +kernel
theorem dX6_init_56 : decode cX6_init 56 = .ok (.if_icmp .ge 7, 3) := by decide +kernel
theorem dX6_init_59 : decode cX6_init 59 = .ok (.iconst 1, 1) := by decide +kernel
theorem dX6_init_60 : decode cX6_init 60 = .ok (.goto 17, 3) := by decide +kernel
theorem dX6_init_63 : decode cX6_init 63 = .ok (.iload_n 1, 1) := by decide +kernel
theorem dX6_init_64 : decode cX6_init 64 = .ok (.sipush 1024, 3) := by decide +kernel
theorem dX6_init_67 : decode cX6_init 67 = .ok (.if_icmp .le 9, 3) := by decide +kernel
theorem dX6_init_70 : decode cX6_init 70 = .ok (.sipush 1024, 3) := by decide +kernel
theorem dX6_init_73 : decode cX6_init 73 = .ok (.goto 4, 3) := by decide +kernel
theorem dX6_init_76 : decode cX6_init 76 = .ok (.iload_n 1, 1) := by decide +kernel
theorem dX6_init_77 : decode cX6_init 77 = .ok (.putfield 30, 3) := by decide +kernel
theorem dX6_init_80 : decode cX6_init 80 = .ok (.aload_n 0, 1) := by decide +kernel
theorem dX6_init_81 : decode cX6_init 81 = .ok (.iload_n 2, 1) := by decide +kernel
theorem dX6_init_82 : decode cX6_init 82 = .ok (.iconst 1, 1) := by decide +kernel
theorem dX6_init_83 : decode cX6_init 83 = .ok (.if_icmp .ge 7, 3) := by decide +kernel
theorem dX6_init_86 : decode cX6_init 86 = .ok (.iconst 1, 1) := by decide +kernel
theorem dX6_init_87 : decode cX6_init 87 = .ok (.goto 17, 3) := by decide +kernel
theorem dX6_init_90 : decode cX6_init 90 = .ok (.iload_n 2, 1) := by decide +kernel
theorem dX6_init_91 : decode cX6_init 91 = .ok (.sipush 4096, 3) := by decide +kernel
theorem dX6_init_94 : decode cX6_init 94 = .ok (.if_icmp .le 9, 3) := by decide +kernel
theorem dX6_init_97 : decode cX6_init 97 = .ok (.sipush 4096, 3) := by decide +kernel
theorem dX6_init_100 : decode cX6_init 100 = .ok (.goto 4, 3) := by decide +kernel
theorem dX6_init_103 : decode cX6_init 103 = .ok (.iload_n 2, 1) := by decide +kernel
theorem dX6_init_104 : decode cX6_init 104 = .ok (.putfield 33, 3) := by decide +kernel
theorem dX6_init_107 : decode cX6_init 107 = .ok (.return_, 1) := by decide +kernel
theorem dX6_thrown_0 : decode cX6_thrown 0 = .ok (.aload_n 0, 1) := by decide +kernel
theorem dX6_thrown_1 : decode cX6_thrown 1 = .ok (.getfield 36, 3) := by decide +kernel
theorem dX6_thrown_4 : decode cX6_thrown 4 = .ok (.ireturn, 1) := by decide +kernel
theorem dX6_fail_0 : decode cX6_fail 0 = .ok (.aload_n 0, 1) := by decide +kernel
theorem dX6_fail_1 : decode cX6_fail 1 = .ok (.iload_n 1, 1) := by decide +kernel
theorem dX6_fail_2 : decode cX6_fail 2 = .ok (.putfield 36, 3) := by decide +kernel
theorem dX6_fail_5 : decode cX6_fail 5 = .ok (.iconst 0, 1) := by decide +kernel
theorem dX6_fail_6 : decode cX6_fail 6 = .ok (.ireturn, 1) := by decide +kernel
theorem dX6_within_0 : decode cX6_within 0 = .ok (.iload_n 0, 1) := by decide +kernel
theorem dX6_within_1 : decode cX6_within 1 = .ok (.iload_n 1, 1) := by decide +kernel
theorem dX6_within_2 : decode cX6_within 2 = .ok (.if_icmp .lt 12, 3) := by decide +kernel
theorem dX6_within_5 : decode cX6_within 5 = .ok (.iload_n 0, 1) := by decide +kernel
theorem dX6_within_6 : decode cX6_within 6 = .ok (.iload_n 2, 1) := by decide +kernel
theorem dX6_within_7 : decode cX6_within 7 = .ok (.if_icmp .gt 7, 3) := by decide +kernel
theorem dX6_within_10 : decode cX6_within 10 = .ok (.iconst 1, 1) := by decide +kernel
theorem dX6_within_11 : decode cX6_within 11 = .ok (.goto 4, 3) := by decide +kernel
theorem dX6_within_14 : decode cX6_within 14 = .ok (.iconst 0, 1) := by decide +kernel
theorem dX6_within_15 : decode cX6_within 15 = .ok (.ireturn, 1) := by decide +kernel
theorem dX6_feed_0 : decode cX6_feed 0 = .ok (.aload_n 0, 1) := by decide +kernel
theorem dX6_feed_1 : decode cX6_feed 1 = .ok (.iconst 0, 1) := by decide +kernel
theorem dX6_feed_2 : decode cX6_feed 2 = .ok (.putfield 36, 3) := by decide +kernel
theorem dX6_feed_5 : decode cX6_feed 5 = .ok (.iload_n 3, 1) := by decide +kernel
theorem dX6_feed_6 : decode cX6_feed 6 = .ok (.iconst 1, 1) := by decide +kernel
theorem dX6_feed_7 : decode cX6_feed 7 = .ok (.bipush 8, 2) := by decide +kernel
theorem dX6_feed_9 : decode cX6_feed 9 = .ok (.invokestatic 39, 3) := by decide +kernel
theorem dX6_feed_12 : decode cX6_feed 12 = .ok (.ifCond .ne 9, 3) := by decide +kernel
theorem dX6_feed_15 : decode cX6_feed 15 = .ok (.aload_n 0, 1) := by decide +kernel
theorem dX6_feed_16 : decode cX6_feed 16 = .ok (.iconst 1, 1) := by decide +kernel
theorem dX6_feed_17 : decode cX6_feed 17 = .ok (.invokevirtual 43, 3) := by decide +kernel
theorem dX6_feed_20 : decode cX6_feed 20 = .ok (.ireturn, 1) := by decide +kernel
theorem dX6_feed_21 : decode cX6_feed 21 = .ok (.aload_n 0, 1) := by decide +kernel
theorem dX6_feed_22 : decode cX6_feed 22 = .ok (.getfield 47, 3) := by decide +kernel
theorem dX6_feed_25 : decode cX6_feed 25 = .ok (.iload_n 3, 1) := by decide +kernel
theorem dX6_feed_26 : decode cX6_feed 26 = .ok (.iadd, 1) := by decide +kernel
theorem dX6_feed_27 : decode cX6_feed 27 = .ok (.sipush 600, 3) := by decide +kernel
theorem dX6_feed_30 : decode cX6_feed 30 = .ok (.if_icmp .le 9, 3) := by decide +kernel
theorem dX6_feed_33 : decode cX6_feed 33 = .ok (.aload_n 0, 1) := by decide +kernel
theorem dX6_feed_34 : decode cX6_feed 34 = .ok (.iconst 2, 1) := by decide +kernel
theorem dX6_feed_35 : decode cX6_feed 35 = .ok (.invokevirtual 43, 3) := by decide +kernel
theorem dX6_feed_38 : decode cX6_feed 38 = .ok (.ireturn, 1) := by decide +kernel
theorem dX6_feed_39 : decode cX6_feed 39 = .ok (.iconst 0, 1) := by decide +kernel
theorem dX6_feed_40 : decode cX6_feed 40 = .ok (.istore 4, 2) := by decide +kernel
theorem dX6_feed_42 : decode cX6_feed 42 = .ok (.iload 4, 2) := by decide +kernel
theorem dX6_feed_44 : decode cX6_feed 44 = .ok (.iload_n 3, 1) := by decide +kernel
theorem dX6_feed_45 : decode cX6_feed 45 = .ok (.if_icmp .ge 33, 3) := by decide +kernel
theorem dX6_feed_48 : decode cX6_feed 48 = .ok (.aload_n 0, 1) := by decide +kernel
theorem dX6_feed_49 : decode cX6_feed 49 = .ok (.getfield 7, 3) := by decide +kernel
theorem dX6_feed_52 : decode cX6_feed 52 = .ok (.aload_n 0, 1) := by decide +kernel
theorem dX6_feed_53 : decode cX6_feed 53 = .ok (.getfield 47, 3) := by decide +kernel
theorem dX6_feed_56 : decode cX6_feed 56 = .ok (.iload 4, 2) := by decide +kernel
theorem dX6_feed_58 : decode cX6_feed 58 = .ok (.iadd, 1) := by decide +kernel
theorem dX6_feed_59 : decode cX6_feed 59 = .ok (.lload_n 1, 1) := by decide +kernel
theorem dX6_feed_60 : decode cX6_feed 60 = .ok (.bipush 8, 2) := by decide +kernel
theorem dX6_feed_62 : decode cX6_feed 62 = .ok (.iload 4, 2) := by decide +kernel
theorem dX6_feed_64 : decode cX6_feed 64 = .ok (.imul, 1) := by decide +kernel
theorem dX6_feed_65 : decode cX6_feed 65 = .ok (.lshr, 1) := by decide +kernel
theorem dX6_feed_66 : decode cX6_feed 66 = .ok (.ldc2_w 50, 3) := by decide +kernel
theorem dX6_feed_69 : decode cX6_feed 69 = .ok (.land, 1) := by decide +kernel
theorem dX6_feed_70 : decode cX6_feed 70 = .ok (.l2i, 1) := by decide +kernel
theorem dX6_feed_71 : decode cX6_feed 71 = .ok (.iastore, 1) := by decide +kernel
theorem dX6_feed_72 : decode cX6_feed 72 = .ok (.iinc 4 1, 3) := by decide +kernel
theorem dX6_feed_75 : decode cX6_feed 75 = .ok (.goto (-33), 3) := by decide +kernel
theorem dX6_feed_78 : decode cX6_feed 78 = .ok (.aload_n 0, 1) := by decide +kernel
theorem dX6_feed_79 : decode cX6_feed 79 = .ok (.dup, 1) := by decide +kernel
theorem dX6_feed_80 : decode cX6_feed 80 = .ok (.getfield 47, 3) := by decide +kernel
theorem dX6_feed_83 : decode cX6_feed 83 = .ok (.iload_n 3, 1) := by decide +kernel
theorem dX6_feed_84 : decode cX6_feed 84 = .ok (.iadd, 1) := by decide +kernel
theorem dX6_feed_85 : decode cX6_feed 85 = .ok (.putfield 47, 3) := by decide +kernel
theorem dX6_feed_88 : decode cX6_feed 88 = .ok (.aload_n 0, 1) := by decide +kernel
theorem dX6_feed_89 : decode cX6_feed 89 = .ok (.getfield 47, 3) := by decide +kernel
theorem dX6_feed_92 : decode cX6_feed 92 = .ok (.ireturn, 1) := by decide +kernel
theorem dX6_taken_0 : decode cX6_taken 0 = .ok (.aload_n 0, 1) := by decide +kernel
theorem dX6_taken_1 : decode cX6_taken 1 = .ok (.getfield 47, 3) := by decide +kernel
theorem dX6_taken_4 : decode cX6_taken 4 = .ok (.istore_n 1, 1) := by decide +kernel
theorem dX6_taken_5 : decode cX6_taken 5 = .ok (.aload_n 0, 1) := by decide +kernel
theorem dX6_taken_6 : decode cX6_taken 6 = .ok (.iconst 0, 1) := by decide +kernel
theorem dX6_taken_7 : decode cX6_taken 7 = .ok (.putfield 47, 3) := by decide +kernel
theorem dX6_taken_10 : decode cX6_taken 10 = .ok (.iload_n 1, 1) := by decide +kernel
theorem dX6_taken_11 : decode cX6_taken 11 = .ok (.ireturn, 1) := by decide +kernel
theorem dX6_start_0 : decode cX6_start 0 = .ok (.iconst 0, 1) := by decide +kernel
theorem dX6_start_1 : decode cX6_start 1 = .ok (.istore_n 2, 1) := by decide +kernel
theorem dX6_start_2 : decode cX6_start 2 = .ok (.iconst 0, 1) := by decide +kernel
theorem dX6_start_3 : decode cX6_start 3 = .ok (.istore_n 3, 1) := by decide +kernel
theorem dX6_start_4 : decode cX6_start 4 = .ok (.iload_n 3, 1) := by decide +kernel
theorem dX6_start_5 : decode cX6_start 5 = .ok (.iload_n 1, 1) := by decide +kernel
theorem dX6_start_6 : decode cX6_start 6 = .ok (.if_icmp .ge 25, 3) := by decide +kernel
theorem dX6_start_9 : decode cX6_start 9 = .ok (.iload_n 2, 1) := by decide +kernel
theorem dX6_start_10 : decode cX6_start 10 = .ok (.aload_n 0, 1) := by decide +kernel
theorem dX6_start_11 : decode cX6_start 11 = .ok (.getfield 20, 3) := by decide +kernel
theorem dX6_start_14 : decode cX6_start 14 = .ok (.iload_n 3, 1) := by decide +kernel
theorem dX6_start_15 : decode cX6_start 15 = .ok (.iaload, 1) := by decide +kernel
theorem dX6_start_16 : decode cX6_start 16 = .ok (.aload_n 0, 1) := by decide +kernel
theorem dX6_start_17 : decode cX6_start 17 = .ok (.getfield 23, 3) := by decide +kernel
theorem dX6_start_20 : decode cX6_start 20 = .ok (.iload_n 3, 1) := by decide +kernel
theorem dX6_start_21 : decode cX6_start 21 = .ok (.iaload, 1) := by decide +kernel
theorem dX6_start_22 : decode cX6_start 22 = .ok (.iadd, 1) := by decide +kernel
theorem dX6_start_23 : decode cX6_start 23 = .ok (.iadd, 1) := by decide +kernel
theorem dX6_start_24 : decode cX6_start 24 = .ok (.istore_n 2, 1) := by decide +kernel
theorem dX6_start_25 : decode cX6_start 25 = .ok (.iinc 3 1, 3) := by decide +kernel
theorem dX6_start_28 : decode cX6_start 28 = .ok (.goto (-24), 3) := by decide +kernel
theorem dX6_start_31 : decode cX6_start 31 = .ok (.iload_n 2, 1) := by decide +kernel
theorem dX6_start_32 : decode cX6_start 32 = .ok (.ireturn, 1) := by decide +kernel
theorem dX6_compare_0 : decode cX6_compare 0 = .ok (.iconst 0, 1) := by decide +kernel
theorem dX6_compare_1 : decode cX6_compare 1 = .ok (.istore 4, 2) := by decide +kernel
theorem dX6_compare_3 : decode cX6_compare 3 = .ok (.iload 4, 2) := by decide +kernel
theorem dX6_compare_5 : decode cX6_compare 5 = .ok (.iload_n 3, 1) := by decide +kernel
theorem dX6_compare_6 : decode cX6_compare 6 = .ok (.if_icmp .ge 57, 3) := by decide +kernel
theorem dX6_compare_9 : decode cX6_compare 9 = .ok (.iload 4, 2) := by decide +kernel
theorem dX6_compare_11 : decode cX6_compare 11 = .ok (.aload_n 0, 1) := by decide +kernel
theorem dX6_compare_12 : decode cX6_compare 12 = .ok (.getfield 20, 3) := by decide +kernel
theorem dX6_compare_15 : decode cX6_compare 15 = .ok (.iload_n 1, 1) := by decide +kernel
theorem dX6_compare_16 : decode cX6_compare 16 = .ok (.iaload, 1) := by decide +kernel
theorem dX6_compare_17 : decode cX6_compare 17 = .ok (.if_icmp .ge 46, 3) := by decide +kernel
theorem dX6_compare_20 : decode cX6_compare 20 = .ok (.aload_n 0, 1) := by decide +kernel
theorem dX6_compare_21 : decode cX6_compare 21 = .ok (.getfield 17, 3) := by decide +kernel
theorem dX6_compare_24 : decode cX6_compare 24 = .ok (.iload_n 2, 1) := by decide +kernel
theorem dX6_compare_25 : decode cX6_compare 25 = .ok (.iload 4, 2) := by decide +kernel
theorem dX6_compare_27 : decode cX6_compare 27 = .ok (.iadd, 1) := by decide +kernel
theorem dX6_compare_28 : decode cX6_compare 28 = .ok (.iaload, 1) := by decide +kernel
theorem dX6_compare_29 : decode cX6_compare 29 = .ok (.aload_n 0, 1) := by decide +kernel
theorem dX6_compare_30 : decode cX6_compare 30 = .ok (.getfield 7, 3) := by decide +kernel
theorem dX6_compare_33 : decode cX6_compare 33 = .ok (.iload 4, 2) := by decide +kernel
theorem dX6_compare_35 : decode cX6_compare 35 = .ok (.iaload, 1) := by decide +kernel
theorem dX6_compare_36 : decode cX6_compare 36 = .ok (.if_icmp .eq 21, 3) := by decide +kernel
theorem dX6_compare_39 : decode cX6_compare 39 = .ok (.aload_n 0, 1) := by decide +kernel
theorem dX6_compare_40 : decode cX6_compare 40 = .ok (.getfield 17, 3) := by decide +kernel
theorem dX6_compare_43 : decode cX6_compare 43 = .ok (.iload_n 2, 1) := by decide +kernel
theorem dX6_compare_44 : decode cX6_compare 44 = .ok (.iload 4, 2) := by decide +kernel
theorem dX6_compare_46 : decode cX6_compare 46 = .ok (.iadd, 1) := by decide +kernel
theorem dX6_compare_47 : decode cX6_compare 47 = .ok (.iaload, 1) := by decide +kernel
theorem dX6_compare_48 : decode cX6_compare 48 = .ok (.aload_n 0, 1) := by decide +kernel
theorem dX6_compare_49 : decode cX6_compare 49 = .ok (.getfield 7, 3) := by decide +kernel
theorem dX6_compare_52 : decode cX6_compare 52 = .ok (.iload 4, 2) := by decide +kernel
theorem dX6_compare_54 : decode cX6_compare 54 = .ok (.iaload, 1) := by decide +kernel
theorem dX6_compare_55 : decode cX6_compare 55 = .ok (.isub, 1) := by decide +kernel
theorem dX6_compare_56 : decode cX6_compare 56 = .ok (.ireturn, 1) := by decide +kernel
theorem dX6_compare_57 : decode cX6_compare 57 = .ok (.iinc 4 1, 3) := by decide +kernel
theorem dX6_compare_60 : decode cX6_compare 60 = .ok (.goto (-57), 3) := by decide +kernel
theorem dX6_compare_63 : decode cX6_compare 63 = .ok (.aload_n 0, 1) := by decide +kernel
theorem dX6_compare_64 : decode cX6_compare 64 = .ok (.getfield 20, 3) := by decide +kernel
theorem dX6_compare_67 : decode cX6_compare 67 = .ok (.iload_n 1, 1) := by decide +kernel
theorem dX6_compare_68 : decode cX6_compare 68 = .ok (.iaload, 1) := by decide +kernel
theorem dX6_compare_69 : decode cX6_compare 69 = .ok (.iload_n 3, 1) := by decide +kernel
theorem dX6_compare_70 : decode cX6_compare 70 = .ok (.isub, 1) := by decide +kernel
theorem dX6_compare_71 : decode cX6_compare 71 = .ok (.ireturn, 1) := by decide +kernel
theorem dX6_below_0 : decode cX6_below 0 = .ok (.iconst 0, 1) := by decide +kernel
theorem dX6_below_1 : decode cX6_below 1 = .ok (.istore_n 3, 1) := by decide +kernel
theorem dX6_below_2 : decode cX6_below 2 = .ok (.iconst 0, 1) := by decide +kernel
theorem dX6_below_3 : decode cX6_below 3 = .ok (.istore 4, 2) := by decide +kernel
theorem dX6_below_5 : decode cX6_below 5 = .ok (.iconst 1, 1) := by decide +kernel
theorem dX6_below_6 : decode cX6_below 6 = .ok (.istore 5, 2) := by decide +kernel
theorem dX6_below_8 : decode cX6_below 8 = .ok (.iconst 0, 1) := by decide +kernel
theorem dX6_below_9 : decode cX6_below 9 = .ok (.istore 6, 2) := by decide +kernel
theorem dX6_below_11 : decode cX6_below 11 = .ok (.iload 6, 2) := by decide +kernel
theorem dX6_below_13 : decode cX6_below 13 = .ok (.aload_n 0, 1) := by decide +kernel
theorem dX6_below_14 : decode cX6_below 14 = .ok (.getfield 52, 3) := by decide +kernel
theorem dX6_below_17 : decode cX6_below 17 = .ok (.if_icmp .ge 78, 3) := by decide +kernel
theorem dX6_below_20 : decode cX6_below 20 = .ok (.iload 5, 2) := by decide +kernel
theorem dX6_below_22 : decode cX6_below 22 = .ok (.ifCond .eq 73, 3) := by decide +kernel
theorem dX6_below_25 : decode cX6_below 25 = .ok (.aload_n 0, 1) := by decide +kernel
theorem dX6_below_26 : decode cX6_below 26 = .ok (.iload 6, 2) := by decide +kernel
theorem dX6_below_28 : decode cX6_below 28 = .ok (.iload_n 3, 1) := by decide +kernel
theorem dX6_below_29 : decode cX6_below 29 = .ok (.iload_n 1, 1) := by decide +kernel
theorem dX6_below_30 : decode cX6_below 30 = .ok (.invokevirtual 55, 3) := by decide +kernel
theorem dX6_below_33 : decode cX6_below 33 = .ok (.istore 7, 2) := by decide +kernel
theorem dX6_below_35 : decode cX6_below 35 = .ok (.iload 7, 2) := by decide +kernel
theorem dX6_below_37 : decode cX6_below 37 = .ok (.ifCond .lt 12, 3) := by decide +kernel
theorem dX6_below_40 : decode cX6_below 40 = .ok (.iload 7, 2) := by decide +kernel
theorem dX6_below_42 : decode cX6_below 42 = .ok (.ifCond .ne 11, 3) := by decide +kernel
theorem dX6_below_45 : decode cX6_below 45 = .ok (.iload_n 2, 1) := by decide +kernel
theorem dX6_below_46 : decode cX6_below 46 = .ok (.ifCond .eq 7, 3) := by decide +kernel
theorem dX6_below_49 : decode cX6_below 49 = .ok (.iconst 1, 1) := by decide +kernel
theorem dX6_below_50 : decode cX6_below 50 = .ok (.goto 4, 3) := by decide +kernel
theorem dX6_below_53 : decode cX6_below 53 = .ok (.iconst 0, 1) := by decide +kernel
theorem dX6_below_54 : decode cX6_below 54 = .ok (.istore 5, 2) := by decide +kernel
theorem dX6_below_56 : decode cX6_below 56 = .ok (.iload 4, 2) := by decide +kernel
theorem dX6_below_58 : decode cX6_below 58 = .ok (.iload 5, 2) := by decide +kernel
theorem dX6_below_60 : decode cX6_below 60 = .ok (.ifCond .eq 7, 3) := by decide +kernel
theorem dX6_below_63 : decode cX6_below 63 = .ok (.iconst 1, 1) := by decide +kernel
theorem dX6_below_64 : decode cX6_below 64 = .ok (.goto 4, 3) := by decide +kernel
theorem dX6_below_67 : decode cX6_below 67 = .ok (.iconst 0, 1) := by decide +kernel
theorem dX6_below_68 : decode cX6_below 68 = .ok (.iadd, 1) := by decide +kernel
theorem dX6_below_69 : decode cX6_below 69 = .ok (.istore 4, 2) := by decide +kernel
theorem dX6_below_71 : decode cX6_below 71 = .ok (.iload_n 3, 1) := by decide +kernel
theorem dX6_below_72 : decode cX6_below 72 = .ok (.aload_n 0, 1) := by decide +kernel
theorem dX6_below_73 : decode cX6_below 73 = .ok (.getfield 20, 3) := by decide +kernel
theorem dX6_below_76 : decode cX6_below 76 = .ok (.iload 6, 2) := by decide +kernel
theorem dX6_below_78 : decode cX6_below 78 = .ok (.iaload, 1) := by decide +kernel
theorem dX6_below_79 : decode cX6_below 79 = .ok (.aload_n 0, 1) := by decide +kernel
theorem dX6_below_80 : decode cX6_below 80 = .ok (.getfield 23, 3) := by decide +kernel
theorem dX6_below_83 : decode cX6_below 83 = .ok (.iload 6, 2) := by decide +kernel
theorem dX6_below_85 : decode cX6_below 85 = .ok (.iaload, 1) := by decide +kernel
theorem dX6_below_86 : decode cX6_below 86 = .ok (.iadd, 1) := by decide +kernel
theorem dX6_below_87 : decode cX6_below 87 = .ok (.iadd, 1) := by decide +kernel
theorem dX6_below_88 : decode cX6_below 88 = .ok (.istore_n 3, 1) := by decide +kernel
theorem dX6_below_89 : decode cX6_below 89 = .ok (.iinc 6 1, 3) := by decide +kernel
theorem dX6_below_92 : decode cX6_below 92 = .ok (.goto (-81), 3) := by decide +kernel
theorem dX6_below_95 : decode cX6_below 95 = .ok (.iload 4, 2) := by decide +kernel
theorem dX6_below_97 : decode cX6_below 97 = .ok (.ireturn, 1) := by decide +kernel
theorem dX6_find_0 : decode cX6_find 0 = .ok (.aload_n 0, 1) := by decide +kernel
theorem dX6_find_1 : decode cX6_find 1 = .ok (.iload_n 1, 1) := by decide +kernel
theorem dX6_find_2 : decode cX6_find 2 = .ok (.iconst 0, 1) := by decide +kernel
theorem dX6_find_3 : decode cX6_find 3 = .ok (.invokevirtual 59, 3) := by decide +kernel
theorem dX6_find_6 : decode cX6_find 6 = .ok (.istore_n 2, 1) := by decide +kernel
theorem dX6_find_7 : decode cX6_find 7 = .ok (.iload_n 2, 1) := by decide +kernel
theorem dX6_find_8 : decode cX6_find 8 = .ok (.aload_n 0, 1) := by decide +kernel
theorem dX6_find_9 : decode cX6_find 9 = .ok (.getfield 52, 3) := by decide +kernel
theorem dX6_find_12 : decode cX6_find 12 = .ok (.if_icmp .ge 21, 3) := by decide +kernel
theorem dX6_find_15 : decode cX6_find 15 = .ok (.aload_n 0, 1) := by decide +kernel
theorem dX6_find_16 : decode cX6_find 16 = .ok (.iload_n 2, 1) := by decide +kernel
theorem dX6_find_17 : decode cX6_find 17 = .ok (.aload_n 0, 1) := by decide +kernel
theorem dX6_find_18 : decode cX6_find 18 = .ok (.iload_n 2, 1) := by decide +kernel
theorem dX6_find_19 : decode cX6_find 19 = .ok (.invokevirtual 63, 3) := by decide +kernel
theorem dX6_find_22 : decode cX6_find 22 = .ok (.iload_n 1, 1) := by decide +kernel
theorem dX6_find_23 : decode cX6_find 23 = .ok (.invokevirtual 55, 3) := by decide +kernel
theorem dX6_find_26 : decode cX6_find 26 = .ok (.ifCond .ne 7, 3) := by decide +kernel
theorem dX6_find_29 : decode cX6_find 29 = .ok (.iload_n 2, 1) := by decide +kernel
theorem dX6_find_30 : decode cX6_find 30 = .ok (.goto 4, 3) := by decide +kernel
theorem dX6_find_33 : decode cX6_find 33 = .ok (.iconst (-1), 1) := by decide +kernel
theorem dX6_find_34 : decode cX6_find 34 = .ok (.ireturn, 1) := by decide +kernel
theorem dX6_unitsOf_0 : decode cX6_unitsOf 0 = .ok (.iload_n 0, 1) := by decide +kernel
theorem dX6_unitsOf_1 : decode cX6_unitsOf 1 = .ok (.bipush 15, 2) := by decide +kernel
theorem dX6_unitsOf_3 : decode cX6_unitsOf 3 = .ok (.iadd, 1) := by decide +kernel
theorem dX6_unitsOf_4 : decode cX6_unitsOf 4 = .ok (.bipush 16, 2) := by decide +kernel
theorem dX6_unitsOf_6 : decode cX6_unitsOf 6 = .ok (.idiv, 1) := by decide +kernel
theorem dX6_unitsOf_7 : decode cX6_unitsOf 7 = .ok (.ireturn, 1) := by decide +kernel
theorem dX6_used_0 : decode cX6_used 0 = .ok (.iconst 0, 1) := by decide +kernel
theorem dX6_used_1 : decode cX6_used 1 = .ok (.istore_n 1, 1) := by decide +kernel
theorem dX6_used_2 : decode cX6_used 2 = .ok (.iconst 0, 1) := by decide +kernel
theorem dX6_used_3 : decode cX6_used 3 = .ok (.istore_n 2, 1) := by decide +kernel
theorem dX6_used_4 : decode cX6_used 4 = .ok (.iload_n 2, 1) := by decide +kernel
theorem dX6_used_5 : decode cX6_used 5 = .ok (.aload_n 0, 1) := by decide +kernel
theorem dX6_used_6 : decode cX6_used 6 = .ok (.getfield 52, 3) := by decide +kernel
theorem dX6_used_9 : decode cX6_used 9 = .ok (.if_icmp .ge 28, 3) := by decide +kernel
theorem dX6_used_12 : decode cX6_used 12 = .ok (.iload_n 1, 1) := by decide +kernel
theorem dX6_used_13 : decode cX6_used 13 = .ok (.aload_n 0, 1) := by decide +kernel
theorem dX6_used_14 : decode cX6_used 14 = .ok (.getfield 20, 3) := by decide +kernel
theorem dX6_used_17 : decode cX6_used 17 = .ok (.iload_n 2, 1) := by decide +kernel
theorem dX6_used_18 : decode cX6_used 18 = .ok (.iaload, 1) := by decide +kernel
theorem dX6_used_19 : decode cX6_used 19 = .ok (.aload_n 0, 1) := by decide +kernel
theorem dX6_used_20 : decode cX6_used 20 = .ok (.getfield 23, 3) := by decide +kernel
theorem dX6_used_23 : decode cX6_used 23 = .ok (.iload_n 2, 1) := by decide +kernel
theorem dX6_used_24 : decode cX6_used 24 = .ok (.iaload, 1) := by decide +kernel
theorem dX6_used_25 : decode cX6_used 25 = .ok (.iadd, 1) := by decide +kernel
theorem dX6_used_26 : decode cX6_used 26 = .ok (.invokestatic 66, 3) := by decide +kernel
theorem dX6_used_29 : decode cX6_used 29 = .ok (.iadd, 1) := by decide +kernel
theorem dX6_used_30 : decode cX6_used 30 = .ok (.istore_n 1, 1) := by decide +kernel
theorem dX6_used_31 : decode cX6_used 31 = .ok (.iinc 2 1, 3) := by decide +kernel
theorem dX6_used_34 : decode cX6_used 34 = .ok (.goto (-30), 3) := by decide +kernel
theorem dX6_used_37 : decode cX6_used 37 = .ok (.iload_n 1, 1) := by decide +kernel
theorem dX6_used_38 : decode cX6_used 38 = .ok (.ireturn, 1) := by decide +kernel
theorem dX6_move_0 : decode cX6_move 0 = .ok (.iload_n 2, 1) := by decide +kernel
theorem dX6_move_1 : decode cX6_move 1 = .ok (.ifCond .le 38, 3) := by decide +kernel
theorem dX6_move_4 : decode cX6_move 4 = .ok (.aload_n 0, 1) := by decide +kernel
theorem dX6_move_5 : decode cX6_move 5 = .ok (.getfield 69, 3) := by decide +kernel
theorem dX6_move_8 : decode cX6_move 8 = .ok (.iconst 1, 1) := by decide +kernel
theorem dX6_move_9 : decode cX6_move 9 = .ok (.isub, 1) := by decide +kernel
theorem dX6_move_10 : decode cX6_move 10 = .ok (.istore_n 3, 1) := by decide +kernel
theorem dX6_move_11 : decode cX6_move 11 = .ok (.iload_n 3, 1) := by decide +kernel
theorem dX6_move_12 : decode cX6_move 12 = .ok (.iload_n 1, 1) := by decide +kernel
theorem dX6_move_13 : decode cX6_move 13 = .ok (.if_icmp .lt 23, 3) := by decide +kernel
theorem dX6_move_16 : decode cX6_move 16 = .ok (.aload_n 0, 1) := by decide +kernel
theorem dX6_move_17 : decode cX6_move 17 = .ok (.getfield 17, 3) := by decide +kernel
theorem dX6_move_20 : decode cX6_move 20 = .ok (.iload_n 3, 1) := by decide +kernel
theorem dX6_move_21 : decode cX6_move 21 = .ok (.iload_n 2, 1) := by decide +kernel
theorem dX6_move_22 : decode cX6_move 22 = .ok (.iadd, 1) := by decide +kernel
theorem dX6_move_23 : decode cX6_move 23 = .ok (.aload_n 0, 1) := by decide +kernel
theorem dX6_move_24 : decode cX6_move 24 = .ok (.getfield 17, 3) := by decide +kernel
theorem dX6_move_27 : decode cX6_move 27 = .ok (.iload_n 3, 1) := by decide +kernel
theorem dX6_move_28 : decode cX6_move 28 = .ok (.iaload, 1) := by decide +kernel
theorem dX6_move_29 : decode cX6_move 29 = .ok (.iastore, 1) := by decide +kernel
theorem dX6_move_30 : decode cX6_move 30 = .ok (.iinc 3 (-1), 3) := by decide +kernel
theorem dX6_move_33 : decode cX6_move 33 = .ok (.goto (-22), 3) := by decide +kernel
theorem dX6_move_36 : decode cX6_move 36 = .ok (.goto 33, 3) := by decide +kernel
theorem dX6_move_39 : decode cX6_move 39 = .ok (.iload_n 1, 1) := by decide +kernel
theorem dX6_move_40 : decode cX6_move 40 = .ok (.istore_n 3, 1) := by decide +kernel
theorem dX6_move_41 : decode cX6_move 41 = .ok (.iload_n 3, 1) := by decide +kernel
theorem dX6_move_42 : decode cX6_move 42 = .ok (.aload_n 0, 1) := by decide +kernel
theorem dX6_move_43 : decode cX6_move 43 = .ok (.getfield 69, 3) := by decide +kernel
theorem dX6_move_46 : decode cX6_move 46 = .ok (.if_icmp .ge 23, 3) := by decide +kernel
theorem dX6_move_49 : decode cX6_move 49 = .ok (.aload_n 0, 1) := by decide +kernel
theorem dX6_move_50 : decode cX6_move 50 = .ok (.getfield 17, 3) := by decide +kernel
theorem dX6_move_53 : decode cX6_move 53 = .ok (.iload_n 3, 1) := by decide +kernel
theorem dX6_move_54 : decode cX6_move 54 = .ok (.iload_n 2, 1) := by decide +kernel
theorem dX6_move_55 : decode cX6_move 55 = .ok (.iadd, 1) := by decide +kernel
theorem dX6_move_56 : decode cX6_move 56 = .ok (.aload_n 0, 1) := by decide +kernel
theorem dX6_move_57 : decode cX6_move 57 = .ok (.getfield 17, 3) := by decide +kernel
theorem dX6_move_60 : decode cX6_move 60 = .ok (.iload_n 3, 1) := by decide +kernel
theorem dX6_move_61 : decode cX6_move 61 = .ok (.iaload, 1) := by decide +kernel
theorem dX6_move_62 : decode cX6_move 62 = .ok (.iastore, 1) := by decide +kernel
theorem dX6_move_63 : decode cX6_move 63 = .ok (.iinc 3 1, 3) := by decide +kernel
theorem dX6_move_66 : decode cX6_move 66 = .ok (.goto (-25), 3) := by decide +kernel
theorem dX6_move_69 : decode cX6_move 69 = .ok (.aload_n 0, 1) := by decide +kernel
theorem dX6_move_70 : decode cX6_move 70 = .ok (.dup, 1) := by decide +kernel
theorem dX6_move_71 : decode cX6_move 71 = .ok (.getfield 69, 3) := by decide +kernel
theorem dX6_move_74 : decode cX6_move 74 = .ok (.iload_n 2, 1) := by decide +kernel
theorem dX6_move_75 : decode cX6_move 75 = .ok (.iadd, 1) := by decide +kernel
theorem dX6_move_76 : decode cX6_move 76 = .ok (.putfield 69, 3) := by decide +kernel
theorem dX6_move_79 : decode cX6_move 79 = .ok (.return_, 1) := by decide +kernel
theorem dX6_take_0 : decode cX6_take 0 = .ok (.aload_n 0, 1) := by decide +kernel
theorem dX6_take_1 : decode cX6_take 1 = .ok (.iload_n 1, 1) := by decide +kernel
theorem dX6_take_2 : decode cX6_take 2 = .ok (.invokevirtual 63, 3) := by decide +kernel
theorem dX6_take_5 : decode cX6_take 5 = .ok (.istore_n 2, 1) := by decide +kernel
theorem dX6_take_6 : decode cX6_take 6 = .ok (.aload_n 0, 1) := by decide +kernel
theorem dX6_take_7 : decode cX6_take 7 = .ok (.getfield 20, 3) := by decide +kernel
theorem dX6_take_10 : decode cX6_take 10 = .ok (.iload_n 1, 1) := by decide +kernel
theorem dX6_take_11 : decode cX6_take 11 = .ok (.iaload, 1) := by decide +kernel
theorem dX6_take_12 : decode cX6_take 12 = .ok (.aload_n 0, 1) := by decide +kernel
theorem dX6_take_13 : decode cX6_take 13 = .ok (.getfield 23, 3) := by decide +kernel
theorem dX6_take_16 : decode cX6_take 16 = .ok (.iload_n 1, 1) := by decide +kernel
theorem dX6_take_17 : decode cX6_take 17 = .ok (.iaload, 1) := by decide +kernel
theorem dX6_take_18 : decode cX6_take 18 = .ok (.iadd, 1) := by decide +kernel
theorem dX6_take_19 : decode cX6_take 19 = .ok (.istore_n 3, 1) := by decide +kernel
theorem dX6_take_20 : decode cX6_take 20 = .ok (.aload_n 0, 1) := by decide +kernel
theorem dX6_take_21 : decode cX6_take 21 = .ok (.iload_n 2, 1) := by decide +kernel
theorem dX6_take_22 : decode cX6_take 22 = .ok (.iload_n 3, 1) := by decide +kernel
theorem dX6_take_23 : decode cX6_take 23 = .ok (.iadd, 1) := by decide +kernel
theorem dX6_take_24 : decode cX6_take 24 = .ok (.iload_n 3, 1) := by decide +kernel
theorem dX6_take_25 : decode cX6_take 25 = .ok (.ineg, 1) := by decide +kernel
theorem dX6_take_26 : decode cX6_take 26 = .ok (.invokevirtual 72, 3) := by decide +kernel
theorem dX6_take_29 : decode cX6_take 29 = .ok (.aload_n 0, 1) := by decide +kernel
theorem dX6_take_30 : decode cX6_take 30 = .ok (.dup, 1) := by decide +kernel
theorem dX6_take_31 : decode cX6_take 31 = .ok (.getfield 52, 3) := by decide +kernel
theorem dX6_take_34 : decode cX6_take 34 = .ok (.iconst 1, 1) := by decide +kernel
theorem dX6_take_35 : decode cX6_take 35 = .ok (.isub, 1) := by decide +kernel
theorem dX6_take_36 : decode cX6_take 36 = .ok (.putfield 52, 3) := by decide +kernel
theorem dX6_take_39 : decode cX6_take 39 = .ok (.iload_n 1, 1) := by decide +kernel
theorem dX6_take_40 : decode cX6_take 40 = .ok (.istore 4, 2) := by decide +kernel
theorem dX6_take_42 : decode cX6_take 42 = .ok (.iload 4, 2) := by decide +kernel
theorem dX6_take_44 : decode cX6_take 44 = .ok (.aload_n 0, 1) := by decide +kernel
theorem dX6_take_45 : decode cX6_take 45 = .ok (.getfield 52, 3) := by decide +kernel
theorem dX6_take_48 : decode cX6_take 48 = .ok (.if_icmp .ge 41, 3) := by decide +kernel
theorem dX6_take_51 : decode cX6_take 51 = .ok (.aload_n 0, 1) := by decide +kernel
theorem dX6_take_52 : decode cX6_take 52 = .ok (.getfield 20, 3) := by decide +kernel
theorem dX6_take_55 : decode cX6_take 55 = .ok (.iload 4, 2) := by decide +kernel
theorem dX6_take_57 : decode cX6_take 57 = .ok (.aload_n 0, 1) := by decide +kernel
theorem dX6_take_58 : decode cX6_take 58 = .ok (.getfield 20, 3) := by decide +kernel
theorem dX6_take_61 : decode cX6_take 61 = .ok (.iload 4, 2) := by decide +kernel
theorem dX6_take_63 : decode cX6_take 63 = .ok (.iconst 1, 1) := by decide +kernel
theorem dX6_take_64 : decode cX6_take 64 = .ok (.iadd, 1) := by decide +kernel
theorem dX6_take_65 : decode cX6_take 65 = .ok (.iaload, 1) := by decide +kernel
theorem dX6_take_66 : decode cX6_take 66 = .ok (.iastore, 1) := by decide +kernel
theorem dX6_take_67 : decode cX6_take 67 = .ok (.aload_n 0, 1) := by decide +kernel
theorem dX6_take_68 : decode cX6_take 68 = .ok (.getfield 23, 3) := by decide +kernel
theorem dX6_take_71 : decode cX6_take 71 = .ok (.iload 4, 2) := by decide +kernel
theorem dX6_take_73 : decode cX6_take 73 = .ok (.aload_n 0, 1) := by decide +kernel
theorem dX6_take_74 : decode cX6_take 74 = .ok (.getfield 23, 3) := by decide +kernel
theorem dX6_take_77 : decode cX6_take 77 = .ok (.iload 4, 2) := by decide +kernel
theorem dX6_take_79 : decode cX6_take 79 = .ok (.iconst 1, 1) := by decide +kernel
theorem dX6_take_80 : decode cX6_take 80 = .ok (.iadd, 1) := by decide +kernel
theorem dX6_take_81 : decode cX6_take 81 = .ok (.iaload, 1) := by decide +kernel
theorem dX6_take_82 : decode cX6_take 82 = .ok (.iastore, 1) := by decide +kernel
theorem dX6_take_83 : decode cX6_take 83 = .ok (.iinc 4 1, 3) := by decide +kernel
theorem dX6_take_86 : decode cX6_take 86 = .ok (.goto (-44), 3) := by decide +kernel
theorem dX6_take_89 : decode cX6_take 89 = .ok (.aload_n 0, 1) := by decide +kernel
theorem dX6_take_90 : decode cX6_take 90 = .ok (.getfield 26, 3) := by decide +kernel
theorem dX6_take_93 : decode cX6_take 93 = .ok (.iload_n 1, 1) := by decide +kernel
theorem dX6_take_94 : decode cX6_take 94 = .ok (.if_icmp .ne 11, 3) := by decide +kernel
theorem dX6_take_97 : decode cX6_take 97 = .ok (.aload_n 0, 1) := by decide +kernel
theorem dX6_take_98 : decode cX6_take 98 = .ok (.iconst (-1), 1) := by decide +kernel
theorem dX6_take_99 : decode cX6_take 99 = .ok (.putfield 26, 3) := by decide +kernel
theorem dX6_take_102 : decode cX6_take 102 = .ok (.goto 21, 3) := by decide +kernel
theorem dX6_take_105 : decode cX6_take 105 = .ok (.aload_n 0, 1) := by decide +kernel
theorem dX6_take_106 : decode cX6_take 106 = .ok (.getfield 26, 3) := by decide +kernel
theorem dX6_take_109 : decode cX6_take 109 = .ok (.iload_n 1, 1) := by decide +kernel
theorem dX6_take_110 : decode cX6_take 110 = .ok (.if_icmp .le 13, 3) := by decide +kernel
theorem dX6_take_113 : decode cX6_take 113 = .ok (.aload_n 0, 1) := by decide +kernel
theorem dX6_take_114 : decode cX6_take 114 = .ok (.dup, 1) := by decide +kernel
theorem dX6_take_115 : decode cX6_take 115 = .ok (.getfield 26, 3) := by decide +kernel
theorem dX6_take_118 : decode cX6_take 118 = .ok (.iconst 1, 1) := by decide +kernel
theorem dX6_take_119 : decode cX6_take 119 = .ok (.isub, 1) := by decide +kernel
theorem dX6_take_120 : decode cX6_take 120 = .ok (.putfield 26, 3) := by decide +kernel
theorem dX6_take_123 : decode cX6_take 123 = .ok (.return_, 1) := by decide +kernel
theorem dX6_insert_0 : decode cX6_insert 0 = .ok (.aload_n 0, 1) := by decide +kernel
theorem dX6_insert_1 : decode cX6_insert 1 = .ok (.iload_n 1, 1) := by decide +kernel
theorem dX6_insert_2 : decode cX6_insert 2 = .ok (.invokevirtual 63, 3) := by decide +kernel
theorem dX6_insert_5 : decode cX6_insert 5 = .ok (.istore 4, 2) := by decide +kernel
theorem dX6_insert_7 : decode cX6_insert 7 = .ok (.aload_n 0, 1) := by decide +kernel
theorem dX6_insert_8 : decode cX6_insert 8 = .ok (.iload 4, 2) := by decide +kernel
theorem dX6_insert_10 : decode cX6_insert 10 = .ok (.iload_n 3, 1) := by decide +kernel
theorem dX6_insert_11 : decode cX6_insert 11 = .ok (.invokevirtual 72, 3) := by decide +kernel
theorem dX6_insert_14 : decode cX6_insert 14 = .ok (.iconst 0, 1) := by decide +kernel
theorem dX6_insert_15 : decode cX6_insert 15 = .ok (.istore 5, 2) := by decide +kernel
theorem dX6_insert_17 : decode cX6_insert 17 = .ok (.iload 5, 2) := by decide +kernel
theorem dX6_insert_19 : decode cX6_insert 19 = .ok (.iload_n 3, 1) := by decide +kernel
theorem dX6_insert_20 : decode cX6_insert 20 = .ok (.if_icmp .ge 26, 3) := by decide +kernel
theorem dX6_insert_23 : decode cX6_insert 23 = .ok (.aload_n 0, 1) := by decide +kernel
theorem dX6_insert_24 : decode cX6_insert 24 = .ok (.getfield 17, 3) := by decide +kernel
theorem dX6_insert_27 : decode cX6_insert 27 = .ok (.iload 4, 2) := by decide +kernel
theorem dX6_insert_29 : decode cX6_insert 29 = .ok (.iload 5, 2) := by decide +kernel
theorem dX6_insert_31 : decode cX6_insert 31 = .ok (.iadd, 1) := by decide +kernel
theorem dX6_insert_32 : decode cX6_insert 32 = .ok (.aload_n 0, 1) := by decide +kernel
theorem dX6_insert_33 : decode cX6_insert 33 = .ok (.getfield 7, 3) := by decide +kernel
theorem dX6_insert_36 : decode cX6_insert 36 = .ok (.iload 5, 2) := by decide +kernel
theorem dX6_insert_38 : decode cX6_insert 38 = .ok (.iaload, 1) := by decide +kernel
theorem dX6_insert_39 : decode cX6_insert 39 = .ok (.iastore, 1) := by decide +kernel
theorem dX6_insert_40 : decode cX6_insert 40 = .ok (.iinc 5 1, 3) := by decide +kernel
theorem dX6_insert_43 : decode cX6_insert 43 = .ok (.goto (-26), 3) := by decide +kernel
theorem dX6_insert_46 : decode cX6_insert 46 = .ok (.aload_n 0, 1) := by decide +kernel
theorem dX6_insert_47 : decode cX6_insert 47 = .ok (.getfield 52, 3) := by decide +kernel
theorem dX6_insert_50 : decode cX6_insert 50 = .ok (.istore 5, 2) := by decide +kernel
theorem dX6_insert_52 : decode cX6_insert 52 = .ok (.iload 5, 2) := by decide +kernel
theorem dX6_insert_54 : decode cX6_insert 54 = .ok (.iload_n 1, 1) := by decide +kernel
theorem dX6_insert_55 : decode cX6_insert 55 = .ok (.if_icmp .le 41, 3) := by decide +kernel
theorem dX6_insert_58 : decode cX6_insert 58 = .ok (.aload_n 0, 1) := by decide +kernel
theorem dX6_insert_59 : decode cX6_insert 59 = .ok (.getfield 20, 3) := by decide +kernel
theorem dX6_insert_62 : decode cX6_insert 62 = .ok (.iload 5, 2) := by decide +kernel
theorem dX6_insert_64 : decode cX6_insert 64 = .ok (.aload_n 0, 1) := by decide +kernel
theorem dX6_insert_65 : decode cX6_insert 65 = .ok (.getfield 20, 3) := by decide +kernel
theorem dX6_insert_68 : decode cX6_insert 68 = .ok (.iload 5, 2) := by decide +kernel
theorem dX6_insert_70 : decode cX6_insert 70 = .ok (.iconst 1, 1) := by decide +kernel
theorem dX6_insert_71 : decode cX6_insert 71 = .ok (.isub, 1) := by decide +kernel
theorem dX6_insert_72 : decode cX6_insert 72 = .ok (.iaload, 1) := by decide +kernel
theorem dX6_insert_73 : decode cX6_insert 73 = .ok (.iastore, 1) := by decide +kernel
theorem dX6_insert_74 : decode cX6_insert 74 = .ok (.aload_n 0, 1) := by decide +kernel
theorem dX6_insert_75 : decode cX6_insert 75 = .ok (.getfield 23, 3) := by decide +kernel
theorem dX6_insert_78 : decode cX6_insert 78 = .ok (.iload 5, 2) := by decide +kernel
theorem dX6_insert_80 : decode cX6_insert 80 = .ok (.aload_n 0, 1) := by decide +kernel
theorem dX6_insert_81 : decode cX6_insert 81 = .ok (.getfield 23, 3) := by decide +kernel
theorem dX6_insert_84 : decode cX6_insert 84 = .ok (.iload 5, 2) := by decide +kernel
theorem dX6_insert_86 : decode cX6_insert 86 = .ok (.iconst 1, 1) := by decide +kernel
theorem dX6_insert_87 : decode cX6_insert 87 = .ok (.isub, 1) := by decide +kernel
theorem dX6_insert_88 : decode cX6_insert 88 = .ok (.iaload, 1) := by decide +kernel
theorem dX6_insert_89 : decode cX6_insert 89 = .ok (.iastore, 1) := by decide +kernel
theorem dX6_insert_90 : decode cX6_insert 90 = .ok (.iinc 5 (-1), 3) := by decide +kernel
theorem dX6_insert_93 : decode cX6_insert 93 = .ok (.goto (-41), 3) := by decide +kernel
theorem dX6_insert_96 : decode cX6_insert 96 = .ok (.aload_n 0, 1) := by decide +kernel
theorem dX6_insert_97 : decode cX6_insert 97 = .ok (.getfield 20, 3) := by decide +kernel
theorem dX6_insert_100 : decode cX6_insert 100 = .ok (.iload_n 1, 1) := by decide +kernel
theorem dX6_insert_101 : decode cX6_insert 101 = .ok (.iload_n 2, 1) := by decide +kernel
theorem dX6_insert_102 : decode cX6_insert 102 = .ok (.iastore, 1) := by decide +kernel
theorem dX6_insert_103 : decode cX6_insert 103 = .ok (.aload_n 0, 1) := by decide +kernel
theorem dX6_insert_104 : decode cX6_insert 104 = .ok (.getfield 23, 3) := by decide +kernel
theorem dX6_insert_107 : decode cX6_insert 107 = .ok (.iload_n 1, 1) := by decide +kernel
theorem dX6_insert_108 : decode cX6_insert 108 = .ok (.iload_n 3, 1) := by decide +kernel
theorem dX6_insert_109 : decode cX6_insert 109 = .ok (.iload_n 2, 1) := by decide +kernel
theorem dX6_insert_110 : decode cX6_insert 110 = .ok (.isub, 1) := by decide +kernel
theorem dX6_insert_111 : decode cX6_insert 111 = .ok (.iastore, 1) := by decide +kernel
theorem dX6_insert_112 : decode cX6_insert 112 = .ok (.aload_n 0, 1) := by decide +kernel
theorem dX6_insert_113 : decode cX6_insert 113 = .ok (.dup, 1) := by decide +kernel
theorem dX6_insert_114 : decode cX6_insert 114 = .ok (.getfield 52, 3) := by decide +kernel
theorem dX6_insert_117 : decode cX6_insert 117 = .ok (.iconst 1, 1) := by decide +kernel
theorem dX6_insert_118 : decode cX6_insert 118 = .ok (.iadd, 1) := by decide +kernel
theorem dX6_insert_119 : decode cX6_insert 119 = .ok (.putfield 52, 3) := by decide +kernel
theorem dX6_insert_122 : decode cX6_insert 122 = .ok (.aload_n 0, 1) := by decide +kernel
theorem dX6_insert_123 : decode cX6_insert 123 = .ok (.iload_n 1, 1) := by decide +kernel
theorem dX6_insert_124 : decode cX6_insert 124 = .ok (.putfield 26, 3) := by decide +kernel
theorem dX6_insert_127 : decode cX6_insert 127 = .ok (.return_, 1) := by decide +kernel
theorem dX6_put_0 : decode cX6_put 0 = .ok (.aload_n 0, 1) := by decide +kernel
theorem dX6_put_1 : decode cX6_put 1 = .ok (.iconst 0, 1) := by decide +kernel
theorem dX6_put_2 : decode cX6_put 2 = .ok (.putfield 36, 3) := by decide +kernel
theorem dX6_put_5 : decode cX6_put 5 = .ok (.aload_n 0, 1) := by decide +kernel
theorem dX6_put_6 : decode cX6_put 6 = .ok (.invokevirtual 76, 3) := by decide +kernel
theorem dX6_put_9 : decode cX6_put 9 = .ok (.istore_n 2, 1) := by decide +kernel
theorem dX6_put_10 : decode cX6_put 10 = .ok (.iload_n 1, 1) := by decide +kernel
theorem dX6_put_11 : decode cX6_put 11 = .ok (.iconst 1, 1) := by decide +kernel
theorem dX6_put_12 : decode cX6_put 12 = .ok (.bipush 64, 2) := by decide +kernel
theorem dX6_put_14 : decode cX6_put 14 = .ok (.invokestatic 39, 3) := by decide +kernel
theorem dX6_put_17 : decode cX6_put 17 = .ok (.ifCond .eq 16, 3) := by decide +kernel
theorem dX6_put_20 : decode cX6_put 20 = .ok (.iload_n 2, 1) := by decide +kernel
theorem dX6_put_21 : decode cX6_put 21 = .ok (.iload_n 1, 1) := by decide +kernel
theorem dX6_put_22 : decode cX6_put 22 = .ok (.isub, 1) := by decide +kernel
theorem dX6_put_23 : decode cX6_put 23 = .ok (.iconst 0, 1) := by decide +kernel
theorem dX6_put_24 : decode cX6_put 24 = .ok (.sipush 512, 3) := by decide +kernel
theorem dX6_put_27 : decode cX6_put 27 = .ok (.invokestatic 39, 3) := by decide +kernel
theorem dX6_put_30 : decode cX6_put 30 = .ok (.ifCond .ne 17, 3) := by decide +kernel
theorem dX6_put_33 : decode cX6_put 33 = .ok (.aload_n 0, 1) := by decide +kernel
theorem dX6_put_34 : decode cX6_put 34 = .ok (.iconst 1, 1) := by decide +kernel
theorem dX6_put_35 : decode cX6_put 35 = .ok (.invokevirtual 43, 3) := by decide +kernel
theorem dX6_put_38 : decode cX6_put 38 = .ok (.ifCond .le 7, 3) := by decide +kernel
theorem dX6_put_41 : decode cX6_put 41 = .ok (.iconst 1, 1) := by decide +kernel
theorem dX6_put_42 : decode cX6_put 42 = .ok (.goto 4, 3) := by decide +kernel
theorem dX6_put_45 : decode cX6_put 45 = .ok (.iconst 0, 1) := by decide +kernel
theorem dX6_put_46 : decode cX6_put 46 = .ok (.ireturn, 1) := by decide +kernel
theorem dX6_put_47 : decode cX6_put 47 = .ok (.aload_n 0, 1) := by decide +kernel
theorem dX6_put_48 : decode cX6_put 48 = .ok (.iload_n 1, 1) := by decide +kernel
theorem dX6_put_49 : decode cX6_put 49 = .ok (.invokevirtual 80, 3) := by decide +kernel
theorem dX6_put_52 : decode cX6_put 52 = .ok (.istore_n 3, 1) := by decide +kernel
theorem dX6_put_53 : decode cX6_put 53 = .ok (.iload_n 3, 1) := by decide +kernel
theorem dX6_put_54 : decode cX6_put 54 = .ok (.ifCond .ge 7, 3) := by decide +kernel
theorem dX6_put_57 : decode cX6_put 57 = .ok (.iconst 0, 1) := by decide +kernel
theorem dX6_put_58 : decode cX6_put 58 = .ok (.goto 19, 3) := by decide +kernel
theorem dX6_put_61 : decode cX6_put 61 = .ok (.aload_n 0, 1) := by decide +kernel
theorem dX6_put_62 : decode cX6_put 62 = .ok (.getfield 20, 3) := by decide +kernel
theorem dX6_put_65 : decode cX6_put 65 = .ok (.iload_n 3, 1) := by decide +kernel
theorem dX6_put_66 : decode cX6_put 66 = .ok (.iaload, 1) := by decide +kernel
theorem dX6_put_67 : decode cX6_put 67 = .ok (.aload_n 0, 1) := by decide +kernel
theorem dX6_put_68 : decode cX6_put 68 = .ok (.getfield 23, 3) := by decide +kernel
theorem dX6_put_71 : decode cX6_put 71 = .ok (.iload_n 3, 1) := by decide +kernel
theorem dX6_put_72 : decode cX6_put 72 = .ok (.iaload, 1) := by decide +kernel
theorem dX6_put_73 : decode cX6_put 73 = .ok (.iadd, 1) := by decide +kernel
theorem dX6_put_74 : decode cX6_put 74 = .ok (.invokestatic 66, 3) := by decide +kernel
theorem dX6_put_77 : decode cX6_put 77 = .ok (.istore 4, 2) := by decide +kernel
theorem dX6_put_79 : decode cX6_put 79 = .ok (.aload_n 0, 1) := by decide +kernel
theorem dX6_put_80 : decode cX6_put 80 = .ok (.invokevirtual 83, 3) := by decide +kernel
theorem dX6_put_83 : decode cX6_put 83 = .ok (.iload 4, 2) := by decide +kernel
theorem dX6_put_85 : decode cX6_put 85 = .ok (.isub, 1) := by decide +kernel
theorem dX6_put_86 : decode cX6_put 86 = .ok (.iload_n 2, 1) := by decide +kernel
theorem dX6_put_87 : decode cX6_put 87 = .ok (.invokestatic 66, 3) := by decide +kernel
theorem dX6_put_90 : decode cX6_put 90 = .ok (.iadd, 1) := by decide +kernel
theorem dX6_put_91 : decode cX6_put 91 = .ok (.aload_n 0, 1) := by decide +kernel
theorem dX6_put_92 : decode cX6_put 92 = .ok (.getfield 33, 3) := by decide +kernel
theorem dX6_put_95 : decode cX6_put 95 = .ok (.if_icmp .gt 18, 3) := by decide +kernel
theorem dX6_put_98 : decode cX6_put 98 = .ok (.iload_n 3, 1) := by decide +kernel
theorem dX6_put_99 : decode cX6_put 99 = .ok (.ifCond .ge 28, 3) := by decide +kernel
theorem dX6_put_102 : decode cX6_put 102 = .ok (.aload_n 0, 1) := by decide +kernel
theorem dX6_put_103 : decode cX6_put 103 = .ok (.getfield 52, 3) := by decide +kernel
theorem dX6_put_106 : decode cX6_put 106 = .ok (.aload_n 0, 1) := by decide +kernel
theorem dX6_put_107 : decode cX6_put 107 = .ok (.getfield 30, 3) := by decide +kernel
theorem dX6_put_110 : decode cX6_put 110 = .ok (.if_icmp .ne 17, 3) := by decide +kernel
theorem dX6_put_113 : decode cX6_put 113 = .ok (.aload_n 0, 1) := by decide +kernel
theorem dX6_put_114 : decode cX6_put 114 = .ok (.iconst 2, 1) := by decide +kernel
theorem dX6_put_115 : decode cX6_put 115 = .ok (.invokevirtual 43, 3) := by decide +kernel
theorem dX6_put_118 : decode cX6_put 118 = .ok (.ifCond .le 7, 3) := by decide +kernel
theorem dX6_put_121 : decode cX6_put 121 = .ok (.iconst 1, 1) := by decide +kernel
theorem dX6_put_122 : decode cX6_put 122 = .ok (.goto 4, 3) := by decide +kernel
theorem dX6_put_125 : decode cX6_put 125 = .ok (.iconst 0, 1) := by decide +kernel
theorem dX6_put_126 : decode cX6_put 126 = .ok (.ireturn, 1) := by decide +kernel
theorem dX6_put_127 : decode cX6_put 127 = .ok (.iload_n 3, 1) := by decide +kernel
theorem dX6_put_128 : decode cX6_put 128 = .ok (.ifCond .lt 8, 3) := by decide +kernel
theorem dX6_put_131 : decode cX6_put 131 = .ok (.aload_n 0, 1) := by decide +kernel
theorem dX6_put_132 : decode cX6_put 132 = .ok (.iload_n 3, 1) := by decide +kernel
theorem dX6_put_133 : decode cX6_put 133 = .ok (.invokevirtual 86, 3) := by decide +kernel
theorem dX6_put_136 : decode cX6_put 136 = .ok (.aload_n 0, 1) := by decide +kernel
theorem dX6_put_137 : decode cX6_put 137 = .ok (.aload_n 0, 1) := by decide +kernel
theorem dX6_put_138 : decode cX6_put 138 = .ok (.iload_n 1, 1) := by decide +kernel
theorem dX6_put_139 : decode cX6_put 139 = .ok (.iconst 0, 1) := by decide +kernel
theorem dX6_put_140 : decode cX6_put 140 = .ok (.invokevirtual 59, 3) := by decide +kernel
theorem dX6_put_143 : decode cX6_put 143 = .ok (.iload_n 1, 1) := by decide +kernel
theorem dX6_put_144 : decode cX6_put 144 = .ok (.iload_n 2, 1) := by decide +kernel
theorem dX6_put_145 : decode cX6_put 145 = .ok (.invokevirtual 90, 3) := by decide +kernel
theorem dX6_put_148 : decode cX6_put 148 = .ok (.iload_n 3, 1) := by decide +kernel
theorem dX6_put_149 : decode cX6_put 149 = .ok (.ifCond .ge 7, 3) := by decide +kernel
theorem dX6_put_152 : decode cX6_put 152 = .ok (.iconst 1, 1) := by decide +kernel
theorem dX6_put_153 : decode cX6_put 153 = .ok (.goto 4, 3) := by decide +kernel
theorem dX6_put_156 : decode cX6_put 156 = .ok (.iconst 0, 1) := by decide +kernel
theorem dX6_put_157 : decode cX6_put 157 = .ok (.ireturn, 1) := by decide +kernel
theorem dX6_told_0 : decode cX6_told 0 = .ok (.aload_n 0, 1) := by decide +kernel
theorem dX6_told_1 : decode cX6_told 1 = .ok (.iload_n 1, 1) := by decide +kernel
theorem dX6_told_2 : decode cX6_told 2 = .ok (.invokevirtual 63, 3) := by decide +kernel
theorem dX6_told_5 : decode cX6_told 5 = .ok (.iload_n 2, 1) := by decide +kernel
theorem dX6_told_6 : decode cX6_told 6 = .ok (.ifCond .eq 12, 3) := by decide +kernel
theorem dX6_told_9 : decode cX6_told 9 = .ok (.aload_n 0, 1) := by decide +kernel
theorem dX6_told_10 : decode cX6_told 10 = .ok (.getfield 20, 3) := by decide +kernel
theorem dX6_told_13 : decode cX6_told 13 = .ok (.iload_n 1, 1) := by decide +kernel
theorem dX6_told_14 : decode cX6_told 14 = .ok (.iaload, 1) := by decide +kernel
theorem dX6_told_15 : decode cX6_told 15 = .ok (.goto 4, 3) := by decide +kernel
theorem dX6_told_18 : decode cX6_told 18 = .ok (.iconst 0, 1) := by decide +kernel
theorem dX6_told_19 : decode cX6_told 19 = .ok (.iadd, 1) := by decide +kernel
theorem dX6_told_20 : decode cX6_told 20 = .ok (.istore_n 3, 1) := by decide +kernel
theorem dX6_told_21 : decode cX6_told 21 = .ok (.aload_n 0, 1) := by decide +kernel
theorem dX6_told_22 : decode cX6_told 22 = .ok (.iload_n 2, 1) := by decide +kernel
theorem dX6_told_23 : decode cX6_told 23 = .ok (.ifCond .eq 12, 3) := by decide +kernel
theorem dX6_told_26 : decode cX6_told 26 = .ok (.aload_n 0, 1) := by decide +kernel
theorem dX6_told_27 : decode cX6_told 27 = .ok (.getfield 23, 3) := by decide +kernel
theorem dX6_told_30 : decode cX6_told 30 = .ok (.iload_n 1, 1) := by decide +kernel
theorem dX6_told_31 : decode cX6_told 31 = .ok (.iaload, 1) := by decide +kernel
theorem dX6_told_32 : decode cX6_told 32 = .ok (.goto 9, 3) := by decide +kernel
theorem dX6_told_35 : decode cX6_told 35 = .ok (.aload_n 0, 1) := by decide +kernel
theorem dX6_told_36 : decode cX6_told 36 = .ok (.getfield 20, 3) := by decide +kernel
theorem dX6_told_39 : decode cX6_told 39 = .ok (.iload_n 1, 1) := by decide +kernel
theorem dX6_told_40 : decode cX6_told 40 = .ok (.iaload, 1) := by decide +kernel
theorem dX6_told_41 : decode cX6_told 41 = .ok (.putfield 94, 3) := by decide +kernel
theorem dX6_told_44 : decode cX6_told 44 = .ok (.iconst 0, 1) := by decide +kernel
theorem dX6_told_45 : decode cX6_told 45 = .ok (.istore 4, 2) := by decide +kernel
theorem dX6_told_47 : decode cX6_told 47 = .ok (.iload 4, 2) := by decide +kernel
theorem dX6_told_49 : decode cX6_told 49 = .ok (.aload_n 0, 1) := by decide +kernel
theorem dX6_told_50 : decode cX6_told 50 = .ok (.getfield 94, 3) := by decide +kernel
theorem dX6_told_53 : decode cX6_told 53 = .ok (.if_icmp .ge 25, 3) := by decide +kernel
theorem dX6_told_56 : decode cX6_told 56 = .ok (.aload_n 0, 1) := by decide +kernel
theorem dX6_told_57 : decode cX6_told 57 = .ok (.getfield 13, 3) := by decide +kernel
theorem dX6_told_60 : decode cX6_told 60 = .ok (.iload 4, 2) := by decide +kernel
theorem dX6_told_62 : decode cX6_told 62 = .ok (.aload_n 0, 1) := by decide +kernel
theorem dX6_told_63 : decode cX6_told 63 = .ok (.getfield 17, 3) := by decide +kernel
theorem dX6_told_66 : decode cX6_told 66 = .ok (.iload_n 3, 1) := by decide +kernel
theorem dX6_told_67 : decode cX6_told 67 = .ok (.iload 4, 2) := by decide +kernel
theorem dX6_told_69 : decode cX6_told 69 = .ok (.iadd, 1) := by decide +kernel
theorem dX6_told_70 : decode cX6_told 70 = .ok (.iaload, 1) := by decide +kernel
theorem dX6_told_71 : decode cX6_told 71 = .ok (.iastore, 1) := by decide +kernel
theorem dX6_told_72 : decode cX6_told 72 = .ok (.iinc 4 1, 3) := by decide +kernel
theorem dX6_told_75 : decode cX6_told 75 = .ok (.goto (-28), 3) := by decide +kernel
theorem dX6_told_78 : decode cX6_told 78 = .ok (.aload_n 0, 1) := by decide +kernel
theorem dX6_told_79 : decode cX6_told 79 = .ok (.iload_n 1, 1) := by decide +kernel
theorem dX6_told_80 : decode cX6_told 80 = .ok (.putfield 26, 3) := by decide +kernel
theorem dX6_told_83 : decode cX6_told 83 = .ok (.aload_n 0, 1) := by decide +kernel
theorem dX6_told_84 : decode cX6_told 84 = .ok (.getfield 94, 3) := by decide +kernel
theorem dX6_told_87 : decode cX6_told 87 = .ok (.ireturn, 1) := by decide +kernel
theorem dX6_get_0 : decode cX6_get 0 = .ok (.aload_n 0, 1) := by decide +kernel
theorem dX6_get_1 : decode cX6_get 1 = .ok (.iconst 0, 1) := by decide +kernel
theorem dX6_get_2 : decode cX6_get 2 = .ok (.putfield 36, 3) := by decide +kernel
theorem dX6_get_5 : decode cX6_get 5 = .ok (.aload_n 0, 1) := by decide +kernel
theorem dX6_get_6 : decode cX6_get 6 = .ok (.invokevirtual 76, 3) := by decide +kernel
theorem dX6_get_9 : decode cX6_get 9 = .ok (.istore_n 1, 1) := by decide +kernel
theorem dX6_get_10 : decode cX6_get 10 = .ok (.iload_n 1, 1) := by decide +kernel
theorem dX6_get_11 : decode cX6_get 11 = .ok (.iconst 1, 1) := by decide +kernel
theorem dX6_get_12 : decode cX6_get 12 = .ok (.bipush 64, 2) := by decide +kernel
theorem dX6_get_14 : decode cX6_get 14 = .ok (.invokestatic 39, 3) := by decide +kernel
theorem dX6_get_17 : decode cX6_get 17 = .ok (.ifCond .ne 9, 3) := by decide +kernel
theorem dX6_get_20 : decode cX6_get 20 = .ok (.aload_n 0, 1) := by decide +kernel
theorem dX6_get_21 : decode cX6_get 21 = .ok (.iconst 1, 1) := by decide +kernel
theorem dX6_get_22 : decode cX6_get 22 = .ok (.invokevirtual 43, 3) := by decide +kernel
theorem dX6_get_25 : decode cX6_get 25 = .ok (.ireturn, 1) := by decide +kernel
theorem dX6_get_26 : decode cX6_get 26 = .ok (.aload_n 0, 1) := by decide +kernel
theorem dX6_get_27 : decode cX6_get 27 = .ok (.iload_n 1, 1) := by decide +kernel
theorem dX6_get_28 : decode cX6_get 28 = .ok (.invokevirtual 80, 3) := by decide +kernel
theorem dX6_get_31 : decode cX6_get 31 = .ok (.istore_n 2, 1) := by decide +kernel
theorem dX6_get_32 : decode cX6_get 32 = .ok (.iload_n 2, 1) := by decide +kernel
theorem dX6_get_33 : decode cX6_get 33 = .ok (.ifCond .ge 11, 3) := by decide +kernel
theorem dX6_get_36 : decode cX6_get 36 = .ok (.aload_n 0, 1) := by decide +kernel
theorem dX6_get_37 : decode cX6_get 37 = .ok (.iconst 2, 1) := by decide +kernel
theorem dX6_get_38 : decode cX6_get 38 = .ok (.invokevirtual 43, 3) := by decide +kernel
theorem dX6_get_41 : decode cX6_get 41 = .ok (.goto 9, 3) := by decide +kernel
theorem dX6_get_44 : decode cX6_get 44 = .ok (.aload_n 0, 1) := by decide +kernel
theorem dX6_get_45 : decode cX6_get 45 = .ok (.iload_n 2, 1) := by decide +kernel
theorem dX6_get_46 : decode cX6_get 46 = .ok (.iconst 1, 1) := by decide +kernel
theorem dX6_get_47 : decode cX6_get 47 = .ok (.invokevirtual 97, 3) := by decide +kernel
theorem dX6_get_50 : decode cX6_get 50 = .ok (.ireturn, 1) := by decide +kernel
theorem dX6_remove_0 : decode cX6_remove 0 = .ok (.aload_n 0, 1) := by decide +kernel
theorem dX6_remove_1 : decode cX6_remove 1 = .ok (.iconst 0, 1) := by decide +kernel
theorem dX6_remove_2 : decode cX6_remove 2 = .ok (.putfield 36, 3) := by decide +kernel
theorem dX6_remove_5 : decode cX6_remove 5 = .ok (.aload_n 0, 1) := by decide +kernel
theorem dX6_remove_6 : decode cX6_remove 6 = .ok (.invokevirtual 76, 3) := by decide +kernel
theorem dX6_remove_9 : decode cX6_remove 9 = .ok (.istore_n 1, 1) := by decide +kernel
theorem dX6_remove_10 : decode cX6_remove 10 = .ok (.iload_n 1, 1) := by decide +kernel
theorem dX6_remove_11 : decode cX6_remove 11 = .ok (.iconst 1, 1) := by decide +kernel
theorem dX6_remove_12 : decode cX6_remove 12 = .ok (.bipush 64, 2) := by decide +kernel
theorem dX6_remove_14 : decode cX6_remove 14 = .ok (.invokestatic 39, 3) := by decide +kernel
theorem dX6_remove_17 : decode cX6_remove 17 = .ok (.ifCond .ne 17, 3) := by decide +kernel
theorem dX6_remove_20 : decode cX6_remove 20 = .ok (.aload_n 0, 1) := by decide +kernel
theorem dX6_remove_21 : decode cX6_remove 21 = .ok (.iconst 1, 1) := by decide +kernel
theorem dX6_remove_22 : decode cX6_remove 22 = .ok (.invokevirtual 43, 3) := by decide +kernel
theorem dX6_remove_25 : decode cX6_remove 25 = .ok (.ifCond .le 7, 3) := by decide +kernel
theorem dX6_remove_28 : decode cX6_remove 28 = .ok (.iconst 1, 1) := by decide +kernel
theorem dX6_remove_29 : decode cX6_remove 29 = .ok (.goto 4, 3) := by decide +kernel
theorem dX6_remove_32 : decode cX6_remove 32 = .ok (.iconst 0, 1) := by decide +kernel
theorem dX6_remove_33 : decode cX6_remove 33 = .ok (.ireturn, 1) := by decide +kernel
theorem dX6_remove_34 : decode cX6_remove 34 = .ok (.aload_n 0, 1) := by decide +kernel
theorem dX6_remove_35 : decode cX6_remove 35 = .ok (.iload_n 1, 1) := by decide +kernel
theorem dX6_remove_36 : decode cX6_remove 36 = .ok (.invokevirtual 80, 3) := by decide +kernel
theorem dX6_remove_39 : decode cX6_remove 39 = .ok (.istore_n 2, 1) := by decide +kernel
theorem dX6_remove_40 : decode cX6_remove 40 = .ok (.iload_n 2, 1) := by decide +kernel
theorem dX6_remove_41 : decode cX6_remove 41 = .ok (.ifCond .lt 8, 3) := by decide +kernel
theorem dX6_remove_44 : decode cX6_remove 44 = .ok (.aload_n 0, 1) := by decide +kernel
theorem dX6_remove_45 : decode cX6_remove 45 = .ok (.iload_n 2, 1) := by decide +kernel
theorem dX6_remove_46 : decode cX6_remove 46 = .ok (.invokevirtual 86, 3) := by decide +kernel
theorem dX6_remove_49 : decode cX6_remove 49 = .ok (.iload_n 2, 1) := by decide +kernel
theorem dX6_remove_50 : decode cX6_remove 50 = .ok (.ifCond .lt 7, 3) := by decide +kernel
theorem dX6_remove_53 : decode cX6_remove 53 = .ok (.iconst 1, 1) := by decide +kernel
theorem dX6_remove_54 : decode cX6_remove 54 = .ok (.goto 4, 3) := by decide +kernel
theorem dX6_remove_57 : decode cX6_remove 57 = .ok (.iconst 0, 1) := by decide +kernel
theorem dX6_remove_58 : decode cX6_remove 58 = .ok (.ireturn, 1) := by decide +kernel
theorem dX6_seek_0 : decode cX6_seek 0 = .ok (.aload_n 0, 1) := by decide +kernel
theorem dX6_seek_1 : decode cX6_seek 1 = .ok (.iconst 0, 1) := by decide +kernel
theorem dX6_seek_2 : decode cX6_seek 2 = .ok (.putfield 36, 3) := by decide +kernel
theorem dX6_seek_5 : decode cX6_seek 5 = .ok (.aload_n 0, 1) := by decide +kernel
theorem dX6_seek_6 : decode cX6_seek 6 = .ok (.invokevirtual 76, 3) := by decide +kernel
theorem dX6_seek_9 : decode cX6_seek 9 = .ok (.istore_n 2, 1) := by decide +kernel
theorem dX6_seek_10 : decode cX6_seek 10 = .ok (.iload_n 2, 1) := by decide +kernel
theorem dX6_seek_11 : decode cX6_seek 11 = .ok (.iconst 1, 1) := by decide +kernel
theorem dX6_seek_12 : decode cX6_seek 12 = .ok (.bipush 64, 2) := by decide +kernel
theorem dX6_seek_14 : decode cX6_seek 14 = .ok (.invokestatic 39, 3) := by decide +kernel
theorem dX6_seek_17 : decode cX6_seek 17 = .ok (.ifCond .eq 12, 3) := by decide +kernel
theorem dX6_seek_20 : decode cX6_seek 20 = .ok (.iload_n 1, 1) := by decide +kernel
theorem dX6_seek_21 : decode cX6_seek 21 = .ok (.iconst 0, 1) := by decide +kernel
theorem dX6_seek_22 : decode cX6_seek 22 = .ok (.iconst 3, 1) := by decide +kernel
theorem dX6_seek_23 : decode cX6_seek 23 = .ok (.invokestatic 39, 3) := by decide +kernel
theorem dX6_seek_26 : decode cX6_seek 26 = .ok (.ifCond .ne 9, 3) := by decide +kernel
theorem dX6_seek_29 : decode cX6_seek 29 = .ok (.aload_n 0, 1) := by decide +kernel
theorem dX6_seek_30 : decode cX6_seek 30 = .ok (.iconst 1, 1) := by decide +kernel
theorem dX6_seek_31 : decode cX6_seek 31 = .ok (.invokevirtual 43, 3) := by decide +kernel
theorem dX6_seek_34 : decode cX6_seek 34 = .ok (.ireturn, 1) := by decide +kernel
theorem dX6_seek_35 : decode cX6_seek 35 = .ok (.iload_n 1, 1) := by decide +kernel
theorem dX6_seek_36 : decode cX6_seek 36 = .ok (.ifCond .ne 12, 3) := by decide +kernel
theorem dX6_seek_39 : decode cX6_seek 39 = .ok (.aload_n 0, 1) := by decide +kernel
theorem dX6_seek_40 : decode cX6_seek 40 = .ok (.iload_n 2, 1) := by decide +kernel
theorem dX6_seek_41 : decode cX6_seek 41 = .ok (.iconst 0, 1) := by decide +kernel
theorem dX6_seek_42 : decode cX6_seek 42 = .ok (.invokevirtual 59, 3) := by decide +kernel
theorem dX6_seek_45 : decode cX6_seek 45 = .ok (.goto 41, 3) := by decide +kernel
theorem dX6_seek_48 : decode cX6_seek 48 = .ok (.iload_n 1, 1) := by decide +kernel
theorem dX6_seek_49 : decode cX6_seek 49 = .ok (.iconst 1, 1) := by decide +kernel
theorem dX6_seek_50 : decode cX6_seek 50 = .ok (.if_icmp .ne 12, 3) := by decide +kernel
theorem dX6_seek_53 : decode cX6_seek 53 = .ok (.aload_n 0, 1) := by decide +kernel
theorem dX6_seek_54 : decode cX6_seek 54 = .ok (.iload_n 2, 1) := by decide +kernel
theorem dX6_seek_55 : decode cX6_seek 55 = .ok (.iconst 1, 1) := by decide +kernel
theorem dX6_seek_56 : decode cX6_seek 56 = .ok (.invokevirtual 59, 3) := by decide +kernel
theorem dX6_seek_59 : decode cX6_seek 59 = .ok (.goto 27, 3) := by decide +kernel
theorem dX6_seek_62 : decode cX6_seek 62 = .ok (.iload_n 1, 1) := by decide +kernel
theorem dX6_seek_63 : decode cX6_seek 63 = .ok (.iconst 2, 1) := by decide +kernel
theorem dX6_seek_64 : decode cX6_seek 64 = .ok (.if_icmp .ne 14, 3) := by decide +kernel
theorem dX6_seek_67 : decode cX6_seek 67 = .ok (.aload_n 0, 1) := by decide +kernel
theorem dX6_seek_68 : decode cX6_seek 68 = .ok (.iload_n 2, 1) := by decide +kernel
theorem dX6_seek_69 : decode cX6_seek 69 = .ok (.iconst 1, 1) := by decide +kernel
theorem dX6_seek_70 : decode cX6_seek 70 = .ok (.invokevirtual 59, 3) := by decide +kernel
theorem dX6_seek_73 : decode cX6_seek 73 = .ok (.iconst 1, 1) := by decide +kernel
theorem dX6_seek_74 : decode cX6_seek 74 = .ok (.isub, 1) := by decide +kernel
theorem dX6_seek_75 : decode cX6_seek 75 = .ok (.goto 11, 3) := by decide +kernel
theorem dX6_seek_78 : decode cX6_seek 78 = .ok (.aload_n 0, 1) := by decide +kernel
theorem dX6_seek_79 : decode cX6_seek 79 = .ok (.iload_n 2, 1) := by decide +kernel
theorem dX6_seek_80 : decode cX6_seek 80 = .ok (.iconst 0, 1) := by decide +kernel
theorem dX6_seek_81 : decode cX6_seek 81 = .ok (.invokevirtual 59, 3) := by decide +kernel
theorem dX6_seek_84 : decode cX6_seek 84 = .ok (.iconst 1, 1) := by decide +kernel
theorem dX6_seek_85 : decode cX6_seek 85 = .ok (.isub, 1) := by decide +kernel
theorem dX6_seek_86 : decode cX6_seek 86 = .ok (.istore_n 3, 1) := by decide +kernel
theorem dX6_seek_87 : decode cX6_seek 87 = .ok (.iload_n 3, 1) := by decide +kernel
theorem dX6_seek_88 : decode cX6_seek 88 = .ok (.iconst 0, 1) := by decide +kernel
theorem dX6_seek_89 : decode cX6_seek 89 = .ok (.aload_n 0, 1) := by decide +kernel
theorem dX6_seek_90 : decode cX6_seek 90 = .ok (.getfield 52, 3) := by decide +kernel
theorem dX6_seek_93 : decode cX6_seek 93 = .ok (.iconst 1, 1) := by decide +kernel
theorem dX6_seek_94 : decode cX6_seek 94 = .ok (.isub, 1) := by decide +kernel
theorem dX6_seek_95 : decode cX6_seek 95 = .ok (.invokestatic 39, 3) := by decide +kernel
theorem dX6_seek_98 : decode cX6_seek 98 = .ok (.ifCond .eq 12, 3) := by decide +kernel
theorem dX6_seek_101 : decode cX6_seek 101 = .ok (.aload_n 0, 1) := by decide +kernel
theorem dX6_seek_102 : decode cX6_seek 102 = .ok (.iload_n 3, 1) := by decide +kernel
theorem dX6_seek_103 : decode cX6_seek 103 = .ok (.iconst 0, 1) := by decide +kernel
theorem dX6_seek_104 : decode cX6_seek 104 = .ok (.invokevirtual 97, 3) := by decide +kernel
theorem dX6_seek_107 : decode cX6_seek 107 = .ok (.goto 8, 3) := by decide +kernel
theorem dX6_seek_110 : decode cX6_seek 110 = .ok (.aload_n 0, 1) := by decide +kernel
theorem dX6_seek_111 : decode cX6_seek 111 = .ok (.iconst 2, 1) := by decide +kernel
theorem dX6_seek_112 : decode cX6_seek 112 = .ok (.invokevirtual 43, 3) := by decide +kernel
theorem dX6_seek_115 : decode cX6_seek 115 = .ok (.ireturn, 1) := by decide +kernel
theorem dX6_at_0 : decode cX6_at 0 = .ok (.aload_n 0, 1) := by decide +kernel
theorem dX6_at_1 : decode cX6_at 1 = .ok (.iconst 0, 1) := by decide +kernel
theorem dX6_at_2 : decode cX6_at 2 = .ok (.putfield 36, 3) := by decide +kernel
theorem dX6_at_5 : decode cX6_at 5 = .ok (.iload_n 1, 1) := by decide +kernel
theorem dX6_at_6 : decode cX6_at 6 = .ok (.iconst 0, 1) := by decide +kernel
theorem dX6_at_7 : decode cX6_at 7 = .ok (.aload_n 0, 1) := by decide +kernel
theorem dX6_at_8 : decode cX6_at 8 = .ok (.getfield 52, 3) := by decide +kernel
theorem dX6_at_11 : decode cX6_at 11 = .ok (.iconst 1, 1) := by decide +kernel
theorem dX6_at_12 : decode cX6_at 12 = .ok (.isub, 1) := by decide +kernel
theorem dX6_at_13 : decode cX6_at 13 = .ok (.invokestatic 39, 3) := by decide +kernel
theorem dX6_at_16 : decode cX6_at 16 = .ok (.ifCond .eq 12, 3) := by decide +kernel
theorem dX6_at_19 : decode cX6_at 19 = .ok (.aload_n 0, 1) := by decide +kernel
theorem dX6_at_20 : decode cX6_at 20 = .ok (.iload_n 1, 1) := by decide +kernel
theorem dX6_at_21 : decode cX6_at 21 = .ok (.iconst 0, 1) := by decide +kernel
theorem dX6_at_22 : decode cX6_at 22 = .ok (.invokevirtual 97, 3) := by decide +kernel
theorem dX6_at_25 : decode cX6_at 25 = .ok (.goto 8, 3) := by decide +kernel
theorem dX6_at_28 : decode cX6_at 28 = .ok (.aload_n 0, 1) := by decide +kernel
theorem dX6_at_29 : decode cX6_at 29 = .ok (.iconst 1, 1) := by decide +kernel
theorem dX6_at_30 : decode cX6_at 30 = .ok (.invokevirtual 43, 3) := by decide +kernel
theorem dX6_at_33 : decode cX6_at 33 = .ok (.ireturn, 1) := by decide +kernel
theorem dX6_step_0 : decode cX6_step 0 = .ok (.aload_n 0, 1) := by decide +kernel
theorem dX6_step_1 : decode cX6_step 1 = .ok (.iconst 0, 1) := by decide +kernel
theorem dX6_step_2 : decode cX6_step 2 = .ok (.putfield 36, 3) := by decide +kernel
theorem dX6_step_5 : decode cX6_step 5 = .ok (.aload_n 0, 1) := by decide +kernel
theorem dX6_step_6 : decode cX6_step 6 = .ok (.getfield 26, 3) := by decide +kernel
theorem dX6_step_9 : decode cX6_step 9 = .ok (.ifCond .ge 17, 3) := by decide +kernel
theorem dX6_step_12 : decode cX6_step 12 = .ok (.aload_n 0, 1) := by decide +kernel
theorem dX6_step_13 : decode cX6_step 13 = .ok (.iconst 1, 1) := by decide +kernel
theorem dX6_step_14 : decode cX6_step 14 = .ok (.invokevirtual 43, 3) := by decide +kernel
theorem dX6_step_17 : decode cX6_step 17 = .ok (.ifCond .le 7, 3) := by decide +kernel
theorem dX6_step_20 : decode cX6_step 20 = .ok (.iconst 1, 1) := by decide +kernel
theorem dX6_step_21 : decode cX6_step 21 = .ok (.goto 4, 3) := by decide +kernel
theorem dX6_step_24 : decode cX6_step 24 = .ok (.iconst 0, 1) := by decide +kernel
theorem dX6_step_25 : decode cX6_step 25 = .ok (.ireturn, 1) := by decide +kernel
theorem dX6_step_26 : decode cX6_step 26 = .ok (.iload_n 1, 1) := by decide +kernel
theorem dX6_step_27 : decode cX6_step 27 = .ok (.ifCond .eq 12, 3) := by decide +kernel
theorem dX6_step_30 : decode cX6_step 30 = .ok (.aload_n 0, 1) := by decide +kernel
theorem dX6_step_31 : decode cX6_step 31 = .ok (.getfield 26, 3) := by decide +kernel
theorem dX6_step_34 : decode cX6_step 34 = .ok (.iconst 1, 1) := by decide +kernel
theorem dX6_step_35 : decode cX6_step 35 = .ok (.isub, 1) := by decide +kernel
theorem dX6_step_36 : decode cX6_step 36 = .ok (.goto 9, 3) := by decide +kernel
theorem dX6_step_39 : decode cX6_step 39 = .ok (.aload_n 0, 1) := by decide +kernel
theorem dX6_step_40 : decode cX6_step 40 = .ok (.getfield 26, 3) := by decide +kernel
theorem dX6_step_43 : decode cX6_step 43 = .ok (.iconst 1, 1) := by decide +kernel
theorem dX6_step_44 : decode cX6_step 44 = .ok (.iadd, 1) := by decide +kernel
theorem dX6_step_45 : decode cX6_step 45 = .ok (.istore_n 2, 1) := by decide +kernel
theorem dX6_step_46 : decode cX6_step 46 = .ok (.iload_n 2, 1) := by decide +kernel
theorem dX6_step_47 : decode cX6_step 47 = .ok (.iconst 0, 1) := by decide +kernel
theorem dX6_step_48 : decode cX6_step 48 = .ok (.aload_n 0, 1) := by decide +kernel
theorem dX6_step_49 : decode cX6_step 49 = .ok (.getfield 52, 3) := by decide +kernel
theorem dX6_step_52 : decode cX6_step 52 = .ok (.iconst 1, 1) := by decide +kernel
theorem dX6_step_53 : decode cX6_step 53 = .ok (.isub, 1) := by decide +kernel
theorem dX6_step_54 : decode cX6_step 54 = .ok (.invokestatic 39, 3) := by decide +kernel
theorem dX6_step_57 : decode cX6_step 57 = .ok (.ifCond .ne 5, 3) := by decide +kernel
theorem dX6_step_60 : decode cX6_step 60 = .ok (.iconst 0, 1) := by decide +kernel
theorem dX6_step_61 : decode cX6_step 61 = .ok (.ireturn, 1) := by decide +kernel
theorem dX6_step_62 : decode cX6_step 62 = .ok (.aload_n 0, 1) := by decide +kernel
theorem dX6_step_63 : decode cX6_step 63 = .ok (.iload_n 2, 1) := by decide +kernel
theorem dX6_step_64 : decode cX6_step 64 = .ok (.iconst 0, 1) := by decide +kernel
theorem dX6_step_65 : decode cX6_step 65 = .ok (.invokevirtual 97, 3) := by decide +kernel
theorem dX6_step_68 : decode cX6_step 68 = .ok (.pop, 1) := by decide +kernel
theorem dX6_step_69 : decode cX6_step 69 = .ok (.iconst 1, 1) := by decide +kernel
theorem dX6_step_70 : decode cX6_step 70 = .ok (.ireturn, 1) := by decide +kernel
theorem dX6_value_0 : decode cX6_value 0 = .ok (.aload_n 0, 1) := by decide +kernel
theorem dX6_value_1 : decode cX6_value 1 = .ok (.iconst 0, 1) := by decide +kernel
theorem dX6_value_2 : decode cX6_value 2 = .ok (.putfield 36, 3) := by decide +kernel
theorem dX6_value_5 : decode cX6_value 5 = .ok (.aload_n 0, 1) := by decide +kernel
theorem dX6_value_6 : decode cX6_value 6 = .ok (.getfield 26, 3) := by decide +kernel
theorem dX6_value_9 : decode cX6_value 9 = .ok (.ifCond .ge 11, 3) := by decide +kernel
theorem dX6_value_12 : decode cX6_value 12 = .ok (.aload_n 0, 1) := by decide +kernel
theorem dX6_value_13 : decode cX6_value 13 = .ok (.iconst 1, 1) := by decide +kernel
theorem dX6_value_14 : decode cX6_value 14 = .ok (.invokevirtual 43, 3) := by decide +kernel
theorem dX6_value_17 : decode cX6_value 17 = .ok (.goto 12, 3) := by decide +kernel
theorem dX6_value_20 : decode cX6_value 20 = .ok (.aload_n 0, 1) := by decide +kernel
theorem dX6_value_21 : decode cX6_value 21 = .ok (.aload_n 0, 1) := by decide +kernel
theorem dX6_value_22 : decode cX6_value 22 = .ok (.getfield 26, 3) := by decide +kernel
theorem dX6_value_25 : decode cX6_value 25 = .ok (.iconst 1, 1) := by decide +kernel
theorem dX6_value_26 : decode cX6_value 26 = .ok (.invokevirtual 97, 3) := by decide +kernel
theorem dX6_value_29 : decode cX6_value 29 = .ok (.ireturn, 1) := by decide +kernel
theorem dX6_place_0 : decode cX6_place 0 = .ok (.aload_n 0, 1) := by decide +kernel
theorem dX6_place_1 : decode cX6_place 1 = .ok (.iconst 0, 1) := by decide +kernel
theorem dX6_place_2 : decode cX6_place 2 = .ok (.putfield 36, 3) := by decide +kernel
theorem dX6_place_5 : decode cX6_place 5 = .ok (.aload_n 0, 1) := by decide +kernel
theorem dX6_place_6 : decode cX6_place 6 = .ok (.getfield 26, 3) := by decide +kernel
theorem dX6_place_9 : decode cX6_place 9 = .ok (.ifCond .ge 11, 3) := by decide +kernel
theorem dX6_place_12 : decode cX6_place 12 = .ok (.aload_n 0, 1) := by decide +kernel
theorem dX6_place_13 : decode cX6_place 13 = .ok (.iconst 1, 1) := by decide +kernel
theorem dX6_place_14 : decode cX6_place 14 = .ok (.invokevirtual 43, 3) := by decide +kernel
theorem dX6_place_17 : decode cX6_place 17 = .ok (.goto 7, 3) := by decide +kernel
theorem dX6_place_20 : decode cX6_place 20 = .ok (.aload_n 0, 1) := by decide +kernel
theorem dX6_place_21 : decode cX6_place 21 = .ok (.getfield 26, 3) := by decide +kernel
theorem dX6_place_24 : decode cX6_place 24 = .ok (.ireturn, 1) := by decide +kernel
theorem dX6_range_0 : decode cX6_range 0 = .ok (.aload_n 0, 1) := by decide +kernel
theorem dX6_range_1 : decode cX6_range 1 = .ok (.iconst 0, 1) := by decide +kernel
theorem dX6_range_2 : decode cX6_range 2 = .ok (.putfield 36, 3) := by decide +kernel
theorem dX6_range_5 : decode cX6_range 5 = .ok (.aload_n 0, 1) := by decide +kernel
theorem dX6_range_6 : decode cX6_range 6 = .ok (.invokevirtual 76, 3) := by decide +kernel
theorem dX6_range_9 : decode cX6_range 9 = .ok (.istore_n 1, 1) := by decide +kernel
theorem dX6_range_10 : decode cX6_range 10 = .ok (.iload_n 1, 1) := by decide +kernel
theorem dX6_range_11 : decode cX6_range 11 = .ok (.bipush 64, 2) := by decide +kernel
theorem dX6_range_13 : decode cX6_range 13 = .ok (.if_icmp .le 9, 3) := by decide +kernel
theorem dX6_range_16 : decode cX6_range 16 = .ok (.aload_n 0, 1) := by decide +kernel
theorem dX6_range_17 : decode cX6_range 17 = .ok (.iconst 1, 1) := by decide +kernel
theorem dX6_range_18 : decode cX6_range 18 = .ok (.invokevirtual 43, 3) := by decide +kernel
theorem dX6_range_21 : decode cX6_range 21 = .ok (.ireturn, 1) := by decide +kernel
theorem dX6_range_22 : decode cX6_range 22 = .ok (.aload_n 0, 1) := by decide +kernel
theorem dX6_range_23 : decode cX6_range 23 = .ok (.getfield 26, 3) := by decide +kernel
theorem dX6_range_26 : decode cX6_range 26 = .ok (.ifCond .ge 9, 3) := by decide +kernel
theorem dX6_range_29 : decode cX6_range 29 = .ok (.aload_n 0, 1) := by decide +kernel
theorem dX6_range_30 : decode cX6_range 30 = .ok (.iconst 2, 1) := by decide +kernel
theorem dX6_range_31 : decode cX6_range 31 = .ok (.invokevirtual 43, 3) := by decide +kernel
theorem dX6_range_34 : decode cX6_range 34 = .ok (.ireturn, 1) := by decide +kernel
theorem dX6_range_35 : decode cX6_range 35 = .ok (.iload_n 1, 1) := by decide +kernel
theorem dX6_range_36 : decode cX6_range 36 = .ok (.ifCond .ne 10, 3) := by decide +kernel
theorem dX6_range_39 : decode cX6_range 39 = .ok (.aload_n 0, 1) := by decide +kernel
theorem dX6_range_40 : decode cX6_range 40 = .ok (.getfield 52, 3) := by decide +kernel
theorem dX6_range_43 : decode cX6_range 43 = .ok (.goto 9, 3) := by decide +kernel
theorem dX6_range_46 : decode cX6_range 46 = .ok (.aload_n 0, 1) := by decide +kernel
theorem dX6_range_47 : decode cX6_range 47 = .ok (.iload_n 1, 1) := by decide +kernel
theorem dX6_range_48 : decode cX6_range 48 = .ok (.iconst 0, 1) := by decide +kernel
theorem dX6_range_49 : decode cX6_range 49 = .ok (.invokevirtual 59, 3) := by decide +kernel
theorem dX6_range_52 : decode cX6_range 52 = .ok (.istore_n 2, 1) := by decide +kernel
theorem dX6_range_53 : decode cX6_range 53 = .ok (.iload_n 2, 1) := by decide +kernel
theorem dX6_range_54 : decode cX6_range 54 = .ok (.aload_n 0, 1) := by decide +kernel
theorem dX6_range_55 : decode cX6_range 55 = .ok (.getfield 26, 3) := by decide +kernel
theorem dX6_range_58 : decode cX6_range 58 = .ok (.if_icmp .le 12, 3) := by decide +kernel
theorem dX6_range_61 : decode cX6_range 61 = .ok (.iload_n 2, 1) := by decide +kernel
theorem dX6_range_62 : decode cX6_range 62 = .ok (.aload_n 0, 1) := by decide +kernel
theorem dX6_range_63 : decode cX6_range 63 = .ok (.getfield 26, 3) := by decide +kernel
theorem dX6_range_66 : decode cX6_range 66 = .ok (.isub, 1) := by decide +kernel
theorem dX6_range_67 : decode cX6_range 67 = .ok (.goto 4, 3) := by decide +kernel
theorem dX6_range_70 : decode cX6_range 70 = .ok (.iconst 0, 1) := by decide +kernel
theorem dX6_range_71 : decode cX6_range 71 = .ok (.ireturn, 1) := by decide +kernel
theorem dX6_removeFrom_0 : decode cX6_removeFrom 0 = .ok (.aload_n 0, 1) := by decide +kernel
theorem dX6_removeFrom_1 : decode cX6_removeFrom 1 = .ok (.iconst 0, 1) := by decide +kernel
theorem dX6_removeFrom_2 : decode cX6_removeFrom 2 = .ok (.putfield 36, 3) := by decide +kernel
theorem dX6_removeFrom_5 : decode cX6_removeFrom 5 = .ok (.iload_n 1, 1) := by decide +kernel
theorem dX6_removeFrom_6 : decode cX6_removeFrom 6 = .ok (.ifCond .ge 9, 3) := by decide +kernel
theorem dX6_removeFrom_9 : decode cX6_removeFrom 9 = .ok (.aload_n 0, 1) := by decide +kernel
theorem dX6_removeFrom_10 : decode cX6_removeFrom 10 = .ok (.iconst 1, 1) := by decide +kernel
theorem dX6_removeFrom_11 : decode cX6_removeFrom 11 = .ok (.invokevirtual 43, 3) := by decide +kernel
theorem dX6_removeFrom_14 : decode cX6_removeFrom 14 = .ok (.ireturn, 1) := by decide +kernel
theorem dX6_removeFrom_15 : decode cX6_removeFrom 15 = .ok (.aload_n 0, 1) := by decide +kernel
theorem dX6_removeFrom_16 : decode cX6_removeFrom 16 = .ok (.getfield 26, 3) := by decide +kernel
theorem dX6_removeFrom_19 : decode cX6_removeFrom 19 = .ok (.ifCond .ge 9, 3) := by decide +kernel
theorem dX6_removeFrom_22 : decode cX6_removeFrom 22 = .ok (.aload_n 0, 1) := by decide +kernel
theorem dX6_removeFrom_23 : decode cX6_removeFrom 23 = .ok (.iconst 2, 1) := by decide +kernel
theorem dX6_removeFrom_24 : decode cX6_removeFrom 24 = .ok (.invokevirtual 43, 3) := by decide +kernel
theorem dX6_removeFrom_27 : decode cX6_removeFrom 27 = .ok (.ireturn, 1) := by decide +kernel
theorem dX6_removeFrom_28 : decode cX6_removeFrom 28 = .ok (.aload_n 0, 1) := by decide +kernel
theorem dX6_removeFrom_29 : decode cX6_removeFrom 29 = .ok (.getfield 26, 3) := by decide +kernel
theorem dX6_removeFrom_32 : decode cX6_removeFrom 32 = .ok (.istore_n 2, 1) := by decide +kernel
theorem dX6_removeFrom_33 : decode cX6_removeFrom 33 = .ok (.iconst 0, 1) := by decide +kernel
theorem dX6_removeFrom_34 : decode cX6_removeFrom 34 = .ok (.istore_n 3, 1) := by decide +kernel
theorem dX6_removeFrom_35 : decode cX6_removeFrom 35 = .ok (.iload_n 2, 1) := by decide +kernel
theorem dX6_removeFrom_36 : decode cX6_removeFrom 36 = .ok (.aload_n 0, 1) := by decide +kernel
theorem dX6_removeFrom_37 : decode cX6_removeFrom 37 = .ok (.getfield 52, 3) := by decide +kernel
theorem dX6_removeFrom_40 : decode cX6_removeFrom 40 = .ok (.if_icmp .ge 19, 3) := by decide +kernel
theorem dX6_removeFrom_43 : decode cX6_removeFrom 43 = .ok (.iload_n 3, 1) := by decide +kernel
theorem dX6_removeFrom_44 : decode cX6_removeFrom 44 = .ok (.iload_n 1, 1) := by decide +kernel
theorem dX6_removeFrom_45 : decode cX6_removeFrom 45 = .ok (.if_icmp .gt 14, 3) := by decide +kernel
theorem dX6_removeFrom_48 : decode cX6_removeFrom 48 = .ok (.aload_n 0, 1) := by decide +kernel
theorem dX6_removeFrom_49 : decode cX6_removeFrom 49 = .ok (.iload_n 2, 1) := by decide +kernel
theorem dX6_removeFrom_50 : decode cX6_removeFrom 50 = .ok (.invokevirtual 86, 3) := by decide +kernel
theorem dX6_removeFrom_53 : decode cX6_removeFrom 53 = .ok (.iinc 3 1, 3) := by decide +kernel
theorem dX6_removeFrom_56 : decode cX6_removeFrom 56 = .ok (.goto (-21), 3) := by decide +kernel
theorem dX6_removeFrom_59 : decode cX6_removeFrom 59 = .ok (.iload_n 3, 1) := by decide +kernel
theorem dX6_removeFrom_60 : decode cX6_removeFrom 60 = .ok (.ireturn, 1) := by decide +kernel
theorem dX6_clear_0 : decode cX6_clear 0 = .ok (.aload_n 0, 1) := by decide +kernel
theorem dX6_clear_1 : decode cX6_clear 1 = .ok (.iconst 0, 1) := by decide +kernel
theorem dX6_clear_2 : decode cX6_clear 2 = .ok (.putfield 36, 3) := by decide +kernel
theorem dX6_clear_5 : decode cX6_clear 5 = .ok (.aload_n 0, 1) := by decide +kernel
theorem dX6_clear_6 : decode cX6_clear 6 = .ok (.getfield 52, 3) := by decide +kernel
theorem dX6_clear_9 : decode cX6_clear 9 = .ok (.istore_n 1, 1) := by decide +kernel
theorem dX6_clear_10 : decode cX6_clear 10 = .ok (.aload_n 0, 1) := by decide +kernel
theorem dX6_clear_11 : decode cX6_clear 11 = .ok (.iconst 0, 1) := by decide +kernel
theorem dX6_clear_12 : decode cX6_clear 12 = .ok (.putfield 52, 3) := by decide +kernel
theorem dX6_clear_15 : decode cX6_clear 15 = .ok (.aload_n 0, 1) := by decide +kernel
theorem dX6_clear_16 : decode cX6_clear 16 = .ok (.iconst 0, 1) := by decide +kernel
theorem dX6_clear_17 : decode cX6_clear 17 = .ok (.putfield 69, 3) := by decide +kernel
theorem dX6_clear_20 : decode cX6_clear 20 = .ok (.aload_n 0, 1) := by decide +kernel
theorem dX6_clear_21 : decode cX6_clear 21 = .ok (.iconst (-1), 1) := by decide +kernel
theorem dX6_clear_22 : decode cX6_clear 22 = .ok (.putfield 26, 3) := by decide +kernel
theorem dX6_clear_25 : decode cX6_clear 25 = .ok (.iload_n 1, 1) := by decide +kernel
theorem dX6_clear_26 : decode cX6_clear 26 = .ok (.ireturn, 1) := by decide +kernel
theorem dX6_byteAt_0 : decode cX6_byteAt 0 = .ok (.aload_n 0, 1) := by decide +kernel
theorem dX6_byteAt_1 : decode cX6_byteAt 1 = .ok (.iconst 0, 1) := by decide +kernel
theorem dX6_byteAt_2 : decode cX6_byteAt 2 = .ok (.putfield 36, 3) := by decide +kernel
theorem dX6_byteAt_5 : decode cX6_byteAt 5 = .ok (.iload_n 1, 1) := by decide +kernel
theorem dX6_byteAt_6 : decode cX6_byteAt 6 = .ok (.iconst 0, 1) := by decide +kernel
theorem dX6_byteAt_7 : decode cX6_byteAt 7 = .ok (.aload_n 0, 1) := by decide +kernel
theorem dX6_byteAt_8 : decode cX6_byteAt 8 = .ok (.getfield 94, 3) := by decide +kernel
theorem dX6_byteAt_11 : decode cX6_byteAt 11 = .ok (.iconst 1, 1) := by decide +kernel
theorem dX6_byteAt_12 : decode cX6_byteAt 12 = .ok (.isub, 1) := by decide +kernel
theorem dX6_byteAt_13 : decode cX6_byteAt 13 = .ok (.invokestatic 39, 3) := by decide +kernel
theorem dX6_byteAt_16 : decode cX6_byteAt 16 = .ok (.ifCond .eq 12, 3) := by decide +kernel
theorem dX6_byteAt_19 : decode cX6_byteAt 19 = .ok (.aload_n 0, 1) := by decide +kernel
theorem dX6_byteAt_20 : decode cX6_byteAt 20 = .ok (.getfield 13, 3) := by decide +kernel
theorem dX6_byteAt_23 : decode cX6_byteAt 23 = .ok (.iload_n 1, 1) := by decide +kernel
theorem dX6_byteAt_24 : decode cX6_byteAt 24 = .ok (.iaload, 1) := by decide +kernel
theorem dX6_byteAt_25 : decode cX6_byteAt 25 = .ok (.goto 8, 3) := by decide +kernel
theorem dX6_byteAt_28 : decode cX6_byteAt 28 = .ok (.aload_n 0, 1) := by decide +kernel
theorem dX6_byteAt_29 : decode cX6_byteAt 29 = .ok (.iconst 1, 1) := by decide +kernel
theorem dX6_byteAt_30 : decode cX6_byteAt 30 = .ok (.invokevirtual 43, 3) := by decide +kernel
theorem dX6_byteAt_33 : decode cX6_byteAt 33 = .ok (.ireturn, 1) := by decide +kernel
theorem dX6_count_0 : decode cX6_count 0 = .ok (.aload_n 0, 1) := by decide +kernel
theorem dX6_count_1 : decode cX6_count 1 = .ok (.iconst 0, 1) := by decide +kernel
theorem dX6_count_2 : decode cX6_count 2 = .ok (.putfield 36, 3) := by decide +kernel
theorem dX6_count_5 : decode cX6_count 5 = .ok (.iload_n 1, 1) := by decide +kernel
theorem dX6_count_6 : decode cX6_count 6 = .ok (.iconst 0, 1) := by decide +kernel
theorem dX6_count_7 : decode cX6_count 7 = .ok (.iconst 5, 1) := by decide +kernel
theorem dX6_count_8 : decode cX6_count 8 = .ok (.invokestatic 39, 3) := by decide +kernel
theorem dX6_count_11 : decode cX6_count 11 = .ok (.ifCond .ne 5, 3) := by decide +kernel
theorem dX6_count_14 : decode cX6_count 14 = .ok (.iconst (-1), 1) := by decide +kernel
theorem dX6_count_15 : decode cX6_count 15 = .ok (.ireturn, 1) := by decide +kernel
theorem dX6_count_16 : decode cX6_count 16 = .ok (.iload_n 1, 1) := by decide +kernel
theorem dX6_count_17 : decode cX6_count 17 = .ok (.ifCond .ne 8, 3) := by decide +kernel
theorem dX6_count_20 : decode cX6_count 20 = .ok (.aload_n 0, 1) := by decide +kernel
theorem dX6_count_21 : decode cX6_count 21 = .ok (.getfield 52, 3) := by decide +kernel
theorem dX6_count_24 : decode cX6_count 24 = .ok (.ireturn, 1) := by decide +kernel
theorem dX6_count_25 : decode cX6_count 25 = .ok (.iload_n 1, 1) := by decide +kernel
theorem dX6_count_26 : decode cX6_count 26 = .ok (.iconst 1, 1) := by decide +kernel
theorem dX6_count_27 : decode cX6_count 27 = .ok (.if_icmp .ne 8, 3) := by decide +kernel
theorem dX6_count_30 : decode cX6_count 30 = .ok (.aload_n 0, 1) := by decide +kernel
theorem dX6_count_31 : decode cX6_count 31 = .ok (.invokevirtual 83, 3) := by decide +kernel
theorem dX6_count_34 : decode cX6_count 34 = .ok (.ireturn, 1) := by decide +kernel
theorem dX6_count_35 : decode cX6_count 35 = .ok (.iload_n 1, 1) := by decide +kernel
theorem dX6_count_36 : decode cX6_count 36 = .ok (.iconst 3, 1) := by decide +kernel
theorem dX6_count_37 : decode cX6_count 37 = .ok (.if_icmp .le 20, 3) := by decide +kernel
theorem dX6_count_40 : decode cX6_count 40 = .ok (.iload_n 1, 1) := by decide +kernel
theorem dX6_count_41 : decode cX6_count 41 = .ok (.iconst 4, 1) := by decide +kernel
theorem dX6_count_42 : decode cX6_count 42 = .ok (.if_icmp .ne 10, 3) := by decide +kernel
theorem dX6_count_45 : decode cX6_count 45 = .ok (.aload_n 0, 1) := by decide +kernel
theorem dX6_count_46 : decode cX6_count 46 = .ok (.getfield 47, 3) := by decide +kernel
theorem dX6_count_49 : decode cX6_count 49 = .ok (.goto 7, 3) := by decide +kernel
theorem dX6_count_52 : decode cX6_count 52 = .ok (.aload_n 0, 1) := by decide +kernel
theorem dX6_count_53 : decode cX6_count 53 = .ok (.getfield 94, 3) := by decide +kernel
theorem dX6_count_56 : decode cX6_count 56 = .ok (.ireturn, 1) := by decide +kernel
theorem dX6_count_57 : decode cX6_count 57 = .ok (.iconst 0, 1) := by decide +kernel
theorem dX6_count_58 : decode cX6_count 58 = .ok (.istore_n 2, 1) := by decide +kernel
theorem dX6_count_59 : decode cX6_count 59 = .ok (.iconst 0, 1) := by decide +kernel
theorem dX6_count_60 : decode cX6_count 60 = .ok (.istore_n 3, 1) := by decide +kernel
theorem dX6_count_61 : decode cX6_count 61 = .ok (.iload_n 3, 1) := by decide +kernel
theorem dX6_count_62 : decode cX6_count 62 = .ok (.aload_n 0, 1) := by decide +kernel
theorem dX6_count_63 : decode cX6_count 63 = .ok (.getfield 52, 3) := by decide +kernel
theorem dX6_count_66 : decode cX6_count 66 = .ok (.if_icmp .ge 32, 3) := by decide +kernel
theorem dX6_count_69 : decode cX6_count 69 = .ok (.iload_n 2, 1) := by decide +kernel
theorem dX6_count_70 : decode cX6_count 70 = .ok (.iload_n 1, 1) := by decide +kernel
theorem dX6_count_71 : decode cX6_count 71 = .ok (.iconst 2, 1) := by decide +kernel
theorem dX6_count_72 : decode cX6_count 72 = .ok (.if_icmp .ne 12, 3) := by decide +kernel
theorem dX6_count_75 : decode cX6_count 75 = .ok (.aload_n 0, 1) := by decide +kernel
theorem dX6_count_76 : decode cX6_count 76 = .ok (.getfield 20, 3) := by decide +kernel
theorem dX6_count_79 : decode cX6_count 79 = .ok (.iload_n 3, 1) := by decide +kernel
theorem dX6_count_80 : decode cX6_count 80 = .ok (.iaload, 1) := by decide +kernel
theorem dX6_count_81 : decode cX6_count 81 = .ok (.goto 9, 3) := by decide +kernel
theorem dX6_count_84 : decode cX6_count 84 = .ok (.aload_n 0, 1) := by decide +kernel
theorem dX6_count_85 : decode cX6_count 85 = .ok (.getfield 23, 3) := by decide +kernel
theorem dX6_count_88 : decode cX6_count 88 = .ok (.iload_n 3, 1) := by decide +kernel
theorem dX6_count_89 : decode cX6_count 89 = .ok (.iaload, 1) := by decide +kernel
theorem dX6_count_90 : decode cX6_count 90 = .ok (.iadd, 1) := by decide +kernel
theorem dX6_count_91 : decode cX6_count 91 = .ok (.istore_n 2, 1) := by decide +kernel
theorem dX6_count_92 : decode cX6_count 92 = .ok (.iinc 3 1, 3) := by decide +kernel
theorem dX6_count_95 : decode cX6_count 95 = .ok (.goto (-34), 3) := by decide +kernel
theorem dX6_count_98 : decode cX6_count 98 = .ok (.iload_n 2, 1) := by decide +kernel
theorem dX6_count_99 : decode cX6_count 99 = .ok (.ireturn, 1) := by decide +kernel
theorem dX6_sound_0 : decode cX6_sound 0 = .ok (.aload_n 0, 1) := by decide +kernel
theorem dX6_sound_1 : decode cX6_sound 1 = .ok (.iconst 0, 1) := by decide +kernel
theorem dX6_sound_2 : decode cX6_sound 2 = .ok (.putfield 36, 3) := by decide +kernel
theorem dX6_sound_5 : decode cX6_sound 5 = .ok (.iconst 1, 1) := by decide +kernel
theorem dX6_sound_6 : decode cX6_sound 6 = .ok (.ireturn, 1) := by decide +kernel
