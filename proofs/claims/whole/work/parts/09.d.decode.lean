/-! decode rows, by program -/
theorem dX5_init_0 : decode cX5_init 0 = .ok (.aload_n 0, 1) := by decide +kernel
theorem dX5_init_1 : decode cX5_init 1 = .ok (.invokespecial 1, 3) := by decide +kernel
theorem dX5_init_4 : decode cX5_init 4 = .ok (.aload_n 0, 1) := by decide +kernel
theorem dX5_init_5 : decode cX5_init 5 = .ok (.iload_n 1, 1) := by decide +kernel
theorem dX5_init_6 : decode cX5_init 6 = .ok (.sipush 1024, 3) := by decide +kernel
theorem dX5_init_9 : decode cX5_init 9 = .ok (.invokestatic 9, 3) := by decide +kernel
theorem dX5_init_12 : decode cX5_init 12 = .ok (.putfield 13, 3) := by decide +kernel
theorem dX5_init_15 : decode cX5_init 15 = .ok (.aload_n 0, 1) := by decide +kernel
theorem dX5_init_16 : decode cX5_init 16 = .ok (.new 17, 3) := by decide +kernel
theorem dX5_init_19 : decode cX5_init 19 = .ok (.dup, 1) := by decide +kernel
theorem dX5_init_20 : decode cX5_init 20 = .ok (.iload_n 2, 1) := by decide +kernel
theorem dX5_init_21 : decode cX5_init 21 = .ok (.sipush 4096, 3) := by decide +kernel
theorem dX5_init_24 : decode cX5_init 24 = .ok (.invokestatic 9, 3) := by decide +kernel
theorem dX5_init_27 : decode cX5_init 27 = .ok (.invokespecial 19, 3) := by decide +kernel
theorem dX5_init_30 : decode cX5_init 30 = .ok (.putfield 22, 3) := by decide +kernel
theorem dX5_init_33 : decode cX5_init 33 = .ok (.aload_n 0, 1) := by decide +kernel
theorem dX5_init_34 : decode cX5_init 34 = .ok (.new 26, 3) := by decide +kernel
theorem dX5_init_37 : decode cX5_init 37 = .ok (.dup, 1) := by decide +kernel
theorem dX5_init_38 : decode cX5_init 38 = .ok (.aload_n 0, 1) := by decide +kernel
theorem dX5_init_39 : decode cX5_init 39 = .ok (.getfield 22, 3) := by decide +kernel
theorem dX5_init_42 : decode cX5_init 42 = .ok (.invokespecial 28, 3) := by decide +kernel
theorem dX5_init_45 : decode cX5_init 45 = .ok (.putfield 31, 3) := by decide +kernel
theorem dX5_init_48 : decode cX5_init 48 = .ok (.aload_n 0, 1) := by decide +kernel
theorem dX5_init_49 : decode cX5_init 49 = .ok (.new 35, 3) := by decide +kernel
theorem dX5_init_52 : decode cX5_init 52 = .ok (.dup, 1) := by decide +kernel
theorem dX5_init_53 : decode cX5_init 53 = .ok (.sipush 600, 3) := by decide +kernel
theorem dX5_init_56 : decode cX5_init 56 = .ok (.invokespecial 37, 3) := by decide +kernel
theorem dX5_init_59 : decode cX5_init 59 = .ok (.putfield 38, 3) := by decide +kernel
theorem dX5_init_62 : decode cX5_init 62 = .ok (.aload_n 0, 1) := by decide +kernel
theorem dX5_init_63 : decode cX5_init 63 = .ok (.new 35, 3) := by decide +kernel
theorem dX5_init_66 : decode cX5_init 66 = .ok (.dup, 1) := by decide +kernel
theorem dX5_init_67 : decode cX5_init 67 = .ok (.sipush 512, 3) := by decide +kernel
theorem dX5_init_70 : decode cX5_init 70 = .ok (.invokespecial 37, 3) := by decide +kernel
theorem dX5_init_73 : decode cX5_init 73 = .ok (.putfield 42, 3) := by decide +kernel
theorem dX5_init_76 : decode cX5_init 76 = .ok (.return_, 1) := by decide +kernel
theorem dX5_feed_0 : decode cX5_feed 0 = .ok (.iload_n 3, 1) := by decide +kernel
theorem dX5_feed_1 : decode cX5_feed 1 = .ok (.iconst 1, 1) := by decide +kernel
theorem dX5_feed_2 : decode cX5_feed 2 = .ok (.if_icmp .lt 9, 3) := by decide +kernel
theorem dX5_feed_5 : decode cX5_feed 5 = .ok (.iload_n 3, 1) := by decide +kernel
theorem dX5_feed_6 : decode cX5_feed 6 = .ok (.bipush 8, 2) := by decide +kernel
theorem dX5_feed_8 : decode cX5_feed 8 = .ok (.if_icmp .le 13, 3) := by decide +kernel
theorem dX5_feed_11 : decode cX5_feed 11 = .ok (.new 45, 3) := by decide +kernel
theorem dX5_feed_14 : decode cX5_feed 14 = .ok (.dup, 1) := by decide +kernel
theorem dX5_feed_15 : decode cX5_feed 15 = .ok (.ldc 47, 2) := by decide +kernel
theorem dX5_feed_17 : decode cX5_feed 17 = .ok (.invokespecial 49, 3) := by decide +kernel
theorem dX5_feed_20 : decode cX5_feed 20 = .ok (.athrow, 1) := by decide +kernel
theorem dX5_feed_21 : decode cX5_feed 21 = .ok (.iload_n 3, 1) := by decide +kernel
theorem dX5_feed_22 : decode cX5_feed 22 = .ok (.sipush 600, 3) := by decide +kernel
theorem dX5_feed_25 : decode cX5_feed 25 = .ok (.aload_n 0, 1) := by decide +kernel
theorem dX5_feed_26 : decode cX5_feed 26 = .ok (.getfield 38, 3) := by decide +kernel
theorem dX5_feed_29 : decode cX5_feed 29 = .ok (.getfield 52, 3) := by decide +kernel
theorem dX5_feed_32 : decode cX5_feed 32 = .ok (.isub, 1) := by decide +kernel
theorem dX5_feed_33 : decode cX5_feed 33 = .ok (.if_icmp .le 13, 3) := by decide +kernel
theorem dX5_feed_36 : decode cX5_feed 36 = .ok (.new 55, 3) := by decide +kernel
theorem dX5_feed_39 : decode cX5_feed 39 = .ok (.dup, 1) := by decide +kernel
theorem dX5_feed_40 : decode cX5_feed 40 = .ok (.ldc 57, 2) := by decide +kernel
theorem dX5_feed_42 : decode cX5_feed 42 = .ok (.invokespecial 59, 3) := by decide +kernel
theorem dX5_feed_45 : decode cX5_feed 45 = .ok (.athrow, 1) := by decide +kernel
theorem dX5_feed_46 : decode cX5_feed 46 = .ok (.iconst 0, 1) := by decide +kernel
theorem dX5_feed_47 : decode cX5_feed 47 = .ok (.istore 4, 2) := by decide +kernel
theorem dX5_feed_49 : decode cX5_feed 49 = .ok (.iload 4, 2) := by decide +kernel
theorem dX5_feed_51 : decode cX5_feed 51 = .ok (.iload_n 3, 1) := by decide +kernel
theorem dX5_feed_52 : decode cX5_feed 52 = .ok (.if_icmp .ge 25, 3) := by decide +kernel
theorem dX5_feed_55 : decode cX5_feed 55 = .ok (.aload_n 0, 1) := by decide +kernel
theorem dX5_feed_56 : decode cX5_feed 56 = .ok (.getfield 38, 3) := by decide +kernel
theorem dX5_feed_59 : decode cX5_feed 59 = .ok (.lload_n 1, 1) := by decide +kernel
theorem dX5_feed_60 : decode cX5_feed 60 = .ok (.bipush 8, 2) := by decide +kernel
theorem dX5_feed_62 : decode cX5_feed 62 = .ok (.iload 4, 2) := by decide +kernel
theorem dX5_feed_64 : decode cX5_feed 64 = .ok (.imul, 1) := by decide +kernel
theorem dX5_feed_65 : decode cX5_feed 65 = .ok (.lushr, 1) := by decide +kernel
theorem dX5_feed_66 : decode cX5_feed 66 = .ok (.l2i, 1) := by decide +kernel
theorem dX5_feed_67 : decode cX5_feed 67 = .ok (.i2b, 1) := by decide +kernel
theorem dX5_feed_68 : decode cX5_feed 68 = .ok (.invokevirtual 60, 3) := by decide +kernel
theorem dX5_feed_71 : decode cX5_feed 71 = .ok (.iinc 4 1, 3) := by decide +kernel
theorem dX5_feed_74 : decode cX5_feed 74 = .ok (.goto (-25), 3) := by decide +kernel
theorem dX5_feed_77 : decode cX5_feed 77 = .ok (.aload_n 0, 1) := by decide +kernel
theorem dX5_feed_78 : decode cX5_feed 78 = .ok (.getfield 38, 3) := by decide +kernel
theorem dX5_feed_81 : decode cX5_feed 81 = .ok (.getfield 52, 3) := by decide +kernel
theorem dX5_feed_84 : decode cX5_feed 84 = .ok (.ireturn, 1) := by decide +kernel
theorem dX5_put_0 : decode cX5_put 0 = .ok (.aload_n 0, 1) := by decide +kernel
theorem dX5_put_1 : decode cX5_put 1 = .ok (.invokevirtual 64, 3) := by decide +kernel
theorem dX5_put_4 : decode cX5_put 4 = .ok (.istore_n 2, 1) := by decide +kernel
theorem dX5_put_5 : decode cX5_put 5 = .ok (.iload_n 1, 1) := by decide +kernel
theorem dX5_put_6 : decode cX5_put 6 = .ok (.invokestatic 68, 3) := by decide +kernel
theorem dX5_put_9 : decode cX5_put 9 = .ok (.ifCond .eq 17, 3) := by decide +kernel
theorem dX5_put_12 : decode cX5_put 12 = .ok (.iload_n 1, 1) := by decide +kernel
theorem dX5_put_13 : decode cX5_put 13 = .ok (.iload_n 2, 1) := by decide +kernel
theorem dX5_put_14 : decode cX5_put 14 = .ok (.if_icmp .gt 12, 3) := by decide +kernel
theorem dX5_put_17 : decode cX5_put 17 = .ok (.iload_n 2, 1) := by decide +kernel
theorem dX5_put_18 : decode cX5_put 18 = .ok (.iload_n 1, 1) := by decide +kernel
theorem dX5_put_19 : decode cX5_put 19 = .ok (.isub, 1) := by decide +kernel
theorem dX5_put_20 : decode cX5_put 20 = .ok (.sipush 512, 3) := by decide +kernel
theorem dX5_put_23 : decode cX5_put 23 = .ok (.if_icmp .le 13, 3) := by decide +kernel
theorem dX5_put_26 : decode cX5_put 26 = .ok (.new 45, 3) := by decide +kernel
theorem dX5_put_29 : decode cX5_put 29 = .ok (.dup, 1) := by decide +kernel
theorem dX5_put_30 : decode cX5_put 30 = .ok (.ldc 72, 2) := by decide +kernel
theorem dX5_put_32 : decode cX5_put 32 = .ok (.invokespecial 49, 3) := by decide +kernel
theorem dX5_put_35 : decode cX5_put 35 = .ok (.athrow, 1) := by decide +kernel
theorem dX5_put_36 : decode cX5_put 36 = .ok (.aload_n 0, 1) := by decide +kernel
theorem dX5_put_37 : decode cX5_put 37 = .ok (.getfield 31, 3) := by decide +kernel
theorem dX5_put_40 : decode cX5_put 40 = .ok (.aload_n 0, 1) := by decide +kernel
theorem dX5_put_41 : decode cX5_put 41 = .ok (.getfield 38, 3) := by decide +kernel
theorem dX5_put_44 : decode cX5_put 44 = .ok (.iload_n 1, 1) := by decide +kernel
theorem dX5_put_45 : decode cX5_put 45 = .ok (.invokevirtual 74, 3) := by decide +kernel
theorem dX5_put_48 : decode cX5_put 48 = .ok (.astore_n 3, 1) := by decide +kernel
theorem dX5_put_49 : decode cX5_put 49 = .ok (.aload_n 0, 1) := by decide +kernel
theorem dX5_put_50 : decode cX5_put 50 = .ok (.aload_n 3, 1) := by decide +kernel
theorem dX5_put_51 : decode cX5_put 51 = .ok (.iload_n 2, 1) := by decide +kernel
theorem dX5_put_52 : decode cX5_put 52 = .ok (.invokestatic 78, 3) := by decide +kernel
theorem dX5_put_55 : decode cX5_put 55 = .ok (.invokevirtual 82, 3) := by decide +kernel
theorem dX5_put_58 : decode cX5_put 58 = .ok (.ifCond .eq 13, 3) := by decide +kernel
theorem dX5_put_61 : decode cX5_put 61 = .ok (.new 55, 3) := by decide +kernel
theorem dX5_put_64 : decode cX5_put 64 = .ok (.dup, 1) := by decide +kernel
theorem dX5_put_65 : decode cX5_put 65 = .ok (.ldc 86, 2) := by decide +kernel
theorem dX5_put_67 : decode cX5_put 67 = .ok (.invokespecial 59, 3) := by decide +kernel
theorem dX5_put_70 : decode cX5_put 70 = .ok (.athrow, 1) := by decide +kernel
theorem dX5_put_71 : decode cX5_put 71 = .ok (.aload_n 3, 1) := by decide +kernel
theorem dX5_put_72 : decode cX5_put 72 = .ok (.ifnonnull 15, 3) := by decide +kernel
theorem dX5_put_75 : decode cX5_put 75 = .ok (.aload_n 0, 1) := by decide +kernel
theorem dX5_put_76 : decode cX5_put 76 = .ok (.aload_n 0, 1) := by decide +kernel
theorem dX5_put_77 : decode cX5_put 77 = .ok (.iload_n 1, 1) := by decide +kernel
theorem dX5_put_78 : decode cX5_put 78 = .ok (.iload_n 2, 1) := by decide +kernel
theorem dX5_put_79 : decode cX5_put 79 = .ok (.invokevirtual 88, 3) := by decide +kernel
theorem dX5_put_82 : decode cX5_put 82 = .ok (.putfield 92, 3) := by decide +kernel
theorem dX5_put_85 : decode cX5_put 85 = .ok (.iconst 1, 1) := by decide +kernel
theorem dX5_put_86 : decode cX5_put 86 = .ok (.ireturn, 1) := by decide +kernel
theorem dX5_put_87 : decode cX5_put 87 = .ok (.aload_n 0, 1) := by decide +kernel
theorem dX5_put_88 : decode cX5_put 88 = .ok (.aload_n 3, 1) := by decide +kernel
theorem dX5_put_89 : decode cX5_put 89 = .ok (.iload_n 2, 1) := by decide +kernel
theorem dX5_put_90 : decode cX5_put 90 = .ok (.invokevirtual 96, 3) := by decide +kernel
theorem dX5_put_93 : decode cX5_put 93 = .ok (.aload_n 0, 1) := by decide +kernel
theorem dX5_put_94 : decode cX5_put 94 = .ok (.aload_n 3, 1) := by decide +kernel
theorem dX5_put_95 : decode cX5_put 95 = .ok (.putfield 92, 3) := by decide +kernel
theorem dX5_put_98 : decode cX5_put 98 = .ok (.iconst 0, 1) := by decide +kernel
theorem dX5_put_99 : decode cX5_put 99 = .ok (.ireturn, 1) := by decide +kernel
theorem dX5_get_0 : decode cX5_get 0 = .ok (.aload_n 0, 1) := by decide +kernel
theorem dX5_get_1 : decode cX5_get 1 = .ok (.getfield 31, 3) := by decide +kernel
theorem dX5_get_4 : decode cX5_get 4 = .ok (.aload_n 0, 1) := by decide +kernel
theorem dX5_get_5 : decode cX5_get 5 = .ok (.getfield 38, 3) := by decide +kernel
theorem dX5_get_8 : decode cX5_get 8 = .ok (.aload_n 0, 1) := by decide +kernel
theorem dX5_get_9 : decode cX5_get 9 = .ok (.invokevirtual 100, 3) := by decide +kernel
theorem dX5_get_12 : decode cX5_get 12 = .ok (.invokevirtual 74, 3) := by decide +kernel
theorem dX5_get_15 : decode cX5_get 15 = .ok (.astore_n 1, 1) := by decide +kernel
theorem dX5_get_16 : decode cX5_get 16 = .ok (.aload_n 1, 1) := by decide +kernel
theorem dX5_get_17 : decode cX5_get 17 = .ok (.ifnonnull 13, 3) := by decide +kernel
theorem dX5_get_20 : decode cX5_get 20 = .ok (.new 103, 3) := by decide +kernel
theorem dX5_get_23 : decode cX5_get 23 = .ok (.dup, 1) := by decide +kernel
theorem dX5_get_24 : decode cX5_get 24 = .ok (.ldc 105, 2) := by decide +kernel
theorem dX5_get_26 : decode cX5_get 26 = .ok (.invokespecial 107, 3) := by decide +kernel
theorem dX5_get_29 : decode cX5_get 29 = .ok (.athrow, 1) := by decide +kernel
theorem dX5_get_30 : decode cX5_get 30 = .ok (.aload_n 0, 1) := by decide +kernel
theorem dX5_get_31 : decode cX5_get 31 = .ok (.aload_n 1, 1) := by decide +kernel
theorem dX5_get_32 : decode cX5_get 32 = .ok (.putfield 92, 3) := by decide +kernel
theorem dX5_get_35 : decode cX5_get 35 = .ok (.aload_n 0, 1) := by decide +kernel
theorem dX5_get_36 : decode cX5_get 36 = .ok (.aload_n 1, 1) := by decide +kernel
theorem dX5_get_37 : decode cX5_get 37 = .ok (.invokevirtual 108, 3) := by decide +kernel
theorem dX5_get_40 : decode cX5_get 40 = .ok (.ireturn, 1) := by decide +kernel
theorem dX5_remove_0 : decode cX5_remove 0 = .ok (.aload_n 0, 1) := by decide +kernel
theorem dX5_remove_1 : decode cX5_remove 1 = .ok (.getfield 31, 3) := by decide +kernel
theorem dX5_remove_4 : decode cX5_remove 4 = .ok (.aload_n 0, 1) := by decide +kernel
theorem dX5_remove_5 : decode cX5_remove 5 = .ok (.getfield 38, 3) := by decide +kernel
theorem dX5_remove_8 : decode cX5_remove 8 = .ok (.aload_n 0, 1) := by decide +kernel
theorem dX5_remove_9 : decode cX5_remove 9 = .ok (.invokevirtual 100, 3) := by decide +kernel
theorem dX5_remove_12 : decode cX5_remove 12 = .ok (.invokevirtual 74, 3) := by decide +kernel
theorem dX5_remove_15 : decode cX5_remove 15 = .ok (.astore_n 1, 1) := by decide +kernel
theorem dX5_remove_16 : decode cX5_remove 16 = .ok (.aload_n 1, 1) := by decide +kernel
theorem dX5_remove_17 : decode cX5_remove 17 = .ok (.ifnull 8, 3) := by decide +kernel
theorem dX5_remove_20 : decode cX5_remove 20 = .ok (.aload_n 0, 1) := by decide +kernel
theorem dX5_remove_21 : decode cX5_remove 21 = .ok (.aload_n 1, 1) := by decide +kernel
theorem dX5_remove_22 : decode cX5_remove 22 = .ok (.invokevirtual 112, 3) := by decide +kernel
theorem dX5_remove_25 : decode cX5_remove 25 = .ok (.aload_n 1, 1) := by decide +kernel
theorem dX5_remove_26 : decode cX5_remove 26 = .ok (.ifnull 7, 3) := by decide +kernel
theorem dX5_remove_29 : decode cX5_remove 29 = .ok (.iconst 1, 1) := by decide +kernel
theorem dX5_remove_30 : decode cX5_remove 30 = .ok (.goto 4, 3) := by decide +kernel
theorem dX5_remove_33 : decode cX5_remove 33 = .ok (.iconst 0, 1) := by decide +kernel
theorem dX5_remove_34 : decode cX5_remove 34 = .ok (.ireturn, 1) := by decide +kernel
theorem dX5_seek_0 : decode cX5_seek 0 = .ok (.aload_n 0, 1) := by decide +kernel
theorem dX5_seek_1 : decode cX5_seek 1 = .ok (.invokevirtual 100, 3) := by decide +kernel
theorem dX5_seek_4 : decode cX5_seek 4 = .ok (.istore_n 2, 1) := by decide +kernel
theorem dX5_seek_5 : decode cX5_seek 5 = .ok (.iload_n 1, 1) := by decide +kernel
theorem dX5_seek_6 : decode cX5_seek 6 = .ok (.ifCond .lt 8, 3) := by decide +kernel
theorem dX5_seek_9 : decode cX5_seek 9 = .ok (.iload_n 1, 1) := by decide +kernel
theorem dX5_seek_10 : decode cX5_seek 10 = .ok (.iconst 3, 1) := by decide +kernel
theorem dX5_seek_11 : decode cX5_seek 11 = .ok (.if_icmp .le 13, 3) := by decide +kernel
theorem dX5_seek_14 : decode cX5_seek 14 = .ok (.new 45, 3) := by decide +kernel
theorem dX5_seek_17 : decode cX5_seek 17 = .ok (.dup, 1) := by decide +kernel
theorem dX5_seek_18 : decode cX5_seek 18 = .ok (.ldc 116, 2) := by decide +kernel
theorem dX5_seek_20 : decode cX5_seek 20 = .ok (.invokespecial 49, 3) := by decide +kernel
theorem dX5_seek_23 : decode cX5_seek 23 = .ok (.athrow, 1) := by decide +kernel
theorem dX5_seek_24 : decode cX5_seek 24 = .ok (.iload_n 1, 1) := by decide +kernel
theorem dX5_seek_25 : decode cX5_seek 25 = .ok (.iconst 1, 1) := by decide +kernel
theorem dX5_seek_26 : decode cX5_seek 26 = .ok (.if_icmp .eq 8, 3) := by decide +kernel
theorem dX5_seek_29 : decode cX5_seek 29 = .ok (.iload_n 1, 1) := by decide +kernel
theorem dX5_seek_30 : decode cX5_seek 30 = .ok (.iconst 2, 1) := by decide +kernel
theorem dX5_seek_31 : decode cX5_seek 31 = .ok (.if_icmp .ne 7, 3) := by decide +kernel
theorem dX5_seek_34 : decode cX5_seek 34 = .ok (.iconst 1, 1) := by decide +kernel
theorem dX5_seek_35 : decode cX5_seek 35 = .ok (.goto 4, 3) := by decide +kernel
theorem dX5_seek_38 : decode cX5_seek 38 = .ok (.iconst 0, 1) := by decide +kernel
theorem dX5_seek_39 : decode cX5_seek 39 = .ok (.istore_n 3, 1) := by decide +kernel
theorem dX5_seek_40 : decode cX5_seek 40 = .ok (.aload_n 0, 1) := by decide +kernel
theorem dX5_seek_41 : decode cX5_seek 41 = .ok (.getfield 31, 3) := by decide +kernel
theorem dX5_seek_44 : decode cX5_seek 44 = .ok (.aload_n 0, 1) := by decide +kernel
theorem dX5_seek_45 : decode cX5_seek 45 = .ok (.getfield 38, 3) := by decide +kernel
theorem dX5_seek_48 : decode cX5_seek 48 = .ok (.iload_n 2, 1) := by decide +kernel
theorem dX5_seek_49 : decode cX5_seek 49 = .ok (.iload_n 3, 1) := by decide +kernel
theorem dX5_seek_50 : decode cX5_seek 50 = .ok (.invokevirtual 118, 3) := by decide +kernel
theorem dX5_seek_53 : decode cX5_seek 53 = .ok (.istore 4, 2) := by decide +kernel
theorem dX5_seek_55 : decode cX5_seek 55 = .ok (.aload_n 0, 1) := by decide +kernel
theorem dX5_seek_56 : decode cX5_seek 56 = .ok (.getfield 31, 3) := by decide +kernel
theorem dX5_seek_59 : decode cX5_seek 59 = .ok (.iload_n 1, 1) := by decide +kernel
theorem dX5_seek_60 : decode cX5_seek 60 = .ok (.iconst 2, 1) := by decide +kernel
theorem dX5_seek_61 : decode cX5_seek 61 = .ok (.if_icmp .ge 8, 3) := by decide +kernel
theorem dX5_seek_64 : decode cX5_seek 64 = .ok (.iload 4, 2) := by decide +kernel
theorem dX5_seek_66 : decode cX5_seek 66 = .ok (.goto 7, 3) := by decide +kernel
theorem dX5_seek_69 : decode cX5_seek 69 = .ok (.iload 4, 2) := by decide +kernel
theorem dX5_seek_71 : decode cX5_seek 71 = .ok (.iconst 1, 1) := by decide +kernel
theorem dX5_seek_72 : decode cX5_seek 72 = .ok (.isub, 1) := by decide +kernel
theorem dX5_seek_73 : decode cX5_seek 73 = .ok (.invokevirtual 122, 3) := by decide +kernel
theorem dX5_seek_76 : decode cX5_seek 76 = .ok (.astore 5, 2) := by decide +kernel
theorem dX5_seek_78 : decode cX5_seek 78 = .ok (.aload 5, 2) := by decide +kernel
theorem dX5_seek_80 : decode cX5_seek 80 = .ok (.ifnonnull 13, 3) := by decide +kernel
theorem dX5_seek_83 : decode cX5_seek 83 = .ok (.new 103, 3) := by decide +kernel
theorem dX5_seek_86 : decode cX5_seek 86 = .ok (.dup, 1) := by decide +kernel
theorem dX5_seek_87 : decode cX5_seek 87 = .ok (.ldc 105, 2) := by decide +kernel
theorem dX5_seek_89 : decode cX5_seek 89 = .ok (.invokespecial 107, 3) := by decide +kernel
theorem dX5_seek_92 : decode cX5_seek 92 = .ok (.athrow, 1) := by decide +kernel
theorem dX5_seek_93 : decode cX5_seek 93 = .ok (.aload_n 0, 1) := by decide +kernel
theorem dX5_seek_94 : decode cX5_seek 94 = .ok (.aload 5, 2) := by decide +kernel
theorem dX5_seek_96 : decode cX5_seek 96 = .ok (.invokevirtual 126, 3) := by decide +kernel
theorem dX5_seek_99 : decode cX5_seek 99 = .ok (.ireturn, 1) := by decide +kernel
theorem dX5_at_0 : decode cX5_at 0 = .ok (.aload_n 0, 1) := by decide +kernel
theorem dX5_at_1 : decode cX5_at 1 = .ok (.getfield 31, 3) := by decide +kernel
theorem dX5_at_4 : decode cX5_at 4 = .ok (.iload_n 1, 1) := by decide +kernel
theorem dX5_at_5 : decode cX5_at 5 = .ok (.invokevirtual 122, 3) := by decide +kernel
theorem dX5_at_8 : decode cX5_at 8 = .ok (.astore_n 2, 1) := by decide +kernel
theorem dX5_at_9 : decode cX5_at 9 = .ok (.aload_n 2, 1) := by decide +kernel
theorem dX5_at_10 : decode cX5_at 10 = .ok (.ifnonnull 13, 3) := by decide +kernel
theorem dX5_at_13 : decode cX5_at 13 = .ok (.new 129, 3) := by decide +kernel
theorem dX5_at_16 : decode cX5_at 16 = .ok (.dup, 1) := by decide +kernel
theorem dX5_at_17 : decode cX5_at 17 = .ok (.ldc 131, 2) := by decide +kernel
theorem dX5_at_19 : decode cX5_at 19 = .ok (.invokespecial 133, 3) := by decide +kernel
theorem dX5_at_22 : decode cX5_at 22 = .ok (.athrow, 1) := by decide +kernel
theorem dX5_at_23 : decode cX5_at 23 = .ok (.aload_n 0, 1) := by decide +kernel
theorem dX5_at_24 : decode cX5_at 24 = .ok (.aload_n 2, 1) := by decide +kernel
theorem dX5_at_25 : decode cX5_at 25 = .ok (.invokevirtual 126, 3) := by decide +kernel
theorem dX5_at_28 : decode cX5_at 28 = .ok (.ireturn, 1) := by decide +kernel
theorem dX5_step_0 : decode cX5_step 0 = .ok (.aload_n 0, 1) := by decide +kernel
theorem dX5_step_1 : decode cX5_step 1 = .ok (.invokevirtual 134, 3) := by decide +kernel
theorem dX5_step_4 : decode cX5_step 4 = .ok (.istore_n 2, 1) := by decide +kernel
theorem dX5_step_5 : decode cX5_step 5 = .ok (.aload_n 0, 1) := by decide +kernel
theorem dX5_step_6 : decode cX5_step 6 = .ok (.getfield 31, 3) := by decide +kernel
theorem dX5_step_9 : decode cX5_step 9 = .ok (.iload_n 1, 1) := by decide +kernel
theorem dX5_step_10 : decode cX5_step 10 = .ok (.ifCond .eq 9, 3) := by decide +kernel
theorem dX5_step_13 : decode cX5_step 13 = .ok (.iload_n 2, 1) := by decide +kernel
theorem dX5_step_14 : decode cX5_step 14 = .ok (.iconst 1, 1) := by decide +kernel
theorem dX5_step_15 : decode cX5_step 15 = .ok (.isub, 1) := by decide +kernel
theorem dX5_step_16 : decode cX5_step 16 = .ok (.goto 6, 3) := by decide +kernel
theorem dX5_step_19 : decode cX5_step 19 = .ok (.iload_n 2, 1) := by decide +kernel
theorem dX5_step_20 : decode cX5_step 20 = .ok (.iconst 1, 1) := by decide +kernel
theorem dX5_step_21 : decode cX5_step 21 = .ok (.iadd, 1) := by decide +kernel
theorem dX5_step_22 : decode cX5_step 22 = .ok (.invokevirtual 122, 3) := by decide +kernel
theorem dX5_step_25 : decode cX5_step 25 = .ok (.astore_n 3, 1) := by decide +kernel
theorem dX5_step_26 : decode cX5_step 26 = .ok (.aload_n 3, 1) := by decide +kernel
theorem dX5_step_27 : decode cX5_step 27 = .ok (.ifnull 9, 3) := by decide +kernel
theorem dX5_step_30 : decode cX5_step 30 = .ok (.aload_n 0, 1) := by decide +kernel
theorem dX5_step_31 : decode cX5_step 31 = .ok (.aload_n 3, 1) := by decide +kernel
theorem dX5_step_32 : decode cX5_step 32 = .ok (.invokevirtual 126, 3) := by decide +kernel
theorem dX5_step_35 : decode cX5_step 35 = .ok (.pop, 1) := by decide +kernel
theorem dX5_step_36 : decode cX5_step 36 = .ok (.aload_n 3, 1) := by decide +kernel
theorem dX5_step_37 : decode cX5_step 37 = .ok (.ifnull 7, 3) := by decide +kernel
theorem dX5_step_40 : decode cX5_step 40 = .ok (.iconst 1, 1) := by decide +kernel
theorem dX5_step_41 : decode cX5_step 41 = .ok (.goto 4, 3) := by decide +kernel
theorem dX5_step_44 : decode cX5_step 44 = .ok (.iconst 0, 1) := by decide +kernel
theorem dX5_step_45 : decode cX5_step 45 = .ok (.ireturn, 1) := by decide +kernel
theorem dX5_value_0 : decode cX5_value 0 = .ok (.aload_n 0, 1) := by decide +kernel
theorem dX5_value_1 : decode cX5_value 1 = .ok (.getfield 92, 3) := by decide +kernel
theorem dX5_value_4 : decode cX5_value 4 = .ok (.ifnonnull 13, 3) := by decide +kernel
theorem dX5_value_7 : decode cX5_value 7 = .ok (.new 55, 3) := by decide +kernel
theorem dX5_value_10 : decode cX5_value 10 = .ok (.dup, 1) := by decide +kernel
theorem dX5_value_11 : decode cX5_value 11 = .ok (.ldc 137, 2) := by decide +kernel
theorem dX5_value_13 : decode cX5_value 13 = .ok (.invokespecial 59, 3) := by decide +kernel
theorem dX5_value_16 : decode cX5_value 16 = .ok (.athrow, 1) := by decide +kernel
theorem dX5_value_17 : decode cX5_value 17 = .ok (.aload_n 0, 1) := by decide +kernel
theorem dX5_value_18 : decode cX5_value 18 = .ok (.aload_n 0, 1) := by decide +kernel
theorem dX5_value_19 : decode cX5_value 19 = .ok (.getfield 92, 3) := by decide +kernel
theorem dX5_value_22 : decode cX5_value 22 = .ok (.invokevirtual 108, 3) := by decide +kernel
theorem dX5_value_25 : decode cX5_value 25 = .ok (.ireturn, 1) := by decide +kernel
theorem dX5_place_0 : decode cX5_place 0 = .ok (.aload_n 0, 1) := by decide +kernel
theorem dX5_place_1 : decode cX5_place 1 = .ok (.invokevirtual 134, 3) := by decide +kernel
theorem dX5_place_4 : decode cX5_place 4 = .ok (.ireturn, 1) := by decide +kernel
theorem dX5_range_0 : decode cX5_range 0 = .ok (.aload_n 0, 1) := by decide +kernel
theorem dX5_range_1 : decode cX5_range 1 = .ok (.invokevirtual 64, 3) := by decide +kernel
theorem dX5_range_4 : decode cX5_range 4 = .ok (.istore_n 1, 1) := by decide +kernel
theorem dX5_range_5 : decode cX5_range 5 = .ok (.iload_n 1, 1) := by decide +kernel
theorem dX5_range_6 : decode cX5_range 6 = .ok (.bipush 64, 2) := by decide +kernel
theorem dX5_range_8 : decode cX5_range 8 = .ok (.if_icmp .le 13, 3) := by decide +kernel
theorem dX5_range_11 : decode cX5_range 11 = .ok (.new 45, 3) := by decide +kernel
theorem dX5_range_14 : decode cX5_range 14 = .ok (.dup, 1) := by decide +kernel
theorem dX5_range_15 : decode cX5_range 15 = .ok (.ldc 139, 2) := by decide +kernel
theorem dX5_range_17 : decode cX5_range 17 = .ok (.invokespecial 49, 3) := by decide +kernel
theorem dX5_range_20 : decode cX5_range 20 = .ok (.athrow, 1) := by decide +kernel
theorem dX5_range_21 : decode cX5_range 21 = .ok (.aload_n 0, 1) := by decide +kernel
theorem dX5_range_22 : decode cX5_range 22 = .ok (.invokevirtual 134, 3) := by decide +kernel
theorem dX5_range_25 : decode cX5_range 25 = .ok (.istore_n 2, 1) := by decide +kernel
theorem dX5_range_26 : decode cX5_range 26 = .ok (.iload_n 1, 1) := by decide +kernel
theorem dX5_range_27 : decode cX5_range 27 = .ok (.ifCond .ne 13, 3) := by decide +kernel
theorem dX5_range_30 : decode cX5_range 30 = .ok (.aload_n 0, 1) := by decide +kernel
theorem dX5_range_31 : decode cX5_range 31 = .ok (.getfield 31, 3) := by decide +kernel
theorem dX5_range_34 : decode cX5_range 34 = .ok (.invokevirtual 141, 3) := by decide +kernel
theorem dX5_range_37 : decode cX5_range 37 = .ok (.goto 16, 3) := by decide +kernel
theorem dX5_range_40 : decode cX5_range 40 = .ok (.aload_n 0, 1) := by decide +kernel
theorem dX5_range_41 : decode cX5_range 41 = .ok (.getfield 31, 3) := by decide +kernel
theorem dX5_range_44 : decode cX5_range 44 = .ok (.aload_n 0, 1) := by decide +kernel
theorem dX5_range_45 : decode cX5_range 45 = .ok (.getfield 38, 3) := by decide +kernel
theorem dX5_range_48 : decode cX5_range 48 = .ok (.iload_n 1, 1) := by decide +kernel
theorem dX5_range_49 : decode cX5_range 49 = .ok (.iconst 0, 1) := by decide +kernel
theorem dX5_range_50 : decode cX5_range 50 = .ok (.invokevirtual 118, 3) := by decide +kernel
theorem dX5_range_53 : decode cX5_range 53 = .ok (.istore_n 3, 1) := by decide +kernel
theorem dX5_range_54 : decode cX5_range 54 = .ok (.iconst 0, 1) := by decide +kernel
theorem dX5_range_55 : decode cX5_range 55 = .ok (.iload_n 3, 1) := by decide +kernel
theorem dX5_range_56 : decode cX5_range 56 = .ok (.iload_n 2, 1) := by decide +kernel
theorem dX5_range_57 : decode cX5_range 57 = .ok (.isub, 1) := by decide +kernel
theorem dX5_range_58 : decode cX5_range 58 = .ok (.invokestatic 144, 3) := by decide +kernel
theorem dX5_range_61 : decode cX5_range 61 = .ok (.ireturn, 1) := by decide +kernel
theorem dX5_removeFrom_0 : decode cX5_removeFrom 0 = .ok (.iload_n 1, 1) := by decide +kernel
theorem dX5_removeFrom_1 : decode cX5_removeFrom 1 = .ok (.ifCond .ge 13, 3) := by decide +kernel
theorem dX5_removeFrom_4 : decode cX5_removeFrom 4 = .ok (.new 45, 3) := by decide +kernel
theorem dX5_removeFrom_7 : decode cX5_removeFrom 7 = .ok (.dup, 1) := by decide +kernel
theorem dX5_removeFrom_8 : decode cX5_removeFrom 8 = .ok (.ldc 149, 2) := by decide +kernel
theorem dX5_removeFrom_10 : decode cX5_removeFrom 10 = .ok (.invokespecial 49, 3) := by decide +kernel
theorem dX5_removeFrom_13 : decode cX5_removeFrom 13 = .ok (.athrow, 1) := by decide +kernel
theorem dX5_removeFrom_14 : decode cX5_removeFrom 14 = .ok (.aload_n 0, 1) := by decide +kernel
theorem dX5_removeFrom_15 : decode cX5_removeFrom 15 = .ok (.invokevirtual 134, 3) := by decide +kernel
theorem dX5_removeFrom_18 : decode cX5_removeFrom 18 = .ok (.istore_n 2, 1) := by decide +kernel
theorem dX5_removeFrom_19 : decode cX5_removeFrom 19 = .ok (.iload_n 1, 1) := by decide +kernel
theorem dX5_removeFrom_20 : decode cX5_removeFrom 20 = .ok (.aload_n 0, 1) := by decide +kernel
theorem dX5_removeFrom_21 : decode cX5_removeFrom 21 = .ok (.getfield 31, 3) := by decide +kernel
theorem dX5_removeFrom_24 : decode cX5_removeFrom 24 = .ok (.invokevirtual 141, 3) := by decide +kernel
theorem dX5_removeFrom_27 : decode cX5_removeFrom 27 = .ok (.iload_n 2, 1) := by decide +kernel
theorem dX5_removeFrom_28 : decode cX5_removeFrom 28 = .ok (.isub, 1) := by decide +kernel
theorem dX5_removeFrom_29 : decode cX5_removeFrom 29 = .ok (.iconst 1, 1) := by decide +kernel
theorem dX5_removeFrom_30 : decode cX5_removeFrom 30 = .ok (.isub, 1) := by decide +kernel
theorem dX5_removeFrom_31 : decode cX5_removeFrom 31 = .ok (.invokestatic 151, 3) := by decide +kernel
theorem dX5_removeFrom_34 : decode cX5_removeFrom 34 = .ok (.iconst 1, 1) := by decide +kernel
theorem dX5_removeFrom_35 : decode cX5_removeFrom 35 = .ok (.iadd, 1) := by decide +kernel
theorem dX5_removeFrom_36 : decode cX5_removeFrom 36 = .ok (.istore_n 3, 1) := by decide +kernel
theorem dX5_removeFrom_37 : decode cX5_removeFrom 37 = .ok (.iconst 0, 1) := by decide +kernel
theorem dX5_removeFrom_38 : decode cX5_removeFrom 38 = .ok (.istore 4, 2) := by decide +kernel
theorem dX5_removeFrom_40 : decode cX5_removeFrom 40 = .ok (.iload 4, 2) := by decide +kernel
theorem dX5_removeFrom_42 : decode cX5_removeFrom 42 = .ok (.iload_n 3, 1) := by decide +kernel
theorem dX5_removeFrom_43 : decode cX5_removeFrom 43 = .ok (.if_icmp .ge 30, 3) := by decide +kernel
theorem dX5_removeFrom_46 : decode cX5_removeFrom 46 = .ok (.aload_n 0, 1) := by decide +kernel
theorem dX5_removeFrom_47 : decode cX5_removeFrom 47 = .ok (.getfield 31, 3) := by decide +kernel
theorem dX5_removeFrom_50 : decode cX5_removeFrom 50 = .ok (.iload_n 2, 1) := by decide +kernel
theorem dX5_removeFrom_51 : decode cX5_removeFrom 51 = .ok (.invokevirtual 122, 3) := by decide +kernel
theorem dX5_removeFrom_54 : decode cX5_removeFrom 54 = .ok (.astore 5, 2) := by decide +kernel
theorem dX5_removeFrom_56 : decode cX5_removeFrom 56 = .ok (.aload 5, 2) := by decide +kernel
theorem dX5_removeFrom_58 : decode cX5_removeFrom 58 = .ok (.ifnull 9, 3) := by decide +kernel
theorem dX5_removeFrom_61 : decode cX5_removeFrom 61 = .ok (.aload_n 0, 1) := by decide +kernel
theorem dX5_removeFrom_62 : decode cX5_removeFrom 62 = .ok (.aload 5, 2) := by decide +kernel
theorem dX5_removeFrom_64 : decode cX5_removeFrom 64 = .ok (.invokevirtual 112, 3) := by decide +kernel
theorem dX5_removeFrom_67 : decode cX5_removeFrom 67 = .ok (.iinc 4 1, 3) := by decide +kernel
theorem dX5_removeFrom_70 : decode cX5_removeFrom 70 = .ok (.goto (-30), 3) := by decide +kernel
theorem dX5_removeFrom_73 : decode cX5_removeFrom 73 = .ok (.iload_n 3, 1) := by decide +kernel
theorem dX5_removeFrom_74 : decode cX5_removeFrom 74 = .ok (.ireturn, 1) := by decide +kernel
theorem dX5_clear_0 : decode cX5_clear 0 = .ok (.aload_n 0, 1) := by decide +kernel
theorem dX5_clear_1 : decode cX5_clear 1 = .ok (.getfield 31, 3) := by decide +kernel
theorem dX5_clear_4 : decode cX5_clear 4 = .ok (.invokevirtual 141, 3) := by decide +kernel
theorem dX5_clear_7 : decode cX5_clear 7 = .ok (.istore_n 1, 1) := by decide +kernel
theorem dX5_clear_8 : decode cX5_clear 8 = .ok (.aload_n 0, 1) := by decide +kernel
theorem dX5_clear_9 : decode cX5_clear 9 = .ok (.getfield 31, 3) := by decide +kernel
theorem dX5_clear_12 : decode cX5_clear 12 = .ok (.invokevirtual 154, 3) := by decide +kernel
theorem dX5_clear_15 : decode cX5_clear 15 = .ok (.aload_n 0, 1) := by decide +kernel
theorem dX5_clear_16 : decode cX5_clear 16 = .ok (.getfield 22, 3) := by decide +kernel
theorem dX5_clear_19 : decode cX5_clear 19 = .ok (.invokevirtual 157, 3) := by decide +kernel
theorem dX5_clear_22 : decode cX5_clear 22 = .ok (.aload_n 0, 1) := by decide +kernel
theorem dX5_clear_23 : decode cX5_clear 23 = .ok (.aconst_null, 1) := by decide +kernel
theorem dX5_clear_24 : decode cX5_clear 24 = .ok (.putfield 92, 3) := by decide +kernel
theorem dX5_clear_27 : decode cX5_clear 27 = .ok (.aload_n 0, 1) := by decide +kernel
theorem dX5_clear_28 : decode cX5_clear 28 = .ok (.iconst 0, 1) := by decide +kernel
theorem dX5_clear_29 : decode cX5_clear 29 = .ok (.putfield 158, 3) := by decide +kernel
theorem dX5_clear_32 : decode cX5_clear 32 = .ok (.aload_n 0, 1) := by decide +kernel
theorem dX5_clear_33 : decode cX5_clear 33 = .ok (.iconst 0, 1) := by decide +kernel
theorem dX5_clear_34 : decode cX5_clear 34 = .ok (.putfield 161, 3) := by decide +kernel
theorem dX5_clear_37 : decode cX5_clear 37 = .ok (.iload_n 1, 1) := by decide +kernel
theorem dX5_clear_38 : decode cX5_clear 38 = .ok (.ireturn, 1) := by decide +kernel
theorem dX5_byteAt_0 : decode cX5_byteAt 0 = .ok (.iload_n 1, 1) := by decide +kernel
theorem dX5_byteAt_1 : decode cX5_byteAt 1 = .ok (.ifCond .lt 14, 3) := by decide +kernel
theorem dX5_byteAt_4 : decode cX5_byteAt 4 = .ok (.iload_n 1, 1) := by decide +kernel
theorem dX5_byteAt_5 : decode cX5_byteAt 5 = .ok (.aload_n 0, 1) := by decide +kernel
theorem dX5_byteAt_6 : decode cX5_byteAt 6 = .ok (.getfield 42, 3) := by decide +kernel
theorem dX5_byteAt_9 : decode cX5_byteAt 9 = .ok (.getfield 52, 3) := by decide +kernel
theorem dX5_byteAt_12 : decode cX5_byteAt 12 = .ok (.if_icmp .lt 13, 3) := by decide +kernel
theorem dX5_byteAt_15 : decode cX5_byteAt 15 = .ok (.new 129, 3) := by decide +kernel
theorem dX5_byteAt_18 : decode cX5_byteAt 18 = .ok (.dup, 1) := by decide +kernel
theorem dX5_byteAt_19 : decode cX5_byteAt 19 = .ok (.ldc 164, 2) := by decide +kernel
theorem dX5_byteAt_21 : decode cX5_byteAt 21 = .ok (.invokespecial 133, 3) := by decide +kernel
theorem dX5_byteAt_24 : decode cX5_byteAt 24 = .ok (.athrow, 1) := by decide +kernel
theorem dX5_byteAt_25 : decode cX5_byteAt 25 = .ok (.aload_n 0, 1) := by decide +kernel
theorem dX5_byteAt_26 : decode cX5_byteAt 26 = .ok (.getfield 42, 3) := by decide +kernel
theorem dX5_byteAt_29 : decode cX5_byteAt 29 = .ok (.getfield 166, 3) := by decide +kernel
theorem dX5_byteAt_32 : decode cX5_byteAt 32 = .ok (.iload_n 1, 1) := by decide +kernel
theorem dX5_byteAt_33 : decode cX5_byteAt 33 = .ok (.invokestatic 170, 3) := by decide +kernel
theorem dX5_byteAt_36 : decode cX5_byteAt 36 = .ok (.ireturn, 1) := by decide +kernel
theorem dX5_count_0 : decode cX5_count 0 = .ok (.iload_n 1, 1) := by decide +kernel
theorem dX5_count_1 : decode cX5_count 1 = .ok (.tableswitch 81 0 5 #[39, 47, 55, 60, 65, 73], 39) := by decide +kernel
theorem dX5_count_40 : decode cX5_count 40 = .ok (.aload_n 0, 1) := by decide +kernel
theorem dX5_count_41 : decode cX5_count 41 = .ok (.getfield 31, 3) := by decide +kernel
theorem dX5_count_44 : decode cX5_count 44 = .ok (.invokevirtual 141, 3) := by decide +kernel
theorem dX5_count_47 : decode cX5_count 47 = .ok (.ireturn, 1) := by decide +kernel
theorem dX5_count_48 : decode cX5_count 48 = .ok (.aload_n 0, 1) := by decide +kernel
theorem dX5_count_49 : decode cX5_count 49 = .ok (.getfield 22, 3) := by decide +kernel
theorem dX5_count_52 : decode cX5_count 52 = .ok (.getfield 174, 3) := by decide +kernel
theorem dX5_count_55 : decode cX5_count 55 = .ok (.ireturn, 1) := by decide +kernel
theorem dX5_count_56 : decode cX5_count 56 = .ok (.aload_n 0, 1) := by decide +kernel
theorem dX5_count_57 : decode cX5_count 57 = .ok (.getfield 158, 3) := by decide +kernel
theorem dX5_count_60 : decode cX5_count 60 = .ok (.ireturn, 1) := by decide +kernel
theorem dX5_count_61 : decode cX5_count 61 = .ok (.aload_n 0, 1) := by decide +kernel
theorem dX5_count_62 : decode cX5_count 62 = .ok (.getfield 161, 3) := by decide +kernel
theorem dX5_count_65 : decode cX5_count 65 = .ok (.ireturn, 1) := by decide +kernel
theorem dX5_count_66 : decode cX5_count 66 = .ok (.aload_n 0, 1) := by decide +kernel
theorem dX5_count_67 : decode cX5_count 67 = .ok (.getfield 38, 3) := by decide +kernel
theorem dX5_count_70 : decode cX5_count 70 = .ok (.getfield 52, 3) := by decide +kernel
theorem dX5_count_73 : decode cX5_count 73 = .ok (.ireturn, 1) := by decide +kernel
theorem dX5_count_74 : decode cX5_count 74 = .ok (.aload_n 0, 1) := by decide +kernel
theorem dX5_count_75 : decode cX5_count 75 = .ok (.getfield 42, 3) := by decide +kernel
theorem dX5_count_78 : decode cX5_count 78 = .ok (.getfield 52, 3) := by decide +kernel
theorem dX5_count_81 : decode cX5_count 81 = .ok (.ireturn, 1) := by decide +kernel
theorem dX5_count_82 : decode cX5_count 82 = .ok (.iconst (-1), 1) := by decide +kernel
theorem dX5_count_83 : decode cX5_count 83 = .ok (.ireturn, 1) := by decide +kernel
theorem dX5_sound_0 : decode cX5_sound 0 = .ok (.aload_n 0, 1) := by decide +kernel
theorem dX5_sound_1 : decode cX5_sound 1 = .ok (.getfield 22, 3) := by decide +kernel
theorem dX5_sound_4 : decode cX5_sound 4 = .ok (.invokevirtual 177, 3) := by decide +kernel
theorem dX5_sound_7 : decode cX5_sound 7 = .ok (.ifCond .eq 24, 3) := by decide +kernel
theorem dX5_sound_10 : decode cX5_sound 10 = .ok (.aload_n 0, 1) := by decide +kernel
theorem dX5_sound_11 : decode cX5_sound 11 = .ok (.invokevirtual 181, 3) := by decide +kernel
theorem dX5_sound_14 : decode cX5_sound 14 = .ok (.ifCond .eq 17, 3) := by decide +kernel
theorem dX5_sound_17 : decode cX5_sound 17 = .ok (.aload_n 0, 1) := by decide +kernel
theorem dX5_sound_18 : decode cX5_sound 18 = .ok (.getfield 31, 3) := by decide +kernel
theorem dX5_sound_21 : decode cX5_sound 21 = .ok (.invokevirtual 184, 3) := by decide +kernel
theorem dX5_sound_24 : decode cX5_sound 24 = .ok (.ifCond .eq 7, 3) := by decide +kernel
theorem dX5_sound_27 : decode cX5_sound 27 = .ok (.iconst 1, 1) := by decide +kernel
theorem dX5_sound_28 : decode cX5_sound 28 = .ok (.goto 4, 3) := by decide +kernel
theorem dX5_sound_31 : decode cX5_sound 31 = .ok (.iconst 0, 1) := by decide +kernel
theorem dX5_sound_32 : decode cX5_sound 32 = .ok (.ireturn, 1) := by decide +kernel
theorem dX5_nearest_0 : decode cX5_nearest 0 = .ok (.iconst 1, 1) := by decide +kernel
theorem dX5_nearest_1 : decode cX5_nearest 1 = .ok (.iload_n 1, 1) := by decide +kernel
theorem dX5_nearest_2 : decode cX5_nearest 2 = .ok (.iload_n 0, 1) := by decide +kernel
theorem dX5_nearest_3 : decode cX5_nearest 3 = .ok (.invokestatic 151, 3) := by decide +kernel
theorem dX5_nearest_6 : decode cX5_nearest 6 = .ok (.invokestatic 144, 3) := by decide +kernel
theorem dX5_nearest_9 : decode cX5_nearest 9 = .ok (.ireturn, 1) := by decide +kernel
theorem dX5_unitsOf_0 : decode cX5_unitsOf 0 = .ok (.iload_n 0, 1) := by decide +kernel
theorem dX5_unitsOf_1 : decode cX5_unitsOf 1 = .ok (.bipush 16, 2) := by decide +kernel
theorem dX5_unitsOf_3 : decode cX5_unitsOf 3 = .ok (.iadd, 1) := by decide +kernel
theorem dX5_unitsOf_4 : decode cX5_unitsOf 4 = .ok (.iconst 1, 1) := by decide +kernel
theorem dX5_unitsOf_5 : decode cX5_unitsOf 5 = .ok (.isub, 1) := by decide +kernel
theorem dX5_unitsOf_6 : decode cX5_unitsOf 6 = .ok (.bipush 16, 2) := by decide +kernel
theorem dX5_unitsOf_8 : decode cX5_unitsOf 8 = .ok (.idiv, 1) := by decide +kernel
theorem dX5_unitsOf_9 : decode cX5_unitsOf 9 = .ok (.ireturn, 1) := by decide +kernel
theorem dX5_numberAt_0 : decode cX5_numberAt 0 = .ok (.iload_n 1, 1) := by decide +kernel
theorem dX5_numberAt_1 : decode cX5_numberAt 1 = .ok (.ifCond .lt 19, 3) := by decide +kernel
theorem dX5_numberAt_4 : decode cX5_numberAt 4 = .ok (.iload_n 1, 1) := by decide +kernel
theorem dX5_numberAt_5 : decode cX5_numberAt 5 = .ok (.aload_n 0, 1) := by decide +kernel
theorem dX5_numberAt_6 : decode cX5_numberAt 6 = .ok (.arraylength, 1) := by decide +kernel
theorem dX5_numberAt_7 : decode cX5_numberAt 7 = .ok (.if_icmp .ge 13, 3) := by decide +kernel
theorem dX5_numberAt_10 : decode cX5_numberAt 10 = .ok (.aload_n 0, 1) := by decide +kernel
theorem dX5_numberAt_11 : decode cX5_numberAt 11 = .ok (.iload_n 1, 1) := by decide +kernel
theorem dX5_numberAt_12 : decode cX5_numberAt 12 = .ok (.baload, 1) := by decide +kernel
theorem dX5_numberAt_13 : decode cX5_numberAt 13 = .ok (.sipush 255, 3) := by decide +kernel
theorem dX5_numberAt_16 : decode cX5_numberAt 16 = .ok (.iand, 1) := by decide +kernel
theorem dX5_numberAt_17 : decode cX5_numberAt 17 = .ok (.goto 4, 3) := by decide +kernel
theorem dX5_numberAt_20 : decode cX5_numberAt 20 = .ok (.iconst 0, 1) := by decide +kernel
theorem dX5_numberAt_21 : decode cX5_numberAt 21 = .ok (.ireturn, 1) := by decide +kernel
theorem dX5_copy_0 : decode cX5_copy 0 = .ok (.iload_n 1, 1) := by decide +kernel
theorem dX5_copy_1 : decode cX5_copy 1 = .ok (.ifCond .lt 21, 3) := by decide +kernel
theorem dX5_copy_4 : decode cX5_copy 4 = .ok (.iload 4, 2) := by decide +kernel
theorem dX5_copy_6 : decode cX5_copy 6 = .ok (.ifCond .lt 16, 3) := by decide +kernel
theorem dX5_copy_9 : decode cX5_copy 9 = .ok (.iload_n 1, 1) := by decide +kernel
theorem dX5_copy_10 : decode cX5_copy 10 = .ok (.aload_n 0, 1) := by decide +kernel
theorem dX5_copy_11 : decode cX5_copy 11 = .ok (.arraylength, 1) := by decide +kernel
theorem dX5_copy_12 : decode cX5_copy 12 = .ok (.iload 4, 2) := by decide +kernel
theorem dX5_copy_14 : decode cX5_copy 14 = .ok (.isub, 1) := by decide +kernel
theorem dX5_copy_15 : decode cX5_copy 15 = .ok (.if_icmp .gt 7, 3) := by decide +kernel
theorem dX5_copy_18 : decode cX5_copy 18 = .ok (.iconst 1, 1) := by decide +kernel
theorem dX5_copy_19 : decode cX5_copy 19 = .ok (.goto 4, 3) := by decide +kernel
theorem dX5_copy_22 : decode cX5_copy 22 = .ok (.iconst 0, 1) := by decide +kernel
theorem dX5_copy_23 : decode cX5_copy 23 = .ok (.istore 5, 2) := by decide +kernel
theorem dX5_copy_25 : decode cX5_copy 25 = .ok (.iload_n 3, 1) := by decide +kernel
theorem dX5_copy_26 : decode cX5_copy 26 = .ok (.ifCond .lt 16, 3) := by decide +kernel
theorem dX5_copy_29 : decode cX5_copy 29 = .ok (.iload_n 3, 1) := by decide +kernel
theorem dX5_copy_30 : decode cX5_copy 30 = .ok (.aload_n 2, 1) := by decide +kernel
theorem dX5_copy_31 : decode cX5_copy 31 = .ok (.arraylength, 1) := by decide +kernel
theorem dX5_copy_32 : decode cX5_copy 32 = .ok (.iload 4, 2) := by decide +kernel
theorem dX5_copy_34 : decode cX5_copy 34 = .ok (.isub, 1) := by decide +kernel
theorem dX5_copy_35 : decode cX5_copy 35 = .ok (.if_icmp .gt 7, 3) := by decide +kernel
theorem dX5_copy_38 : decode cX5_copy 38 = .ok (.iconst 1, 1) := by decide +kernel
theorem dX5_copy_39 : decode cX5_copy 39 = .ok (.goto 4, 3) := by decide +kernel
theorem dX5_copy_42 : decode cX5_copy 42 = .ok (.iconst 0, 1) := by decide +kernel
theorem dX5_copy_43 : decode cX5_copy 43 = .ok (.istore 6, 2) := by decide +kernel
theorem dX5_copy_45 : decode cX5_copy 45 = .ok (.iload 5, 2) := by decide +kernel
theorem dX5_copy_47 : decode cX5_copy 47 = .ok (.ifCond .eq 17, 3) := by decide +kernel
theorem dX5_copy_50 : decode cX5_copy 50 = .ok (.iload 6, 2) := by decide +kernel
theorem dX5_copy_52 : decode cX5_copy 52 = .ok (.ifCond .eq 12, 3) := by decide +kernel
theorem dX5_copy_55 : decode cX5_copy 55 = .ok (.aload_n 0, 1) := by decide +kernel
theorem dX5_copy_56 : decode cX5_copy 56 = .ok (.iload_n 1, 1) := by decide +kernel
theorem dX5_copy_57 : decode cX5_copy 57 = .ok (.aload_n 2, 1) := by decide +kernel
theorem dX5_copy_58 : decode cX5_copy 58 = .ok (.iload_n 3, 1) := by decide +kernel
theorem dX5_copy_59 : decode cX5_copy 59 = .ok (.iload 4, 2) := by decide +kernel
theorem dX5_copy_61 : decode cX5_copy 61 = .ok (.invokestatic 185, 3) := by decide +kernel
theorem dX5_copy_64 : decode cX5_copy 64 = .ok (.return_, 1) := by decide +kernel
theorem dX5_isKeyLength_0 : decode cX5_isKeyLength 0 = .ok (.iload_n 0, 1) := by decide +kernel
theorem dX5_isKeyLength_1 : decode cX5_isKeyLength 1 = .ok (.iconst 1, 1) := by decide +kernel
theorem dX5_isKeyLength_2 : decode cX5_isKeyLength 2 = .ok (.if_icmp .lt 13, 3) := by decide +kernel
theorem dX5_isKeyLength_5 : decode cX5_isKeyLength 5 = .ok (.iload_n 0, 1) := by decide +kernel
theorem dX5_isKeyLength_6 : decode cX5_isKeyLength 6 = .ok (.bipush 64, 2) := by decide +kernel
theorem dX5_isKeyLength_8 : decode cX5_isKeyLength 8 = .ok (.if_icmp .gt 7, 3) := by decide +kernel
theorem dX5_isKeyLength_11 : decode cX5_isKeyLength 11 = .ok (.iconst 1, 1) := by decide +kernel
theorem dX5_isKeyLength_12 : decode cX5_isKeyLength 12 = .ok (.goto 4, 3) := by decide +kernel
theorem dX5_isKeyLength_15 : decode cX5_isKeyLength 15 = .ok (.iconst 0, 1) := by decide +kernel
theorem dX5_isKeyLength_16 : decode cX5_isKeyLength 16 = .ok (.ireturn, 1) := by decide +kernel
theorem dX5_readTape_0 : decode cX5_readTape 0 = .ok (.aload_n 0, 1) := by decide +kernel
theorem dX5_readTape_1 : decode cX5_readTape 1 = .ok (.getfield 38, 3) := by decide +kernel
theorem dX5_readTape_4 : decode cX5_readTape 4 = .ok (.getfield 52, 3) := by decide +kernel
theorem dX5_readTape_7 : decode cX5_readTape 7 = .ok (.istore_n 1, 1) := by decide +kernel
theorem dX5_readTape_8 : decode cX5_readTape 8 = .ok (.aload_n 0, 1) := by decide +kernel
theorem dX5_readTape_9 : decode cX5_readTape 9 = .ok (.getfield 38, 3) := by decide +kernel
theorem dX5_readTape_12 : decode cX5_readTape 12 = .ok (.iconst 0, 1) := by decide +kernel
theorem dX5_readTape_13 : decode cX5_readTape 13 = .ok (.putfield 52, 3) := by decide +kernel
theorem dX5_readTape_16 : decode cX5_readTape 16 = .ok (.iload_n 1, 1) := by decide +kernel
theorem dX5_readTape_17 : decode cX5_readTape 17 = .ok (.ireturn, 1) := by decide +kernel
theorem dX5_readKey_0 : decode cX5_readKey 0 = .ok (.aload_n 0, 1) := by decide +kernel
theorem dX5_readKey_1 : decode cX5_readKey 1 = .ok (.invokevirtual 64, 3) := by decide +kernel
theorem dX5_readKey_4 : decode cX5_readKey 4 = .ok (.istore_n 1, 1) := by decide +kernel
theorem dX5_readKey_5 : decode cX5_readKey 5 = .ok (.iload_n 1, 1) := by decide +kernel
theorem dX5_readKey_6 : decode cX5_readKey 6 = .ok (.invokestatic 68, 3) := by decide +kernel
theorem dX5_readKey_9 : decode cX5_readKey 9 = .ok (.ifCond .ne 13, 3) := by decide +kernel
theorem dX5_readKey_12 : decode cX5_readKey 12 = .ok (.new 45, 3) := by decide +kernel
theorem dX5_readKey_15 : decode cX5_readKey 15 = .ok (.dup, 1) := by decide +kernel
theorem dX5_readKey_16 : decode cX5_readKey 16 = .ok (.ldc 191, 2) := by decide +kernel
theorem dX5_readKey_18 : decode cX5_readKey 18 = .ok (.invokespecial 49, 3) := by decide +kernel
theorem dX5_readKey_21 : decode cX5_readKey 21 = .ok (.athrow, 1) := by decide +kernel
theorem dX5_readKey_22 : decode cX5_readKey 22 = .ok (.iload_n 1, 1) := by decide +kernel
theorem dX5_readKey_23 : decode cX5_readKey 23 = .ok (.ireturn, 1) := by decide +kernel
theorem dX5_currentPlace_0 : decode cX5_currentPlace 0 = .ok (.aload_n 0, 1) := by decide +kernel
theorem dX5_currentPlace_1 : decode cX5_currentPlace 1 = .ok (.getfield 92, 3) := by decide +kernel
theorem dX5_currentPlace_4 : decode cX5_currentPlace 4 = .ok (.ifnonnull 13, 3) := by decide +kernel
theorem dX5_currentPlace_7 : decode cX5_currentPlace 7 = .ok (.new 55, 3) := by decide +kernel
theorem dX5_currentPlace_10 : decode cX5_currentPlace 10 = .ok (.dup, 1) := by decide +kernel
theorem dX5_currentPlace_11 : decode cX5_currentPlace 11 = .ok (.ldc 137, 2) := by decide +kernel
theorem dX5_currentPlace_13 : decode cX5_currentPlace 13 = .ok (.invokespecial 59, 3) := by decide +kernel
theorem dX5_currentPlace_16 : decode cX5_currentPlace 16 = .ok (.athrow, 1) := by decide +kernel
theorem dX5_currentPlace_17 : decode cX5_currentPlace 17 = .ok (.aload_n 0, 1) := by decide +kernel
theorem dX5_currentPlace_18 : decode cX5_currentPlace 18 = .ok (.getfield 31, 3) := by decide +kernel
theorem dX5_currentPlace_21 : decode cX5_currentPlace 21 = .ok (.aload_n 0, 1) := by decide +kernel
theorem dX5_currentPlace_22 : decode cX5_currentPlace 22 = .ok (.getfield 92, 3) := by decide +kernel
theorem dX5_currentPlace_25 : decode cX5_currentPlace 25 = .ok (.invokevirtual 193, 3) := by decide +kernel
theorem dX5_currentPlace_28 : decode cX5_currentPlace 28 = .ok (.ireturn, 1) := by decide +kernel
theorem dX5_isFull_0 : decode cX5_isFull 0 = .ok (.aload_n 1, 1) := by decide +kernel
theorem dX5_isFull_1 : decode cX5_isFull 1 = .ok (.ifnonnull 21, 3) := by decide +kernel
theorem dX5_isFull_4 : decode cX5_isFull 4 = .ok (.aload_n 0, 1) := by decide +kernel
theorem dX5_isFull_5 : decode cX5_isFull 5 = .ok (.getfield 31, 3) := by decide +kernel
theorem dX5_isFull_8 : decode cX5_isFull 8 = .ok (.invokevirtual 141, 3) := by decide +kernel
theorem dX5_isFull_11 : decode cX5_isFull 11 = .ok (.aload_n 0, 1) := by decide +kernel
theorem dX5_isFull_12 : decode cX5_isFull 12 = .ok (.getfield 13, 3) := by decide +kernel
theorem dX5_isFull_15 : decode cX5_isFull 15 = .ok (.if_icmp .lt 7, 3) := by decide +kernel
theorem dX5_isFull_18 : decode cX5_isFull 18 = .ok (.iconst 1, 1) := by decide +kernel
theorem dX5_isFull_19 : decode cX5_isFull 19 = .ok (.goto 4, 3) := by decide +kernel
theorem dX5_isFull_22 : decode cX5_isFull 22 = .ok (.iconst 0, 1) := by decide +kernel
theorem dX5_isFull_23 : decode cX5_isFull 23 = .ok (.istore_n 3, 1) := by decide +kernel
theorem dX5_isFull_24 : decode cX5_isFull 24 = .ok (.aload_n 1, 1) := by decide +kernel
theorem dX5_isFull_25 : decode cX5_isFull 25 = .ok (.ifnonnull 7, 3) := by decide +kernel
theorem dX5_isFull_28 : decode cX5_isFull 28 = .ok (.iconst 0, 1) := by decide +kernel
theorem dX5_isFull_29 : decode cX5_isFull 29 = .ok (.goto 10, 3) := by decide +kernel
theorem dX5_isFull_32 : decode cX5_isFull 32 = .ok (.aload_n 1, 1) := by decide +kernel
theorem dX5_isFull_33 : decode cX5_isFull 33 = .ok (.getfield 196, 3) := by decide +kernel
theorem dX5_isFull_36 : decode cX5_isFull 36 = .ok (.getfield 202, 3) := by decide +kernel
theorem dX5_isFull_39 : decode cX5_isFull 39 = .ok (.istore 4, 2) := by decide +kernel
theorem dX5_isFull_41 : decode cX5_isFull 41 = .ok (.iload_n 3, 1) := by decide +kernel
theorem dX5_isFull_42 : decode cX5_isFull 42 = .ok (.ifCond .ne 25, 3) := by decide +kernel
theorem dX5_isFull_45 : decode cX5_isFull 45 = .ok (.aload_n 0, 1) := by decide +kernel
theorem dX5_isFull_46 : decode cX5_isFull 46 = .ok (.getfield 22, 3) := by decide +kernel
theorem dX5_isFull_49 : decode cX5_isFull 49 = .ok (.getfield 174, 3) := by decide +kernel
theorem dX5_isFull_52 : decode cX5_isFull 52 = .ok (.iload 4, 2) := by decide +kernel
theorem dX5_isFull_54 : decode cX5_isFull 54 = .ok (.isub, 1) := by decide +kernel
theorem dX5_isFull_55 : decode cX5_isFull 55 = .ok (.iload_n 2, 1) := by decide +kernel
theorem dX5_isFull_56 : decode cX5_isFull 56 = .ok (.iadd, 1) := by decide +kernel
theorem dX5_isFull_57 : decode cX5_isFull 57 = .ok (.aload_n 0, 1) := by decide +kernel
theorem dX5_isFull_58 : decode cX5_isFull 58 = .ok (.getfield 22, 3) := by decide +kernel
theorem dX5_isFull_61 : decode cX5_isFull 61 = .ok (.getfield 207, 3) := by decide +kernel
theorem dX5_isFull_64 : decode cX5_isFull 64 = .ok (.if_icmp .le 7, 3) := by decide +kernel
theorem dX5_isFull_67 : decode cX5_isFull 67 = .ok (.iconst 1, 1) := by decide +kernel
theorem dX5_isFull_68 : decode cX5_isFull 68 = .ok (.goto 4, 3) := by decide +kernel
theorem dX5_isFull_71 : decode cX5_isFull 71 = .ok (.iconst 0, 1) := by decide +kernel
theorem dX5_isFull_72 : decode cX5_isFull 72 = .ok (.ireturn, 1) := by decide +kernel
theorem dX5_newEntry_0 : decode cX5_newEntry 0 = .ok (.new 197, 3) := by decide +kernel
theorem dX5_newEntry_3 : decode cX5_newEntry 3 = .ok (.dup, 1) := by decide +kernel
theorem dX5_newEntry_4 : decode cX5_newEntry 4 = .ok (.iload_n 1, 1) := by decide +kernel
theorem dX5_newEntry_5 : decode cX5_newEntry 5 = .ok (.invokespecial 210, 3) := by decide +kernel
theorem dX5_newEntry_8 : decode cX5_newEntry 8 = .ok (.astore_n 3, 1) := by decide +kernel
theorem dX5_newEntry_9 : decode cX5_newEntry 9 = .ok (.aload_n 3, 1) := by decide +kernel
theorem dX5_newEntry_10 : decode cX5_newEntry 10 = .ok (.aload_n 0, 1) := by decide +kernel
theorem dX5_newEntry_11 : decode cX5_newEntry 11 = .ok (.getfield 22, 3) := by decide +kernel
theorem dX5_newEntry_14 : decode cX5_newEntry 14 = .ok (.aload_n 3, 1) := by decide +kernel
theorem dX5_newEntry_15 : decode cX5_newEntry 15 = .ok (.iload_n 2, 1) := by decide +kernel
theorem dX5_newEntry_16 : decode cX5_newEntry 16 = .ok (.invokestatic 78, 3) := by decide +kernel
theorem dX5_newEntry_19 : decode cX5_newEntry 19 = .ok (.invokevirtual 211, 3) := by decide +kernel
theorem dX5_newEntry_22 : decode cX5_newEntry 22 = .ok (.putfield 196, 3) := by decide +kernel
theorem dX5_newEntry_25 : decode cX5_newEntry 25 = .ok (.aload_n 0, 1) := by decide +kernel
theorem dX5_newEntry_26 : decode cX5_newEntry 26 = .ok (.dup, 1) := by decide +kernel
theorem dX5_newEntry_27 : decode cX5_newEntry 27 = .ok (.getfield 158, 3) := by decide +kernel
theorem dX5_newEntry_30 : decode cX5_newEntry 30 = .ok (.iload_n 1, 1) := by decide +kernel
theorem dX5_newEntry_31 : decode cX5_newEntry 31 = .ok (.iadd, 1) := by decide +kernel
theorem dX5_newEntry_32 : decode cX5_newEntry 32 = .ok (.putfield 158, 3) := by decide +kernel
theorem dX5_newEntry_35 : decode cX5_newEntry 35 = .ok (.aload_n 0, 1) := by decide +kernel
theorem dX5_newEntry_36 : decode cX5_newEntry 36 = .ok (.aload_n 3, 1) := by decide +kernel
theorem dX5_newEntry_37 : decode cX5_newEntry 37 = .ok (.iload_n 2, 1) := by decide +kernel
theorem dX5_newEntry_38 : decode cX5_newEntry 38 = .ok (.invokevirtual 215, 3) := by decide +kernel
theorem dX5_newEntry_41 : decode cX5_newEntry 41 = .ok (.aload_n 0, 1) := by decide +kernel
theorem dX5_newEntry_42 : decode cX5_newEntry 42 = .ok (.getfield 31, 3) := by decide +kernel
theorem dX5_newEntry_45 : decode cX5_newEntry 45 = .ok (.aload_n 3, 1) := by decide +kernel
theorem dX5_newEntry_46 : decode cX5_newEntry 46 = .ok (.invokevirtual 218, 3) := by decide +kernel
theorem dX5_newEntry_49 : decode cX5_newEntry 49 = .ok (.aload_n 3, 1) := by decide +kernel
theorem dX5_newEntry_50 : decode cX5_newEntry 50 = .ok (.areturn, 1) := by decide +kernel
theorem dX5_changeValue_0 : decode cX5_changeValue 0 = .ok (.aload_n 1, 1) := by decide +kernel
theorem dX5_changeValue_1 : decode cX5_changeValue 1 = .ok (.getfield 196, 3) := by decide +kernel
theorem dX5_changeValue_4 : decode cX5_changeValue 4 = .ok (.getfield 202, 3) := by decide +kernel
theorem dX5_changeValue_7 : decode cX5_changeValue 7 = .ok (.iload_n 2, 1) := by decide +kernel
theorem dX5_changeValue_8 : decode cX5_changeValue 8 = .ok (.invokestatic 78, 3) := by decide +kernel
theorem dX5_changeValue_11 : decode cX5_changeValue 11 = .ok (.if_icmp .eq 30, 3) := by decide +kernel
theorem dX5_changeValue_14 : decode cX5_changeValue 14 = .ok (.aload_n 0, 1) := by decide +kernel
theorem dX5_changeValue_15 : decode cX5_changeValue 15 = .ok (.getfield 22, 3) := by decide +kernel
theorem dX5_changeValue_18 : decode cX5_changeValue 18 = .ok (.aload_n 1, 1) := by decide +kernel
theorem dX5_changeValue_19 : decode cX5_changeValue 19 = .ok (.getfield 196, 3) := by decide +kernel
theorem dX5_changeValue_22 : decode cX5_changeValue 22 = .ok (.invokevirtual 221, 3) := by decide +kernel
theorem dX5_changeValue_25 : decode cX5_changeValue 25 = .ok (.aload_n 1, 1) := by decide +kernel
theorem dX5_changeValue_26 : decode cX5_changeValue 26 = .ok (.aload_n 0, 1) := by decide +kernel
theorem dX5_changeValue_27 : decode cX5_changeValue 27 = .ok (.getfield 22, 3) := by decide +kernel
theorem dX5_changeValue_30 : decode cX5_changeValue 30 = .ok (.aload_n 1, 1) := by decide +kernel
theorem dX5_changeValue_31 : decode cX5_changeValue 31 = .ok (.iload_n 2, 1) := by decide +kernel
theorem dX5_changeValue_32 : decode cX5_changeValue 32 = .ok (.invokestatic 78, 3) := by decide +kernel
theorem dX5_changeValue_35 : decode cX5_changeValue 35 = .ok (.invokevirtual 211, 3) := by decide +kernel
theorem dX5_changeValue_38 : decode cX5_changeValue 38 = .ok (.putfield 196, 3) := by decide +kernel
theorem dX5_changeValue_41 : decode cX5_changeValue 41 = .ok (.aload_n 0, 1) := by decide +kernel
theorem dX5_changeValue_42 : decode cX5_changeValue 42 = .ok (.dup, 1) := by decide +kernel
theorem dX5_changeValue_43 : decode cX5_changeValue 43 = .ok (.getfield 161, 3) := by decide +kernel
theorem dX5_changeValue_46 : decode cX5_changeValue 46 = .ok (.aload_n 1, 1) := by decide +kernel
theorem dX5_changeValue_47 : decode cX5_changeValue 47 = .ok (.getfield 225, 3) := by decide +kernel
theorem dX5_changeValue_50 : decode cX5_changeValue 50 = .ok (.isub, 1) := by decide +kernel
theorem dX5_changeValue_51 : decode cX5_changeValue 51 = .ok (.putfield 161, 3) := by decide +kernel
theorem dX5_changeValue_54 : decode cX5_changeValue 54 = .ok (.aload_n 0, 1) := by decide +kernel
theorem dX5_changeValue_55 : decode cX5_changeValue 55 = .ok (.aload_n 1, 1) := by decide +kernel
theorem dX5_changeValue_56 : decode cX5_changeValue 56 = .ok (.iload_n 2, 1) := by decide +kernel
theorem dX5_changeValue_57 : decode cX5_changeValue 57 = .ok (.invokevirtual 215, 3) := by decide +kernel
theorem dX5_changeValue_60 : decode cX5_changeValue 60 = .ok (.return_, 1) := by decide +kernel
theorem dX5_fill_0 : decode cX5_fill 0 = .ok (.aload_n 0, 1) := by decide +kernel
theorem dX5_fill_1 : decode cX5_fill 1 = .ok (.getfield 22, 3) := by decide +kernel
theorem dX5_fill_4 : decode cX5_fill 4 = .ok (.aload_n 1, 1) := by decide +kernel
theorem dX5_fill_5 : decode cX5_fill 5 = .ok (.getfield 196, 3) := by decide +kernel
theorem dX5_fill_8 : decode cX5_fill 8 = .ok (.aload_n 0, 1) := by decide +kernel
theorem dX5_fill_9 : decode cX5_fill 9 = .ok (.getfield 38, 3) := by decide +kernel
theorem dX5_fill_12 : decode cX5_fill 12 = .ok (.iload_n 2, 1) := by decide +kernel
theorem dX5_fill_13 : decode cX5_fill 13 = .ok (.invokevirtual 226, 3) := by decide +kernel
theorem dX5_fill_16 : decode cX5_fill 16 = .ok (.aload_n 1, 1) := by decide +kernel
theorem dX5_fill_17 : decode cX5_fill 17 = .ok (.iload_n 2, 1) := by decide +kernel
theorem dX5_fill_18 : decode cX5_fill 18 = .ok (.aload_n 1, 1) := by decide +kernel
theorem dX5_fill_19 : decode cX5_fill 19 = .ok (.getfield 230, 3) := by decide +kernel
theorem dX5_fill_22 : decode cX5_fill 22 = .ok (.isub, 1) := by decide +kernel
theorem dX5_fill_23 : decode cX5_fill 23 = .ok (.putfield 225, 3) := by decide +kernel
theorem dX5_fill_26 : decode cX5_fill 26 = .ok (.aload_n 0, 1) := by decide +kernel
theorem dX5_fill_27 : decode cX5_fill 27 = .ok (.dup, 1) := by decide +kernel
theorem dX5_fill_28 : decode cX5_fill 28 = .ok (.getfield 161, 3) := by decide +kernel
theorem dX5_fill_31 : decode cX5_fill 31 = .ok (.aload_n 1, 1) := by decide +kernel
theorem dX5_fill_32 : decode cX5_fill 32 = .ok (.getfield 225, 3) := by decide +kernel
theorem dX5_fill_35 : decode cX5_fill 35 = .ok (.iadd, 1) := by decide +kernel
theorem dX5_fill_36 : decode cX5_fill 36 = .ok (.putfield 161, 3) := by decide +kernel
theorem dX5_fill_39 : decode cX5_fill 39 = .ok (.return_, 1) := by decide +kernel
theorem dX5_drop_0 : decode cX5_drop 0 = .ok (.aload_n 0, 1) := by decide +kernel
theorem dX5_drop_1 : decode cX5_drop 1 = .ok (.getfield 31, 3) := by decide +kernel
theorem dX5_drop_4 : decode cX5_drop 4 = .ok (.aload_n 1, 1) := by decide +kernel
theorem dX5_drop_5 : decode cX5_drop 5 = .ok (.invokevirtual 231, 3) := by decide +kernel
theorem dX5_drop_8 : decode cX5_drop 8 = .ok (.aload_n 0, 1) := by decide +kernel
theorem dX5_drop_9 : decode cX5_drop 9 = .ok (.getfield 22, 3) := by decide +kernel
theorem dX5_drop_12 : decode cX5_drop 12 = .ok (.aload_n 1, 1) := by decide +kernel
theorem dX5_drop_13 : decode cX5_drop 13 = .ok (.getfield 196, 3) := by decide +kernel
theorem dX5_drop_16 : decode cX5_drop 16 = .ok (.invokevirtual 221, 3) := by decide +kernel
theorem dX5_drop_19 : decode cX5_drop 19 = .ok (.aload_n 0, 1) := by decide +kernel
theorem dX5_drop_20 : decode cX5_drop 20 = .ok (.dup, 1) := by decide +kernel
theorem dX5_drop_21 : decode cX5_drop 21 = .ok (.getfield 158, 3) := by decide +kernel
theorem dX5_drop_24 : decode cX5_drop 24 = .ok (.aload_n 1, 1) := by decide +kernel
theorem dX5_drop_25 : decode cX5_drop 25 = .ok (.getfield 230, 3) := by decide +kernel
theorem dX5_drop_28 : decode cX5_drop 28 = .ok (.isub, 1) := by decide +kernel
theorem dX5_drop_29 : decode cX5_drop 29 = .ok (.putfield 158, 3) := by decide +kernel
theorem dX5_drop_32 : decode cX5_drop 32 = .ok (.aload_n 0, 1) := by decide +kernel
theorem dX5_drop_33 : decode cX5_drop 33 = .ok (.dup, 1) := by decide +kernel
theorem dX5_drop_34 : decode cX5_drop 34 = .ok (.getfield 161, 3) := by decide +kernel
theorem dX5_drop_37 : decode cX5_drop 37 = .ok (.aload_n 1, 1) := by decide +kernel
theorem dX5_drop_38 : decode cX5_drop 38 = .ok (.getfield 225, 3) := by decide +kernel
theorem dX5_drop_41 : decode cX5_drop 41 = .ok (.isub, 1) := by decide +kernel
theorem dX5_drop_42 : decode cX5_drop 42 = .ok (.putfield 161, 3) := by decide +kernel
theorem dX5_drop_45 : decode cX5_drop 45 = .ok (.aload_n 0, 1) := by decide +kernel
theorem dX5_drop_46 : decode cX5_drop 46 = .ok (.getfield 92, 3) := by decide +kernel
theorem dX5_drop_49 : decode cX5_drop 49 = .ok (.aload_n 1, 1) := by decide +kernel
theorem dX5_drop_50 : decode cX5_drop 50 = .ok (.if_acmp .ne 8, 3) := by decide +kernel
theorem dX5_drop_53 : decode cX5_drop 53 = .ok (.aload_n 0, 1) := by decide +kernel
theorem dX5_drop_54 : decode cX5_drop 54 = .ok (.aconst_null, 1) := by decide +kernel
theorem dX5_drop_55 : decode cX5_drop 55 = .ok (.putfield 92, 3) := by decide +kernel
theorem dX5_drop_58 : decode cX5_drop 58 = .ok (.return_, 1) := by decide +kernel
theorem dX5_goTo_0 : decode cX5_goTo 0 = .ok (.aload_n 0, 1) := by decide +kernel
theorem dX5_goTo_1 : decode cX5_goTo 1 = .ok (.aload_n 1, 1) := by decide +kernel
theorem dX5_goTo_2 : decode cX5_goTo 2 = .ok (.putfield 92, 3) := by decide +kernel
theorem dX5_goTo_5 : decode cX5_goTo 5 = .ok (.aload_n 0, 1) := by decide +kernel
theorem dX5_goTo_6 : decode cX5_goTo 6 = .ok (.getfield 22, 3) := by decide +kernel
theorem dX5_goTo_9 : decode cX5_goTo 9 = .ok (.aload_n 1, 1) := by decide +kernel
theorem dX5_goTo_10 : decode cX5_goTo 10 = .ok (.getfield 196, 3) := by decide +kernel
theorem dX5_goTo_13 : decode cX5_goTo 13 = .ok (.iconst 0, 1) := by decide +kernel
theorem dX5_goTo_14 : decode cX5_goTo 14 = .ok (.aload_n 1, 1) := by decide +kernel
theorem dX5_goTo_15 : decode cX5_goTo 15 = .ok (.getfield 230, 3) := by decide +kernel
theorem dX5_goTo_18 : decode cX5_goTo 18 = .ok (.aload_n 0, 1) := by decide +kernel
theorem dX5_goTo_19 : decode cX5_goTo 19 = .ok (.getfield 42, 3) := by decide +kernel
theorem dX5_goTo_22 : decode cX5_goTo 22 = .ok (.invokevirtual 234, 3) := by decide +kernel
theorem dX5_goTo_25 : decode cX5_goTo 25 = .ok (.aload_n 0, 1) := by decide +kernel
theorem dX5_goTo_26 : decode cX5_goTo 26 = .ok (.getfield 42, 3) := by decide +kernel
theorem dX5_goTo_29 : decode cX5_goTo 29 = .ok (.getfield 52, 3) := by decide +kernel
theorem dX5_goTo_32 : decode cX5_goTo 32 = .ok (.ireturn, 1) := by decide +kernel
theorem dX5_showValue_0 : decode cX5_showValue 0 = .ok (.aload_n 0, 1) := by decide +kernel
theorem dX5_showValue_1 : decode cX5_showValue 1 = .ok (.getfield 22, 3) := by decide +kernel
theorem dX5_showValue_4 : decode cX5_showValue 4 = .ok (.aload_n 1, 1) := by decide +kernel
theorem dX5_showValue_5 : decode cX5_showValue 5 = .ok (.getfield 196, 3) := by decide +kernel
theorem dX5_showValue_8 : decode cX5_showValue 8 = .ok (.aload_n 1, 1) := by decide +kernel
theorem dX5_showValue_9 : decode cX5_showValue 9 = .ok (.getfield 230, 3) := by decide +kernel
theorem dX5_showValue_12 : decode cX5_showValue 12 = .ok (.aload_n 1, 1) := by decide +kernel
theorem dX5_showValue_13 : decode cX5_showValue 13 = .ok (.getfield 225, 3) := by decide +kernel
theorem dX5_showValue_16 : decode cX5_showValue 16 = .ok (.aload_n 0, 1) := by decide +kernel
theorem dX5_showValue_17 : decode cX5_showValue 17 = .ok (.getfield 42, 3) := by decide +kernel
theorem dX5_showValue_20 : decode cX5_showValue 20 = .ok (.invokevirtual 234, 3) := by decide +kernel
theorem dX5_showValue_23 : decode cX5_showValue 23 = .ok (.aload_n 0, 1) := by decide +kernel
theorem dX5_showValue_24 : decode cX5_showValue 24 = .ok (.getfield 42, 3) := by decide +kernel
theorem dX5_showValue_27 : decode cX5_showValue 27 = .ok (.getfield 52, 3) := by decide +kernel
theorem dX5_showValue_30 : decode cX5_showValue 30 = .ok (.ireturn, 1) := by decide +kernel
theorem dX5_blocksMatchEntries_0 : decode cX5_blocksMatchEntries 0 = .ok (.iconst 0, 1) := by decide +kernel
theorem dX5_blocksMatchEntries_1 : decode cX5_blocksMatchEntries 1 = .ok (.istore_n 1, 1) := by decide +kernel
theorem dX5_blocksMatchEntries_2 : decode cX5_blocksMatchEntries 2 = .ok (.aload_n 0, 1) := by decide +kernel
theorem dX5_blocksMatchEntries_3 : decode cX5_blocksMatchEntries 3 = .ok (.getfield 22, 3) := by decide +kernel
theorem dX5_blocksMatchEntries_6 : decode cX5_blocksMatchEntries 6 = .ok (.getfield 238, 3) := by decide +kernel
theorem dX5_blocksMatchEntries_9 : decode cX5_blocksMatchEntries 9 = .ok (.getfield 241, 3) := by decide +kernel
theorem dX5_blocksMatchEntries_12 : decode cX5_blocksMatchEntries 12 = .ok (.astore_n 2, 1) := by decide +kernel
theorem dX5_blocksMatchEntries_13 : decode cX5_blocksMatchEntries 13 = .ok (.aload_n 2, 1) := by decide +kernel
theorem dX5_blocksMatchEntries_14 : decode cX5_blocksMatchEntries 14 = .ok (.ifnull 63, 3) := by decide +kernel
theorem dX5_blocksMatchEntries_17 : decode cX5_blocksMatchEntries 17 = .ok (.aload_n 2, 1) := by decide +kernel
theorem dX5_blocksMatchEntries_18 : decode cX5_blocksMatchEntries 18 = .ok (.getfield 244, 3) := by decide +kernel
theorem dX5_blocksMatchEntries_21 : decode cX5_blocksMatchEntries 21 = .ok (.astore_n 3, 1) := by decide +kernel
theorem dX5_blocksMatchEntries_22 : decode cX5_blocksMatchEntries 22 = .ok (.aload_n 3, 1) := by decide +kernel
theorem dX5_blocksMatchEntries_23 : decode cX5_blocksMatchEntries 23 = .ok (.ifnull 46, 3) := by decide +kernel
theorem dX5_blocksMatchEntries_26 : decode cX5_blocksMatchEntries 26 = .ok (.iinc 1 1, 3) := by decide +kernel
theorem dX5_blocksMatchEntries_29 : decode cX5_blocksMatchEntries 29 = .ok (.aload_n 3, 1) := by decide +kernel
theorem dX5_blocksMatchEntries_30 : decode cX5_blocksMatchEntries 30 = .ok (.getfield 196, 3) := by decide +kernel
theorem dX5_blocksMatchEntries_33 : decode cX5_blocksMatchEntries 33 = .ok (.aload_n 2, 1) := by decide +kernel
theorem dX5_blocksMatchEntries_34 : decode cX5_blocksMatchEntries 34 = .ok (.if_acmp .ne 33, 3) := by decide +kernel
theorem dX5_blocksMatchEntries_37 : decode cX5_blocksMatchEntries 37 = .ok (.aload_n 0, 1) := by decide +kernel
theorem dX5_blocksMatchEntries_38 : decode cX5_blocksMatchEntries 38 = .ok (.getfield 31, 3) := by decide +kernel
theorem dX5_blocksMatchEntries_41 : decode cX5_blocksMatchEntries 41 = .ok (.aload_n 3, 1) := by decide +kernel
theorem dX5_blocksMatchEntries_42 : decode cX5_blocksMatchEntries 42 = .ok (.invokevirtual 247, 3) := by decide +kernel
theorem dX5_blocksMatchEntries_45 : decode cX5_blocksMatchEntries 45 = .ok (.ifCond .eq 22, 3) := by decide +kernel
theorem dX5_blocksMatchEntries_48 : decode cX5_blocksMatchEntries 48 = .ok (.aload_n 2, 1) := by decide +kernel
theorem dX5_blocksMatchEntries_49 : decode cX5_blocksMatchEntries 49 = .ok (.getfield 202, 3) := by decide +kernel
theorem dX5_blocksMatchEntries_52 : decode cX5_blocksMatchEntries 52 = .ok (.aload_n 3, 1) := by decide +kernel
theorem dX5_blocksMatchEntries_53 : decode cX5_blocksMatchEntries 53 = .ok (.getfield 230, 3) := by decide +kernel
theorem dX5_blocksMatchEntries_56 : decode cX5_blocksMatchEntries 56 = .ok (.aload_n 3, 1) := by decide +kernel
theorem dX5_blocksMatchEntries_57 : decode cX5_blocksMatchEntries 57 = .ok (.getfield 225, 3) := by decide +kernel
theorem dX5_blocksMatchEntries_60 : decode cX5_blocksMatchEntries 60 = .ok (.iadd, 1) := by decide +kernel
theorem dX5_blocksMatchEntries_61 : decode cX5_blocksMatchEntries 61 = .ok (.invokestatic 78, 3) := by decide +kernel
theorem dX5_blocksMatchEntries_64 : decode cX5_blocksMatchEntries 64 = .ok (.if_icmp .eq 5, 3) := by decide +kernel
theorem dX5_blocksMatchEntries_67 : decode cX5_blocksMatchEntries 67 = .ok (.iconst 0, 1) := by decide +kernel
theorem dX5_blocksMatchEntries_68 : decode cX5_blocksMatchEntries 68 = .ok (.ireturn, 1) := by decide +kernel
theorem dX5_blocksMatchEntries_69 : decode cX5_blocksMatchEntries 69 = .ok (.aload_n 2, 1) := by decide +kernel
theorem dX5_blocksMatchEntries_70 : decode cX5_blocksMatchEntries 70 = .ok (.getfield 241, 3) := by decide +kernel
theorem dX5_blocksMatchEntries_73 : decode cX5_blocksMatchEntries 73 = .ok (.astore_n 2, 1) := by decide +kernel
theorem dX5_blocksMatchEntries_74 : decode cX5_blocksMatchEntries 74 = .ok (.goto (-61), 3) := by decide +kernel
theorem dX5_blocksMatchEntries_77 : decode cX5_blocksMatchEntries 77 = .ok (.iload_n 1, 1) := by decide +kernel
theorem dX5_blocksMatchEntries_78 : decode cX5_blocksMatchEntries 78 = .ok (.aload_n 0, 1) := by decide +kernel
theorem dX5_blocksMatchEntries_79 : decode cX5_blocksMatchEntries 79 = .ok (.getfield 31, 3) := by decide +kernel
theorem dX5_blocksMatchEntries_82 : decode cX5_blocksMatchEntries 82 = .ok (.invokevirtual 141, 3) := by decide +kernel
theorem dX5_blocksMatchEntries_85 : decode cX5_blocksMatchEntries 85 = .ok (.if_icmp .ne 7, 3) := by decide +kernel
theorem dX5_blocksMatchEntries_88 : decode cX5_blocksMatchEntries 88 = .ok (.iconst 1, 1) := by decide +kernel
theorem dX5_blocksMatchEntries_89 : decode cX5_blocksMatchEntries 89 = .ok (.goto 4, 3) := by decide +kernel
theorem dX5_blocksMatchEntries_92 : decode cX5_blocksMatchEntries 92 = .ok (.iconst 0, 1) := by decide +kernel
theorem dX5_blocksMatchEntries_93 : decode cX5_blocksMatchEntries 93 = .ok (.ireturn, 1) := by decide +kernel
