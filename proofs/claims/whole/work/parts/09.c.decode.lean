/-! decode rows, by program -/
theorem dX4_init_0 : decode cX4_init 0 = .ok (.aload_n 0, 1) := by decide +kernel
theorem dX4_init_1 : decode cX4_init 1 = .ok (.invokespecial 3, 3) := by decide +kernel
theorem dX4_init_4 : decode cX4_init 4 = .ok (.aload_n 0, 1) := by decide +kernel
theorem dX4_init_5 : decode cX4_init 5 = .ok (.aload_n 1, 1) := by decide +kernel
theorem dX4_init_6 : decode cX4_init 6 = .ok (.putfield 9, 3) := by decide +kernel
theorem dX4_init_9 : decode cX4_init 9 = .ok (.aload_n 0, 1) := by decide +kernel
theorem dX4_init_10 : decode cX4_init 10 = .ok (.new 15, 3) := by decide +kernel
theorem dX4_init_13 : decode cX4_init 13 = .ok (.dup, 1) := by decide +kernel
theorem dX4_init_14 : decode cX4_init 14 = .ok (.iconst 0, 1) := by decide +kernel
theorem dX4_init_15 : decode cX4_init 15 = .ok (.invokespecial 17, 3) := by decide +kernel
theorem dX4_init_18 : decode cX4_init 18 = .ok (.putfield 20, 3) := by decide +kernel
theorem dX4_init_21 : decode cX4_init 21 = .ok (.aload_n 0, 1) := by decide +kernel
theorem dX4_init_22 : decode cX4_init 22 = .ok (.getfield 20, 3) := by decide +kernel
theorem dX4_init_25 : decode cX4_init 25 = .ok (.aload_n 0, 1) := by decide +kernel
theorem dX4_init_26 : decode cX4_init 26 = .ok (.getfield 20, 3) := by decide +kernel
theorem dX4_init_29 : decode cX4_init 29 = .ok (.putfield 24, 3) := by decide +kernel
theorem dX4_init_32 : decode cX4_init 32 = .ok (.aload_n 0, 1) := by decide +kernel
theorem dX4_init_33 : decode cX4_init 33 = .ok (.getfield 20, 3) := by decide +kernel
theorem dX4_init_36 : decode cX4_init 36 = .ok (.aload_n 0, 1) := by decide +kernel
theorem dX4_init_37 : decode cX4_init 37 = .ok (.getfield 20, 3) := by decide +kernel
theorem dX4_init_40 : decode cX4_init 40 = .ok (.putfield 27, 3) := by decide +kernel
theorem dX4_init_43 : decode cX4_init 43 = .ok (.aload_n 0, 1) := by decide +kernel
theorem dX4_init_44 : decode cX4_init 44 = .ok (.getfield 20, 3) := by decide +kernel
theorem dX4_init_47 : decode cX4_init 47 = .ok (.aload_n 0, 1) := by decide +kernel
theorem dX4_init_48 : decode cX4_init 48 = .ok (.getfield 20, 3) := by decide +kernel
theorem dX4_init_51 : decode cX4_init 51 = .ok (.putfield 30, 3) := by decide +kernel
theorem dX4_init_54 : decode cX4_init 54 = .ok (.aload_n 0, 1) := by decide +kernel
theorem dX4_init_55 : decode cX4_init 55 = .ok (.aload_n 0, 1) := by decide +kernel
theorem dX4_init_56 : decode cX4_init 56 = .ok (.getfield 20, 3) := by decide +kernel
theorem dX4_init_59 : decode cX4_init 59 = .ok (.putfield 33, 3) := by decide +kernel
theorem dX4_init_62 : decode cX4_init 62 = .ok (.return_, 1) := by decide +kernel
theorem dX4_size_0 : decode cX4_size 0 = .ok (.aload_n 0, 1) := by decide +kernel
theorem dX4_size_1 : decode cX4_size 1 = .ok (.getfield 33, 3) := by decide +kernel
theorem dX4_size_4 : decode cX4_size 4 = .ok (.getfield 36, 3) := by decide +kernel
theorem dX4_size_7 : decode cX4_size 7 = .ok (.ireturn, 1) := by decide +kernel
theorem dX4_empty_0 : decode cX4_empty 0 = .ok (.aload_n 0, 1) := by decide +kernel
theorem dX4_empty_1 : decode cX4_empty 1 = .ok (.aload_n 0, 1) := by decide +kernel
theorem dX4_empty_2 : decode cX4_empty 2 = .ok (.getfield 20, 3) := by decide +kernel
theorem dX4_empty_5 : decode cX4_empty 5 = .ok (.putfield 33, 3) := by decide +kernel
theorem dX4_empty_8 : decode cX4_empty 8 = .ok (.return_, 1) := by decide +kernel
theorem dX4_find_0 : decode cX4_find 0 = .ok (.aload_n 0, 1) := by decide +kernel
theorem dX4_find_1 : decode cX4_find 1 = .ok (.getfield 33, 3) := by decide +kernel
theorem dX4_find_4 : decode cX4_find 4 = .ok (.astore_n 3, 1) := by decide +kernel
theorem dX4_find_5 : decode cX4_find 5 = .ok (.aload_n 3, 1) := by decide +kernel
theorem dX4_find_6 : decode cX4_find 6 = .ok (.aload_n 0, 1) := by decide +kernel
theorem dX4_find_7 : decode cX4_find 7 = .ok (.getfield 20, 3) := by decide +kernel
theorem dX4_find_10 : decode cX4_find 10 = .ok (.if_acmp .eq 42, 3) := by decide +kernel
theorem dX4_find_13 : decode cX4_find 13 = .ok (.aload_n 0, 1) := by decide +kernel
theorem dX4_find_14 : decode cX4_find 14 = .ok (.getfield 9, 3) := by decide +kernel
theorem dX4_find_17 : decode cX4_find 17 = .ok (.aload_n 1, 1) := by decide +kernel
theorem dX4_find_18 : decode cX4_find 18 = .ok (.iload_n 2, 1) := by decide +kernel
theorem dX4_find_19 : decode cX4_find 19 = .ok (.aload_n 3, 1) := by decide +kernel
theorem dX4_find_20 : decode cX4_find 20 = .ok (.invokevirtual 40, 3) := by decide +kernel
theorem dX4_find_23 : decode cX4_find 23 = .ok (.istore 4, 2) := by decide +kernel
theorem dX4_find_25 : decode cX4_find 25 = .ok (.iload 4, 2) := by decide +kernel
theorem dX4_find_27 : decode cX4_find 27 = .ok (.ifCond .ne 5, 3) := by decide +kernel
theorem dX4_find_30 : decode cX4_find 30 = .ok (.aload_n 3, 1) := by decide +kernel
theorem dX4_find_31 : decode cX4_find 31 = .ok (.areturn, 1) := by decide +kernel
theorem dX4_find_32 : decode cX4_find 32 = .ok (.iload 4, 2) := by decide +kernel
theorem dX4_find_34 : decode cX4_find 34 = .ok (.ifCond .ge 10, 3) := by decide +kernel
theorem dX4_find_37 : decode cX4_find 37 = .ok (.aload_n 3, 1) := by decide +kernel
theorem dX4_find_38 : decode cX4_find 38 = .ok (.getfield 24, 3) := by decide +kernel
theorem dX4_find_41 : decode cX4_find 41 = .ok (.goto 7, 3) := by decide +kernel
theorem dX4_find_44 : decode cX4_find 44 = .ok (.aload_n 3, 1) := by decide +kernel
theorem dX4_find_45 : decode cX4_find 45 = .ok (.getfield 27, 3) := by decide +kernel
theorem dX4_find_48 : decode cX4_find 48 = .ok (.astore_n 3, 1) := by decide +kernel
theorem dX4_find_49 : decode cX4_find 49 = .ok (.goto (-44), 3) := by decide +kernel
theorem dX4_find_52 : decode cX4_find 52 = .ok (.aconst_null, 1) := by decide +kernel
theorem dX4_find_53 : decode cX4_find 53 = .ok (.areturn, 1) := by decide +kernel
theorem dX4_keysBelow_0 : decode cX4_keysBelow 0 = .ok (.iconst 0, 1) := by decide +kernel
theorem dX4_keysBelow_1 : decode cX4_keysBelow 1 = .ok (.istore 4, 2) := by decide +kernel
theorem dX4_keysBelow_3 : decode cX4_keysBelow 3 = .ok (.aload_n 0, 1) := by decide +kernel
theorem dX4_keysBelow_4 : decode cX4_keysBelow 4 = .ok (.getfield 33, 3) := by decide +kernel
theorem dX4_keysBelow_7 : decode cX4_keysBelow 7 = .ok (.astore 5, 2) := by decide +kernel
theorem dX4_keysBelow_9 : decode cX4_keysBelow 9 = .ok (.aload 5, 2) := by decide +kernel
theorem dX4_keysBelow_11 : decode cX4_keysBelow 11 = .ok (.aload_n 0, 1) := by decide +kernel
theorem dX4_keysBelow_12 : decode cX4_keysBelow 12 = .ok (.getfield 20, 3) := by decide +kernel
theorem dX4_keysBelow_15 : decode cX4_keysBelow 15 = .ok (.if_acmp .eq 65, 3) := by decide +kernel
theorem dX4_keysBelow_18 : decode cX4_keysBelow 18 = .ok (.aload_n 0, 1) := by decide +kernel
theorem dX4_keysBelow_19 : decode cX4_keysBelow 19 = .ok (.getfield 9, 3) := by decide +kernel
theorem dX4_keysBelow_22 : decode cX4_keysBelow 22 = .ok (.aload_n 1, 1) := by decide +kernel
theorem dX4_keysBelow_23 : decode cX4_keysBelow 23 = .ok (.iload_n 2, 1) := by decide +kernel
theorem dX4_keysBelow_24 : decode cX4_keysBelow 24 = .ok (.aload 5, 2) := by decide +kernel
theorem dX4_keysBelow_26 : decode cX4_keysBelow 26 = .ok (.invokevirtual 40, 3) := by decide +kernel
theorem dX4_keysBelow_29 : decode cX4_keysBelow 29 = .ok (.istore 6, 2) := by decide +kernel
theorem dX4_keysBelow_31 : decode cX4_keysBelow 31 = .ok (.iload 6, 2) := by decide +kernel
theorem dX4_keysBelow_33 : decode cX4_keysBelow 33 = .ok (.ifCond .gt 12, 3) := by decide +kernel
theorem dX4_keysBelow_36 : decode cX4_keysBelow 36 = .ok (.iload_n 3, 1) := by decide +kernel
theorem dX4_keysBelow_37 : decode cX4_keysBelow 37 = .ok (.ifCond .eq 33, 3) := by decide +kernel
theorem dX4_keysBelow_40 : decode cX4_keysBelow 40 = .ok (.iload 6, 2) := by decide +kernel
theorem dX4_keysBelow_42 : decode cX4_keysBelow 42 = .ok (.ifCond .ne 28, 3) := by decide +kernel
theorem dX4_keysBelow_45 : decode cX4_keysBelow 45 = .ok (.iload 4, 2) := by decide +kernel
theorem dX4_keysBelow_47 : decode cX4_keysBelow 47 = .ok (.aload 5, 2) := by decide +kernel
theorem dX4_keysBelow_49 : decode cX4_keysBelow 49 = .ok (.getfield 24, 3) := by decide +kernel
theorem dX4_keysBelow_52 : decode cX4_keysBelow 52 = .ok (.getfield 36, 3) := by decide +kernel
theorem dX4_keysBelow_55 : decode cX4_keysBelow 55 = .ok (.iconst 1, 1) := by decide +kernel
theorem dX4_keysBelow_56 : decode cX4_keysBelow 56 = .ok (.iadd, 1) := by decide +kernel
theorem dX4_keysBelow_57 : decode cX4_keysBelow 57 = .ok (.iadd, 1) := by decide +kernel
theorem dX4_keysBelow_58 : decode cX4_keysBelow 58 = .ok (.istore 4, 2) := by decide +kernel
theorem dX4_keysBelow_60 : decode cX4_keysBelow 60 = .ok (.aload 5, 2) := by decide +kernel
theorem dX4_keysBelow_62 : decode cX4_keysBelow 62 = .ok (.getfield 27, 3) := by decide +kernel
theorem dX4_keysBelow_65 : decode cX4_keysBelow 65 = .ok (.astore 5, 2) := by decide +kernel
theorem dX4_keysBelow_67 : decode cX4_keysBelow 67 = .ok (.goto 10, 3) := by decide +kernel
theorem dX4_keysBelow_70 : decode cX4_keysBelow 70 = .ok (.aload 5, 2) := by decide +kernel
theorem dX4_keysBelow_72 : decode cX4_keysBelow 72 = .ok (.getfield 24, 3) := by decide +kernel
theorem dX4_keysBelow_75 : decode cX4_keysBelow 75 = .ok (.astore 5, 2) := by decide +kernel
theorem dX4_keysBelow_77 : decode cX4_keysBelow 77 = .ok (.goto (-68), 3) := by decide +kernel
theorem dX4_keysBelow_80 : decode cX4_keysBelow 80 = .ok (.iload 4, 2) := by decide +kernel
theorem dX4_keysBelow_82 : decode cX4_keysBelow 82 = .ok (.ireturn, 1) := by decide +kernel
theorem dX4_pick_0 : decode cX4_pick 0 = .ok (.iload_n 1, 1) := by decide +kernel
theorem dX4_pick_1 : decode cX4_pick 1 = .ok (.istore_n 2, 1) := by decide +kernel
theorem dX4_pick_2 : decode cX4_pick 2 = .ok (.iload_n 2, 1) := by decide +kernel
theorem dX4_pick_3 : decode cX4_pick 3 = .ok (.ifCond .ge 10, 3) := by decide +kernel
theorem dX4_pick_6 : decode cX4_pick 6 = .ok (.aload_n 0, 1) := by decide +kernel
theorem dX4_pick_7 : decode cX4_pick 7 = .ok (.getfield 20, 3) := by decide +kernel
theorem dX4_pick_10 : decode cX4_pick 10 = .ok (.goto 7, 3) := by decide +kernel
theorem dX4_pick_13 : decode cX4_pick 13 = .ok (.aload_n 0, 1) := by decide +kernel
theorem dX4_pick_14 : decode cX4_pick 14 = .ok (.getfield 33, 3) := by decide +kernel
theorem dX4_pick_17 : decode cX4_pick 17 = .ok (.astore_n 3, 1) := by decide +kernel
theorem dX4_pick_18 : decode cX4_pick 18 = .ok (.aload_n 3, 1) := by decide +kernel
theorem dX4_pick_19 : decode cX4_pick 19 = .ok (.aload_n 0, 1) := by decide +kernel
theorem dX4_pick_20 : decode cX4_pick 20 = .ok (.getfield 20, 3) := by decide +kernel
theorem dX4_pick_23 : decode cX4_pick 23 = .ok (.if_acmp .eq 53, 3) := by decide +kernel
theorem dX4_pick_26 : decode cX4_pick 26 = .ok (.iload_n 2, 1) := by decide +kernel
theorem dX4_pick_27 : decode cX4_pick 27 = .ok (.aload_n 3, 1) := by decide +kernel
theorem dX4_pick_28 : decode cX4_pick 28 = .ok (.getfield 24, 3) := by decide +kernel
theorem dX4_pick_31 : decode cX4_pick 31 = .ok (.getfield 36, 3) := by decide +kernel
theorem dX4_pick_34 : decode cX4_pick 34 = .ok (.if_icmp .eq 42, 3) := by decide +kernel
theorem dX4_pick_37 : decode cX4_pick 37 = .ok (.iload_n 2, 1) := by decide +kernel
theorem dX4_pick_38 : decode cX4_pick 38 = .ok (.aload_n 3, 1) := by decide +kernel
theorem dX4_pick_39 : decode cX4_pick 39 = .ok (.getfield 24, 3) := by decide +kernel
theorem dX4_pick_42 : decode cX4_pick 42 = .ok (.getfield 36, 3) := by decide +kernel
theorem dX4_pick_45 : decode cX4_pick 45 = .ok (.if_icmp .ge 11, 3) := by decide +kernel
theorem dX4_pick_48 : decode cX4_pick 48 = .ok (.aload_n 3, 1) := by decide +kernel
theorem dX4_pick_49 : decode cX4_pick 49 = .ok (.getfield 24, 3) := by decide +kernel
theorem dX4_pick_52 : decode cX4_pick 52 = .ok (.astore_n 3, 1) := by decide +kernel
theorem dX4_pick_53 : decode cX4_pick 53 = .ok (.goto (-35), 3) := by decide +kernel
theorem dX4_pick_56 : decode cX4_pick 56 = .ok (.iload_n 2, 1) := by decide +kernel
theorem dX4_pick_57 : decode cX4_pick 57 = .ok (.aload_n 3, 1) := by decide +kernel
theorem dX4_pick_58 : decode cX4_pick 58 = .ok (.getfield 24, 3) := by decide +kernel
theorem dX4_pick_61 : decode cX4_pick 61 = .ok (.getfield 36, 3) := by decide +kernel
theorem dX4_pick_64 : decode cX4_pick 64 = .ok (.iconst 1, 1) := by decide +kernel
theorem dX4_pick_65 : decode cX4_pick 65 = .ok (.iadd, 1) := by decide +kernel
theorem dX4_pick_66 : decode cX4_pick 66 = .ok (.isub, 1) := by decide +kernel
theorem dX4_pick_67 : decode cX4_pick 67 = .ok (.istore_n 2, 1) := by decide +kernel
theorem dX4_pick_68 : decode cX4_pick 68 = .ok (.aload_n 3, 1) := by decide +kernel
theorem dX4_pick_69 : decode cX4_pick 69 = .ok (.getfield 27, 3) := by decide +kernel
theorem dX4_pick_72 : decode cX4_pick 72 = .ok (.astore_n 3, 1) := by decide +kernel
theorem dX4_pick_73 : decode cX4_pick 73 = .ok (.goto (-55), 3) := by decide +kernel
theorem dX4_pick_76 : decode cX4_pick 76 = .ok (.aload_n 3, 1) := by decide +kernel
theorem dX4_pick_77 : decode cX4_pick 77 = .ok (.aload_n 0, 1) := by decide +kernel
theorem dX4_pick_78 : decode cX4_pick 78 = .ok (.getfield 20, 3) := by decide +kernel
theorem dX4_pick_81 : decode cX4_pick 81 = .ok (.if_acmp .ne 7, 3) := by decide +kernel
theorem dX4_pick_84 : decode cX4_pick 84 = .ok (.aconst_null, 1) := by decide +kernel
theorem dX4_pick_85 : decode cX4_pick 85 = .ok (.goto 4, 3) := by decide +kernel
theorem dX4_pick_88 : decode cX4_pick 88 = .ok (.aload_n 3, 1) := by decide +kernel
theorem dX4_pick_89 : decode cX4_pick 89 = .ok (.areturn, 1) := by decide +kernel
theorem dX4_placeOf_0 : decode cX4_placeOf 0 = .ok (.aload_n 1, 1) := by decide +kernel
theorem dX4_placeOf_1 : decode cX4_placeOf 1 = .ok (.getfield 24, 3) := by decide +kernel
theorem dX4_placeOf_4 : decode cX4_placeOf 4 = .ok (.getfield 36, 3) := by decide +kernel
theorem dX4_placeOf_7 : decode cX4_placeOf 7 = .ok (.istore_n 2, 1) := by decide +kernel
theorem dX4_placeOf_8 : decode cX4_placeOf 8 = .ok (.aload_n 1, 1) := by decide +kernel
theorem dX4_placeOf_9 : decode cX4_placeOf 9 = .ok (.astore_n 3, 1) := by decide +kernel
theorem dX4_placeOf_10 : decode cX4_placeOf 10 = .ok (.aload_n 3, 1) := by decide +kernel
theorem dX4_placeOf_11 : decode cX4_placeOf 11 = .ok (.getfield 30, 3) := by decide +kernel
theorem dX4_placeOf_14 : decode cX4_placeOf 14 = .ok (.aload_n 0, 1) := by decide +kernel
theorem dX4_placeOf_15 : decode cX4_placeOf 15 = .ok (.getfield 20, 3) := by decide +kernel
theorem dX4_placeOf_18 : decode cX4_placeOf 18 = .ok (.if_acmp .eq 37, 3) := by decide +kernel
theorem dX4_placeOf_21 : decode cX4_placeOf 21 = .ok (.aload_n 3, 1) := by decide +kernel
theorem dX4_placeOf_22 : decode cX4_placeOf 22 = .ok (.aload_n 3, 1) := by decide +kernel
theorem dX4_placeOf_23 : decode cX4_placeOf 23 = .ok (.getfield 30, 3) := by decide +kernel
theorem dX4_placeOf_26 : decode cX4_placeOf 26 = .ok (.getfield 27, 3) := by decide +kernel
theorem dX4_placeOf_29 : decode cX4_placeOf 29 = .ok (.if_acmp .ne 18, 3) := by decide +kernel
theorem dX4_placeOf_32 : decode cX4_placeOf 32 = .ok (.iload_n 2, 1) := by decide +kernel
theorem dX4_placeOf_33 : decode cX4_placeOf 33 = .ok (.aload_n 3, 1) := by decide +kernel
theorem dX4_placeOf_34 : decode cX4_placeOf 34 = .ok (.getfield 30, 3) := by decide +kernel
theorem dX4_placeOf_37 : decode cX4_placeOf 37 = .ok (.getfield 24, 3) := by decide +kernel
theorem dX4_placeOf_40 : decode cX4_placeOf 40 = .ok (.getfield 36, 3) := by decide +kernel
theorem dX4_placeOf_43 : decode cX4_placeOf 43 = .ok (.iconst 1, 1) := by decide +kernel
theorem dX4_placeOf_44 : decode cX4_placeOf 44 = .ok (.iadd, 1) := by decide +kernel
theorem dX4_placeOf_45 : decode cX4_placeOf 45 = .ok (.iadd, 1) := by decide +kernel
theorem dX4_placeOf_46 : decode cX4_placeOf 46 = .ok (.istore_n 2, 1) := by decide +kernel
theorem dX4_placeOf_47 : decode cX4_placeOf 47 = .ok (.aload_n 3, 1) := by decide +kernel
theorem dX4_placeOf_48 : decode cX4_placeOf 48 = .ok (.getfield 30, 3) := by decide +kernel
theorem dX4_placeOf_51 : decode cX4_placeOf 51 = .ok (.astore_n 3, 1) := by decide +kernel
theorem dX4_placeOf_52 : decode cX4_placeOf 52 = .ok (.goto (-42), 3) := by decide +kernel
theorem dX4_placeOf_55 : decode cX4_placeOf 55 = .ok (.iload_n 2, 1) := by decide +kernel
theorem dX4_placeOf_56 : decode cX4_placeOf 56 = .ok (.ireturn, 1) := by decide +kernel
theorem dX4_holds_0 : decode cX4_holds 0 = .ok (.aload_n 0, 1) := by decide +kernel
theorem dX4_holds_1 : decode cX4_holds 1 = .ok (.aload_n 0, 1) := by decide +kernel
theorem dX4_holds_2 : decode cX4_holds 2 = .ok (.aload_n 1, 1) := by decide +kernel
theorem dX4_holds_3 : decode cX4_holds 3 = .ok (.invokevirtual 46, 3) := by decide +kernel
theorem dX4_holds_6 : decode cX4_holds 6 = .ok (.invokevirtual 50, 3) := by decide +kernel
theorem dX4_holds_9 : decode cX4_holds 9 = .ok (.aload_n 1, 1) := by decide +kernel
theorem dX4_holds_10 : decode cX4_holds 10 = .ok (.if_acmp .ne 7, 3) := by decide +kernel
theorem dX4_holds_13 : decode cX4_holds 13 = .ok (.iconst 1, 1) := by decide +kernel
theorem dX4_holds_14 : decode cX4_holds 14 = .ok (.goto 4, 3) := by decide +kernel
theorem dX4_holds_17 : decode cX4_holds 17 = .ok (.iconst 0, 1) := by decide +kernel
theorem dX4_holds_18 : decode cX4_holds 18 = .ok (.ireturn, 1) := by decide +kernel
theorem dX4_link_0 : decode cX4_link 0 = .ok (.aload_n 0, 1) := by decide +kernel
theorem dX4_link_1 : decode cX4_link 1 = .ok (.getfield 20, 3) := by decide +kernel
theorem dX4_link_4 : decode cX4_link 4 = .ok (.astore_n 2, 1) := by decide +kernel
theorem dX4_link_5 : decode cX4_link 5 = .ok (.iconst 0, 1) := by decide +kernel
theorem dX4_link_6 : decode cX4_link 6 = .ok (.istore_n 3, 1) := by decide +kernel
theorem dX4_link_7 : decode cX4_link 7 = .ok (.aload_n 0, 1) := by decide +kernel
theorem dX4_link_8 : decode cX4_link 8 = .ok (.getfield 33, 3) := by decide +kernel
theorem dX4_link_11 : decode cX4_link 11 = .ok (.astore 4, 2) := by decide +kernel
theorem dX4_link_13 : decode cX4_link 13 = .ok (.aload 4, 2) := by decide +kernel
theorem dX4_link_15 : decode cX4_link 15 = .ok (.aload_n 0, 1) := by decide +kernel
theorem dX4_link_16 : decode cX4_link 16 = .ok (.getfield 20, 3) := by decide +kernel
theorem dX4_link_19 : decode cX4_link 19 = .ok (.if_acmp .eq 47, 3) := by decide +kernel
theorem dX4_link_22 : decode cX4_link 22 = .ok (.aload 4, 2) := by decide +kernel
theorem dX4_link_24 : decode cX4_link 24 = .ok (.dup, 1) := by decide +kernel
theorem dX4_link_25 : decode cX4_link 25 = .ok (.getfield 36, 3) := by decide +kernel
theorem dX4_link_28 : decode cX4_link 28 = .ok (.iconst 1, 1) := by decide +kernel
theorem dX4_link_29 : decode cX4_link 29 = .ok (.iadd, 1) := by decide +kernel
theorem dX4_link_30 : decode cX4_link 30 = .ok (.putfield 36, 3) := by decide +kernel
theorem dX4_link_33 : decode cX4_link 33 = .ok (.aload 4, 2) := by decide +kernel
theorem dX4_link_35 : decode cX4_link 35 = .ok (.astore_n 2, 1) := by decide +kernel
theorem dX4_link_36 : decode cX4_link 36 = .ok (.aload_n 0, 1) := by decide +kernel
theorem dX4_link_37 : decode cX4_link 37 = .ok (.getfield 9, 3) := by decide +kernel
theorem dX4_link_40 : decode cX4_link 40 = .ok (.aload_n 1, 1) := by decide +kernel
theorem dX4_link_41 : decode cX4_link 41 = .ok (.aload 4, 2) := by decide +kernel
theorem dX4_link_43 : decode cX4_link 43 = .ok (.invokevirtual 54, 3) := by decide +kernel
theorem dX4_link_46 : decode cX4_link 46 = .ok (.ifCond .ge 7, 3) := by decide +kernel
theorem dX4_link_49 : decode cX4_link 49 = .ok (.iconst 0, 1) := by decide +kernel
theorem dX4_link_50 : decode cX4_link 50 = .ok (.goto 4, 3) := by decide +kernel
theorem dX4_link_53 : decode cX4_link 53 = .ok (.iconst 1, 1) := by decide +kernel
theorem dX4_link_54 : decode cX4_link 54 = .ok (.istore_n 3, 1) := by decide +kernel
theorem dX4_link_55 : decode cX4_link 55 = .ok (.aload 4, 2) := by decide +kernel
theorem dX4_link_57 : decode cX4_link 57 = .ok (.iload_n 3, 1) := by decide +kernel
theorem dX4_link_58 : decode cX4_link 58 = .ok (.invokevirtual 58, 3) := by decide +kernel
theorem dX4_link_61 : decode cX4_link 61 = .ok (.astore 4, 2) := by decide +kernel
theorem dX4_link_63 : decode cX4_link 63 = .ok (.goto (-50), 3) := by decide +kernel
theorem dX4_link_66 : decode cX4_link 66 = .ok (.aload_n 1, 1) := by decide +kernel
theorem dX4_link_67 : decode cX4_link 67 = .ok (.aload_n 0, 1) := by decide +kernel
theorem dX4_link_68 : decode cX4_link 68 = .ok (.getfield 20, 3) := by decide +kernel
theorem dX4_link_71 : decode cX4_link 71 = .ok (.putfield 24, 3) := by decide +kernel
theorem dX4_link_74 : decode cX4_link 74 = .ok (.aload_n 1, 1) := by decide +kernel
theorem dX4_link_75 : decode cX4_link 75 = .ok (.aload_n 0, 1) := by decide +kernel
theorem dX4_link_76 : decode cX4_link 76 = .ok (.getfield 20, 3) := by decide +kernel
theorem dX4_link_79 : decode cX4_link 79 = .ok (.putfield 27, 3) := by decide +kernel
theorem dX4_link_82 : decode cX4_link 82 = .ok (.aload_n 1, 1) := by decide +kernel
theorem dX4_link_83 : decode cX4_link 83 = .ok (.aload_n 2, 1) := by decide +kernel
theorem dX4_link_84 : decode cX4_link 84 = .ok (.putfield 30, 3) := by decide +kernel
theorem dX4_link_87 : decode cX4_link 87 = .ok (.aload_n 1, 1) := by decide +kernel
theorem dX4_link_88 : decode cX4_link 88 = .ok (.iconst 1, 1) := by decide +kernel
theorem dX4_link_89 : decode cX4_link 89 = .ok (.putfield 61, 3) := by decide +kernel
theorem dX4_link_92 : decode cX4_link 92 = .ok (.aload_n 1, 1) := by decide +kernel
theorem dX4_link_93 : decode cX4_link 93 = .ok (.iconst 1, 1) := by decide +kernel
theorem dX4_link_94 : decode cX4_link 94 = .ok (.putfield 36, 3) := by decide +kernel
theorem dX4_link_97 : decode cX4_link 97 = .ok (.aload_n 2, 1) := by decide +kernel
theorem dX4_link_98 : decode cX4_link 98 = .ok (.aload_n 0, 1) := by decide +kernel
theorem dX4_link_99 : decode cX4_link 99 = .ok (.getfield 20, 3) := by decide +kernel
theorem dX4_link_102 : decode cX4_link 102 = .ok (.if_acmp .ne 11, 3) := by decide +kernel
theorem dX4_link_105 : decode cX4_link 105 = .ok (.aload_n 0, 1) := by decide +kernel
theorem dX4_link_106 : decode cX4_link 106 = .ok (.aload_n 1, 1) := by decide +kernel
theorem dX4_link_107 : decode cX4_link 107 = .ok (.putfield 33, 3) := by decide +kernel
theorem dX4_link_110 : decode cX4_link 110 = .ok (.goto 9, 3) := by decide +kernel
theorem dX4_link_113 : decode cX4_link 113 = .ok (.aload_n 2, 1) := by decide +kernel
theorem dX4_link_114 : decode cX4_link 114 = .ok (.iload_n 3, 1) := by decide +kernel
theorem dX4_link_115 : decode cX4_link 115 = .ok (.aload_n 1, 1) := by decide +kernel
theorem dX4_link_116 : decode cX4_link 116 = .ok (.invokevirtual 65, 3) := by decide +kernel
theorem dX4_link_119 : decode cX4_link 119 = .ok (.aload_n 0, 1) := by decide +kernel
theorem dX4_link_120 : decode cX4_link 120 = .ok (.aload_n 1, 1) := by decide +kernel
theorem dX4_link_121 : decode cX4_link 121 = .ok (.invokevirtual 69, 3) := by decide +kernel
theorem dX4_link_124 : decode cX4_link 124 = .ok (.aload_n 0, 1) := by decide +kernel
theorem dX4_link_125 : decode cX4_link 125 = .ok (.getfield 33, 3) := by decide +kernel
theorem dX4_link_128 : decode cX4_link 128 = .ok (.iconst 0, 1) := by decide +kernel
theorem dX4_link_129 : decode cX4_link 129 = .ok (.putfield 61, 3) := by decide +kernel
theorem dX4_link_132 : decode cX4_link 132 = .ok (.return_, 1) := by decide +kernel
theorem dX4_unlink_0 : decode cX4_unlink 0 = .ok (.aload_n 1, 1) := by decide +kernel
theorem dX4_unlink_1 : decode cX4_unlink 1 = .ok (.getfield 24, 3) := by decide +kernel
theorem dX4_unlink_4 : decode cX4_unlink 4 = .ok (.aload_n 0, 1) := by decide +kernel
theorem dX4_unlink_5 : decode cX4_unlink 5 = .ok (.getfield 20, 3) := by decide +kernel
theorem dX4_unlink_8 : decode cX4_unlink 8 = .ok (.if_acmp .eq 14, 3) := by decide +kernel
theorem dX4_unlink_11 : decode cX4_unlink 11 = .ok (.aload_n 1, 1) := by decide +kernel
theorem dX4_unlink_12 : decode cX4_unlink 12 = .ok (.getfield 27, 3) := by decide +kernel
theorem dX4_unlink_15 : decode cX4_unlink 15 = .ok (.aload_n 0, 1) := by decide +kernel
theorem dX4_unlink_16 : decode cX4_unlink 16 = .ok (.getfield 20, 3) := by decide +kernel
theorem dX4_unlink_19 : decode cX4_unlink 19 = .ok (.if_acmp .ne 7, 3) := by decide +kernel
theorem dX4_unlink_22 : decode cX4_unlink 22 = .ok (.aload_n 1, 1) := by decide +kernel
theorem dX4_unlink_23 : decode cX4_unlink 23 = .ok (.goto 11, 3) := by decide +kernel
theorem dX4_unlink_26 : decode cX4_unlink 26 = .ok (.aload_n 0, 1) := by decide +kernel
theorem dX4_unlink_27 : decode cX4_unlink 27 = .ok (.aload_n 1, 1) := by decide +kernel
theorem dX4_unlink_28 : decode cX4_unlink 28 = .ok (.getfield 27, 3) := by decide +kernel
theorem dX4_unlink_31 : decode cX4_unlink 31 = .ok (.invokevirtual 73, 3) := by decide +kernel
theorem dX4_unlink_34 : decode cX4_unlink 34 = .ok (.astore_n 2, 1) := by decide +kernel
theorem dX4_unlink_35 : decode cX4_unlink 35 = .ok (.aload_n 2, 1) := by decide +kernel
theorem dX4_unlink_36 : decode cX4_unlink 36 = .ok (.astore_n 3, 1) := by decide +kernel
theorem dX4_unlink_37 : decode cX4_unlink 37 = .ok (.aload_n 3, 1) := by decide +kernel
theorem dX4_unlink_38 : decode cX4_unlink 38 = .ok (.aload_n 0, 1) := by decide +kernel
theorem dX4_unlink_39 : decode cX4_unlink 39 = .ok (.getfield 20, 3) := by decide +kernel
theorem dX4_unlink_42 : decode cX4_unlink 42 = .ok (.if_acmp .eq 21, 3) := by decide +kernel
theorem dX4_unlink_45 : decode cX4_unlink 45 = .ok (.aload_n 3, 1) := by decide +kernel
theorem dX4_unlink_46 : decode cX4_unlink 46 = .ok (.dup, 1) := by decide +kernel
theorem dX4_unlink_47 : decode cX4_unlink 47 = .ok (.getfield 36, 3) := by decide +kernel
theorem dX4_unlink_50 : decode cX4_unlink 50 = .ok (.iconst 1, 1) := by decide +kernel
theorem dX4_unlink_51 : decode cX4_unlink 51 = .ok (.isub, 1) := by decide +kernel
theorem dX4_unlink_52 : decode cX4_unlink 52 = .ok (.putfield 36, 3) := by decide +kernel
theorem dX4_unlink_55 : decode cX4_unlink 55 = .ok (.aload_n 3, 1) := by decide +kernel
theorem dX4_unlink_56 : decode cX4_unlink 56 = .ok (.getfield 30, 3) := by decide +kernel
theorem dX4_unlink_59 : decode cX4_unlink 59 = .ok (.astore_n 3, 1) := by decide +kernel
theorem dX4_unlink_60 : decode cX4_unlink 60 = .ok (.goto (-23), 3) := by decide +kernel
theorem dX4_unlink_63 : decode cX4_unlink 63 = .ok (.aload_n 2, 1) := by decide +kernel
theorem dX4_unlink_64 : decode cX4_unlink 64 = .ok (.getfield 24, 3) := by decide +kernel
theorem dX4_unlink_67 : decode cX4_unlink 67 = .ok (.aload_n 0, 1) := by decide +kernel
theorem dX4_unlink_68 : decode cX4_unlink 68 = .ok (.getfield 20, 3) := by decide +kernel
theorem dX4_unlink_71 : decode cX4_unlink 71 = .ok (.if_acmp .ne 10, 3) := by decide +kernel
theorem dX4_unlink_74 : decode cX4_unlink 74 = .ok (.aload_n 2, 1) := by decide +kernel
theorem dX4_unlink_75 : decode cX4_unlink 75 = .ok (.getfield 27, 3) := by decide +kernel
theorem dX4_unlink_78 : decode cX4_unlink 78 = .ok (.goto 7, 3) := by decide +kernel
theorem dX4_unlink_81 : decode cX4_unlink 81 = .ok (.aload_n 2, 1) := by decide +kernel
theorem dX4_unlink_82 : decode cX4_unlink 82 = .ok (.getfield 24, 3) := by decide +kernel
theorem dX4_unlink_85 : decode cX4_unlink 85 = .ok (.astore_n 3, 1) := by decide +kernel
theorem dX4_unlink_86 : decode cX4_unlink 86 = .ok (.aload_n 2, 1) := by decide +kernel
theorem dX4_unlink_87 : decode cX4_unlink 87 = .ok (.getfield 61, 3) := by decide +kernel
theorem dX4_unlink_90 : decode cX4_unlink 90 = .ok (.ifCond .ne 7, 3) := by decide +kernel
theorem dX4_unlink_93 : decode cX4_unlink 93 = .ok (.iconst 1, 1) := by decide +kernel
theorem dX4_unlink_94 : decode cX4_unlink 94 = .ok (.goto 4, 3) := by decide +kernel
theorem dX4_unlink_97 : decode cX4_unlink 97 = .ok (.iconst 0, 1) := by decide +kernel
theorem dX4_unlink_98 : decode cX4_unlink 98 = .ok (.istore 4, 2) := by decide +kernel
theorem dX4_unlink_100 : decode cX4_unlink 100 = .ok (.aload_n 0, 1) := by decide +kernel
theorem dX4_unlink_101 : decode cX4_unlink 101 = .ok (.aload_n 2, 1) := by decide +kernel
theorem dX4_unlink_102 : decode cX4_unlink 102 = .ok (.aload_n 3, 1) := by decide +kernel
theorem dX4_unlink_103 : decode cX4_unlink 103 = .ok (.invokevirtual 77, 3) := by decide +kernel
theorem dX4_unlink_106 : decode cX4_unlink 106 = .ok (.aload_n 2, 1) := by decide +kernel
theorem dX4_unlink_107 : decode cX4_unlink 107 = .ok (.aload_n 1, 1) := by decide +kernel
theorem dX4_unlink_108 : decode cX4_unlink 108 = .ok (.if_acmp .eq 9, 3) := by decide +kernel
theorem dX4_unlink_111 : decode cX4_unlink 111 = .ok (.aload_n 0, 1) := by decide +kernel
theorem dX4_unlink_112 : decode cX4_unlink 112 = .ok (.aload_n 2, 1) := by decide +kernel
theorem dX4_unlink_113 : decode cX4_unlink 113 = .ok (.aload_n 1, 1) := by decide +kernel
theorem dX4_unlink_114 : decode cX4_unlink 114 = .ok (.invokevirtual 81, 3) := by decide +kernel
theorem dX4_unlink_117 : decode cX4_unlink 117 = .ok (.iload 4, 2) := by decide +kernel
theorem dX4_unlink_119 : decode cX4_unlink 119 = .ok (.ifCond .eq 8, 3) := by decide +kernel
theorem dX4_unlink_122 : decode cX4_unlink 122 = .ok (.aload_n 0, 1) := by decide +kernel
theorem dX4_unlink_123 : decode cX4_unlink 123 = .ok (.aload_n 3, 1) := by decide +kernel
theorem dX4_unlink_124 : decode cX4_unlink 124 = .ok (.invokevirtual 84, 3) := by decide +kernel
theorem dX4_unlink_127 : decode cX4_unlink 127 = .ok (.aload_n 0, 1) := by decide +kernel
theorem dX4_unlink_128 : decode cX4_unlink 128 = .ok (.getfield 20, 3) := by decide +kernel
theorem dX4_unlink_131 : decode cX4_unlink 131 = .ok (.aload_n 0, 1) := by decide +kernel
theorem dX4_unlink_132 : decode cX4_unlink 132 = .ok (.getfield 20, 3) := by decide +kernel
theorem dX4_unlink_135 : decode cX4_unlink 135 = .ok (.putfield 30, 3) := by decide +kernel
theorem dX4_unlink_138 : decode cX4_unlink 138 = .ok (.return_, 1) := by decide +kernel
theorem dX4_least_0 : decode cX4_least 0 = .ok (.aload_n 1, 1) := by decide +kernel
theorem dX4_least_1 : decode cX4_least 1 = .ok (.astore_n 2, 1) := by decide +kernel
theorem dX4_least_2 : decode cX4_least 2 = .ok (.aload_n 2, 1) := by decide +kernel
theorem dX4_least_3 : decode cX4_least 3 = .ok (.getfield 24, 3) := by decide +kernel
theorem dX4_least_6 : decode cX4_least 6 = .ok (.aload_n 0, 1) := by decide +kernel
theorem dX4_least_7 : decode cX4_least 7 = .ok (.getfield 20, 3) := by decide +kernel
theorem dX4_least_10 : decode cX4_least 10 = .ok (.if_acmp .eq 11, 3) := by decide +kernel
theorem dX4_least_13 : decode cX4_least 13 = .ok (.aload_n 2, 1) := by decide +kernel
theorem dX4_least_14 : decode cX4_least 14 = .ok (.getfield 24, 3) := by decide +kernel
theorem dX4_least_17 : decode cX4_least 17 = .ok (.astore_n 2, 1) := by decide +kernel
theorem dX4_least_18 : decode cX4_least 18 = .ok (.goto (-16), 3) := by decide +kernel
theorem dX4_least_21 : decode cX4_least 21 = .ok (.aload_n 2, 1) := by decide +kernel
theorem dX4_least_22 : decode cX4_least 22 = .ok (.areturn, 1) := by decide +kernel
theorem dX4_replace_0 : decode cX4_replace 0 = .ok (.aload_n 1, 1) := by decide +kernel
theorem dX4_replace_1 : decode cX4_replace 1 = .ok (.getfield 30, 3) := by decide +kernel
theorem dX4_replace_4 : decode cX4_replace 4 = .ok (.astore_n 3, 1) := by decide +kernel
theorem dX4_replace_5 : decode cX4_replace 5 = .ok (.aload_n 3, 1) := by decide +kernel
theorem dX4_replace_6 : decode cX4_replace 6 = .ok (.aload_n 0, 1) := by decide +kernel
theorem dX4_replace_7 : decode cX4_replace 7 = .ok (.getfield 20, 3) := by decide +kernel
theorem dX4_replace_10 : decode cX4_replace 10 = .ok (.if_acmp .ne 11, 3) := by decide +kernel
theorem dX4_replace_13 : decode cX4_replace 13 = .ok (.aload_n 0, 1) := by decide +kernel
theorem dX4_replace_14 : decode cX4_replace 14 = .ok (.aload_n 2, 1) := by decide +kernel
theorem dX4_replace_15 : decode cX4_replace 15 = .ok (.putfield 33, 3) := by decide +kernel
theorem dX4_replace_18 : decode cX4_replace 18 = .ok (.goto 13, 3) := by decide +kernel
theorem dX4_replace_21 : decode cX4_replace 21 = .ok (.aload_n 3, 1) := by decide +kernel
theorem dX4_replace_22 : decode cX4_replace 22 = .ok (.aload_n 3, 1) := by decide +kernel
theorem dX4_replace_23 : decode cX4_replace 23 = .ok (.aload_n 1, 1) := by decide +kernel
theorem dX4_replace_24 : decode cX4_replace 24 = .ok (.invokevirtual 87, 3) := by decide +kernel
theorem dX4_replace_27 : decode cX4_replace 27 = .ok (.aload_n 2, 1) := by decide +kernel
theorem dX4_replace_28 : decode cX4_replace 28 = .ok (.invokevirtual 65, 3) := by decide +kernel
theorem dX4_replace_31 : decode cX4_replace 31 = .ok (.aload_n 2, 1) := by decide +kernel
theorem dX4_replace_32 : decode cX4_replace 32 = .ok (.aload_n 3, 1) := by decide +kernel
theorem dX4_replace_33 : decode cX4_replace 33 = .ok (.putfield 30, 3) := by decide +kernel
theorem dX4_replace_36 : decode cX4_replace 36 = .ok (.return_, 1) := by decide +kernel
theorem dX4_takeOver_0 : decode cX4_takeOver 0 = .ok (.aload_n 0, 1) := by decide +kernel
theorem dX4_takeOver_1 : decode cX4_takeOver 1 = .ok (.aload_n 2, 1) := by decide +kernel
theorem dX4_takeOver_2 : decode cX4_takeOver 2 = .ok (.aload_n 1, 1) := by decide +kernel
theorem dX4_takeOver_3 : decode cX4_takeOver 3 = .ok (.invokevirtual 77, 3) := by decide +kernel
theorem dX4_takeOver_6 : decode cX4_takeOver 6 = .ok (.aload_n 1, 1) := by decide +kernel
theorem dX4_takeOver_7 : decode cX4_takeOver 7 = .ok (.aload_n 2, 1) := by decide +kernel
theorem dX4_takeOver_8 : decode cX4_takeOver 8 = .ok (.getfield 24, 3) := by decide +kernel
theorem dX4_takeOver_11 : decode cX4_takeOver 11 = .ok (.putfield 24, 3) := by decide +kernel
theorem dX4_takeOver_14 : decode cX4_takeOver 14 = .ok (.aload_n 1, 1) := by decide +kernel
theorem dX4_takeOver_15 : decode cX4_takeOver 15 = .ok (.getfield 24, 3) := by decide +kernel
theorem dX4_takeOver_18 : decode cX4_takeOver 18 = .ok (.aload_n 1, 1) := by decide +kernel
theorem dX4_takeOver_19 : decode cX4_takeOver 19 = .ok (.putfield 30, 3) := by decide +kernel
theorem dX4_takeOver_22 : decode cX4_takeOver 22 = .ok (.aload_n 1, 1) := by decide +kernel
theorem dX4_takeOver_23 : decode cX4_takeOver 23 = .ok (.aload_n 2, 1) := by decide +kernel
theorem dX4_takeOver_24 : decode cX4_takeOver 24 = .ok (.getfield 27, 3) := by decide +kernel
theorem dX4_takeOver_27 : decode cX4_takeOver 27 = .ok (.putfield 27, 3) := by decide +kernel
theorem dX4_takeOver_30 : decode cX4_takeOver 30 = .ok (.aload_n 1, 1) := by decide +kernel
theorem dX4_takeOver_31 : decode cX4_takeOver 31 = .ok (.getfield 27, 3) := by decide +kernel
theorem dX4_takeOver_34 : decode cX4_takeOver 34 = .ok (.aload_n 1, 1) := by decide +kernel
theorem dX4_takeOver_35 : decode cX4_takeOver 35 = .ok (.putfield 30, 3) := by decide +kernel
theorem dX4_takeOver_38 : decode cX4_takeOver 38 = .ok (.aload_n 1, 1) := by decide +kernel
theorem dX4_takeOver_39 : decode cX4_takeOver 39 = .ok (.aload_n 2, 1) := by decide +kernel
theorem dX4_takeOver_40 : decode cX4_takeOver 40 = .ok (.getfield 61, 3) := by decide +kernel
theorem dX4_takeOver_43 : decode cX4_takeOver 43 = .ok (.putfield 61, 3) := by decide +kernel
theorem dX4_takeOver_46 : decode cX4_takeOver 46 = .ok (.aload_n 1, 1) := by decide +kernel
theorem dX4_takeOver_47 : decode cX4_takeOver 47 = .ok (.aload_n 2, 1) := by decide +kernel
theorem dX4_takeOver_48 : decode cX4_takeOver 48 = .ok (.getfield 36, 3) := by decide +kernel
theorem dX4_takeOver_51 : decode cX4_takeOver 51 = .ok (.putfield 36, 3) := by decide +kernel
theorem dX4_takeOver_54 : decode cX4_takeOver 54 = .ok (.return_, 1) := by decide +kernel
theorem dX4_rotate_0 : decode cX4_rotate 0 = .ok (.aload_n 1, 1) := by decide +kernel
theorem dX4_rotate_1 : decode cX4_rotate 1 = .ok (.iconst 1, 1) := by decide +kernel
theorem dX4_rotate_2 : decode cX4_rotate 2 = .ok (.iload_n 2, 1) := by decide +kernel
theorem dX4_rotate_3 : decode cX4_rotate 3 = .ok (.isub, 1) := by decide +kernel
theorem dX4_rotate_4 : decode cX4_rotate 4 = .ok (.invokevirtual 58, 3) := by decide +kernel
theorem dX4_rotate_7 : decode cX4_rotate 7 = .ok (.astore_n 3, 1) := by decide +kernel
theorem dX4_rotate_8 : decode cX4_rotate 8 = .ok (.aload_n 3, 1) := by decide +kernel
theorem dX4_rotate_9 : decode cX4_rotate 9 = .ok (.iload_n 2, 1) := by decide +kernel
theorem dX4_rotate_10 : decode cX4_rotate 10 = .ok (.invokevirtual 58, 3) := by decide +kernel
theorem dX4_rotate_13 : decode cX4_rotate 13 = .ok (.astore 4, 2) := by decide +kernel
theorem dX4_rotate_15 : decode cX4_rotate 15 = .ok (.aload_n 1, 1) := by decide +kernel
theorem dX4_rotate_16 : decode cX4_rotate 16 = .ok (.iconst 1, 1) := by decide +kernel
theorem dX4_rotate_17 : decode cX4_rotate 17 = .ok (.iload_n 2, 1) := by decide +kernel
theorem dX4_rotate_18 : decode cX4_rotate 18 = .ok (.isub, 1) := by decide +kernel
theorem dX4_rotate_19 : decode cX4_rotate 19 = .ok (.aload 4, 2) := by decide +kernel
theorem dX4_rotate_21 : decode cX4_rotate 21 = .ok (.invokevirtual 65, 3) := by decide +kernel
theorem dX4_rotate_24 : decode cX4_rotate 24 = .ok (.aload 4, 2) := by decide +kernel
theorem dX4_rotate_26 : decode cX4_rotate 26 = .ok (.aload_n 0, 1) := by decide +kernel
theorem dX4_rotate_27 : decode cX4_rotate 27 = .ok (.getfield 20, 3) := by decide +kernel
theorem dX4_rotate_30 : decode cX4_rotate 30 = .ok (.if_acmp .eq 9, 3) := by decide +kernel
theorem dX4_rotate_33 : decode cX4_rotate 33 = .ok (.aload 4, 2) := by decide +kernel
theorem dX4_rotate_35 : decode cX4_rotate 35 = .ok (.aload_n 1, 1) := by decide +kernel
theorem dX4_rotate_36 : decode cX4_rotate 36 = .ok (.putfield 30, 3) := by decide +kernel
theorem dX4_rotate_39 : decode cX4_rotate 39 = .ok (.aload_n 0, 1) := by decide +kernel
theorem dX4_rotate_40 : decode cX4_rotate 40 = .ok (.aload_n 1, 1) := by decide +kernel
theorem dX4_rotate_41 : decode cX4_rotate 41 = .ok (.aload_n 3, 1) := by decide +kernel
theorem dX4_rotate_42 : decode cX4_rotate 42 = .ok (.invokevirtual 77, 3) := by decide +kernel
theorem dX4_rotate_45 : decode cX4_rotate 45 = .ok (.aload_n 3, 1) := by decide +kernel
theorem dX4_rotate_46 : decode cX4_rotate 46 = .ok (.iload_n 2, 1) := by decide +kernel
theorem dX4_rotate_47 : decode cX4_rotate 47 = .ok (.aload_n 1, 1) := by decide +kernel
theorem dX4_rotate_48 : decode cX4_rotate 48 = .ok (.invokevirtual 65, 3) := by decide +kernel
theorem dX4_rotate_51 : decode cX4_rotate 51 = .ok (.aload_n 1, 1) := by decide +kernel
theorem dX4_rotate_52 : decode cX4_rotate 52 = .ok (.aload_n 3, 1) := by decide +kernel
theorem dX4_rotate_53 : decode cX4_rotate 53 = .ok (.putfield 30, 3) := by decide +kernel
theorem dX4_rotate_56 : decode cX4_rotate 56 = .ok (.aload_n 3, 1) := by decide +kernel
theorem dX4_rotate_57 : decode cX4_rotate 57 = .ok (.aload_n 1, 1) := by decide +kernel
theorem dX4_rotate_58 : decode cX4_rotate 58 = .ok (.getfield 36, 3) := by decide +kernel
theorem dX4_rotate_61 : decode cX4_rotate 61 = .ok (.putfield 36, 3) := by decide +kernel
theorem dX4_rotate_64 : decode cX4_rotate 64 = .ok (.aload_n 1, 1) := by decide +kernel
theorem dX4_rotate_65 : decode cX4_rotate 65 = .ok (.aload_n 1, 1) := by decide +kernel
theorem dX4_rotate_66 : decode cX4_rotate 66 = .ok (.getfield 24, 3) := by decide +kernel
theorem dX4_rotate_69 : decode cX4_rotate 69 = .ok (.getfield 36, 3) := by decide +kernel
theorem dX4_rotate_72 : decode cX4_rotate 72 = .ok (.aload_n 1, 1) := by decide +kernel
theorem dX4_rotate_73 : decode cX4_rotate 73 = .ok (.getfield 27, 3) := by decide +kernel
theorem dX4_rotate_76 : decode cX4_rotate 76 = .ok (.getfield 36, 3) := by decide +kernel
theorem dX4_rotate_79 : decode cX4_rotate 79 = .ok (.iadd, 1) := by decide +kernel
theorem dX4_rotate_80 : decode cX4_rotate 80 = .ok (.iconst 1, 1) := by decide +kernel
theorem dX4_rotate_81 : decode cX4_rotate 81 = .ok (.iadd, 1) := by decide +kernel
theorem dX4_rotate_82 : decode cX4_rotate 82 = .ok (.putfield 36, 3) := by decide +kernel
theorem dX4_rotate_85 : decode cX4_rotate 85 = .ok (.return_, 1) := by decide +kernel
theorem dX4_mendRedBelowRed_0 : decode cX4_mendRedBelowRed 0 = .ok (.aload_n 1, 1) := by decide +kernel
theorem dX4_mendRedBelowRed_1 : decode cX4_mendRedBelowRed 1 = .ok (.astore_n 2, 1) := by decide +kernel
theorem dX4_mendRedBelowRed_2 : decode cX4_mendRedBelowRed 2 = .ok (.iconst 0, 1) := by decide +kernel
theorem dX4_mendRedBelowRed_3 : decode cX4_mendRedBelowRed 3 = .ok (.istore_n 3, 1) := by decide +kernel
theorem dX4_mendRedBelowRed_4 : decode cX4_mendRedBelowRed 4 = .ok (.iload_n 3, 1) := by decide +kernel
theorem dX4_mendRedBelowRed_5 : decode cX4_mendRedBelowRed 5 = .ok (.bipush 64, 2) := by decide +kernel
theorem dX4_mendRedBelowRed_7 : decode cX4_mendRedBelowRed 7 = .ok (.if_icmp .ge 123, 3) := by decide +kernel
theorem dX4_mendRedBelowRed_10 : decode cX4_mendRedBelowRed 10 = .ok (.aload_n 2, 1) := by decide +kernel
theorem dX4_mendRedBelowRed_11 : decode cX4_mendRedBelowRed 11 = .ok (.getfield 30, 3) := by decide +kernel
theorem dX4_mendRedBelowRed_14 : decode cX4_mendRedBelowRed 14 = .ok (.getfield 61, 3) := by decide +kernel
theorem dX4_mendRedBelowRed_17 : decode cX4_mendRedBelowRed 17 = .ok (.ifCond .eq 113, 3) := by decide +kernel
theorem dX4_mendRedBelowRed_20 : decode cX4_mendRedBelowRed 20 = .ok (.aload_n 2, 1) := by decide +kernel
theorem dX4_mendRedBelowRed_21 : decode cX4_mendRedBelowRed 21 = .ok (.getfield 30, 3) := by decide +kernel
theorem dX4_mendRedBelowRed_24 : decode cX4_mendRedBelowRed 24 = .ok (.astore 4, 2) := by decide +kernel
theorem dX4_mendRedBelowRed_26 : decode cX4_mendRedBelowRed 26 = .ok (.aload 4, 2) := by decide +kernel
theorem dX4_mendRedBelowRed_28 : decode cX4_mendRedBelowRed 28 = .ok (.getfield 30, 3) := by decide +kernel
theorem dX4_mendRedBelowRed_31 : decode cX4_mendRedBelowRed 31 = .ok (.astore 5, 2) := by decide +kernel
theorem dX4_mendRedBelowRed_33 : decode cX4_mendRedBelowRed 33 = .ok (.aload 5, 2) := by decide +kernel
theorem dX4_mendRedBelowRed_35 : decode cX4_mendRedBelowRed 35 = .ok (.aload 4, 2) := by decide +kernel
theorem dX4_mendRedBelowRed_37 : decode cX4_mendRedBelowRed 37 = .ok (.invokevirtual 87, 3) := by decide +kernel
theorem dX4_mendRedBelowRed_40 : decode cX4_mendRedBelowRed 40 = .ok (.istore 6, 2) := by decide +kernel
theorem dX4_mendRedBelowRed_42 : decode cX4_mendRedBelowRed 42 = .ok (.aload 5, 2) := by decide +kernel
theorem dX4_mendRedBelowRed_44 : decode cX4_mendRedBelowRed 44 = .ok (.iconst 1, 1) := by decide +kernel
theorem dX4_mendRedBelowRed_45 : decode cX4_mendRedBelowRed 45 = .ok (.iload 6, 2) := by decide +kernel
theorem dX4_mendRedBelowRed_47 : decode cX4_mendRedBelowRed 47 = .ok (.isub, 1) := by decide +kernel
theorem dX4_mendRedBelowRed_48 : decode cX4_mendRedBelowRed 48 = .ok (.invokevirtual 58, 3) := by decide +kernel
theorem dX4_mendRedBelowRed_51 : decode cX4_mendRedBelowRed 51 = .ok (.astore 7, 2) := by decide +kernel
theorem dX4_mendRedBelowRed_53 : decode cX4_mendRedBelowRed 53 = .ok (.aload 5, 2) := by decide +kernel
theorem dX4_mendRedBelowRed_55 : decode cX4_mendRedBelowRed 55 = .ok (.iconst 1, 1) := by decide +kernel
theorem dX4_mendRedBelowRed_56 : decode cX4_mendRedBelowRed 56 = .ok (.putfield 61, 3) := by decide +kernel
theorem dX4_mendRedBelowRed_59 : decode cX4_mendRedBelowRed 59 = .ok (.aload 7, 2) := by decide +kernel
theorem dX4_mendRedBelowRed_61 : decode cX4_mendRedBelowRed 61 = .ok (.getfield 61, 3) := by decide +kernel
theorem dX4_mendRedBelowRed_64 : decode cX4_mendRedBelowRed 64 = .ok (.ifCond .eq 21, 3) := by decide +kernel
theorem dX4_mendRedBelowRed_67 : decode cX4_mendRedBelowRed 67 = .ok (.aload 4, 2) := by decide +kernel
theorem dX4_mendRedBelowRed_69 : decode cX4_mendRedBelowRed 69 = .ok (.iconst 0, 1) := by decide +kernel
theorem dX4_mendRedBelowRed_70 : decode cX4_mendRedBelowRed 70 = .ok (.putfield 61, 3) := by decide +kernel
theorem dX4_mendRedBelowRed_73 : decode cX4_mendRedBelowRed 73 = .ok (.aload 7, 2) := by decide +kernel
theorem dX4_mendRedBelowRed_75 : decode cX4_mendRedBelowRed 75 = .ok (.iconst 0, 1) := by decide +kernel
theorem dX4_mendRedBelowRed_76 : decode cX4_mendRedBelowRed 76 = .ok (.putfield 61, 3) := by decide +kernel
theorem dX4_mendRedBelowRed_79 : decode cX4_mendRedBelowRed 79 = .ok (.aload 5, 2) := by decide +kernel
theorem dX4_mendRedBelowRed_81 : decode cX4_mendRedBelowRed 81 = .ok (.astore_n 2, 1) := by decide +kernel
theorem dX4_mendRedBelowRed_82 : decode cX4_mendRedBelowRed 82 = .ok (.goto 42, 3) := by decide +kernel
theorem dX4_mendRedBelowRed_85 : decode cX4_mendRedBelowRed 85 = .ok (.aload_n 2, 1) := by decide +kernel
theorem dX4_mendRedBelowRed_86 : decode cX4_mendRedBelowRed 86 = .ok (.aload 4, 2) := by decide +kernel
theorem dX4_mendRedBelowRed_88 : decode cX4_mendRedBelowRed 88 = .ok (.iload 6, 2) := by decide +kernel
theorem dX4_mendRedBelowRed_90 : decode cX4_mendRedBelowRed 90 = .ok (.invokevirtual 58, 3) := by decide +kernel
theorem dX4_mendRedBelowRed_93 : decode cX4_mendRedBelowRed 93 = .ok (.if_acmp .eq 14, 3) := by decide +kernel
theorem dX4_mendRedBelowRed_96 : decode cX4_mendRedBelowRed 96 = .ok (.aload_n 0, 1) := by decide +kernel
theorem dX4_mendRedBelowRed_97 : decode cX4_mendRedBelowRed 97 = .ok (.aload 4, 2) := by decide +kernel
theorem dX4_mendRedBelowRed_99 : decode cX4_mendRedBelowRed 99 = .ok (.iload 6, 2) := by decide +kernel
theorem dX4_mendRedBelowRed_101 : decode cX4_mendRedBelowRed 101 = .ok (.invokevirtual 90, 3) := by decide +kernel
theorem dX4_mendRedBelowRed_104 : decode cX4_mendRedBelowRed 104 = .ok (.aload_n 2, 1) := by decide +kernel
theorem dX4_mendRedBelowRed_105 : decode cX4_mendRedBelowRed 105 = .ok (.astore 4, 2) := by decide +kernel
theorem dX4_mendRedBelowRed_107 : decode cX4_mendRedBelowRed 107 = .ok (.aload 4, 2) := by decide +kernel
theorem dX4_mendRedBelowRed_109 : decode cX4_mendRedBelowRed 109 = .ok (.iconst 0, 1) := by decide +kernel
theorem dX4_mendRedBelowRed_110 : decode cX4_mendRedBelowRed 110 = .ok (.putfield 61, 3) := by decide +kernel
theorem dX4_mendRedBelowRed_113 : decode cX4_mendRedBelowRed 113 = .ok (.aload_n 0, 1) := by decide +kernel
theorem dX4_mendRedBelowRed_114 : decode cX4_mendRedBelowRed 114 = .ok (.aload 5, 2) := by decide +kernel
theorem dX4_mendRedBelowRed_116 : decode cX4_mendRedBelowRed 116 = .ok (.iconst 1, 1) := by decide +kernel
theorem dX4_mendRedBelowRed_117 : decode cX4_mendRedBelowRed 117 = .ok (.iload 6, 2) := by decide +kernel
theorem dX4_mendRedBelowRed_119 : decode cX4_mendRedBelowRed 119 = .ok (.isub, 1) := by decide +kernel
theorem dX4_mendRedBelowRed_120 : decode cX4_mendRedBelowRed 120 = .ok (.invokevirtual 90, 3) := by decide +kernel
theorem dX4_mendRedBelowRed_123 : decode cX4_mendRedBelowRed 123 = .ok (.return_, 1) := by decide +kernel
theorem dX4_mendRedBelowRed_124 : decode cX4_mendRedBelowRed 124 = .ok (.iinc 3 1, 3) := by decide +kernel
theorem dX4_mendRedBelowRed_127 : decode cX4_mendRedBelowRed 127 = .ok (.goto (-123), 3) := by decide +kernel
theorem dX4_mendRedBelowRed_130 : decode cX4_mendRedBelowRed 130 = .ok (.return_, 1) := by decide +kernel
theorem dX4_mendMissingBlack_0 : decode cX4_mendMissingBlack 0 = .ok (.aload_n 1, 1) := by decide +kernel
theorem dX4_mendMissingBlack_1 : decode cX4_mendMissingBlack 1 = .ok (.astore_n 2, 1) := by decide +kernel
theorem dX4_mendMissingBlack_2 : decode cX4_mendMissingBlack 2 = .ok (.iconst 0, 1) := by decide +kernel
theorem dX4_mendMissingBlack_3 : decode cX4_mendMissingBlack 3 = .ok (.istore_n 3, 1) := by decide +kernel
theorem dX4_mendMissingBlack_4 : decode cX4_mendMissingBlack 4 = .ok (.iload_n 3, 1) := by decide +kernel
theorem dX4_mendMissingBlack_5 : decode cX4_mendMissingBlack 5 = .ok (.bipush 64, 2) := by decide +kernel
theorem dX4_mendMissingBlack_7 : decode cX4_mendMissingBlack 7 = .ok (.if_icmp .ge 140, 3) := by decide +kernel
theorem dX4_mendMissingBlack_10 : decode cX4_mendMissingBlack 10 = .ok (.aload_n 2, 1) := by decide +kernel
theorem dX4_mendMissingBlack_11 : decode cX4_mendMissingBlack 11 = .ok (.aload_n 0, 1) := by decide +kernel
theorem dX4_mendMissingBlack_12 : decode cX4_mendMissingBlack 12 = .ok (.getfield 33, 3) := by decide +kernel
theorem dX4_mendMissingBlack_15 : decode cX4_mendMissingBlack 15 = .ok (.if_acmp .eq 132, 3) := by decide +kernel
theorem dX4_mendMissingBlack_18 : decode cX4_mendMissingBlack 18 = .ok (.aload_n 2, 1) := by decide +kernel
theorem dX4_mendMissingBlack_19 : decode cX4_mendMissingBlack 19 = .ok (.getfield 61, 3) := by decide +kernel
theorem dX4_mendMissingBlack_22 : decode cX4_mendMissingBlack 22 = .ok (.ifCond .ne 125, 3) := by decide +kernel
theorem dX4_mendMissingBlack_25 : decode cX4_mendMissingBlack 25 = .ok (.aload_n 2, 1) := by decide +kernel
theorem dX4_mendMissingBlack_26 : decode cX4_mendMissingBlack 26 = .ok (.getfield 30, 3) := by decide +kernel
theorem dX4_mendMissingBlack_29 : decode cX4_mendMissingBlack 29 = .ok (.astore 4, 2) := by decide +kernel
theorem dX4_mendMissingBlack_31 : decode cX4_mendMissingBlack 31 = .ok (.aload 4, 2) := by decide +kernel
theorem dX4_mendMissingBlack_33 : decode cX4_mendMissingBlack 33 = .ok (.aload_n 2, 1) := by decide +kernel
theorem dX4_mendMissingBlack_34 : decode cX4_mendMissingBlack 34 = .ok (.invokevirtual 87, 3) := by decide +kernel
theorem dX4_mendMissingBlack_37 : decode cX4_mendMissingBlack 37 = .ok (.istore 5, 2) := by decide +kernel
theorem dX4_mendMissingBlack_39 : decode cX4_mendMissingBlack 39 = .ok (.aload 4, 2) := by decide +kernel
theorem dX4_mendMissingBlack_41 : decode cX4_mendMissingBlack 41 = .ok (.iconst 1, 1) := by decide +kernel
theorem dX4_mendMissingBlack_42 : decode cX4_mendMissingBlack 42 = .ok (.iload 5, 2) := by decide +kernel
theorem dX4_mendMissingBlack_44 : decode cX4_mendMissingBlack 44 = .ok (.isub, 1) := by decide +kernel
theorem dX4_mendMissingBlack_45 : decode cX4_mendMissingBlack 45 = .ok (.invokevirtual 58, 3) := by decide +kernel
theorem dX4_mendMissingBlack_48 : decode cX4_mendMissingBlack 48 = .ok (.getfield 61, 3) := by decide +kernel
theorem dX4_mendMissingBlack_51 : decode cX4_mendMissingBlack 51 = .ok (.ifCond .eq 30, 3) := by decide +kernel
theorem dX4_mendMissingBlack_54 : decode cX4_mendMissingBlack 54 = .ok (.aload 4, 2) := by decide +kernel
theorem dX4_mendMissingBlack_56 : decode cX4_mendMissingBlack 56 = .ok (.iconst 1, 1) := by decide +kernel
theorem dX4_mendMissingBlack_57 : decode cX4_mendMissingBlack 57 = .ok (.iload 5, 2) := by decide +kernel
theorem dX4_mendMissingBlack_59 : decode cX4_mendMissingBlack 59 = .ok (.isub, 1) := by decide +kernel
theorem dX4_mendMissingBlack_60 : decode cX4_mendMissingBlack 60 = .ok (.invokevirtual 58, 3) := by decide +kernel
theorem dX4_mendMissingBlack_63 : decode cX4_mendMissingBlack 63 = .ok (.iconst 0, 1) := by decide +kernel
theorem dX4_mendMissingBlack_64 : decode cX4_mendMissingBlack 64 = .ok (.putfield 61, 3) := by decide +kernel
theorem dX4_mendMissingBlack_67 : decode cX4_mendMissingBlack 67 = .ok (.aload 4, 2) := by decide +kernel
theorem dX4_mendMissingBlack_69 : decode cX4_mendMissingBlack 69 = .ok (.iconst 1, 1) := by decide +kernel
theorem dX4_mendMissingBlack_70 : decode cX4_mendMissingBlack 70 = .ok (.putfield 61, 3) := by decide +kernel
theorem dX4_mendMissingBlack_73 : decode cX4_mendMissingBlack 73 = .ok (.aload_n 0, 1) := by decide +kernel
theorem dX4_mendMissingBlack_74 : decode cX4_mendMissingBlack 74 = .ok (.aload 4, 2) := by decide +kernel
theorem dX4_mendMissingBlack_76 : decode cX4_mendMissingBlack 76 = .ok (.iload 5, 2) := by decide +kernel
theorem dX4_mendMissingBlack_78 : decode cX4_mendMissingBlack 78 = .ok (.invokevirtual 90, 3) := by decide +kernel
theorem dX4_mendMissingBlack_81 : decode cX4_mendMissingBlack 81 = .ok (.aload 4, 2) := by decide +kernel
theorem dX4_mendMissingBlack_83 : decode cX4_mendMissingBlack 83 = .ok (.iconst 1, 1) := by decide +kernel
theorem dX4_mendMissingBlack_84 : decode cX4_mendMissingBlack 84 = .ok (.iload 5, 2) := by decide +kernel
theorem dX4_mendMissingBlack_86 : decode cX4_mendMissingBlack 86 = .ok (.isub, 1) := by decide +kernel
theorem dX4_mendMissingBlack_87 : decode cX4_mendMissingBlack 87 = .ok (.invokevirtual 58, 3) := by decide +kernel
theorem dX4_mendMissingBlack_90 : decode cX4_mendMissingBlack 90 = .ok (.astore 6, 2) := by decide +kernel
theorem dX4_mendMissingBlack_92 : decode cX4_mendMissingBlack 92 = .ok (.aload 6, 2) := by decide +kernel
theorem dX4_mendMissingBlack_94 : decode cX4_mendMissingBlack 94 = .ok (.getfield 24, 3) := by decide +kernel
theorem dX4_mendMissingBlack_97 : decode cX4_mendMissingBlack 97 = .ok (.getfield 61, 3) := by decide +kernel
theorem dX4_mendMissingBlack_100 : decode cX4_mendMissingBlack 100 = .ok (.ifCond .ne 14, 3) := by decide +kernel
theorem dX4_mendMissingBlack_103 : decode cX4_mendMissingBlack 103 = .ok (.aload 6, 2) := by decide +kernel
theorem dX4_mendMissingBlack_105 : decode cX4_mendMissingBlack 105 = .ok (.getfield 27, 3) := by decide +kernel
theorem dX4_mendMissingBlack_108 : decode cX4_mendMissingBlack 108 = .ok (.getfield 61, 3) := by decide +kernel
theorem dX4_mendMissingBlack_111 : decode cX4_mendMissingBlack 111 = .ok (.ifCond .eq 21, 3) := by decide +kernel
theorem dX4_mendMissingBlack_114 : decode cX4_mendMissingBlack 114 = .ok (.aload_n 0, 1) := by decide +kernel
theorem dX4_mendMissingBlack_115 : decode cX4_mendMissingBlack 115 = .ok (.aload 6, 2) := by decide +kernel
theorem dX4_mendMissingBlack_117 : decode cX4_mendMissingBlack 117 = .ok (.aload 4, 2) := by decide +kernel
theorem dX4_mendMissingBlack_119 : decode cX4_mendMissingBlack 119 = .ok (.iload 5, 2) := by decide +kernel
theorem dX4_mendMissingBlack_121 : decode cX4_mendMissingBlack 121 = .ok (.invokevirtual 94, 3) := by decide +kernel
theorem dX4_mendMissingBlack_124 : decode cX4_mendMissingBlack 124 = .ok (.aload_n 0, 1) := by decide +kernel
theorem dX4_mendMissingBlack_125 : decode cX4_mendMissingBlack 125 = .ok (.getfield 33, 3) := by decide +kernel
theorem dX4_mendMissingBlack_128 : decode cX4_mendMissingBlack 128 = .ok (.astore_n 2, 1) := by decide +kernel
theorem dX4_mendMissingBlack_129 : decode cX4_mendMissingBlack 129 = .ok (.goto 12, 3) := by decide +kernel
theorem dX4_mendMissingBlack_132 : decode cX4_mendMissingBlack 132 = .ok (.aload 6, 2) := by decide +kernel
theorem dX4_mendMissingBlack_134 : decode cX4_mendMissingBlack 134 = .ok (.iconst 1, 1) := by decide +kernel
theorem dX4_mendMissingBlack_135 : decode cX4_mendMissingBlack 135 = .ok (.putfield 61, 3) := by decide +kernel
theorem dX4_mendMissingBlack_138 : decode cX4_mendMissingBlack 138 = .ok (.aload 4, 2) := by decide +kernel
theorem dX4_mendMissingBlack_140 : decode cX4_mendMissingBlack 140 = .ok (.astore_n 2, 1) := by decide +kernel
theorem dX4_mendMissingBlack_141 : decode cX4_mendMissingBlack 141 = .ok (.iinc 3 1, 3) := by decide +kernel
theorem dX4_mendMissingBlack_144 : decode cX4_mendMissingBlack 144 = .ok (.goto (-140), 3) := by decide +kernel
theorem dX4_mendMissingBlack_147 : decode cX4_mendMissingBlack 147 = .ok (.aload_n 2, 1) := by decide +kernel
theorem dX4_mendMissingBlack_148 : decode cX4_mendMissingBlack 148 = .ok (.iconst 0, 1) := by decide +kernel
theorem dX4_mendMissingBlack_149 : decode cX4_mendMissingBlack 149 = .ok (.putfield 61, 3) := by decide +kernel
theorem dX4_mendMissingBlack_152 : decode cX4_mendMissingBlack 152 = .ok (.return_, 1) := by decide +kernel
theorem dX4_giveBlackFrom_0 : decode cX4_giveBlackFrom 0 = .ok (.aload_n 1, 1) := by decide +kernel
theorem dX4_giveBlackFrom_1 : decode cX4_giveBlackFrom 1 = .ok (.astore 4, 2) := by decide +kernel
theorem dX4_giveBlackFrom_3 : decode cX4_giveBlackFrom 3 = .ok (.aload_n 1, 1) := by decide +kernel
theorem dX4_giveBlackFrom_4 : decode cX4_giveBlackFrom 4 = .ok (.iconst 1, 1) := by decide +kernel
theorem dX4_giveBlackFrom_5 : decode cX4_giveBlackFrom 5 = .ok (.iload_n 3, 1) := by decide +kernel
theorem dX4_giveBlackFrom_6 : decode cX4_giveBlackFrom 6 = .ok (.isub, 1) := by decide +kernel
theorem dX4_giveBlackFrom_7 : decode cX4_giveBlackFrom 7 = .ok (.invokevirtual 58, 3) := by decide +kernel
theorem dX4_giveBlackFrom_10 : decode cX4_giveBlackFrom 10 = .ok (.getfield 61, 3) := by decide +kernel
theorem dX4_giveBlackFrom_13 : decode cX4_giveBlackFrom 13 = .ok (.ifCond .ne 18, 3) := by decide +kernel
theorem dX4_giveBlackFrom_16 : decode cX4_giveBlackFrom 16 = .ok (.aload_n 1, 1) := by decide +kernel
theorem dX4_giveBlackFrom_17 : decode cX4_giveBlackFrom 17 = .ok (.iload_n 3, 1) := by decide +kernel
theorem dX4_giveBlackFrom_18 : decode cX4_giveBlackFrom 18 = .ok (.invokevirtual 58, 3) := by decide +kernel
theorem dX4_giveBlackFrom_21 : decode cX4_giveBlackFrom 21 = .ok (.astore 4, 2) := by decide +kernel
theorem dX4_giveBlackFrom_23 : decode cX4_giveBlackFrom 23 = .ok (.aload_n 0, 1) := by decide +kernel
theorem dX4_giveBlackFrom_24 : decode cX4_giveBlackFrom 24 = .ok (.aload_n 1, 1) := by decide +kernel
theorem dX4_giveBlackFrom_25 : decode cX4_giveBlackFrom 25 = .ok (.iconst 1, 1) := by decide +kernel
theorem dX4_giveBlackFrom_26 : decode cX4_giveBlackFrom 26 = .ok (.iload_n 3, 1) := by decide +kernel
theorem dX4_giveBlackFrom_27 : decode cX4_giveBlackFrom 27 = .ok (.isub, 1) := by decide +kernel
theorem dX4_giveBlackFrom_28 : decode cX4_giveBlackFrom 28 = .ok (.invokevirtual 90, 3) := by decide +kernel
theorem dX4_giveBlackFrom_31 : decode cX4_giveBlackFrom 31 = .ok (.aload 4, 2) := by decide +kernel
theorem dX4_giveBlackFrom_33 : decode cX4_giveBlackFrom 33 = .ok (.aload_n 2, 1) := by decide +kernel
theorem dX4_giveBlackFrom_34 : decode cX4_giveBlackFrom 34 = .ok (.getfield 61, 3) := by decide +kernel
theorem dX4_giveBlackFrom_37 : decode cX4_giveBlackFrom 37 = .ok (.putfield 61, 3) := by decide +kernel
theorem dX4_giveBlackFrom_40 : decode cX4_giveBlackFrom 40 = .ok (.aload 4, 2) := by decide +kernel
theorem dX4_giveBlackFrom_42 : decode cX4_giveBlackFrom 42 = .ok (.iconst 1, 1) := by decide +kernel
theorem dX4_giveBlackFrom_43 : decode cX4_giveBlackFrom 43 = .ok (.iload_n 3, 1) := by decide +kernel
theorem dX4_giveBlackFrom_44 : decode cX4_giveBlackFrom 44 = .ok (.isub, 1) := by decide +kernel
theorem dX4_giveBlackFrom_45 : decode cX4_giveBlackFrom 45 = .ok (.invokevirtual 58, 3) := by decide +kernel
theorem dX4_giveBlackFrom_48 : decode cX4_giveBlackFrom 48 = .ok (.iconst 0, 1) := by decide +kernel
theorem dX4_giveBlackFrom_49 : decode cX4_giveBlackFrom 49 = .ok (.putfield 61, 3) := by decide +kernel
theorem dX4_giveBlackFrom_52 : decode cX4_giveBlackFrom 52 = .ok (.aload_n 2, 1) := by decide +kernel
theorem dX4_giveBlackFrom_53 : decode cX4_giveBlackFrom 53 = .ok (.iconst 0, 1) := by decide +kernel
theorem dX4_giveBlackFrom_54 : decode cX4_giveBlackFrom 54 = .ok (.putfield 61, 3) := by decide +kernel
theorem dX4_giveBlackFrom_57 : decode cX4_giveBlackFrom 57 = .ok (.aload_n 0, 1) := by decide +kernel
theorem dX4_giveBlackFrom_58 : decode cX4_giveBlackFrom 58 = .ok (.aload_n 2, 1) := by decide +kernel
theorem dX4_giveBlackFrom_59 : decode cX4_giveBlackFrom 59 = .ok (.iload_n 3, 1) := by decide +kernel
theorem dX4_giveBlackFrom_60 : decode cX4_giveBlackFrom 60 = .ok (.invokevirtual 90, 3) := by decide +kernel
theorem dX4_giveBlackFrom_63 : decode cX4_giveBlackFrom 63 = .ok (.return_, 1) := by decide +kernel
theorem dX4_isSound_0 : decode cX4_isSound 0 = .ok (.aload_n 0, 1) := by decide +kernel
theorem dX4_isSound_1 : decode cX4_isSound 1 = .ok (.getfield 33, 3) := by decide +kernel
theorem dX4_isSound_4 : decode cX4_isSound 4 = .ok (.getfield 61, 3) := by decide +kernel
theorem dX4_isSound_7 : decode cX4_isSound 7 = .ok (.ifCond .ne 37, 3) := by decide +kernel
theorem dX4_isSound_10 : decode cX4_isSound 10 = .ok (.aload_n 0, 1) := by decide +kernel
theorem dX4_isSound_11 : decode cX4_isSound 11 = .ok (.getfield 33, 3) := by decide +kernel
theorem dX4_isSound_14 : decode cX4_isSound 14 = .ok (.getfield 30, 3) := by decide +kernel
theorem dX4_isSound_17 : decode cX4_isSound 17 = .ok (.aload_n 0, 1) := by decide +kernel
theorem dX4_isSound_18 : decode cX4_isSound 18 = .ok (.getfield 20, 3) := by decide +kernel
theorem dX4_isSound_21 : decode cX4_isSound 21 = .ok (.if_acmp .ne 23, 3) := by decide +kernel
theorem dX4_isSound_24 : decode cX4_isSound 24 = .ok (.aload_n 0, 1) := by decide +kernel
theorem dX4_isSound_25 : decode cX4_isSound 25 = .ok (.getfield 20, 3) := by decide +kernel
theorem dX4_isSound_28 : decode cX4_isSound 28 = .ok (.getfield 61, 3) := by decide +kernel
theorem dX4_isSound_31 : decode cX4_isSound 31 = .ok (.ifCond .ne 13, 3) := by decide +kernel
theorem dX4_isSound_34 : decode cX4_isSound 34 = .ok (.aload_n 0, 1) := by decide +kernel
theorem dX4_isSound_35 : decode cX4_isSound 35 = .ok (.getfield 20, 3) := by decide +kernel
theorem dX4_isSound_38 : decode cX4_isSound 38 = .ok (.getfield 36, 3) := by decide +kernel
theorem dX4_isSound_41 : decode cX4_isSound 41 = .ok (.ifCond .eq 5, 3) := by decide +kernel
theorem dX4_isSound_44 : decode cX4_isSound 44 = .ok (.iconst 0, 1) := by decide +kernel
theorem dX4_isSound_45 : decode cX4_isSound 45 = .ok (.ireturn, 1) := by decide +kernel
theorem dX4_isSound_46 : decode cX4_isSound 46 = .ok (.bipush 32, 2) := by decide +kernel
theorem dX4_isSound_48 : decode cX4_isSound 48 = .ok (.aload_n 0, 1) := by decide +kernel
theorem dX4_isSound_49 : decode cX4_isSound 49 = .ok (.getfield 33, 3) := by decide +kernel
theorem dX4_isSound_52 : decode cX4_isSound 52 = .ok (.getfield 36, 3) := by decide +kernel
theorem dX4_isSound_55 : decode cX4_isSound 55 = .ok (.iconst 1, 1) := by decide +kernel
theorem dX4_isSound_56 : decode cX4_isSound 56 = .ok (.iadd, 1) := by decide +kernel
theorem dX4_isSound_57 : decode cX4_isSound 57 = .ok (.invokestatic 98, 3) := by decide +kernel
theorem dX4_isSound_60 : decode cX4_isSound 60 = .ok (.isub, 1) := by decide +kernel
theorem dX4_isSound_61 : decode cX4_isSound 61 = .ok (.istore_n 1, 1) := by decide +kernel
theorem dX4_isSound_62 : decode cX4_isSound 62 = .ok (.bipush 64, 2) := by decide +kernel
theorem dX4_isSound_64 : decode cX4_isSound 64 = .ok (.iconst 2, 1) := by decide +kernel
theorem dX4_isSound_65 : decode cX4_isSound 65 = .ok (.iload_n 1, 1) := by decide +kernel
theorem dX4_isSound_66 : decode cX4_isSound 66 = .ok (.imul, 1) := by decide +kernel
theorem dX4_isSound_67 : decode cX4_isSound 67 = .ok (.invokestatic 104, 3) := by decide +kernel
theorem dX4_isSound_70 : decode cX4_isSound 70 = .ok (.istore_n 2, 1) := by decide +kernel
theorem dX4_isSound_71 : decode cX4_isSound 71 = .ok (.aload_n 0, 1) := by decide +kernel
theorem dX4_isSound_72 : decode cX4_isSound 72 = .ok (.aload_n 0, 1) := by decide +kernel
theorem dX4_isSound_73 : decode cX4_isSound 73 = .ok (.getfield 33, 3) := by decide +kernel
theorem dX4_isSound_76 : decode cX4_isSound 76 = .ok (.aload_n 0, 1) := by decide +kernel
theorem dX4_isSound_77 : decode cX4_isSound 77 = .ok (.getfield 20, 3) := by decide +kernel
theorem dX4_isSound_80 : decode cX4_isSound 80 = .ok (.aload_n 0, 1) := by decide +kernel
theorem dX4_isSound_81 : decode cX4_isSound 81 = .ok (.getfield 20, 3) := by decide +kernel
theorem dX4_isSound_84 : decode cX4_isSound 84 = .ok (.iload_n 2, 1) := by decide +kernel
theorem dX4_isSound_85 : decode cX4_isSound 85 = .ok (.invokestatic 110, 3) := by decide +kernel
theorem dX4_isSound_88 : decode cX4_isSound 88 = .ok (.iconst (-1), 1) := by decide +kernel
theorem dX4_isSound_89 : decode cX4_isSound 89 = .ok (.if_icmp .eq 7, 3) := by decide +kernel
theorem dX4_isSound_92 : decode cX4_isSound 92 = .ok (.iconst 1, 1) := by decide +kernel
theorem dX4_isSound_93 : decode cX4_isSound 93 = .ok (.goto 4, 3) := by decide +kernel
theorem dX4_isSound_96 : decode cX4_isSound 96 = .ok (.iconst 0, 1) := by decide +kernel
theorem dX4_isSound_97 : decode cX4_isSound 97 = .ok (.ireturn, 1) := by decide +kernel
theorem dX4_blackOnes_0 : decode cX4_blackOnes 0 = .ok (.aload_n 1, 1) := by decide +kernel
theorem dX4_blackOnes_1 : decode cX4_blackOnes 1 = .ok (.aload_n 0, 1) := by decide +kernel
theorem dX4_blackOnes_2 : decode cX4_blackOnes 2 = .ok (.getfield 20, 3) := by decide +kernel
theorem dX4_blackOnes_5 : decode cX4_blackOnes 5 = .ok (.if_acmp .ne 5, 3) := by decide +kernel
theorem dX4_blackOnes_8 : decode cX4_blackOnes 8 = .ok (.iconst 0, 1) := by decide +kernel
theorem dX4_blackOnes_9 : decode cX4_blackOnes 9 = .ok (.ireturn, 1) := by decide +kernel
theorem dX4_blackOnes_10 : decode cX4_blackOnes 10 = .ok (.iload 4, 2) := by decide +kernel
theorem dX4_blackOnes_12 : decode cX4_blackOnes 12 = .ok (.ifCond .eq 21, 3) := by decide +kernel
theorem dX4_blackOnes_15 : decode cX4_blackOnes 15 = .ok (.aload_n 0, 1) := by decide +kernel
theorem dX4_blackOnes_16 : decode cX4_blackOnes 16 = .ok (.aload_n 1, 1) := by decide +kernel
theorem dX4_blackOnes_17 : decode cX4_blackOnes 17 = .ok (.invokevirtual 114, 3) := by decide +kernel
theorem dX4_blackOnes_20 : decode cX4_blackOnes 20 = .ok (.ifCond .eq 13, 3) := by decide +kernel
theorem dX4_blackOnes_23 : decode cX4_blackOnes 23 = .ok (.aload_n 0, 1) := by decide +kernel
theorem dX4_blackOnes_24 : decode cX4_blackOnes 24 = .ok (.aload_n 1, 1) := by decide +kernel
theorem dX4_blackOnes_25 : decode cX4_blackOnes 25 = .ok (.aload_n 2, 1) := by decide +kernel
theorem dX4_blackOnes_26 : decode cX4_blackOnes 26 = .ok (.aload_n 3, 1) := by decide +kernel
theorem dX4_blackOnes_27 : decode cX4_blackOnes 27 = .ok (.invokevirtual 118, 3) := by decide +kernel
theorem dX4_blackOnes_30 : decode cX4_blackOnes 30 = .ok (.ifCond .ne 5, 3) := by decide +kernel
theorem dX4_blackOnes_33 : decode cX4_blackOnes 33 = .ok (.iconst (-1), 1) := by decide +kernel
theorem dX4_blackOnes_34 : decode cX4_blackOnes 34 = .ok (.ireturn, 1) := by decide +kernel
theorem dX4_blackOnes_35 : decode cX4_blackOnes 35 = .ok (.aload_n 0, 1) := by decide +kernel
theorem dX4_blackOnes_36 : decode cX4_blackOnes 36 = .ok (.aload_n 1, 1) := by decide +kernel
theorem dX4_blackOnes_37 : decode cX4_blackOnes 37 = .ok (.getfield 24, 3) := by decide +kernel
theorem dX4_blackOnes_40 : decode cX4_blackOnes 40 = .ok (.aload_n 2, 1) := by decide +kernel
theorem dX4_blackOnes_41 : decode cX4_blackOnes 41 = .ok (.aload_n 1, 1) := by decide +kernel
theorem dX4_blackOnes_42 : decode cX4_blackOnes 42 = .ok (.iload 4, 2) := by decide +kernel
theorem dX4_blackOnes_44 : decode cX4_blackOnes 44 = .ok (.iconst 1, 1) := by decide +kernel
theorem dX4_blackOnes_45 : decode cX4_blackOnes 45 = .ok (.isub, 1) := by decide +kernel
theorem dX4_blackOnes_46 : decode cX4_blackOnes 46 = .ok (.invokestatic 110, 3) := by decide +kernel
theorem dX4_blackOnes_49 : decode cX4_blackOnes 49 = .ok (.istore 5, 2) := by decide +kernel
theorem dX4_blackOnes_51 : decode cX4_blackOnes 51 = .ok (.aload_n 0, 1) := by decide +kernel
theorem dX4_blackOnes_52 : decode cX4_blackOnes 52 = .ok (.aload_n 1, 1) := by decide +kernel
theorem dX4_blackOnes_53 : decode cX4_blackOnes 53 = .ok (.getfield 27, 3) := by decide +kernel
theorem dX4_blackOnes_56 : decode cX4_blackOnes 56 = .ok (.aload_n 1, 1) := by decide +kernel
theorem dX4_blackOnes_57 : decode cX4_blackOnes 57 = .ok (.aload_n 3, 1) := by decide +kernel
theorem dX4_blackOnes_58 : decode cX4_blackOnes 58 = .ok (.iload 4, 2) := by decide +kernel
theorem dX4_blackOnes_60 : decode cX4_blackOnes 60 = .ok (.iconst 1, 1) := by decide +kernel
theorem dX4_blackOnes_61 : decode cX4_blackOnes 61 = .ok (.isub, 1) := by decide +kernel
theorem dX4_blackOnes_62 : decode cX4_blackOnes 62 = .ok (.invokestatic 110, 3) := by decide +kernel
theorem dX4_blackOnes_65 : decode cX4_blackOnes 65 = .ok (.istore 6, 2) := by decide +kernel
theorem dX4_blackOnes_67 : decode cX4_blackOnes 67 = .ok (.iload 5, 2) := by decide +kernel
theorem dX4_blackOnes_69 : decode cX4_blackOnes 69 = .ok (.iconst (-1), 1) := by decide +kernel
theorem dX4_blackOnes_70 : decode cX4_blackOnes 70 = .ok (.if_icmp .eq 10, 3) := by decide +kernel
theorem dX4_blackOnes_73 : decode cX4_blackOnes 73 = .ok (.iload 5, 2) := by decide +kernel
theorem dX4_blackOnes_75 : decode cX4_blackOnes 75 = .ok (.iload 6, 2) := by decide +kernel
theorem dX4_blackOnes_77 : decode cX4_blackOnes 77 = .ok (.if_icmp .eq 5, 3) := by decide +kernel
theorem dX4_blackOnes_80 : decode cX4_blackOnes 80 = .ok (.iconst (-1), 1) := by decide +kernel
theorem dX4_blackOnes_81 : decode cX4_blackOnes 81 = .ok (.ireturn, 1) := by decide +kernel
theorem dX4_blackOnes_82 : decode cX4_blackOnes 82 = .ok (.aload_n 1, 1) := by decide +kernel
theorem dX4_blackOnes_83 : decode cX4_blackOnes 83 = .ok (.getfield 61, 3) := by decide +kernel
theorem dX4_blackOnes_86 : decode cX4_blackOnes 86 = .ok (.ifCond .eq 8, 3) := by decide +kernel
theorem dX4_blackOnes_89 : decode cX4_blackOnes 89 = .ok (.iload 5, 2) := by decide +kernel
theorem dX4_blackOnes_91 : decode cX4_blackOnes 91 = .ok (.goto 7, 3) := by decide +kernel
theorem dX4_blackOnes_94 : decode cX4_blackOnes 94 = .ok (.iload 5, 2) := by decide +kernel
theorem dX4_blackOnes_96 : decode cX4_blackOnes 96 = .ok (.iconst 1, 1) := by decide +kernel
theorem dX4_blackOnes_97 : decode cX4_blackOnes 97 = .ok (.iadd, 1) := by decide +kernel
theorem dX4_blackOnes_98 : decode cX4_blackOnes 98 = .ok (.ireturn, 1) := by decide +kernel
theorem dX4_isLinkedWell_0 : decode cX4_isLinkedWell 0 = .ok (.aload_n 1, 1) := by decide +kernel
theorem dX4_isLinkedWell_1 : decode cX4_isLinkedWell 1 = .ok (.getfield 24, 3) := by decide +kernel
theorem dX4_isLinkedWell_4 : decode cX4_isLinkedWell 4 = .ok (.aload_n 0, 1) := by decide +kernel
theorem dX4_isLinkedWell_5 : decode cX4_isLinkedWell 5 = .ok (.getfield 20, 3) := by decide +kernel
theorem dX4_isLinkedWell_8 : decode cX4_isLinkedWell 8 = .ok (.if_acmp .eq 14, 3) := by decide +kernel
theorem dX4_isLinkedWell_11 : decode cX4_isLinkedWell 11 = .ok (.aload_n 1, 1) := by decide +kernel
theorem dX4_isLinkedWell_12 : decode cX4_isLinkedWell 12 = .ok (.getfield 24, 3) := by decide +kernel
theorem dX4_isLinkedWell_15 : decode cX4_isLinkedWell 15 = .ok (.getfield 30, 3) := by decide +kernel
theorem dX4_isLinkedWell_18 : decode cX4_isLinkedWell 18 = .ok (.aload_n 1, 1) := by decide +kernel
theorem dX4_isLinkedWell_19 : decode cX4_isLinkedWell 19 = .ok (.if_acmp .ne 7, 3) := by decide +kernel
theorem dX4_isLinkedWell_22 : decode cX4_isLinkedWell 22 = .ok (.iconst 1, 1) := by decide +kernel
theorem dX4_isLinkedWell_23 : decode cX4_isLinkedWell 23 = .ok (.goto 4, 3) := by decide +kernel
theorem dX4_isLinkedWell_26 : decode cX4_isLinkedWell 26 = .ok (.iconst 0, 1) := by decide +kernel
theorem dX4_isLinkedWell_27 : decode cX4_isLinkedWell 27 = .ok (.istore_n 2, 1) := by decide +kernel
theorem dX4_isLinkedWell_28 : decode cX4_isLinkedWell 28 = .ok (.aload_n 1, 1) := by decide +kernel
theorem dX4_isLinkedWell_29 : decode cX4_isLinkedWell 29 = .ok (.getfield 27, 3) := by decide +kernel
theorem dX4_isLinkedWell_32 : decode cX4_isLinkedWell 32 = .ok (.aload_n 0, 1) := by decide +kernel
theorem dX4_isLinkedWell_33 : decode cX4_isLinkedWell 33 = .ok (.getfield 20, 3) := by decide +kernel
theorem dX4_isLinkedWell_36 : decode cX4_isLinkedWell 36 = .ok (.if_acmp .eq 14, 3) := by decide +kernel
theorem dX4_isLinkedWell_39 : decode cX4_isLinkedWell 39 = .ok (.aload_n 1, 1) := by decide +kernel
theorem dX4_isLinkedWell_40 : decode cX4_isLinkedWell 40 = .ok (.getfield 27, 3) := by decide +kernel
theorem dX4_isLinkedWell_43 : decode cX4_isLinkedWell 43 = .ok (.getfield 30, 3) := by decide +kernel
theorem dX4_isLinkedWell_46 : decode cX4_isLinkedWell 46 = .ok (.aload_n 1, 1) := by decide +kernel
theorem dX4_isLinkedWell_47 : decode cX4_isLinkedWell 47 = .ok (.if_acmp .ne 7, 3) := by decide +kernel
theorem dX4_isLinkedWell_50 : decode cX4_isLinkedWell 50 = .ok (.iconst 1, 1) := by decide +kernel
theorem dX4_isLinkedWell_51 : decode cX4_isLinkedWell 51 = .ok (.goto 4, 3) := by decide +kernel
theorem dX4_isLinkedWell_54 : decode cX4_isLinkedWell 54 = .ok (.iconst 0, 1) := by decide +kernel
theorem dX4_isLinkedWell_55 : decode cX4_isLinkedWell 55 = .ok (.istore_n 3, 1) := by decide +kernel
theorem dX4_isLinkedWell_56 : decode cX4_isLinkedWell 56 = .ok (.aload_n 1, 1) := by decide +kernel
theorem dX4_isLinkedWell_57 : decode cX4_isLinkedWell 57 = .ok (.getfield 61, 3) := by decide +kernel
theorem dX4_isLinkedWell_60 : decode cX4_isLinkedWell 60 = .ok (.ifCond .eq 27, 3) := by decide +kernel
theorem dX4_isLinkedWell_63 : decode cX4_isLinkedWell 63 = .ok (.aload_n 1, 1) := by decide +kernel
theorem dX4_isLinkedWell_64 : decode cX4_isLinkedWell 64 = .ok (.getfield 24, 3) := by decide +kernel
theorem dX4_isLinkedWell_67 : decode cX4_isLinkedWell 67 = .ok (.getfield 61, 3) := by decide +kernel
theorem dX4_isLinkedWell_70 : decode cX4_isLinkedWell 70 = .ok (.ifCond .ne 13, 3) := by decide +kernel
theorem dX4_isLinkedWell_73 : decode cX4_isLinkedWell 73 = .ok (.aload_n 1, 1) := by decide +kernel
theorem dX4_isLinkedWell_74 : decode cX4_isLinkedWell 74 = .ok (.getfield 27, 3) := by decide +kernel
theorem dX4_isLinkedWell_77 : decode cX4_isLinkedWell 77 = .ok (.getfield 61, 3) := by decide +kernel
theorem dX4_isLinkedWell_80 : decode cX4_isLinkedWell 80 = .ok (.ifCond .eq 7, 3) := by decide +kernel
theorem dX4_isLinkedWell_83 : decode cX4_isLinkedWell 83 = .ok (.iconst 1, 1) := by decide +kernel
theorem dX4_isLinkedWell_84 : decode cX4_isLinkedWell 84 = .ok (.goto 4, 3) := by decide +kernel
theorem dX4_isLinkedWell_87 : decode cX4_isLinkedWell 87 = .ok (.iconst 0, 1) := by decide +kernel
theorem dX4_isLinkedWell_88 : decode cX4_isLinkedWell 88 = .ok (.istore 4, 2) := by decide +kernel
theorem dX4_isLinkedWell_90 : decode cX4_isLinkedWell 90 = .ok (.iload_n 2, 1) := by decide +kernel
theorem dX4_isLinkedWell_91 : decode cX4_isLinkedWell 91 = .ok (.ifCond .eq 40, 3) := by decide +kernel
theorem dX4_isLinkedWell_94 : decode cX4_isLinkedWell 94 = .ok (.iload_n 3, 1) := by decide +kernel
theorem dX4_isLinkedWell_95 : decode cX4_isLinkedWell 95 = .ok (.ifCond .eq 36, 3) := by decide +kernel
theorem dX4_isLinkedWell_98 : decode cX4_isLinkedWell 98 = .ok (.iload 4, 2) := by decide +kernel
theorem dX4_isLinkedWell_100 : decode cX4_isLinkedWell 100 = .ok (.ifCond .ne 31, 3) := by decide +kernel
theorem dX4_isLinkedWell_103 : decode cX4_isLinkedWell 103 = .ok (.aload_n 1, 1) := by decide +kernel
theorem dX4_isLinkedWell_104 : decode cX4_isLinkedWell 104 = .ok (.getfield 36, 3) := by decide +kernel
theorem dX4_isLinkedWell_107 : decode cX4_isLinkedWell 107 = .ok (.aload_n 1, 1) := by decide +kernel
theorem dX4_isLinkedWell_108 : decode cX4_isLinkedWell 108 = .ok (.getfield 24, 3) := by decide +kernel
theorem dX4_isLinkedWell_111 : decode cX4_isLinkedWell 111 = .ok (.getfield 36, 3) := by decide +kernel
theorem dX4_isLinkedWell_114 : decode cX4_isLinkedWell 114 = .ok (.aload_n 1, 1) := by decide +kernel
theorem dX4_isLinkedWell_115 : decode cX4_isLinkedWell 115 = .ok (.getfield 27, 3) := by decide +kernel
theorem dX4_isLinkedWell_118 : decode cX4_isLinkedWell 118 = .ok (.getfield 36, 3) := by decide +kernel
theorem dX4_isLinkedWell_121 : decode cX4_isLinkedWell 121 = .ok (.iadd, 1) := by decide +kernel
theorem dX4_isLinkedWell_122 : decode cX4_isLinkedWell 122 = .ok (.iconst 1, 1) := by decide +kernel
theorem dX4_isLinkedWell_123 : decode cX4_isLinkedWell 123 = .ok (.iadd, 1) := by decide +kernel
theorem dX4_isLinkedWell_124 : decode cX4_isLinkedWell 124 = .ok (.if_icmp .ne 7, 3) := by decide +kernel
theorem dX4_isLinkedWell_127 : decode cX4_isLinkedWell 127 = .ok (.iconst 1, 1) := by decide +kernel
theorem dX4_isLinkedWell_128 : decode cX4_isLinkedWell 128 = .ok (.goto 4, 3) := by decide +kernel
theorem dX4_isLinkedWell_131 : decode cX4_isLinkedWell 131 = .ok (.iconst 0, 1) := by decide +kernel
theorem dX4_isLinkedWell_132 : decode cX4_isLinkedWell 132 = .ok (.ireturn, 1) := by decide +kernel
theorem dX4_isBetween_0 : decode cX4_isBetween 0 = .ok (.aload_n 2, 1) := by decide +kernel
theorem dX4_isBetween_1 : decode cX4_isBetween 1 = .ok (.aload_n 0, 1) := by decide +kernel
theorem dX4_isBetween_2 : decode cX4_isBetween 2 = .ok (.getfield 20, 3) := by decide +kernel
theorem dX4_isBetween_5 : decode cX4_isBetween 5 = .ok (.if_acmp .eq 15, 3) := by decide +kernel
theorem dX4_isBetween_8 : decode cX4_isBetween 8 = .ok (.aload_n 0, 1) := by decide +kernel
theorem dX4_isBetween_9 : decode cX4_isBetween 9 = .ok (.getfield 9, 3) := by decide +kernel
theorem dX4_isBetween_12 : decode cX4_isBetween 12 = .ok (.aload_n 2, 1) := by decide +kernel
theorem dX4_isBetween_13 : decode cX4_isBetween 13 = .ok (.aload_n 1, 1) := by decide +kernel
theorem dX4_isBetween_14 : decode cX4_isBetween 14 = .ok (.invokevirtual 54, 3) := by decide +kernel
theorem dX4_isBetween_17 : decode cX4_isBetween 17 = .ok (.ifCond .ge 27, 3) := by decide +kernel
theorem dX4_isBetween_20 : decode cX4_isBetween 20 = .ok (.aload_n 3, 1) := by decide +kernel
theorem dX4_isBetween_21 : decode cX4_isBetween 21 = .ok (.aload_n 0, 1) := by decide +kernel
theorem dX4_isBetween_22 : decode cX4_isBetween 22 = .ok (.getfield 20, 3) := by decide +kernel
theorem dX4_isBetween_25 : decode cX4_isBetween 25 = .ok (.if_acmp .eq 15, 3) := by decide +kernel
theorem dX4_isBetween_28 : decode cX4_isBetween 28 = .ok (.aload_n 0, 1) := by decide +kernel
theorem dX4_isBetween_29 : decode cX4_isBetween 29 = .ok (.getfield 9, 3) := by decide +kernel
theorem dX4_isBetween_32 : decode cX4_isBetween 32 = .ok (.aload_n 1, 1) := by decide +kernel
theorem dX4_isBetween_33 : decode cX4_isBetween 33 = .ok (.aload_n 3, 1) := by decide +kernel
theorem dX4_isBetween_34 : decode cX4_isBetween 34 = .ok (.invokevirtual 54, 3) := by decide +kernel
theorem dX4_isBetween_37 : decode cX4_isBetween 37 = .ok (.ifCond .ge 7, 3) := by decide +kernel
theorem dX4_isBetween_40 : decode cX4_isBetween 40 = .ok (.iconst 1, 1) := by decide +kernel
theorem dX4_isBetween_41 : decode cX4_isBetween 41 = .ok (.goto 4, 3) := by decide +kernel
theorem dX4_isBetween_44 : decode cX4_isBetween 44 = .ok (.iconst 0, 1) := by decide +kernel
theorem dX4_isBetween_45 : decode cX4_isBetween 45 = .ok (.ireturn, 1) := by decide +kernel
