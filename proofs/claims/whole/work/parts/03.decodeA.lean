theorem dX0_init_0 : decode cX0_init 0 = .ok (.aload_n 0, 1) := by decide +kernel
theorem dX0_init_1 : decode cX0_init 1 = .ok (.invokespecial 3, 3) := by decide +kernel
theorem dX0_init_4 : decode cX0_init 4 = .ok (.return_, 1) := by decide +kernel
theorem dX0_matches_0 : decode cX0_matches 0 = .ok (.aload_n 0, 1) := by decide +kernel
theorem dX0_matches_1 : decode cX0_matches 1 = .ok (.aload_n 1, 1) := by decide +kernel
theorem dX0_matches_2 : decode cX0_matches 2 = .ok (.aload_n 2, 1) := by decide +kernel
theorem dX0_matches_3 : decode cX0_matches 3 = .ok (.invokevirtual 9, 3) := by decide +kernel
theorem dX0_matches_6 : decode cX0_matches 6 = .ok (.astore_n 3, 1) := by decide +kernel
theorem dX0_matches_7 : decode cX0_matches 7 = .ok (.iconst 0, 1) := by decide +kernel
theorem dX0_matches_8 : decode cX0_matches 8 = .ok (.istore 4, 2) := by decide +kernel
theorem dX0_matches_10 : decode cX0_matches 10 = .ok (.iload 4, 2) := by decide +kernel
theorem dX0_matches_12 : decode cX0_matches 12 = .ok (.sipush 2000, 3) := by decide +kernel
theorem dX0_matches_15 : decode cX0_matches 15 = .ok (.if_icmp .ge 50, 3) := by decide +kernel
theorem dX0_matches_18 : decode cX0_matches 18 = .ok (.aload_n 3, 1) := by decide +kernel
theorem dX0_matches_19 : decode cX0_matches 19 = .ok (.ifnull 46, 3) := by decide +kernel
theorem dX0_matches_22 : decode cX0_matches 22 = .ok (.aload_n 3, 1) := by decide +kernel
theorem dX0_matches_23 : decode cX0_matches 23 = .ok (.getfield 15, 3) := by decide +kernel
theorem dX0_matches_26 : decode cX0_matches 26 = .ok (.astore 5, 2) := by decide +kernel
theorem dX0_matches_28 : decode cX0_matches 28 = .ok (.aload 5, 2) := by decide +kernel
theorem dX0_matches_30 : decode cX0_matches 30 = .ok (.ifnull 22, 3) := by decide +kernel
theorem dX0_matches_33 : decode cX0_matches 33 = .ok (.aload_n 3, 1) := by decide +kernel
theorem dX0_matches_34 : decode cX0_matches 34 = .ok (.aload 5, 2) := by decide +kernel
theorem dX0_matches_36 : decode cX0_matches 36 = .ok (.invokevirtual 21, 3) := by decide +kernel
theorem dX0_matches_39 : decode cX0_matches 39 = .ok (.ifCond .eq 13, 3) := by decide +kernel
theorem dX0_matches_42 : decode cX0_matches 42 = .ok (.aload_n 0, 1) := by decide +kernel
theorem dX0_matches_43 : decode cX0_matches 43 = .ok (.aload_n 3, 1) := by decide +kernel
theorem dX0_matches_44 : decode cX0_matches 44 = .ok (.aload 5, 2) := by decide +kernel
theorem dX0_matches_46 : decode cX0_matches 46 = .ok (.invokevirtual 25, 3) := by decide +kernel
theorem dX0_matches_49 : decode cX0_matches 49 = .ok (.ifCond .ne 5, 3) := by decide +kernel
theorem dX0_matches_52 : decode cX0_matches 52 = .ok (.iconst 0, 1) := by decide +kernel
theorem dX0_matches_53 : decode cX0_matches 53 = .ok (.ireturn, 1) := by decide +kernel
theorem dX0_matches_54 : decode cX0_matches 54 = .ok (.aload_n 3, 1) := by decide +kernel
theorem dX0_matches_55 : decode cX0_matches 55 = .ok (.getfield 29, 3) := by decide +kernel
theorem dX0_matches_58 : decode cX0_matches 58 = .ok (.astore_n 3, 1) := by decide +kernel
theorem dX0_matches_59 : decode cX0_matches 59 = .ok (.iinc 4 1, 3) := by decide +kernel
theorem dX0_matches_62 : decode cX0_matches 62 = .ok (.goto (-52), 3) := by decide +kernel
theorem dX0_matches_65 : decode cX0_matches 65 = .ok (.iconst 1, 1) := by decide +kernel
theorem dX0_matches_66 : decode cX0_matches 66 = .ok (.ireturn, 1) := by decide +kernel
theorem dX0_joinPlaces_0 : decode cX0_joinPlaces 0 = .ok (.iconst 0, 1) := by decide +kernel
theorem dX0_joinPlaces_1 : decode cX0_joinPlaces 1 = .ok (.istore_n 3, 1) := by decide +kernel
theorem dX0_joinPlaces_2 : decode cX0_joinPlaces 2 = .ok (.iload_n 3, 1) := by decide +kernel
theorem dX0_joinPlaces_3 : decode cX0_joinPlaces 3 = .ok (.aload_n 1, 1) := by decide +kernel
theorem dX0_joinPlaces_4 : decode cX0_joinPlaces 4 = .ok (.getfield 32, 3) := by decide +kernel
theorem dX0_joinPlaces_7 : decode cX0_joinPlaces 7 = .ok (.arraylength, 1) := by decide +kernel
theorem dX0_joinPlaces_8 : decode cX0_joinPlaces 8 = .ok (.if_icmp .ge 65, 3) := by decide +kernel
theorem dX0_joinPlaces_11 : decode cX0_joinPlaces 11 = .ok (.iload_n 3, 1) := by decide +kernel
theorem dX0_joinPlaces_12 : decode cX0_joinPlaces 12 = .ok (.aload_n 2, 1) := by decide +kernel
theorem dX0_joinPlaces_13 : decode cX0_joinPlaces 13 = .ok (.getfield 32, 3) := by decide +kernel
theorem dX0_joinPlaces_16 : decode cX0_joinPlaces 16 = .ok (.arraylength, 1) := by decide +kernel
theorem dX0_joinPlaces_17 : decode cX0_joinPlaces 17 = .ok (.if_icmp .ge 56, 3) := by decide +kernel
theorem dX0_joinPlaces_20 : decode cX0_joinPlaces 20 = .ok (.aload_n 1, 1) := by decide +kernel
theorem dX0_joinPlaces_21 : decode cX0_joinPlaces 21 = .ok (.getfield 32, 3) := by decide +kernel
theorem dX0_joinPlaces_24 : decode cX0_joinPlaces 24 = .ok (.iload_n 3, 1) := by decide +kernel
theorem dX0_joinPlaces_25 : decode cX0_joinPlaces 25 = .ok (.aaload, 1) := by decide +kernel
theorem dX0_joinPlaces_26 : decode cX0_joinPlaces 26 = .ok (.astore 4, 2) := by decide +kernel
theorem dX0_joinPlaces_28 : decode cX0_joinPlaces 28 = .ok (.aload_n 2, 1) := by decide +kernel
theorem dX0_joinPlaces_29 : decode cX0_joinPlaces 29 = .ok (.getfield 32, 3) := by decide +kernel
theorem dX0_joinPlaces_32 : decode cX0_joinPlaces 32 = .ok (.iload_n 3, 1) := by decide +kernel
theorem dX0_joinPlaces_33 : decode cX0_joinPlaces 33 = .ok (.aaload, 1) := by decide +kernel
theorem dX0_joinPlaces_34 : decode cX0_joinPlaces 34 = .ok (.astore 5, 2) := by decide +kernel
theorem dX0_joinPlaces_36 : decode cX0_joinPlaces 36 = .ok (.aload 4, 2) := by decide +kernel
theorem dX0_joinPlaces_38 : decode cX0_joinPlaces 38 = .ok (.ifnull 20, 3) := by decide +kernel
theorem dX0_joinPlaces_41 : decode cX0_joinPlaces 41 = .ok (.aload 5, 2) := by decide +kernel
theorem dX0_joinPlaces_43 : decode cX0_joinPlaces 43 = .ok (.ifnull 15, 3) := by decide +kernel
theorem dX0_joinPlaces_46 : decode cX0_joinPlaces 46 = .ok (.aload_n 0, 1) := by decide +kernel
theorem dX0_joinPlaces_47 : decode cX0_joinPlaces 47 = .ok (.aload 4, 2) := by decide +kernel
theorem dX0_joinPlaces_49 : decode cX0_joinPlaces 49 = .ok (.aload 5, 2) := by decide +kernel
theorem dX0_joinPlaces_51 : decode cX0_joinPlaces 51 = .ok (.invokevirtual 9, 3) := by decide +kernel
theorem dX0_joinPlaces_54 : decode cX0_joinPlaces 54 = .ok (.pop, 1) := by decide +kernel
theorem dX0_joinPlaces_55 : decode cX0_joinPlaces 55 = .ok (.goto 12, 3) := by decide +kernel
theorem dX0_joinPlaces_58 : decode cX0_joinPlaces 58 = .ok (.aload 4, 2) := by decide +kernel
theorem dX0_joinPlaces_60 : decode cX0_joinPlaces 60 = .ok (.aload 5, 2) := by decide +kernel
theorem dX0_joinPlaces_62 : decode cX0_joinPlaces 62 = .ok (.if_acmp .eq 5, 3) := by decide +kernel
theorem dX0_joinPlaces_65 : decode cX0_joinPlaces 65 = .ok (.iconst 0, 1) := by decide +kernel
theorem dX0_joinPlaces_66 : decode cX0_joinPlaces 66 = .ok (.ireturn, 1) := by decide +kernel
theorem dX0_joinPlaces_67 : decode cX0_joinPlaces 67 = .ok (.iinc 3 1, 3) := by decide +kernel
theorem dX0_joinPlaces_70 : decode cX0_joinPlaces 70 = .ok (.goto (-68), 3) := by decide +kernel
theorem dX0_joinPlaces_73 : decode cX0_joinPlaces 73 = .ok (.iconst 1, 1) := by decide +kernel
theorem dX0_joinPlaces_74 : decode cX0_joinPlaces 74 = .ok (.ireturn, 1) := by decide +kernel
theorem dX0_join_0 : decode cX0_join 0 = .ok (.aload_n 1, 1) := by decide +kernel
theorem dX0_join_1 : decode cX0_join 1 = .ok (.invokestatic 36, 3) := by decide +kernel
theorem dX0_join_4 : decode cX0_join 4 = .ok (.astore_n 3, 1) := by decide +kernel
theorem dX0_join_5 : decode cX0_join 5 = .ok (.aload_n 2, 1) := by decide +kernel
theorem dX0_join_6 : decode cX0_join 6 = .ok (.invokestatic 36, 3) := by decide +kernel
theorem dX0_join_9 : decode cX0_join 9 = .ok (.astore 4, 2) := by decide +kernel
theorem dX0_join_11 : decode cX0_join 11 = .ok (.aload_n 3, 1) := by decide +kernel
theorem dX0_join_12 : decode cX0_join 12 = .ok (.aload 4, 2) := by decide +kernel
theorem dX0_join_14 : decode cX0_join 14 = .ok (.if_acmp .ne 5, 3) := by decide +kernel
theorem dX0_join_17 : decode cX0_join 17 = .ok (.aconst_null, 1) := by decide +kernel
theorem dX0_join_18 : decode cX0_join 18 = .ok (.areturn, 1) := by decide +kernel
theorem dX0_join_19 : decode cX0_join 19 = .ok (.aload_n 3, 1) := by decide +kernel
theorem dX0_join_20 : decode cX0_join 20 = .ok (.getfield 40, 3) := by decide +kernel
theorem dX0_join_23 : decode cX0_join 23 = .ok (.aload 4, 2) := by decide +kernel
theorem dX0_join_25 : decode cX0_join 25 = .ok (.getfield 40, 3) := by decide +kernel
theorem dX0_join_28 : decode cX0_join 28 = .ok (.if_icmp .gt 7, 3) := by decide +kernel
theorem dX0_join_31 : decode cX0_join 31 = .ok (.iconst 1, 1) := by decide +kernel
theorem dX0_join_32 : decode cX0_join 32 = .ok (.goto 4, 3) := by decide +kernel
theorem dX0_join_35 : decode cX0_join 35 = .ok (.iconst 0, 1) := by decide +kernel
theorem dX0_join_36 : decode cX0_join 36 = .ok (.istore 5, 2) := by decide +kernel
theorem dX0_join_38 : decode cX0_join 38 = .ok (.iload 5, 2) := by decide +kernel
theorem dX0_join_40 : decode cX0_join 40 = .ok (.ifCond .eq 7, 3) := by decide +kernel
theorem dX0_join_43 : decode cX0_join 43 = .ok (.aload_n 3, 1) := by decide +kernel
theorem dX0_join_44 : decode cX0_join 44 = .ok (.goto 5, 3) := by decide +kernel
theorem dX0_join_47 : decode cX0_join 47 = .ok (.aload 4, 2) := by decide +kernel
theorem dX0_join_49 : decode cX0_join 49 = .ok (.astore 6, 2) := by decide +kernel
theorem dX0_join_51 : decode cX0_join 51 = .ok (.iload 5, 2) := by decide +kernel
theorem dX0_join_53 : decode cX0_join 53 = .ok (.ifCond .eq 8, 3) := by decide +kernel
theorem dX0_join_56 : decode cX0_join 56 = .ok (.aload 4, 2) := by decide +kernel
theorem dX0_join_58 : decode cX0_join 58 = .ok (.goto 4, 3) := by decide +kernel
theorem dX0_join_61 : decode cX0_join 61 = .ok (.aload_n 3, 1) := by decide +kernel
theorem dX0_join_62 : decode cX0_join 62 = .ok (.astore 7, 2) := by decide +kernel
theorem dX0_join_64 : decode cX0_join 64 = .ok (.aload 6, 2) := by decide +kernel
theorem dX0_join_66 : decode cX0_join 66 = .ok (.aload 7, 2) := by decide +kernel
theorem dX0_join_68 : decode cX0_join 68 = .ok (.putfield 15, 3) := by decide +kernel
theorem dX0_join_71 : decode cX0_join 71 = .ok (.aload 7, 2) := by decide +kernel
theorem dX0_join_73 : decode cX0_join 73 = .ok (.dup, 1) := by decide +kernel
theorem dX0_join_74 : decode cX0_join 74 = .ok (.getfield 40, 3) := by decide +kernel
theorem dX0_join_77 : decode cX0_join 77 = .ok (.aload 6, 2) := by decide +kernel
theorem dX0_join_79 : decode cX0_join 79 = .ok (.getfield 40, 3) := by decide +kernel
theorem dX0_join_82 : decode cX0_join 82 = .ok (.iconst 1, 1) := by decide +kernel
theorem dX0_join_83 : decode cX0_join 83 = .ok (.iadd, 1) := by decide +kernel
theorem dX0_join_84 : decode cX0_join 84 = .ok (.iadd, 1) := by decide +kernel
theorem dX0_join_85 : decode cX0_join 85 = .ok (.putfield 40, 3) := by decide +kernel
theorem dX0_join_88 : decode cX0_join 88 = .ok (.aload_n 0, 1) := by decide +kernel
theorem dX0_join_89 : decode cX0_join 89 = .ok (.getfield 44, 3) := by decide +kernel
theorem dX0_join_92 : decode cX0_join 92 = .ok (.ifnull 12, 3) := by decide +kernel
theorem dX0_join_95 : decode cX0_join 95 = .ok (.aload_n 0, 1) := by decide +kernel
theorem dX0_join_96 : decode cX0_join 96 = .ok (.getfield 44, 3) := by decide +kernel
theorem dX0_join_99 : decode cX0_join 99 = .ok (.aload 6, 2) := by decide +kernel
theorem dX0_join_101 : decode cX0_join 101 = .ok (.putfield 29, 3) := by decide +kernel
theorem dX0_join_104 : decode cX0_join 104 = .ok (.aload_n 0, 1) := by decide +kernel
theorem dX0_join_105 : decode cX0_join 105 = .ok (.aload 6, 2) := by decide +kernel
theorem dX0_join_107 : decode cX0_join 107 = .ok (.putfield 44, 3) := by decide +kernel
theorem dX0_join_110 : decode cX0_join 110 = .ok (.aload 6, 2) := by decide +kernel
theorem dX0_join_112 : decode cX0_join 112 = .ok (.areturn, 1) := by decide +kernel
theorem dX0_topOf_0 : decode cX0_topOf 0 = .ok (.aload_n 0, 1) := by decide +kernel
theorem dX0_topOf_1 : decode cX0_topOf 1 = .ok (.astore_n 1, 1) := by decide +kernel
theorem dX0_topOf_2 : decode cX0_topOf 2 = .ok (.iconst 0, 1) := by decide +kernel
theorem dX0_topOf_3 : decode cX0_topOf 3 = .ok (.istore_n 2, 1) := by decide +kernel
theorem dX0_topOf_4 : decode cX0_topOf 4 = .ok (.iload_n 2, 1) := by decide +kernel
theorem dX0_topOf_5 : decode cX0_topOf 5 = .ok (.sipush 2000, 3) := by decide +kernel
theorem dX0_topOf_8 : decode cX0_topOf 8 = .ok (.if_icmp .ge 21, 3) := by decide +kernel
theorem dX0_topOf_11 : decode cX0_topOf 11 = .ok (.aload_n 1, 1) := by decide +kernel
theorem dX0_topOf_12 : decode cX0_topOf 12 = .ok (.getfield 15, 3) := by decide +kernel
theorem dX0_topOf_15 : decode cX0_topOf 15 = .ok (.ifnull 14, 3) := by decide +kernel
theorem dX0_topOf_18 : decode cX0_topOf 18 = .ok (.aload_n 1, 1) := by decide +kernel
theorem dX0_topOf_19 : decode cX0_topOf 19 = .ok (.getfield 15, 3) := by decide +kernel
theorem dX0_topOf_22 : decode cX0_topOf 22 = .ok (.astore_n 1, 1) := by decide +kernel
theorem dX0_topOf_23 : decode cX0_topOf 23 = .ok (.iinc 2 1, 3) := by decide +kernel
theorem dX0_topOf_26 : decode cX0_topOf 26 = .ok (.goto (-22), 3) := by decide +kernel
theorem dX0_topOf_29 : decode cX0_topOf 29 = .ok (.aload_n 1, 1) := by decide +kernel
theorem dX0_topOf_30 : decode cX0_topOf 30 = .ok (.areturn, 1) := by decide +kernel
theorem dX1_init_0 : decode cX1_init 0 = .ok (.aload_n 0, 1) := by decide +kernel
theorem dX1_init_1 : decode cX1_init 1 = .ok (.invokespecial 1, 3) := by decide +kernel
theorem dX1_init_4 : decode cX1_init 4 = .ok (.aload_n 0, 1) := by decide +kernel
theorem dX1_init_5 : decode cX1_init 5 = .ok (.iload_n 1, 1) := by decide +kernel
theorem dX1_init_6 : decode cX1_init 6 = .ok (.putfield 7, 3) := by decide +kernel
theorem dX1_init_9 : decode cX1_init 9 = .ok (.aload_n 0, 1) := by decide +kernel
theorem dX1_init_10 : decode cX1_init 10 = .ok (.iload_n 2, 1) := by decide +kernel
theorem dX1_init_11 : decode cX1_init 11 = .ok (.putfield 13, 3) := by decide +kernel
theorem dX1_init_14 : decode cX1_init 14 = .ok (.aload_n 0, 1) := by decide +kernel
theorem dX1_init_15 : decode cX1_init 15 = .ok (.iload_n 3, 1) := by decide +kernel
theorem dX1_init_16 : decode cX1_init 16 = .ok (.putfield 16, 3) := by decide +kernel
theorem dX1_init_19 : decode cX1_init 19 = .ok (.aload_n 0, 1) := by decide +kernel
theorem dX1_init_20 : decode cX1_init 20 = .ok (.aload 4, 2) := by decide +kernel
theorem dX1_init_22 : decode cX1_init 22 = .ok (.putfield 19, 3) := by decide +kernel
theorem dX1_init_25 : decode cX1_init 25 = .ok (.aload_n 0, 1) := by decide +kernel
theorem dX1_init_26 : decode cX1_init 26 = .ok (.aload 5, 2) := by decide +kernel
theorem dX1_init_28 : decode cX1_init 28 = .ok (.putfield 23, 3) := by decide +kernel
theorem dX1_init_31 : decode cX1_init 31 = .ok (.aload_n 0, 1) := by decide +kernel
theorem dX1_init_32 : decode cX1_init 32 = .ok (.iload_n 3, 1) := by decide +kernel
theorem dX1_init_33 : decode cX1_init 33 = .ok (.i2l, 1) := by decide +kernel
theorem dX1_init_34 : decode cX1_init 34 = .ok (.putfield 27, 3) := by decide +kernel
theorem dX1_init_37 : decode cX1_init 37 = .ok (.return_, 1) := by decide +kernel
theorem dX1_duplicate_0 : decode cX1_duplicate 0 = .ok (.new 8, 3) := by decide +kernel
theorem dX1_duplicate_3 : decode cX1_duplicate 3 = .ok (.dup, 1) := by decide +kernel
theorem dX1_duplicate_4 : decode cX1_duplicate 4 = .ok (.iload_n 1, 1) := by decide +kernel
theorem dX1_duplicate_5 : decode cX1_duplicate 5 = .ok (.aload_n 0, 1) := by decide +kernel
theorem dX1_duplicate_6 : decode cX1_duplicate 6 = .ok (.getfield 13, 3) := by decide +kernel
theorem dX1_duplicate_9 : decode cX1_duplicate 9 = .ok (.aload_n 0, 1) := by decide +kernel
theorem dX1_duplicate_10 : decode cX1_duplicate 10 = .ok (.getfield 16, 3) := by decide +kernel
theorem dX1_duplicate_13 : decode cX1_duplicate 13 = .ok (.aload_n 0, 1) := by decide +kernel
theorem dX1_duplicate_14 : decode cX1_duplicate 14 = .ok (.getfield 19, 3) := by decide +kernel
theorem dX1_duplicate_17 : decode cX1_duplicate 17 = .ok (.invokevirtual 31, 3) := by decide +kernel
theorem dX1_duplicate_20 : decode cX1_duplicate 20 = .ok (.checkcast 32, 3) := by decide +kernel
theorem dX1_duplicate_23 : decode cX1_duplicate 23 = .ok (.aload_n 0, 1) := by decide +kernel
theorem dX1_duplicate_24 : decode cX1_duplicate 24 = .ok (.getfield 23, 3) := by decide +kernel
theorem dX1_duplicate_27 : decode cX1_duplicate 27 = .ok (.invokevirtual 36, 3) := by decide +kernel
theorem dX1_duplicate_30 : decode cX1_duplicate 30 = .ok (.checkcast 37, 3) := by decide +kernel
theorem dX1_duplicate_33 : decode cX1_duplicate 33 = .ok (.invokespecial 38, 3) := by decide +kernel
theorem dX1_duplicate_36 : decode cX1_duplicate 36 = .ok (.astore_n 2, 1) := by decide +kernel
theorem dX1_duplicate_37 : decode cX1_duplicate 37 = .ok (.aload_n 2, 1) := by decide +kernel
theorem dX1_duplicate_38 : decode cX1_duplicate 38 = .ok (.aload_n 0, 1) := by decide +kernel
theorem dX1_duplicate_39 : decode cX1_duplicate 39 = .ok (.getfield 27, 3) := by decide +kernel
theorem dX1_duplicate_42 : decode cX1_duplicate 42 = .ok (.putfield 27, 3) := by decide +kernel
theorem dX1_duplicate_45 : decode cX1_duplicate 45 = .ok (.aload_n 2, 1) := by decide +kernel
theorem dX1_duplicate_46 : decode cX1_duplicate 46 = .ok (.areturn, 1) := by decide +kernel
theorem dX1_beginNotes_0 : decode cX1_beginNotes 0 = .ok (.aload_n 0, 1) := by decide +kernel
theorem dX1_beginNotes_1 : decode cX1_beginNotes 1 = .ok (.iload_n 1, 1) := by decide +kernel
theorem dX1_beginNotes_2 : decode cX1_beginNotes 2 = .ok (.putfield 41, 3) := by decide +kernel
theorem dX1_beginNotes_5 : decode cX1_beginNotes 5 = .ok (.aload_n 0, 1) := by decide +kernel
theorem dX1_beginNotes_6 : decode cX1_beginNotes 6 = .ok (.iconst 1, 1) := by decide +kernel
theorem dX1_beginNotes_7 : decode cX1_beginNotes 7 = .ok (.putfield 44, 3) := by decide +kernel
theorem dX1_beginNotes_10 : decode cX1_beginNotes 10 = .ok (.aload_n 0, 1) := by decide +kernel
theorem dX1_beginNotes_11 : decode cX1_beginNotes 11 = .ok (.iconst 0, 1) := by decide +kernel
theorem dX1_beginNotes_12 : decode cX1_beginNotes 12 = .ok (.putfield 48, 3) := by decide +kernel
theorem dX1_beginNotes_15 : decode cX1_beginNotes 15 = .ok (.aload_n 0, 1) := by decide +kernel
theorem dX1_beginNotes_16 : decode cX1_beginNotes 16 = .ok (.aload_n 2, 1) := by decide +kernel
theorem dX1_beginNotes_17 : decode cX1_beginNotes 17 = .ok (.putfield 51, 3) := by decide +kernel
theorem dX1_beginNotes_20 : decode cX1_beginNotes 20 = .ok (.aload_n 0, 1) := by decide +kernel
theorem dX1_beginNotes_21 : decode cX1_beginNotes 21 = .ok (.aconst_null, 1) := by decide +kernel
theorem dX1_beginNotes_22 : decode cX1_beginNotes 22 = .ok (.putfield 55, 3) := by decide +kernel
theorem dX1_beginNotes_25 : decode cX1_beginNotes 25 = .ok (.aload_n 0, 1) := by decide +kernel
theorem dX1_beginNotes_26 : decode cX1_beginNotes 26 = .ok (.iconst 1, 1) := by decide +kernel
theorem dX1_beginNotes_27 : decode cX1_beginNotes 27 = .ok (.putfield 58, 3) := by decide +kernel
theorem dX1_beginNotes_30 : decode cX1_beginNotes 30 = .ok (.aload_n 0, 1) := by decide +kernel
theorem dX1_beginNotes_31 : decode cX1_beginNotes 31 = .ok (.aload_n 0, 1) := by decide +kernel
theorem dX1_beginNotes_32 : decode cX1_beginNotes 32 = .ok (.getfield 27, 3) := by decide +kernel
theorem dX1_beginNotes_35 : decode cX1_beginNotes 35 = .ok (.putfield 61, 3) := by decide +kernel
theorem dX1_beginNotes_38 : decode cX1_beginNotes 38 = .ok (.aload_n 0, 1) := by decide +kernel
theorem dX1_beginNotes_39 : decode cX1_beginNotes 39 = .ok (.aconst_null, 1) := by decide +kernel
theorem dX1_beginNotes_40 : decode cX1_beginNotes 40 = .ok (.putfield 64, 3) := by decide +kernel
theorem dX1_beginNotes_43 : decode cX1_beginNotes 43 = .ok (.aload_n 0, 1) := by decide +kernel
theorem dX1_beginNotes_44 : decode cX1_beginNotes 44 = .ok (.aconst_null, 1) := by decide +kernel
theorem dX1_beginNotes_45 : decode cX1_beginNotes 45 = .ok (.putfield 67, 3) := by decide +kernel
theorem dX1_beginNotes_48 : decode cX1_beginNotes 48 = .ok (.aload_n 0, 1) := by decide +kernel
theorem dX1_beginNotes_49 : decode cX1_beginNotes 49 = .ok (.iconst 0, 1) := by decide +kernel
theorem dX1_beginNotes_50 : decode cX1_beginNotes 50 = .ok (.putfield 70, 3) := by decide +kernel
theorem dX1_beginNotes_53 : decode cX1_beginNotes 53 = .ok (.aload_n 0, 1) := by decide +kernel
theorem dX1_beginNotes_54 : decode cX1_beginNotes 54 = .ok (.aconst_null, 1) := by decide +kernel
theorem dX1_beginNotes_55 : decode cX1_beginNotes 55 = .ok (.putfield 73, 3) := by decide +kernel
theorem dX1_beginNotes_58 : decode cX1_beginNotes 58 = .ok (.return_, 1) := by decide +kernel
theorem dX1_addNotesOf_0 : decode cX1_addNotesOf 0 = .ok (.aload_n 0, 1) := by decide +kernel
theorem dX1_addNotesOf_1 : decode cX1_addNotesOf 1 = .ok (.dup, 1) := by decide +kernel
theorem dX1_addNotesOf_2 : decode cX1_addNotesOf 2 = .ok (.getfield 61, 3) := by decide +kernel
theorem dX1_addNotesOf_5 : decode cX1_addNotesOf 5 = .ok (.aload_n 1, 1) := by decide +kernel
theorem dX1_addNotesOf_6 : decode cX1_addNotesOf 6 = .ok (.getfield 61, 3) := by decide +kernel
theorem dX1_addNotesOf_9 : decode cX1_addNotesOf 9 = .ok (.ladd, 1) := by decide +kernel
theorem dX1_addNotesOf_10 : decode cX1_addNotesOf 10 = .ok (.putfield 61, 3) := by decide +kernel
theorem dX1_addNotesOf_13 : decode cX1_addNotesOf 13 = .ok (.aload_n 0, 1) := by decide +kernel
theorem dX1_addNotesOf_14 : decode cX1_addNotesOf 14 = .ok (.getfield 58, 3) := by decide +kernel
theorem dX1_addNotesOf_17 : decode cX1_addNotesOf 17 = .ok (.aload_n 1, 1) := by decide +kernel
theorem dX1_addNotesOf_18 : decode cX1_addNotesOf 18 = .ok (.getfield 58, 3) := by decide +kernel
theorem dX1_addNotesOf_21 : decode cX1_addNotesOf 21 = .ok (.if_icmp .gt 13, 3) := by decide +kernel
theorem dX1_addNotesOf_24 : decode cX1_addNotesOf 24 = .ok (.aload_n 0, 1) := by decide +kernel
theorem dX1_addNotesOf_25 : decode cX1_addNotesOf 25 = .ok (.aload_n 1, 1) := by decide +kernel
theorem dX1_addNotesOf_26 : decode cX1_addNotesOf 26 = .ok (.getfield 58, 3) := by decide +kernel
theorem dX1_addNotesOf_29 : decode cX1_addNotesOf 29 = .ok (.iconst 1, 1) := by decide +kernel
theorem dX1_addNotesOf_30 : decode cX1_addNotesOf 30 = .ok (.iadd, 1) := by decide +kernel
theorem dX1_addNotesOf_31 : decode cX1_addNotesOf 31 = .ok (.putfield 58, 3) := by decide +kernel
theorem dX1_addNotesOf_34 : decode cX1_addNotesOf 34 = .ok (.return_, 1) := by decide +kernel
theorem dX1_looksLike_0 : decode cX1_looksLike 0 = .ok (.aload_n 0, 1) := by decide +kernel
theorem dX1_looksLike_1 : decode cX1_looksLike 1 = .ok (.getfield 13, 3) := by decide +kernel
theorem dX1_looksLike_4 : decode cX1_looksLike 4 = .ok (.aload_n 1, 1) := by decide +kernel
theorem dX1_looksLike_5 : decode cX1_looksLike 5 = .ok (.getfield 13, 3) := by decide +kernel
theorem dX1_looksLike_8 : decode cX1_looksLike 8 = .ok (.if_icmp .ne 14, 3) := by decide +kernel
theorem dX1_looksLike_11 : decode cX1_looksLike 11 = .ok (.aload_n 0, 1) := by decide +kernel
theorem dX1_looksLike_12 : decode cX1_looksLike 12 = .ok (.getfield 16, 3) := by decide +kernel
theorem dX1_looksLike_15 : decode cX1_looksLike 15 = .ok (.aload_n 1, 1) := by decide +kernel
theorem dX1_looksLike_16 : decode cX1_looksLike 16 = .ok (.getfield 16, 3) := by decide +kernel
theorem dX1_looksLike_19 : decode cX1_looksLike 19 = .ok (.if_icmp .eq 5, 3) := by decide +kernel
theorem dX1_looksLike_22 : decode cX1_looksLike 22 = .ok (.iconst 0, 1) := by decide +kernel
theorem dX1_looksLike_23 : decode cX1_looksLike 23 = .ok (.ireturn, 1) := by decide +kernel
theorem dX1_looksLike_24 : decode cX1_looksLike 24 = .ok (.aload_n 0, 1) := by decide +kernel
theorem dX1_looksLike_25 : decode cX1_looksLike 25 = .ok (.getfield 23, 3) := by decide +kernel
theorem dX1_looksLike_28 : decode cX1_looksLike 28 = .ok (.arraylength, 1) := by decide +kernel
theorem dX1_looksLike_29 : decode cX1_looksLike 29 = .ok (.aload_n 1, 1) := by decide +kernel
theorem dX1_looksLike_30 : decode cX1_looksLike 30 = .ok (.getfield 23, 3) := by decide +kernel
theorem dX1_looksLike_33 : decode cX1_looksLike 33 = .ok (.arraylength, 1) := by decide +kernel
theorem dX1_looksLike_34 : decode cX1_looksLike 34 = .ok (.if_icmp .ne 15, 3) := by decide +kernel
theorem dX1_looksLike_37 : decode cX1_looksLike 37 = .ok (.aload_n 0, 1) := by decide +kernel
theorem dX1_looksLike_38 : decode cX1_looksLike 38 = .ok (.aload_n 1, 1) := by decide +kernel
theorem dX1_looksLike_39 : decode cX1_looksLike 39 = .ok (.invokevirtual 76, 3) := by decide +kernel
theorem dX1_looksLike_42 : decode cX1_looksLike 42 = .ok (.ifCond .eq 7, 3) := by decide +kernel
theorem dX1_looksLike_45 : decode cX1_looksLike 45 = .ok (.iconst 1, 1) := by decide +kernel
theorem dX1_looksLike_46 : decode cX1_looksLike 46 = .ok (.goto 4, 3) := by decide +kernel
theorem dX1_looksLike_49 : decode cX1_looksLike 49 = .ok (.iconst 0, 1) := by decide +kernel
theorem dX1_looksLike_50 : decode cX1_looksLike 50 = .ok (.ireturn, 1) := by decide +kernel
theorem dX1_hasNumbersOf_0 : decode cX1_hasNumbersOf 0 = .ok (.aload_n 0, 1) := by decide +kernel
theorem dX1_hasNumbersOf_1 : decode cX1_hasNumbersOf 1 = .ok (.getfield 19, 3) := by decide +kernel
theorem dX1_hasNumbersOf_4 : decode cX1_hasNumbersOf 4 = .ok (.arraylength, 1) := by decide +kernel
theorem dX1_hasNumbersOf_5 : decode cX1_hasNumbersOf 5 = .ok (.aload_n 1, 1) := by decide +kernel
theorem dX1_hasNumbersOf_6 : decode cX1_hasNumbersOf 6 = .ok (.getfield 19, 3) := by decide +kernel
theorem dX1_hasNumbersOf_9 : decode cX1_hasNumbersOf 9 = .ok (.arraylength, 1) := by decide +kernel
theorem dX1_hasNumbersOf_10 : decode cX1_hasNumbersOf 10 = .ok (.if_icmp .eq 5, 3) := by decide +kernel
theorem dX1_hasNumbersOf_13 : decode cX1_hasNumbersOf 13 = .ok (.iconst 0, 1) := by decide +kernel
theorem dX1_hasNumbersOf_14 : decode cX1_hasNumbersOf 14 = .ok (.ireturn, 1) := by decide +kernel
theorem dX1_hasNumbersOf_15 : decode cX1_hasNumbersOf 15 = .ok (.iconst 0, 1) := by decide +kernel
theorem dX1_hasNumbersOf_16 : decode cX1_hasNumbersOf 16 = .ok (.istore_n 2, 1) := by decide +kernel
theorem dX1_hasNumbersOf_17 : decode cX1_hasNumbersOf 17 = .ok (.iload_n 2, 1) := by decide +kernel
theorem dX1_hasNumbersOf_18 : decode cX1_hasNumbersOf 18 = .ok (.aload_n 0, 1) := by decide +kernel
theorem dX1_hasNumbersOf_19 : decode cX1_hasNumbersOf 19 = .ok (.getfield 19, 3) := by decide +kernel
theorem dX1_hasNumbersOf_22 : decode cX1_hasNumbersOf 22 = .ok (.arraylength, 1) := by decide +kernel
theorem dX1_hasNumbersOf_23 : decode cX1_hasNumbersOf 23 = .ok (.if_icmp .ge 36, 3) := by decide +kernel
theorem dX1_hasNumbersOf_26 : decode cX1_hasNumbersOf 26 = .ok (.iload_n 2, 1) := by decide +kernel
theorem dX1_hasNumbersOf_27 : decode cX1_hasNumbersOf 27 = .ok (.aload_n 1, 1) := by decide +kernel
theorem dX1_hasNumbersOf_28 : decode cX1_hasNumbersOf 28 = .ok (.getfield 19, 3) := by decide +kernel
theorem dX1_hasNumbersOf_31 : decode cX1_hasNumbersOf 31 = .ok (.arraylength, 1) := by decide +kernel
theorem dX1_hasNumbersOf_32 : decode cX1_hasNumbersOf 32 = .ok (.if_icmp .ge 27, 3) := by decide +kernel
theorem dX1_hasNumbersOf_35 : decode cX1_hasNumbersOf 35 = .ok (.aload_n 0, 1) := by decide +kernel
theorem dX1_hasNumbersOf_36 : decode cX1_hasNumbersOf 36 = .ok (.getfield 19, 3) := by decide +kernel
theorem dX1_hasNumbersOf_39 : decode cX1_hasNumbersOf 39 = .ok (.iload_n 2, 1) := by decide +kernel
theorem dX1_hasNumbersOf_40 : decode cX1_hasNumbersOf 40 = .ok (.laload, 1) := by decide +kernel
theorem dX1_hasNumbersOf_41 : decode cX1_hasNumbersOf 41 = .ok (.aload_n 1, 1) := by decide +kernel
theorem dX1_hasNumbersOf_42 : decode cX1_hasNumbersOf 42 = .ok (.getfield 19, 3) := by decide +kernel
theorem dX1_hasNumbersOf_45 : decode cX1_hasNumbersOf 45 = .ok (.iload_n 2, 1) := by decide +kernel
theorem dX1_hasNumbersOf_46 : decode cX1_hasNumbersOf 46 = .ok (.laload, 1) := by decide +kernel
theorem dX1_hasNumbersOf_47 : decode cX1_hasNumbersOf 47 = .ok (.lcmp, 1) := by decide +kernel
theorem dX1_hasNumbersOf_48 : decode cX1_hasNumbersOf 48 = .ok (.ifCond .eq 5, 3) := by decide +kernel
theorem dX1_hasNumbersOf_51 : decode cX1_hasNumbersOf 51 = .ok (.iconst 0, 1) := by decide +kernel
theorem dX1_hasNumbersOf_52 : decode cX1_hasNumbersOf 52 = .ok (.ireturn, 1) := by decide +kernel
theorem dX1_hasNumbersOf_53 : decode cX1_hasNumbersOf 53 = .ok (.iinc 2 1, 3) := by decide +kernel
theorem dX1_hasNumbersOf_56 : decode cX1_hasNumbersOf 56 = .ok (.goto (-39), 3) := by decide +kernel
theorem dX1_hasNumbersOf_59 : decode cX1_hasNumbersOf 59 = .ok (.iconst 1, 1) := by decide +kernel
theorem dX1_hasNumbersOf_60 : decode cX1_hasNumbersOf 60 = .ok (.ireturn, 1) := by decide +kernel
theorem dX2_init_0 : decode cX2_init 0 = .ok (.aload_n 0, 1) := by decide +kernel
theorem dX2_init_1 : decode cX2_init 1 = .ok (.invokespecial 3, 3) := by decide +kernel
theorem dX2_init_4 : decode cX2_init 4 = .ok (.return_, 1) := by decide +kernel
theorem dX2_goFrom_0 : decode cX2_goFrom 0 = .ok (.aload_n 0, 1) := by decide +kernel
theorem dX2_goFrom_1 : decode cX2_goFrom 1 = .ok (.dup, 1) := by decide +kernel
theorem dX2_goFrom_2 : decode cX2_goFrom 2 = .ok (.getfield 9, 3) := by decide +kernel
theorem dX2_goFrom_5 : decode cX2_goFrom 5 = .ok (.iconst 1, 1) := by decide +kernel
theorem dX2_goFrom_6 : decode cX2_goFrom 6 = .ok (.iadd, 1) := by decide +kernel
theorem dX2_goFrom_7 : decode cX2_goFrom 7 = .ok (.putfield 9, 3) := by decide +kernel
theorem dX2_goFrom_10 : decode cX2_goFrom 10 = .ok (.aload_n 0, 1) := by decide +kernel
theorem dX2_goFrom_11 : decode cX2_goFrom 11 = .ok (.aload_n 1, 1) := by decide +kernel
theorem dX2_goFrom_12 : decode cX2_goFrom 12 = .ok (.putfield 15, 3) := by decide +kernel
theorem dX2_goFrom_15 : decode cX2_goFrom 15 = .ok (.aload_n 0, 1) := by decide +kernel
theorem dX2_goFrom_16 : decode cX2_goFrom 16 = .ok (.aconst_null, 1) := by decide +kernel
theorem dX2_goFrom_17 : decode cX2_goFrom 17 = .ok (.putfield 19, 3) := by decide +kernel
theorem dX2_goFrom_20 : decode cX2_goFrom 20 = .ok (.aload_n 0, 1) := by decide +kernel
theorem dX2_goFrom_21 : decode cX2_goFrom 21 = .ok (.iconst 0, 1) := by decide +kernel
theorem dX2_goFrom_22 : decode cX2_goFrom 22 = .ok (.putfield 22, 3) := by decide +kernel
theorem dX2_goFrom_25 : decode cX2_goFrom 25 = .ok (.aload_n 0, 1) := by decide +kernel
theorem dX2_goFrom_26 : decode cX2_goFrom 26 = .ok (.iconst 0, 1) := by decide +kernel
theorem dX2_goFrom_27 : decode cX2_goFrom 27 = .ok (.putfield 25, 3) := by decide +kernel
theorem dX2_goFrom_30 : decode cX2_goFrom 30 = .ok (.aload_n 0, 1) := by decide +kernel
theorem dX2_goFrom_31 : decode cX2_goFrom 31 = .ok (.iconst 0, 1) := by decide +kernel
theorem dX2_goFrom_32 : decode cX2_goFrom 32 = .ok (.putfield 29, 3) := by decide +kernel
theorem dX2_goFrom_35 : decode cX2_goFrom 35 = .ok (.aload_n 0, 1) := by decide +kernel
theorem dX2_goFrom_36 : decode cX2_goFrom 36 = .ok (.aload_n 1, 1) := by decide +kernel
theorem dX2_goFrom_37 : decode cX2_goFrom 37 = .ok (.aconst_null, 1) := by decide +kernel
theorem dX2_goFrom_38 : decode cX2_goFrom 38 = .ok (.invokevirtual 32, 3) := by decide +kernel
theorem dX2_goFrom_41 : decode cX2_goFrom 41 = .ok (.astore_n 2, 1) := by decide +kernel
theorem dX2_goFrom_42 : decode cX2_goFrom 42 = .ok (.iconst 0, 1) := by decide +kernel
theorem dX2_goFrom_43 : decode cX2_goFrom 43 = .ok (.istore_n 3, 1) := by decide +kernel
theorem dX2_goFrom_44 : decode cX2_goFrom 44 = .ok (.iload_n 3, 1) := by decide +kernel
theorem dX2_goFrom_45 : decode cX2_goFrom 45 = .ok (.ldc 36, 2) := by decide +kernel
theorem dX2_goFrom_47 : decode cX2_goFrom 47 = .ok (.if_icmp .ge 64, 3) := by decide +kernel
theorem dX2_goFrom_50 : decode cX2_goFrom 50 = .ok (.aload_n 2, 1) := by decide +kernel
theorem dX2_goFrom_51 : decode cX2_goFrom 51 = .ok (.ifnull 60, 3) := by decide +kernel
theorem dX2_goFrom_54 : decode cX2_goFrom 54 = .ok (.aload_n 2, 1) := by decide +kernel
theorem dX2_goFrom_55 : decode cX2_goFrom 55 = .ok (.getfield 37, 3) := by decide +kernel
theorem dX2_goFrom_58 : decode cX2_goFrom 58 = .ok (.istore 4, 2) := by decide +kernel
theorem dX2_goFrom_60 : decode cX2_goFrom 60 = .ok (.iload 4, 2) := by decide +kernel
theorem dX2_goFrom_62 : decode cX2_goFrom 62 = .ok (.ifCond .lt 13, 3) := by decide +kernel
theorem dX2_goFrom_65 : decode cX2_goFrom 65 = .ok (.iload 4, 2) := by decide +kernel
theorem dX2_goFrom_67 : decode cX2_goFrom 67 = .ok (.aload_n 2, 1) := by decide +kernel
theorem dX2_goFrom_68 : decode cX2_goFrom 68 = .ok (.getfield 42, 3) := by decide +kernel
theorem dX2_goFrom_71 : decode cX2_goFrom 71 = .ok (.arraylength, 1) := by decide +kernel
theorem dX2_goFrom_72 : decode cX2_goFrom 72 = .ok (.if_icmp .lt 12, 3) := by decide +kernel
theorem dX2_goFrom_75 : decode cX2_goFrom 75 = .ok (.aload_n 0, 1) := by decide +kernel
theorem dX2_goFrom_76 : decode cX2_goFrom 76 = .ok (.aload_n 2, 1) := by decide +kernel
theorem dX2_goFrom_77 : decode cX2_goFrom 77 = .ok (.invokevirtual 46, 3) := by decide +kernel
theorem dX2_goFrom_80 : decode cX2_goFrom 80 = .ok (.astore_n 2, 1) := by decide +kernel
theorem dX2_goFrom_81 : decode cX2_goFrom 81 = .ok (.goto 24, 3) := by decide +kernel
theorem dX2_goFrom_84 : decode cX2_goFrom 84 = .ok (.aload_n 2, 1) := by decide +kernel
theorem dX2_goFrom_85 : decode cX2_goFrom 85 = .ok (.iload 4, 2) := by decide +kernel
theorem dX2_goFrom_87 : decode cX2_goFrom 87 = .ok (.iconst 1, 1) := by decide +kernel
theorem dX2_goFrom_88 : decode cX2_goFrom 88 = .ok (.iadd, 1) := by decide +kernel
theorem dX2_goFrom_89 : decode cX2_goFrom 89 = .ok (.putfield 37, 3) := by decide +kernel
theorem dX2_goFrom_92 : decode cX2_goFrom 92 = .ok (.aload_n 0, 1) := by decide +kernel
theorem dX2_goFrom_93 : decode cX2_goFrom 93 = .ok (.aload_n 2, 1) := by decide +kernel
theorem dX2_goFrom_94 : decode cX2_goFrom 94 = .ok (.getfield 42, 3) := by decide +kernel
theorem dX2_goFrom_97 : decode cX2_goFrom 97 = .ok (.iload 4, 2) := by decide +kernel
theorem dX2_goFrom_99 : decode cX2_goFrom 99 = .ok (.aaload, 1) := by decide +kernel
theorem dX2_goFrom_100 : decode cX2_goFrom 100 = .ok (.aload_n 2, 1) := by decide +kernel
theorem dX2_goFrom_101 : decode cX2_goFrom 101 = .ok (.invokevirtual 50, 3) := by decide +kernel
theorem dX2_goFrom_104 : decode cX2_goFrom 104 = .ok (.astore_n 2, 1) := by decide +kernel
theorem dX2_goFrom_105 : decode cX2_goFrom 105 = .ok (.iinc 3 1, 3) := by decide +kernel
theorem dX2_goFrom_108 : decode cX2_goFrom 108 = .ok (.goto (-64), 3) := by decide +kernel
theorem dX2_goFrom_111 : decode cX2_goFrom 111 = .ok (.return_, 1) := by decide +kernel
theorem dX2_meet_0 : decode cX2_meet 0 = .ok (.aload_n 1, 1) := by decide +kernel
theorem dX2_meet_1 : decode cX2_meet 1 = .ok (.ifnonnull 5, 3) := by decide +kernel
theorem dX2_meet_4 : decode cX2_meet 4 = .ok (.aload_n 2, 1) := by decide +kernel
theorem dX2_meet_5 : decode cX2_meet 5 = .ok (.areturn, 1) := by decide +kernel
theorem dX2_meet_6 : decode cX2_meet 6 = .ok (.aload_n 1, 1) := by decide +kernel
theorem dX2_meet_7 : decode cX2_meet 7 = .ok (.getfield 53, 3) := by decide +kernel
theorem dX2_meet_10 : decode cX2_meet 10 = .ok (.aload_n 0, 1) := by decide +kernel
theorem dX2_meet_11 : decode cX2_meet 11 = .ok (.getfield 9, 3) := by decide +kernel
theorem dX2_meet_14 : decode cX2_meet 14 = .ok (.if_icmp .eq 10, 3) := by decide +kernel
theorem dX2_meet_17 : decode cX2_meet 17 = .ok (.aload_n 0, 1) := by decide +kernel
theorem dX2_meet_18 : decode cX2_meet 18 = .ok (.aload_n 1, 1) := by decide +kernel
theorem dX2_meet_19 : decode cX2_meet 19 = .ok (.aload_n 2, 1) := by decide +kernel
theorem dX2_meet_20 : decode cX2_meet 20 = .ok (.invokevirtual 32, 3) := by decide +kernel
theorem dX2_meet_23 : decode cX2_meet 23 = .ok (.areturn, 1) := by decide +kernel
theorem dX2_meet_24 : decode cX2_meet 24 = .ok (.aload_n 1, 1) := by decide +kernel
theorem dX2_meet_25 : decode cX2_meet 25 = .ok (.getfield 56, 3) := by decide +kernel
theorem dX2_meet_28 : decode cX2_meet 28 = .ok (.ifCond .eq 35, 3) := by decide +kernel
theorem dX2_meet_31 : decode cX2_meet 31 = .ok (.aload_n 0, 1) := by decide +kernel
theorem dX2_meet_32 : decode cX2_meet 32 = .ok (.iconst 1, 1) := by decide +kernel
theorem dX2_meet_33 : decode cX2_meet 33 = .ok (.putfield 25, 3) := by decide +kernel
theorem dX2_meet_36 : decode cX2_meet 36 = .ok (.aload_n 0, 1) := by decide +kernel
theorem dX2_meet_37 : decode cX2_meet 37 = .ok (.aload_n 0, 1) := by decide +kernel
theorem dX2_meet_38 : decode cX2_meet 38 = .ok (.getfield 29, 3) := by decide +kernel
theorem dX2_meet_41 : decode cX2_meet 41 = .ok (.ifCond .ne 11, 3) := by decide +kernel
theorem dX2_meet_44 : decode cX2_meet 44 = .ok (.aload_n 1, 1) := by decide +kernel
theorem dX2_meet_45 : decode cX2_meet 45 = .ok (.aload_n 0, 1) := by decide +kernel
theorem dX2_meet_46 : decode cX2_meet 46 = .ok (.getfield 15, 3) := by decide +kernel
theorem dX2_meet_49 : decode cX2_meet 49 = .ok (.if_acmp .ne 7, 3) := by decide +kernel
theorem dX2_meet_52 : decode cX2_meet 52 = .ok (.iconst 1, 1) := by decide +kernel
theorem dX2_meet_53 : decode cX2_meet 53 = .ok (.goto 4, 3) := by decide +kernel
theorem dX2_meet_56 : decode cX2_meet 56 = .ok (.iconst 0, 1) := by decide +kernel
theorem dX2_meet_57 : decode cX2_meet 57 = .ok (.putfield 29, 3) := by decide +kernel
theorem dX2_meet_60 : decode cX2_meet 60 = .ok (.goto 8, 3) := by decide +kernel
theorem dX2_meet_63 : decode cX2_meet 63 = .ok (.aload_n 2, 1) := by decide +kernel
theorem dX2_meet_64 : decode cX2_meet 64 = .ok (.aload_n 1, 1) := by decide +kernel
theorem dX2_meet_65 : decode cX2_meet 65 = .ok (.invokevirtual 59, 3) := by decide +kernel
theorem dX2_meet_68 : decode cX2_meet 68 = .ok (.aload_n 2, 1) := by decide +kernel
theorem dX2_meet_69 : decode cX2_meet 69 = .ok (.areturn, 1) := by decide +kernel
theorem dX2_arrive_0 : decode cX2_arrive 0 = .ok (.aload_n 1, 1) := by decide +kernel
theorem dX2_arrive_1 : decode cX2_arrive 1 = .ok (.aload_n 0, 1) := by decide +kernel
theorem dX2_arrive_2 : decode cX2_arrive 2 = .ok (.getfield 9, 3) := by decide +kernel
theorem dX2_arrive_5 : decode cX2_arrive 5 = .ok (.aload_n 2, 1) := by decide +kernel
theorem dX2_arrive_6 : decode cX2_arrive 6 = .ok (.invokevirtual 63, 3) := by decide +kernel
theorem dX2_arrive_9 : decode cX2_arrive 9 = .ok (.aload_n 0, 1) := by decide +kernel
theorem dX2_arrive_10 : decode cX2_arrive 10 = .ok (.getfield 19, 3) := by decide +kernel
theorem dX2_arrive_13 : decode cX2_arrive 13 = .ok (.ifnull 11, 3) := by decide +kernel
theorem dX2_arrive_16 : decode cX2_arrive 16 = .ok (.aload_n 0, 1) := by decide +kernel
theorem dX2_arrive_17 : decode cX2_arrive 17 = .ok (.getfield 19, 3) := by decide +kernel
theorem dX2_arrive_20 : decode cX2_arrive 20 = .ok (.aload_n 1, 1) := by decide +kernel
theorem dX2_arrive_21 : decode cX2_arrive 21 = .ok (.putfield 67, 3) := by decide +kernel
theorem dX2_arrive_24 : decode cX2_arrive 24 = .ok (.aload_n 0, 1) := by decide +kernel
theorem dX2_arrive_25 : decode cX2_arrive 25 = .ok (.aload_n 1, 1) := by decide +kernel
theorem dX2_arrive_26 : decode cX2_arrive 26 = .ok (.putfield 19, 3) := by decide +kernel
theorem dX2_arrive_29 : decode cX2_arrive 29 = .ok (.aload_n 0, 1) := by decide +kernel
theorem dX2_arrive_30 : decode cX2_arrive 30 = .ok (.dup, 1) := by decide +kernel
theorem dX2_arrive_31 : decode cX2_arrive 31 = .ok (.getfield 22, 3) := by decide +kernel
theorem dX2_arrive_34 : decode cX2_arrive 34 = .ok (.iconst 1, 1) := by decide +kernel
theorem dX2_arrive_35 : decode cX2_arrive 35 = .ok (.iadd, 1) := by decide +kernel
theorem dX2_arrive_36 : decode cX2_arrive 36 = .ok (.putfield 22, 3) := by decide +kernel
theorem dX2_arrive_39 : decode cX2_arrive 39 = .ok (.aload_n 1, 1) := by decide +kernel
theorem dX2_arrive_40 : decode cX2_arrive 40 = .ok (.areturn, 1) := by decide +kernel
theorem dX2_leave_0 : decode cX2_leave 0 = .ok (.aload_n 1, 1) := by decide +kernel
theorem dX2_leave_1 : decode cX2_leave 1 = .ok (.iconst 0, 1) := by decide +kernel
theorem dX2_leave_2 : decode cX2_leave 2 = .ok (.putfield 56, 3) := by decide +kernel
theorem dX2_leave_5 : decode cX2_leave 5 = .ok (.aload_n 1, 1) := by decide +kernel
theorem dX2_leave_6 : decode cX2_leave 6 = .ok (.getfield 70, 3) := by decide +kernel
theorem dX2_leave_9 : decode cX2_leave 9 = .ok (.astore_n 2, 1) := by decide +kernel
theorem dX2_leave_10 : decode cX2_leave 10 = .ok (.aload_n 2, 1) := by decide +kernel
theorem dX2_leave_11 : decode cX2_leave 11 = .ok (.ifnull 8, 3) := by decide +kernel
theorem dX2_leave_14 : decode cX2_leave 14 = .ok (.aload_n 2, 1) := by decide +kernel
theorem dX2_leave_15 : decode cX2_leave 15 = .ok (.aload_n 1, 1) := by decide +kernel
theorem dX2_leave_16 : decode cX2_leave 16 = .ok (.invokevirtual 59, 3) := by decide +kernel
theorem dX2_leave_19 : decode cX2_leave 19 = .ok (.aload_n 2, 1) := by decide +kernel
theorem dX2_leave_20 : decode cX2_leave 20 = .ok (.areturn, 1) := by decide +kernel
theorem dX3_init_0 : decode cX3_init 0 = .ok (.aload_n 0, 1) := by decide +kernel
theorem dX3_init_1 : decode cX3_init 1 = .ok (.invokespecial 3, 3) := by decide +kernel
theorem dX3_init_4 : decode cX3_init 4 = .ok (.aload_n 0, 1) := by decide +kernel
theorem dX3_init_5 : decode cX3_init 5 = .ok (.sipush 2000, 3) := by decide +kernel
theorem dX3_init_8 : decode cX3_init 8 = .ok (.anewarray 9, 3) := by decide +kernel
theorem dX3_init_11 : decode cX3_init 11 = .ok (.putfield 11, 3) := by decide +kernel
theorem dX3_init_14 : decode cX3_init 14 = .ok (.aload_n 0, 1) := by decide +kernel
theorem dX3_init_15 : decode cX3_init 15 = .ok (.new 15, 3) := by decide +kernel
theorem dX3_init_18 : decode cX3_init 18 = .ok (.dup, 1) := by decide +kernel
theorem dX3_init_19 : decode cX3_init 19 = .ok (.invokespecial 17, 3) := by decide +kernel
theorem dX3_init_22 : decode cX3_init 22 = .ok (.putfield 18, 3) := by decide +kernel
theorem dX3_init_25 : decode cX3_init 25 = .ok (.aload_n 0, 1) := by decide +kernel
theorem dX3_init_26 : decode cX3_init 26 = .ok (.iconst 0, 1) := by decide +kernel
theorem dX3_init_27 : decode cX3_init 27 = .ok (.putfield 22, 3) := by decide +kernel
theorem dX3_init_30 : decode cX3_init 30 = .ok (.aload_n 0, 1) := by decide +kernel
theorem dX3_init_31 : decode cX3_init 31 = .ok (.iconst 0, 1) := by decide +kernel
theorem dX3_init_32 : decode cX3_init 32 = .ok (.putfield 26, 3) := by decide +kernel
theorem dX3_init_35 : decode cX3_init 35 = .ok (.return_, 1) := by decide +kernel
theorem dX3_make_0 : decode cX3_make 0 = .ok (.iload_n 1, 1) := by decide +kernel
theorem dX3_make_1 : decode cX3_make 1 = .ok (.ifCond .lt 9, 3) := by decide +kernel
theorem dX3_make_4 : decode cX3_make 4 = .ok (.iload_n 1, 1) := by decide +kernel
theorem dX3_make_5 : decode cX3_make 5 = .ok (.bipush 6, 2) := by decide +kernel
theorem dX3_make_7 : decode cX3_make 7 = .ok (.if_icmp .le 5, 3) := by decide +kernel
theorem dX3_make_10 : decode cX3_make 10 = .ok (.iconst (-1), 1) := by decide +kernel
theorem dX3_make_11 : decode cX3_make 11 = .ok (.ireturn, 1) := by decide +kernel
theorem dX3_make_12 : decode cX3_make 12 = .ok (.iload_n 2, 1) := by decide +kernel
theorem dX3_make_13 : decode cX3_make 13 = .ok (.sipush 500, 3) := by decide +kernel
theorem dX3_make_16 : decode cX3_make 16 = .ok (.if_icmp .gt 11, 3) := by decide +kernel
theorem dX3_make_19 : decode cX3_make 19 = .ok (.aload_n 0, 1) := by decide +kernel
theorem dX3_make_20 : decode cX3_make 20 = .ok (.iconst 1, 1) := by decide +kernel
theorem dX3_make_21 : decode cX3_make 21 = .ok (.invokevirtual 29, 3) := by decide +kernel
theorem dX3_make_24 : decode cX3_make 24 = .ok (.ifCond .ne 6, 3) := by decide +kernel
theorem dX3_make_27 : decode cX3_make 27 = .ok (.bipush (-2), 2) := by decide +kernel
theorem dX3_make_29 : decode cX3_make 29 = .ok (.ireturn, 1) := by decide +kernel
theorem dX3_make_30 : decode cX3_make 30 = .ok (.iload_n 2, 1) := by decide +kernel
theorem dX3_make_31 : decode cX3_make 31 = .ok (.ifCond .ge 6, 3) := by decide +kernel
theorem dX3_make_34 : decode cX3_make 34 = .ok (.bipush (-3), 2) := by decide +kernel
theorem dX3_make_36 : decode cX3_make 36 = .ok (.ireturn, 1) := by decide +kernel
theorem dX3_make_37 : decode cX3_make 37 = .ok (.iload_n 1, 1) := by decide +kernel
theorem dX3_make_38 : decode cX3_make 38 = .ok (.invokestatic 33, 3) := by decide +kernel
theorem dX3_make_41 : decode cX3_make 41 = .ok (.istore_n 3, 1) := by decide +kernel
theorem dX3_make_42 : decode cX3_make 42 = .ok (.iload_n 3, 1) := by decide +kernel
theorem dX3_make_43 : decode cX3_make 43 = .ok (.ifCond .eq 7, 3) := by decide +kernel
theorem dX3_make_46 : decode cX3_make 46 = .ok (.iload_n 2, 1) := by decide +kernel
theorem dX3_make_47 : decode cX3_make 47 = .ok (.goto 4, 3) := by decide +kernel
theorem dX3_make_50 : decode cX3_make 50 = .ok (.iconst 0, 1) := by decide +kernel
theorem dX3_make_51 : decode cX3_make 51 = .ok (.newarray .long, 2) := by decide +kernel
theorem dX3_make_53 : decode cX3_make 53 = .ok (.astore 4, 2) := by decide +kernel
theorem dX3_make_55 : decode cX3_make 55 = .ok (.iload_n 3, 1) := by decide +kernel
theorem dX3_make_56 : decode cX3_make 56 = .ok (.ifCond .eq 7, 3) := by decide +kernel
theorem dX3_make_59 : decode cX3_make 59 = .ok (.iconst 0, 1) := by decide +kernel
theorem dX3_make_60 : decode cX3_make 60 = .ok (.goto 4, 3) := by decide +kernel
theorem dX3_make_63 : decode cX3_make 63 = .ok (.iload_n 2, 1) := by decide +kernel
theorem dX3_make_64 : decode cX3_make 64 = .ok (.anewarray 9, 3) := by decide +kernel
theorem dX3_make_67 : decode cX3_make 67 = .ok (.astore 5, 2) := by decide +kernel
theorem dX3_make_69 : decode cX3_make 69 = .ok (.aload_n 0, 1) := by decide +kernel
theorem dX3_make_70 : decode cX3_make 70 = .ok (.new 9, 3) := by decide +kernel
theorem dX3_make_73 : decode cX3_make 73 = .ok (.dup, 1) := by decide +kernel
theorem dX3_make_74 : decode cX3_make 74 = .ok (.aload_n 0, 1) := by decide +kernel
theorem dX3_make_75 : decode cX3_make 75 = .ok (.getfield 22, 3) := by decide +kernel
theorem dX3_make_78 : decode cX3_make 78 = .ok (.iload_n 1, 1) := by decide +kernel
theorem dX3_make_79 : decode cX3_make 79 = .ok (.iconst 0, 1) := by decide +kernel
theorem dX3_make_80 : decode cX3_make 80 = .ok (.aload 4, 2) := by decide +kernel
theorem dX3_make_82 : decode cX3_make 82 = .ok (.aload 5, 2) := by decide +kernel
theorem dX3_make_84 : decode cX3_make 84 = .ok (.invokespecial 36, 3) := by decide +kernel
theorem dX3_make_87 : decode cX3_make 87 = .ok (.invokevirtual 39, 3) := by decide +kernel
theorem dX3_make_90 : decode cX3_make 90 = .ok (.ireturn, 1) := by decide +kernel
theorem dX3_token_0 : decode cX3_token 0 = .ok (.aload_n 0, 1) := by decide +kernel
theorem dX3_token_1 : decode cX3_token 1 = .ok (.iconst 1, 1) := by decide +kernel
theorem dX3_token_2 : decode cX3_token 2 = .ok (.invokevirtual 29, 3) := by decide +kernel
theorem dX3_token_5 : decode cX3_token 5 = .ok (.ifCond .ne 6, 3) := by decide +kernel
theorem dX3_token_8 : decode cX3_token 8 = .ok (.bipush (-2), 2) := by decide +kernel
theorem dX3_token_10 : decode cX3_token 10 = .ok (.ireturn, 1) := by decide +kernel
theorem dX3_token_11 : decode cX3_token 11 = .ok (.iload_n 2, 1) := by decide +kernel
theorem dX3_token_12 : decode cX3_token 12 = .ok (.ifCond .eq 8, 3) := by decide +kernel
theorem dX3_token_15 : decode cX3_token 15 = .ok (.bipush 8, 2) := by decide +kernel
theorem dX3_token_17 : decode cX3_token 17 = .ok (.goto 5, 3) := by decide +kernel
theorem dX3_token_20 : decode cX3_token 20 = .ok (.bipush 7, 2) := by decide +kernel
theorem dX3_token_22 : decode cX3_token 22 = .ok (.istore_n 3, 1) := by decide +kernel
theorem dX3_token_23 : decode cX3_token 23 = .ok (.iload_n 2, 1) := by decide +kernel
theorem dX3_token_24 : decode cX3_token 24 = .ok (.ifCond .eq 7, 3) := by decide +kernel
theorem dX3_token_27 : decode cX3_token 27 = .ok (.iconst 0, 1) := by decide +kernel
theorem dX3_token_28 : decode cX3_token 28 = .ok (.goto 4, 3) := by decide +kernel
theorem dX3_token_31 : decode cX3_token 31 = .ok (.iconst 1, 1) := by decide +kernel
theorem dX3_token_32 : decode cX3_token 32 = .ok (.anewarray 9, 3) := by decide +kernel
theorem dX3_token_35 : decode cX3_token 35 = .ok (.astore 4, 2) := by decide +kernel
theorem dX3_token_37 : decode cX3_token 37 = .ok (.aload_n 0, 1) := by decide +kernel
theorem dX3_token_38 : decode cX3_token 38 = .ok (.new 9, 3) := by decide +kernel
theorem dX3_token_41 : decode cX3_token 41 = .ok (.dup, 1) := by decide +kernel
theorem dX3_token_42 : decode cX3_token 42 = .ok (.aload_n 0, 1) := by decide +kernel
theorem dX3_token_43 : decode cX3_token 43 = .ok (.getfield 22, 3) := by decide +kernel
theorem dX3_token_46 : decode cX3_token 46 = .ok (.iload_n 3, 1) := by decide +kernel
theorem dX3_token_47 : decode cX3_token 47 = .ok (.iload_n 1, 1) := by decide +kernel
theorem dX3_token_48 : decode cX3_token 48 = .ok (.iconst 0, 1) := by decide +kernel
theorem dX3_token_49 : decode cX3_token 49 = .ok (.newarray .long, 2) := by decide +kernel
theorem dX3_token_51 : decode cX3_token 51 = .ok (.aload 4, 2) := by decide +kernel
theorem dX3_token_53 : decode cX3_token 53 = .ok (.invokespecial 36, 3) := by decide +kernel
theorem dX3_token_56 : decode cX3_token 56 = .ok (.invokevirtual 39, 3) := by decide +kernel
theorem dX3_token_59 : decode cX3_token 59 = .ok (.ireturn, 1) := by decide +kernel
theorem dX3_put_0 : decode cX3_put 0 = .ok (.aload_n 0, 1) := by decide +kernel
theorem dX3_put_1 : decode cX3_put 1 = .ok (.iload_n 1, 1) := by decide +kernel
theorem dX3_put_2 : decode cX3_put 2 = .ok (.invokevirtual 43, 3) := by decide +kernel
theorem dX3_put_5 : decode cX3_put 5 = .ok (.astore 5, 2) := by decide +kernel
theorem dX3_put_7 : decode cX3_put 7 = .ok (.aload 5, 2) := by decide +kernel
theorem dX3_put_9 : decode cX3_put 9 = .ok (.ifnonnull 5, 3) := by decide +kernel
theorem dX3_put_12 : decode cX3_put 12 = .ok (.iconst 1, 1) := by decide +kernel
theorem dX3_put_13 : decode cX3_put 13 = .ok (.ireturn, 1) := by decide +kernel
theorem dX3_put_14 : decode cX3_put 14 = .ok (.aload 5, 2) := by decide +kernel
theorem dX3_put_16 : decode cX3_put 16 = .ok (.getfield 47, 3) := by decide +kernel
theorem dX3_put_19 : decode cX3_put 19 = .ok (.invokestatic 33, 3) := by decide +kernel
theorem dX3_put_22 : decode cX3_put 22 = .ok (.ifCond .ne 5, 3) := by decide +kernel
theorem dX3_put_25 : decode cX3_put 25 = .ok (.iconst 4, 1) := by decide +kernel
theorem dX3_put_26 : decode cX3_put 26 = .ok (.ireturn, 1) := by decide +kernel
theorem dX3_put_27 : decode cX3_put 27 = .ok (.iload_n 2, 1) := by decide +kernel
theorem dX3_put_28 : decode cX3_put 28 = .ok (.ifCond .lt 13, 3) := by decide +kernel
theorem dX3_put_31 : decode cX3_put 31 = .ok (.iload_n 2, 1) := by decide +kernel
theorem dX3_put_32 : decode cX3_put 32 = .ok (.aload 5, 2) := by decide +kernel
theorem dX3_put_34 : decode cX3_put 34 = .ok (.getfield 50, 3) := by decide +kernel
theorem dX3_put_37 : decode cX3_put 37 = .ok (.arraylength, 1) := by decide +kernel
theorem dX3_put_38 : decode cX3_put 38 = .ok (.if_icmp .lt 5, 3) := by decide +kernel
theorem dX3_put_41 : decode cX3_put 41 = .ok (.iconst 2, 1) := by decide +kernel
theorem dX3_put_42 : decode cX3_put 42 = .ok (.ireturn, 1) := by decide +kernel
theorem dX3_put_43 : decode cX3_put 43 = .ok (.aload 5, 2) := by decide +kernel
theorem dX3_put_45 : decode cX3_put 45 = .ok (.getfield 47, 3) := by decide +kernel
theorem dX3_put_48 : decode cX3_put 48 = .ok (.lload_n 3, 1) := by decide +kernel
theorem dX3_put_49 : decode cX3_put 49 = .ok (.invokestatic 54, 3) := by decide +kernel
theorem dX3_put_52 : decode cX3_put 52 = .ok (.lstore 6, 2) := by decide +kernel
theorem dX3_put_54 : decode cX3_put 54 = .ok (.aload 5, 2) := by decide +kernel
theorem dX3_put_56 : decode cX3_put 56 = .ok (.dup, 1) := by decide +kernel
theorem dX3_put_57 : decode cX3_put 57 = .ok (.getfield 58, 3) := by decide +kernel
theorem dX3_put_60 : decode cX3_put 60 = .ok (.lload 6, 2) := by decide +kernel
theorem dX3_put_62 : decode cX3_put 62 = .ok (.aload 5, 2) := by decide +kernel
theorem dX3_put_64 : decode cX3_put 64 = .ok (.getfield 50, 3) := by decide +kernel
theorem dX3_put_67 : decode cX3_put 67 = .ok (.iload_n 2, 1) := by decide +kernel
theorem dX3_put_68 : decode cX3_put 68 = .ok (.laload, 1) := by decide +kernel
theorem dX3_put_69 : decode cX3_put 69 = .ok (.lsub, 1) := by decide +kernel
theorem dX3_put_70 : decode cX3_put 70 = .ok (.ladd, 1) := by decide +kernel
theorem dX3_put_71 : decode cX3_put 71 = .ok (.putfield 58, 3) := by decide +kernel
theorem dX3_put_74 : decode cX3_put 74 = .ok (.aload 5, 2) := by decide +kernel
theorem dX3_put_76 : decode cX3_put 76 = .ok (.getfield 50, 3) := by decide +kernel
theorem dX3_put_79 : decode cX3_put 79 = .ok (.iload_n 2, 1) := by decide +kernel
theorem dX3_put_80 : decode cX3_put 80 = .ok (.lload 6, 2) := by decide +kernel
theorem dX3_put_82 : decode cX3_put 82 = .ok (.lastore, 1) := by decide +kernel
theorem dX3_put_83 : decode cX3_put 83 = .ok (.iconst 0, 1) := by decide +kernel
theorem dX3_put_84 : decode cX3_put 84 = .ok (.ireturn, 1) := by decide +kernel
theorem dX3_hang_0 : decode cX3_hang 0 = .ok (.aload_n 0, 1) := by decide +kernel
theorem dX3_hang_1 : decode cX3_hang 1 = .ok (.iload_n 1, 1) := by decide +kernel
theorem dX3_hang_2 : decode cX3_hang 2 = .ok (.invokevirtual 43, 3) := by decide +kernel
theorem dX3_hang_5 : decode cX3_hang 5 = .ok (.astore 4, 2) := by decide +kernel
theorem dX3_hang_7 : decode cX3_hang 7 = .ok (.aload_n 0, 1) := by decide +kernel
theorem dX3_hang_8 : decode cX3_hang 8 = .ok (.iload_n 3, 1) := by decide +kernel
theorem dX3_hang_9 : decode cX3_hang 9 = .ok (.invokevirtual 43, 3) := by decide +kernel
theorem dX3_hang_12 : decode cX3_hang 12 = .ok (.astore 5, 2) := by decide +kernel
theorem dX3_hang_14 : decode cX3_hang 14 = .ok (.aload 4, 2) := by decide +kernel
theorem dX3_hang_16 : decode cX3_hang 16 = .ok (.ifnull 13, 3) := by decide +kernel
theorem dX3_hang_19 : decode cX3_hang 19 = .ok (.aload 5, 2) := by decide +kernel
theorem dX3_hang_21 : decode cX3_hang 21 = .ok (.ifnonnull 10, 3) := by decide +kernel
theorem dX3_hang_24 : decode cX3_hang 24 = .ok (.iload_n 3, 1) := by decide +kernel
theorem dX3_hang_25 : decode cX3_hang 25 = .ok (.iconst (-1), 1) := by decide +kernel
theorem dX3_hang_26 : decode cX3_hang 26 = .ok (.if_icmp .eq 5, 3) := by decide +kernel
theorem dX3_hang_29 : decode cX3_hang 29 = .ok (.iconst 1, 1) := by decide +kernel
theorem dX3_hang_30 : decode cX3_hang 30 = .ok (.ireturn, 1) := by decide +kernel
theorem dX3_hang_31 : decode cX3_hang 31 = .ok (.aload 4, 2) := by decide +kernel
theorem dX3_hang_33 : decode cX3_hang 33 = .ok (.getfield 47, 3) := by decide +kernel
theorem dX3_hang_36 : decode cX3_hang 36 = .ok (.invokestatic 62, 3) := by decide +kernel
theorem dX3_hang_39 : decode cX3_hang 39 = .ok (.ifCond .ne 5, 3) := by decide +kernel
theorem dX3_hang_42 : decode cX3_hang 42 = .ok (.iconst 4, 1) := by decide +kernel
theorem dX3_hang_43 : decode cX3_hang 43 = .ok (.ireturn, 1) := by decide +kernel
theorem dX3_hang_44 : decode cX3_hang 44 = .ok (.iload_n 2, 1) := by decide +kernel
theorem dX3_hang_45 : decode cX3_hang 45 = .ok (.ifCond .lt 13, 3) := by decide +kernel
theorem dX3_hang_48 : decode cX3_hang 48 = .ok (.iload_n 2, 1) := by decide +kernel
theorem dX3_hang_49 : decode cX3_hang 49 = .ok (.aload 4, 2) := by decide +kernel
theorem dX3_hang_51 : decode cX3_hang 51 = .ok (.getfield 65, 3) := by decide +kernel
theorem dX3_hang_54 : decode cX3_hang 54 = .ok (.arraylength, 1) := by decide +kernel
theorem dX3_hang_55 : decode cX3_hang 55 = .ok (.if_icmp .lt 5, 3) := by decide +kernel
theorem dX3_hang_58 : decode cX3_hang 58 = .ok (.iconst 2, 1) := by decide +kernel
theorem dX3_hang_59 : decode cX3_hang 59 = .ok (.ireturn, 1) := by decide +kernel
theorem dX3_hang_60 : decode cX3_hang 60 = .ok (.aload 5, 2) := by decide +kernel
theorem dX3_hang_62 : decode cX3_hang 62 = .ok (.ifnull 21, 3) := by decide +kernel
theorem dX3_hang_65 : decode cX3_hang 65 = .ok (.aload 5, 2) := by decide +kernel
theorem dX3_hang_67 : decode cX3_hang 67 = .ok (.getfield 47, 3) := by decide +kernel
theorem dX3_hang_70 : decode cX3_hang 70 = .ok (.aload 4, 2) := by decide +kernel
theorem dX3_hang_72 : decode cX3_hang 72 = .ok (.getfield 47, 3) := by decide +kernel
theorem dX3_hang_75 : decode cX3_hang 75 = .ok (.invokestatic 68, 3) := by decide +kernel
theorem dX3_hang_78 : decode cX3_hang 78 = .ok (.ifCond .ne 5, 3) := by decide +kernel
theorem dX3_hang_81 : decode cX3_hang 81 = .ok (.iconst 3, 1) := by decide +kernel
theorem dX3_hang_82 : decode cX3_hang 82 = .ok (.ireturn, 1) := by decide +kernel
theorem dX3_hang_83 : decode cX3_hang 83 = .ok (.aload 4, 2) := by decide +kernel
theorem dX3_hang_85 : decode cX3_hang 85 = .ok (.getfield 65, 3) := by decide +kernel
theorem dX3_hang_88 : decode cX3_hang 88 = .ok (.iload_n 2, 1) := by decide +kernel
theorem dX3_hang_89 : decode cX3_hang 89 = .ok (.aload 5, 2) := by decide +kernel
theorem dX3_hang_91 : decode cX3_hang 91 = .ok (.aastore, 1) := by decide +kernel
theorem dX3_hang_92 : decode cX3_hang 92 = .ok (.iconst 0, 1) := by decide +kernel
theorem dX3_hang_93 : decode cX3_hang 93 = .ok (.ireturn, 1) := by decide +kernel
theorem dX3_kind_0 : decode cX3_kind 0 = .ok (.aload_n 0, 1) := by decide +kernel
theorem dX3_kind_1 : decode cX3_kind 1 = .ok (.iload_n 1, 1) := by decide +kernel
theorem dX3_kind_2 : decode cX3_kind 2 = .ok (.invokevirtual 43, 3) := by decide +kernel
theorem dX3_kind_5 : decode cX3_kind 5 = .ok (.astore_n 2, 1) := by decide +kernel
theorem dX3_kind_6 : decode cX3_kind 6 = .ok (.aload_n 2, 1) := by decide +kernel
theorem dX3_kind_7 : decode cX3_kind 7 = .ok (.ifnonnull 7, 3) := by decide +kernel
theorem dX3_kind_10 : decode cX3_kind 10 = .ok (.iconst (-1), 1) := by decide +kernel
theorem dX3_kind_11 : decode cX3_kind 11 = .ok (.goto 7, 3) := by decide +kernel
theorem dX3_kind_14 : decode cX3_kind 14 = .ok (.aload_n 2, 1) := by decide +kernel
theorem dX3_kind_15 : decode cX3_kind 15 = .ok (.getfield 47, 3) := by decide +kernel
theorem dX3_kind_18 : decode cX3_kind 18 = .ok (.ireturn, 1) := by decide +kernel
theorem dX3_length_0 : decode cX3_length 0 = .ok (.aload_n 0, 1) := by decide +kernel
theorem dX3_length_1 : decode cX3_length 1 = .ok (.iload_n 1, 1) := by decide +kernel
theorem dX3_length_2 : decode cX3_length 2 = .ok (.invokevirtual 43, 3) := by decide +kernel
theorem dX3_length_5 : decode cX3_length 5 = .ok (.astore_n 2, 1) := by decide +kernel
theorem dX3_length_6 : decode cX3_length 6 = .ok (.aload_n 2, 1) := by decide +kernel
theorem dX3_length_7 : decode cX3_length 7 = .ok (.ifnonnull 5, 3) := by decide +kernel
theorem dX3_length_10 : decode cX3_length 10 = .ok (.iconst (-1), 1) := by decide +kernel
theorem dX3_length_11 : decode cX3_length 11 = .ok (.ireturn, 1) := by decide +kernel
theorem dX3_length_12 : decode cX3_length 12 = .ok (.aload_n 2, 1) := by decide +kernel
theorem dX3_length_13 : decode cX3_length 13 = .ok (.getfield 47, 3) := by decide +kernel
theorem dX3_length_16 : decode cX3_length 16 = .ok (.invokestatic 33, 3) := by decide +kernel
theorem dX3_length_19 : decode cX3_length 19 = .ok (.ifCond .eq 11, 3) := by decide +kernel
theorem dX3_length_22 : decode cX3_length 22 = .ok (.aload_n 2, 1) := by decide +kernel
theorem dX3_length_23 : decode cX3_length 23 = .ok (.getfield 50, 3) := by decide +kernel
theorem dX3_length_26 : decode cX3_length 26 = .ok (.arraylength, 1) := by decide +kernel
theorem dX3_length_27 : decode cX3_length 27 = .ok (.goto 8, 3) := by decide +kernel
theorem dX3_length_30 : decode cX3_length 30 = .ok (.aload_n 2, 1) := by decide +kernel
theorem dX3_length_31 : decode cX3_length 31 = .ok (.getfield 65, 3) := by decide +kernel
theorem dX3_length_34 : decode cX3_length 34 = .ok (.arraylength, 1) := by decide +kernel
theorem dX3_length_35 : decode cX3_length 35 = .ok (.ireturn, 1) := by decide +kernel
theorem dX3_number_0 : decode cX3_number 0 = .ok (.aload_n 0, 1) := by decide +kernel
theorem dX3_number_1 : decode cX3_number 1 = .ok (.iload_n 1, 1) := by decide +kernel
theorem dX3_number_2 : decode cX3_number 2 = .ok (.invokevirtual 43, 3) := by decide +kernel
theorem dX3_number_5 : decode cX3_number 5 = .ok (.astore_n 3, 1) := by decide +kernel
theorem dX3_number_6 : decode cX3_number 6 = .ok (.aload_n 0, 1) := by decide +kernel
theorem dX3_number_7 : decode cX3_number 7 = .ok (.aload_n 3, 1) := by decide +kernel
theorem dX3_number_8 : decode cX3_number 8 = .ok (.iload_n 2, 1) := by decide +kernel
theorem dX3_number_9 : decode cX3_number 9 = .ok (.invokestatic 72, 3) := by decide +kernel
theorem dX3_number_12 : decode cX3_number 12 = .ok (.putfield 26, 3) := by decide +kernel
theorem dX3_number_15 : decode cX3_number 15 = .ok (.aload_n 3, 1) := by decide +kernel
theorem dX3_number_16 : decode cX3_number 16 = .ok (.ifnull 10, 3) := by decide +kernel
theorem dX3_number_19 : decode cX3_number 19 = .ok (.aload_n 0, 1) := by decide +kernel
theorem dX3_number_20 : decode cX3_number 20 = .ok (.getfield 26, 3) := by decide +kernel
theorem dX3_number_23 : decode cX3_number 23 = .ok (.ifCond .eq 5, 3) := by decide +kernel
theorem dX3_number_26 : decode cX3_number 26 = .ok (.lconst 0, 1) := by decide +kernel
theorem dX3_number_27 : decode cX3_number 27 = .ok (.lreturn, 1) := by decide +kernel
theorem dX3_number_28 : decode cX3_number 28 = .ok (.iload_n 2, 1) := by decide +kernel
theorem dX3_number_29 : decode cX3_number 29 = .ok (.ifCond .lt 21, 3) := by decide +kernel
theorem dX3_number_32 : decode cX3_number 32 = .ok (.iload_n 2, 1) := by decide +kernel
theorem dX3_number_33 : decode cX3_number 33 = .ok (.aload_n 3, 1) := by decide +kernel
theorem dX3_number_34 : decode cX3_number 34 = .ok (.getfield 50, 3) := by decide +kernel
theorem dX3_number_37 : decode cX3_number 37 = .ok (.arraylength, 1) := by decide +kernel
theorem dX3_number_38 : decode cX3_number 38 = .ok (.if_icmp .ge 12, 3) := by decide +kernel
theorem dX3_number_41 : decode cX3_number 41 = .ok (.aload_n 3, 1) := by decide +kernel
theorem dX3_number_42 : decode cX3_number 42 = .ok (.getfield 50, 3) := by decide +kernel
theorem dX3_number_45 : decode cX3_number 45 = .ok (.iload_n 2, 1) := by decide +kernel
theorem dX3_number_46 : decode cX3_number 46 = .ok (.laload, 1) := by decide +kernel
theorem dX3_number_47 : decode cX3_number 47 = .ok (.goto 8, 3) := by decide +kernel
theorem dX3_number_50 : decode cX3_number 50 = .ok (.aload_n 3, 1) := by decide +kernel
theorem dX3_number_51 : decode cX3_number 51 = .ok (.getfield 76, 3) := by decide +kernel
theorem dX3_number_54 : decode cX3_number 54 = .ok (.i2l, 1) := by decide +kernel
theorem dX3_number_55 : decode cX3_number 55 = .ok (.lreturn, 1) := by decide +kernel
theorem dX3_below_0 : decode cX3_below 0 = .ok (.aload_n 0, 1) := by decide +kernel
theorem dX3_below_1 : decode cX3_below 1 = .ok (.iload_n 1, 1) := by decide +kernel
theorem dX3_below_2 : decode cX3_below 2 = .ok (.invokevirtual 43, 3) := by decide +kernel
theorem dX3_below_5 : decode cX3_below 5 = .ok (.astore_n 3, 1) := by decide +kernel
theorem dX3_below_6 : decode cX3_below 6 = .ok (.aload_n 0, 1) := by decide +kernel
theorem dX3_below_7 : decode cX3_below 7 = .ok (.aload_n 3, 1) := by decide +kernel
theorem dX3_below_8 : decode cX3_below 8 = .ok (.iload_n 2, 1) := by decide +kernel
theorem dX3_below_9 : decode cX3_below 9 = .ok (.invokestatic 79, 3) := by decide +kernel
theorem dX3_below_12 : decode cX3_below 12 = .ok (.putfield 26, 3) := by decide +kernel
theorem dX3_below_15 : decode cX3_below 15 = .ok (.aload_n 3, 1) := by decide +kernel
theorem dX3_below_16 : decode cX3_below 16 = .ok (.ifnull 16, 3) := by decide +kernel
theorem dX3_below_19 : decode cX3_below 19 = .ok (.iload_n 2, 1) := by decide +kernel
theorem dX3_below_20 : decode cX3_below 20 = .ok (.ifCond .lt 12, 3) := by decide +kernel
theorem dX3_below_23 : decode cX3_below 23 = .ok (.iload_n 2, 1) := by decide +kernel
theorem dX3_below_24 : decode cX3_below 24 = .ok (.aload_n 3, 1) := by decide +kernel
theorem dX3_below_25 : decode cX3_below 25 = .ok (.getfield 65, 3) := by decide +kernel
theorem dX3_below_28 : decode cX3_below 28 = .ok (.arraylength, 1) := by decide +kernel
theorem dX3_below_29 : decode cX3_below 29 = .ok (.if_icmp .lt 6, 3) := by decide +kernel
theorem dX3_below_32 : decode cX3_below 32 = .ok (.bipush (-2), 2) := by decide +kernel
theorem dX3_below_34 : decode cX3_below 34 = .ok (.ireturn, 1) := by decide +kernel
theorem dX3_below_35 : decode cX3_below 35 = .ok (.aload_n 3, 1) := by decide +kernel
theorem dX3_below_36 : decode cX3_below 36 = .ok (.getfield 65, 3) := by decide +kernel
theorem dX3_below_39 : decode cX3_below 39 = .ok (.iload_n 2, 1) := by decide +kernel
theorem dX3_below_40 : decode cX3_below 40 = .ok (.aaload, 1) := by decide +kernel
theorem dX3_below_41 : decode cX3_below 41 = .ok (.astore 4, 2) := by decide +kernel
theorem dX3_below_43 : decode cX3_below 43 = .ok (.aload 4, 2) := by decide +kernel
theorem dX3_below_45 : decode cX3_below 45 = .ok (.ifnonnull 7, 3) := by decide +kernel
theorem dX3_below_48 : decode cX3_below 48 = .ok (.iconst (-1), 1) := by decide +kernel
theorem dX3_below_49 : decode cX3_below 49 = .ok (.goto 8, 3) := by decide +kernel
theorem dX3_below_52 : decode cX3_below 52 = .ok (.aload 4, 2) := by decide +kernel
theorem dX3_below_54 : decode cX3_below 54 = .ok (.getfield 82, 3) := by decide +kernel
theorem dX3_below_57 : decode cX3_below 57 = .ok (.ireturn, 1) := by decide +kernel
theorem dX3_is_0 : decode cX3_is 0 = .ok (.aload_n 0, 1) := by decide +kernel
theorem dX3_is_1 : decode cX3_is 1 = .ok (.iload_n 1, 1) := by decide +kernel
theorem dX3_is_2 : decode cX3_is 2 = .ok (.invokevirtual 43, 3) := by decide +kernel
theorem dX3_is_5 : decode cX3_is 5 = .ok (.astore_n 3, 1) := by decide +kernel
theorem dX3_is_6 : decode cX3_is 6 = .ok (.aload_n 3, 1) := by decide +kernel
theorem dX3_is_7 : decode cX3_is 7 = .ok (.iload_n 1, 1) := by decide +kernel
theorem dX3_is_8 : decode cX3_is 8 = .ok (.iload_n 2, 1) := by decide +kernel
theorem dX3_is_9 : decode cX3_is 9 = .ok (.invokestatic 85, 3) := by decide +kernel
theorem dX3_is_12 : decode cX3_is 12 = .ok (.ifCond .eq 5, 3) := by decide +kernel
theorem dX3_is_15 : decode cX3_is 15 = .ok (.iconst (-1), 1) := by decide +kernel
theorem dX3_is_16 : decode cX3_is 16 = .ok (.ireturn, 1) := by decide +kernel
theorem dX3_is_17 : decode cX3_is 17 = .ok (.aload_n 3, 1) := by decide +kernel
theorem dX3_is_18 : decode cX3_is 18 = .ok (.ifnull 18, 3) := by decide +kernel
theorem dX3_is_21 : decode cX3_is 21 = .ok (.aload_n 3, 1) := by decide +kernel
theorem dX3_is_22 : decode cX3_is 22 = .ok (.getfield 47, 3) := by decide +kernel
theorem dX3_is_25 : decode cX3_is 25 = .ok (.iload_n 2, 1) := by decide +kernel
theorem dX3_is_26 : decode cX3_is 26 = .ok (.invokestatic 89, 3) := by decide +kernel
theorem dX3_is_29 : decode cX3_is 29 = .ok (.ifCond .eq 7, 3) := by decide +kernel
theorem dX3_is_32 : decode cX3_is 32 = .ok (.iconst 1, 1) := by decide +kernel
theorem dX3_is_33 : decode cX3_is 33 = .ok (.goto 4, 3) := by decide +kernel
theorem dX3_is_36 : decode cX3_is 36 = .ok (.iconst 0, 1) := by decide +kernel
theorem dX3_is_37 : decode cX3_is 37 = .ok (.ireturn, 1) := by decide +kernel
theorem dX3_as_0 : decode cX3_as 0 = .ok (.aload_n 0, 1) := by decide +kernel
theorem dX3_as_1 : decode cX3_as 1 = .ok (.iload_n 1, 1) := by decide +kernel
theorem dX3_as_2 : decode cX3_as 2 = .ok (.invokevirtual 43, 3) := by decide +kernel
theorem dX3_as_5 : decode cX3_as 5 = .ok (.astore_n 3, 1) := by decide +kernel
theorem dX3_as_6 : decode cX3_as 6 = .ok (.aload_n 3, 1) := by decide +kernel
theorem dX3_as_7 : decode cX3_as 7 = .ok (.iload_n 1, 1) := by decide +kernel
theorem dX3_as_8 : decode cX3_as 8 = .ok (.iload_n 2, 1) := by decide +kernel
theorem dX3_as_9 : decode cX3_as 9 = .ok (.invokestatic 85, 3) := by decide +kernel
theorem dX3_as_12 : decode cX3_as 12 = .ok (.ifCond .eq 5, 3) := by decide +kernel
theorem dX3_as_15 : decode cX3_as 15 = .ok (.iconst (-1), 1) := by decide +kernel
theorem dX3_as_16 : decode cX3_as 16 = .ok (.ireturn, 1) := by decide +kernel
theorem dX3_as_17 : decode cX3_as 17 = .ok (.aload_n 3, 1) := by decide +kernel
theorem dX3_as_18 : decode cX3_as 18 = .ok (.ifnull 14, 3) := by decide +kernel
theorem dX3_as_21 : decode cX3_as 21 = .ok (.aload_n 3, 1) := by decide +kernel
theorem dX3_as_22 : decode cX3_as 22 = .ok (.getfield 47, 3) := by decide +kernel
theorem dX3_as_25 : decode cX3_as 25 = .ok (.iload_n 2, 1) := by decide +kernel
theorem dX3_as_26 : decode cX3_as 26 = .ok (.invokestatic 89, 3) := by decide +kernel
theorem dX3_as_29 : decode cX3_as 29 = .ok (.ifCond .eq 7, 3) := by decide +kernel
theorem dX3_as_32 : decode cX3_as 32 = .ok (.iconst 0, 1) := by decide +kernel
theorem dX3_as_33 : decode cX3_as 33 = .ok (.goto 4, 3) := by decide +kernel
theorem dX3_as_36 : decode cX3_as 36 = .ok (.iconst 1, 1) := by decide +kernel
theorem dX3_as_37 : decode cX3_as 37 = .ok (.ireturn, 1) := by decide +kernel
theorem dX3_weight_0 : decode cX3_weight 0 = .ok (.aload_n 0, 1) := by decide +kernel
theorem dX3_weight_1 : decode cX3_weight 1 = .ok (.iload_n 1, 1) := by decide +kernel
theorem dX3_weight_2 : decode cX3_weight 2 = .ok (.invokevirtual 43, 3) := by decide +kernel
theorem dX3_weight_5 : decode cX3_weight 5 = .ok (.astore_n 2, 1) := by decide +kernel
theorem dX3_weight_6 : decode cX3_weight 6 = .ok (.aload_n 0, 1) := by decide +kernel
theorem dX3_weight_7 : decode cX3_weight 7 = .ok (.aload_n 0, 1) := by decide +kernel
theorem dX3_weight_8 : decode cX3_weight 8 = .ok (.aload_n 2, 1) := by decide +kernel
theorem dX3_weight_9 : decode cX3_weight 9 = .ok (.invokevirtual 92, 3) := by decide +kernel
theorem dX3_weight_12 : decode cX3_weight 12 = .ok (.putfield 26, 3) := by decide +kernel
theorem dX3_weight_15 : decode cX3_weight 15 = .ok (.aload_n 2, 1) := by decide +kernel
theorem dX3_weight_16 : decode cX3_weight 16 = .ok (.ifnull 10, 3) := by decide +kernel
theorem dX3_weight_19 : decode cX3_weight 19 = .ok (.aload_n 0, 1) := by decide +kernel
theorem dX3_weight_20 : decode cX3_weight 20 = .ok (.getfield 26, 3) := by decide +kernel
theorem dX3_weight_23 : decode cX3_weight 23 = .ok (.ifCond .eq 9, 3) := by decide +kernel
theorem dX3_weight_26 : decode cX3_weight 26 = .ok (.ldc2_w 95, 3) := by decide +kernel
theorem dX3_weight_29 : decode cX3_weight 29 = .ok (.goto 7, 3) := by decide +kernel
theorem dX3_weight_32 : decode cX3_weight 32 = .ok (.aload_n 2, 1) := by decide +kernel
theorem dX3_weight_33 : decode cX3_weight 33 = .ok (.getfield 97, 3) := by decide +kernel
theorem dX3_weight_36 : decode cX3_weight 36 = .ok (.lreturn, 1) := by decide +kernel
theorem dX3_depth_0 : decode cX3_depth 0 = .ok (.aload_n 0, 1) := by decide +kernel
theorem dX3_depth_1 : decode cX3_depth 1 = .ok (.iload_n 1, 1) := by decide +kernel
theorem dX3_depth_2 : decode cX3_depth 2 = .ok (.invokevirtual 43, 3) := by decide +kernel
theorem dX3_depth_5 : decode cX3_depth 5 = .ok (.astore_n 2, 1) := by decide +kernel
theorem dX3_depth_6 : decode cX3_depth 6 = .ok (.aload_n 0, 1) := by decide +kernel
theorem dX3_depth_7 : decode cX3_depth 7 = .ok (.aload_n 0, 1) := by decide +kernel
theorem dX3_depth_8 : decode cX3_depth 8 = .ok (.aload_n 2, 1) := by decide +kernel
theorem dX3_depth_9 : decode cX3_depth 9 = .ok (.invokevirtual 92, 3) := by decide +kernel
theorem dX3_depth_12 : decode cX3_depth 12 = .ok (.putfield 26, 3) := by decide +kernel
theorem dX3_depth_15 : decode cX3_depth 15 = .ok (.aload_n 2, 1) := by decide +kernel
theorem dX3_depth_16 : decode cX3_depth 16 = .ok (.ifnull 10, 3) := by decide +kernel
theorem dX3_depth_19 : decode cX3_depth 19 = .ok (.aload_n 0, 1) := by decide +kernel
theorem dX3_depth_20 : decode cX3_depth 20 = .ok (.getfield 26, 3) := by decide +kernel
theorem dX3_depth_23 : decode cX3_depth 23 = .ok (.ifCond .eq 7, 3) := by decide +kernel
theorem dX3_depth_26 : decode cX3_depth 26 = .ok (.iconst (-1), 1) := by decide +kernel
theorem dX3_depth_27 : decode cX3_depth 27 = .ok (.goto 7, 3) := by decide +kernel
theorem dX3_depth_30 : decode cX3_depth 30 = .ok (.aload_n 2, 1) := by decide +kernel
theorem dX3_depth_31 : decode cX3_depth 31 = .ok (.getfield 100, 3) := by decide +kernel
theorem dX3_depth_34 : decode cX3_depth 34 = .ok (.ireturn, 1) := by decide +kernel
theorem dX3_equal_0 : decode cX3_equal 0 = .ok (.aload_n 0, 1) := by decide +kernel
theorem dX3_equal_1 : decode cX3_equal 1 = .ok (.iload_n 1, 1) := by decide +kernel
theorem dX3_equal_2 : decode cX3_equal 2 = .ok (.invokevirtual 43, 3) := by decide +kernel
theorem dX3_equal_5 : decode cX3_equal 5 = .ok (.astore_n 3, 1) := by decide +kernel
theorem dX3_equal_6 : decode cX3_equal 6 = .ok (.aload_n 0, 1) := by decide +kernel
theorem dX3_equal_7 : decode cX3_equal 7 = .ok (.iload_n 2, 1) := by decide +kernel
theorem dX3_equal_8 : decode cX3_equal 8 = .ok (.invokevirtual 43, 3) := by decide +kernel
theorem dX3_equal_11 : decode cX3_equal 11 = .ok (.astore 4, 2) := by decide +kernel
theorem dX3_equal_13 : decode cX3_equal 13 = .ok (.aload_n 0, 1) := by decide +kernel
theorem dX3_equal_14 : decode cX3_equal 14 = .ok (.aload_n 3, 1) := by decide +kernel
theorem dX3_equal_15 : decode cX3_equal 15 = .ok (.invokevirtual 92, 3) := by decide +kernel
theorem dX3_equal_18 : decode cX3_equal 18 = .ok (.istore 5, 2) := by decide +kernel
theorem dX3_equal_20 : decode cX3_equal 20 = .ok (.aload_n 0, 1) := by decide +kernel
theorem dX3_equal_21 : decode cX3_equal 21 = .ok (.iload 5, 2) := by decide +kernel
theorem dX3_equal_23 : decode cX3_equal 23 = .ok (.aload_n 0, 1) := by decide +kernel
theorem dX3_equal_24 : decode cX3_equal 24 = .ok (.aload 4, 2) := by decide +kernel
theorem dX3_equal_26 : decode cX3_equal 26 = .ok (.invokevirtual 92, 3) := by decide +kernel
theorem dX3_equal_29 : decode cX3_equal 29 = .ok (.invokestatic 103, 3) := by decide +kernel
theorem dX3_equal_32 : decode cX3_equal 32 = .ok (.putfield 26, 3) := by decide +kernel
theorem dX3_equal_35 : decode cX3_equal 35 = .ok (.aload_n 3, 1) := by decide +kernel
theorem dX3_equal_36 : decode cX3_equal 36 = .ok (.ifnull 15, 3) := by decide +kernel
theorem dX3_equal_39 : decode cX3_equal 39 = .ok (.aload 4, 2) := by decide +kernel
theorem dX3_equal_41 : decode cX3_equal 41 = .ok (.ifnull 10, 3) := by decide +kernel
theorem dX3_equal_44 : decode cX3_equal 44 = .ok (.aload_n 0, 1) := by decide +kernel
theorem dX3_equal_45 : decode cX3_equal 45 = .ok (.getfield 26, 3) := by decide +kernel
theorem dX3_equal_48 : decode cX3_equal 48 = .ok (.ifCond .eq 5, 3) := by decide +kernel
theorem dX3_equal_51 : decode cX3_equal 51 = .ok (.iconst (-1), 1) := by decide +kernel
theorem dX3_equal_52 : decode cX3_equal 52 = .ok (.ireturn, 1) := by decide +kernel
theorem dX3_equal_53 : decode cX3_equal 53 = .ok (.new 107, 3) := by decide +kernel
theorem dX3_equal_56 : decode cX3_equal 56 = .ok (.dup, 1) := by decide +kernel
theorem dX3_equal_57 : decode cX3_equal 57 = .ok (.invokespecial 109, 3) := by decide +kernel
theorem dX3_equal_60 : decode cX3_equal 60 = .ok (.aload_n 3, 1) := by decide +kernel
theorem dX3_equal_61 : decode cX3_equal 61 = .ok (.aload 4, 2) := by decide +kernel
theorem dX3_equal_63 : decode cX3_equal 63 = .ok (.invokevirtual 110, 3) := by decide +kernel
theorem dX3_equal_66 : decode cX3_equal 66 = .ok (.ifCond .eq 7, 3) := by decide +kernel
theorem dX3_equal_69 : decode cX3_equal 69 = .ok (.iconst 1, 1) := by decide +kernel
theorem dX3_equal_70 : decode cX3_equal 70 = .ok (.goto 4, 3) := by decide +kernel
theorem dX3_equal_73 : decode cX3_equal 73 = .ok (.iconst 0, 1) := by decide +kernel
theorem dX3_equal_74 : decode cX3_equal 74 = .ok (.ireturn, 1) := by decide +kernel
theorem dX3_order_0 : decode cX3_order 0 = .ok (.aload_n 0, 1) := by decide +kernel
theorem dX3_order_1 : decode cX3_order 1 = .ok (.iload_n 1, 1) := by decide +kernel
theorem dX3_order_2 : decode cX3_order 2 = .ok (.invokevirtual 43, 3) := by decide +kernel
theorem dX3_order_5 : decode cX3_order 5 = .ok (.astore_n 3, 1) := by decide +kernel
theorem dX3_order_6 : decode cX3_order 6 = .ok (.aload_n 0, 1) := by decide +kernel
theorem dX3_order_7 : decode cX3_order 7 = .ok (.iload_n 2, 1) := by decide +kernel
theorem dX3_order_8 : decode cX3_order 8 = .ok (.invokevirtual 43, 3) := by decide +kernel
theorem dX3_order_11 : decode cX3_order 11 = .ok (.astore 4, 2) := by decide +kernel
theorem dX3_order_13 : decode cX3_order 13 = .ok (.aload_n 3, 1) := by decide +kernel
theorem dX3_order_14 : decode cX3_order 14 = .ok (.ifnull 8, 3) := by decide +kernel
theorem dX3_order_17 : decode cX3_order 17 = .ok (.aload 4, 2) := by decide +kernel
theorem dX3_order_19 : decode cX3_order 19 = .ok (.ifnonnull 5, 3) := by decide +kernel
theorem dX3_order_22 : decode cX3_order 22 = .ok (.iconst 3, 1) := by decide +kernel
theorem dX3_order_23 : decode cX3_order 23 = .ok (.ireturn, 1) := by decide +kernel
theorem dX3_order_24 : decode cX3_order 24 = .ok (.aload_n 3, 1) := by decide +kernel
theorem dX3_order_25 : decode cX3_order 25 = .ok (.getfield 47, 3) := by decide +kernel
theorem dX3_order_28 : decode cX3_order 28 = .ok (.bipush 8, 2) := by decide +kernel
theorem dX3_order_30 : decode cX3_order 30 = .ok (.if_icmp .ne 13, 3) := by decide +kernel
theorem dX3_order_33 : decode cX3_order 33 = .ok (.aload 4, 2) := by decide +kernel
theorem dX3_order_35 : decode cX3_order 35 = .ok (.getfield 47, 3) := by decide +kernel
theorem dX3_order_38 : decode cX3_order 38 = .ok (.bipush 8, 2) := by decide +kernel
theorem dX3_order_40 : decode cX3_order 40 = .ok (.if_icmp .eq 5, 3) := by decide +kernel
theorem dX3_order_43 : decode cX3_order 43 = .ok (.iconst 2, 1) := by decide +kernel
theorem dX3_order_44 : decode cX3_order 44 = .ok (.ireturn, 1) := by decide +kernel
theorem dX3_order_45 : decode cX3_order 45 = .ok (.aload_n 3, 1) := by decide +kernel
theorem dX3_order_46 : decode cX3_order 46 = .ok (.getfield 76, 3) := by decide +kernel
theorem dX3_order_49 : decode cX3_order 49 = .ok (.aload 4, 2) := by decide +kernel
theorem dX3_order_51 : decode cX3_order 51 = .ok (.getfield 76, 3) := by decide +kernel
theorem dX3_order_54 : decode cX3_order 54 = .ok (.if_icmp .ne 5, 3) := by decide +kernel
theorem dX3_order_57 : decode cX3_order 57 = .ok (.iconst 0, 1) := by decide +kernel
theorem dX3_order_58 : decode cX3_order 58 = .ok (.ireturn, 1) := by decide +kernel
theorem dX3_order_59 : decode cX3_order 59 = .ok (.aload_n 3, 1) := by decide +kernel
theorem dX3_order_60 : decode cX3_order 60 = .ok (.getfield 76, 3) := by decide +kernel
theorem dX3_order_63 : decode cX3_order 63 = .ok (.aload 4, 2) := by decide +kernel
theorem dX3_order_65 : decode cX3_order 65 = .ok (.getfield 76, 3) := by decide +kernel
theorem dX3_order_68 : decode cX3_order 68 = .ok (.if_icmp .ge 7, 3) := by decide +kernel
theorem dX3_order_71 : decode cX3_order 71 = .ok (.iconst (-1), 1) := by decide +kernel
theorem dX3_order_72 : decode cX3_order 72 = .ok (.goto 4, 3) := by decide +kernel
theorem dX3_order_75 : decode cX3_order 75 = .ok (.iconst 1, 1) := by decide +kernel
theorem dX3_order_76 : decode cX3_order 76 = .ok (.ireturn, 1) := by decide +kernel
theorem dX3_sort_0 : decode cX3_sort 0 = .ok (.aload_n 0, 1) := by decide +kernel
theorem dX3_sort_1 : decode cX3_sort 1 = .ok (.iload_n 1, 1) := by decide +kernel
theorem dX3_sort_2 : decode cX3_sort 2 = .ok (.invokevirtual 43, 3) := by decide +kernel
theorem dX3_sort_5 : decode cX3_sort 5 = .ok (.astore_n 2, 1) := by decide +kernel
theorem dX3_sort_6 : decode cX3_sort 6 = .ok (.aload_n 2, 1) := by decide +kernel
theorem dX3_sort_7 : decode cX3_sort 7 = .ok (.ifnonnull 5, 3) := by decide +kernel
theorem dX3_sort_10 : decode cX3_sort 10 = .ok (.iconst 1, 1) := by decide +kernel
theorem dX3_sort_11 : decode cX3_sort 11 = .ok (.ireturn, 1) := by decide +kernel
theorem dX3_sort_12 : decode cX3_sort 12 = .ok (.aload_n 2, 1) := by decide +kernel
theorem dX3_sort_13 : decode cX3_sort 13 = .ok (.getfield 47, 3) := by decide +kernel
theorem dX3_sort_16 : decode cX3_sort 16 = .ok (.iconst 4, 1) := by decide +kernel
theorem dX3_sort_17 : decode cX3_sort 17 = .ok (.invokestatic 89, 3) := by decide +kernel
theorem dX3_sort_20 : decode cX3_sort 20 = .ok (.ifCond .ne 5, 3) := by decide +kernel
theorem dX3_sort_23 : decode cX3_sort 23 = .ok (.iconst 4, 1) := by decide +kernel
theorem dX3_sort_24 : decode cX3_sort 24 = .ok (.ireturn, 1) := by decide +kernel
theorem dX3_sort_25 : decode cX3_sort 25 = .ok (.aload_n 2, 1) := by decide +kernel
theorem dX3_sort_26 : decode cX3_sort 26 = .ok (.getfield 65, 3) := by decide +kernel
theorem dX3_sort_29 : decode cX3_sort 29 = .ok (.invokestatic 114, 3) := by decide +kernel
theorem dX3_sort_32 : decode cX3_sort 32 = .ok (.ifCond .eq 5, 3) := by decide +kernel
theorem dX3_sort_35 : decode cX3_sort 35 = .ok (.iconst 3, 1) := by decide +kernel
theorem dX3_sort_36 : decode cX3_sort 36 = .ok (.ireturn, 1) := by decide +kernel
theorem dX3_sort_37 : decode cX3_sort 37 = .ok (.aload_n 2, 1) := by decide +kernel
theorem dX3_sort_38 : decode cX3_sort 38 = .ok (.getfield 65, 3) := by decide +kernel
theorem dX3_sort_41 : decode cX3_sort 41 = .ok (.invokestatic 118, 3) := by decide +kernel
theorem dX3_sort_44 : decode cX3_sort 44 = .ok (.iconst 0, 1) := by decide +kernel
theorem dX3_sort_45 : decode cX3_sort 45 = .ok (.ireturn, 1) := by decide +kernel
theorem dX3_copy_0 : decode cX3_copy 0 = .ok (.aload_n 0, 1) := by decide +kernel
theorem dX3_copy_1 : decode cX3_copy 1 = .ok (.iload_n 1, 1) := by decide +kernel
theorem dX3_copy_2 : decode cX3_copy 2 = .ok (.invokevirtual 43, 3) := by decide +kernel
theorem dX3_copy_5 : decode cX3_copy 5 = .ok (.astore_n 3, 1) := by decide +kernel
theorem dX3_copy_6 : decode cX3_copy 6 = .ok (.aload_n 0, 1) := by decide +kernel
theorem dX3_copy_7 : decode cX3_copy 7 = .ok (.aload_n 0, 1) := by decide +kernel
theorem dX3_copy_8 : decode cX3_copy 8 = .ok (.aload_n 3, 1) := by decide +kernel
theorem dX3_copy_9 : decode cX3_copy 9 = .ok (.iload_n 2, 1) := by decide +kernel
theorem dX3_copy_10 : decode cX3_copy 10 = .ok (.invokevirtual 122, 3) := by decide +kernel
theorem dX3_copy_13 : decode cX3_copy 13 = .ok (.putfield 26, 3) := by decide +kernel
theorem dX3_copy_16 : decode cX3_copy 16 = .ok (.aload_n 3, 1) := by decide +kernel
theorem dX3_copy_17 : decode cX3_copy 17 = .ok (.ifnull 10, 3) := by decide +kernel
theorem dX3_copy_20 : decode cX3_copy 20 = .ok (.aload_n 0, 1) := by decide +kernel
theorem dX3_copy_21 : decode cX3_copy 21 = .ok (.getfield 26, 3) := by decide +kernel
theorem dX3_copy_24 : decode cX3_copy 24 = .ok (.ifCond .eq 5, 3) := by decide +kernel
theorem dX3_copy_27 : decode cX3_copy 27 = .ok (.iconst (-1), 1) := by decide +kernel
theorem dX3_copy_28 : decode cX3_copy 28 = .ok (.ireturn, 1) := by decide +kernel
theorem dX3_copy_29 : decode cX3_copy 29 = .ok (.iload_n 2, 1) := by decide +kernel
theorem dX3_copy_30 : decode cX3_copy 30 = .ok (.ifCond .ne 18, 3) := by decide +kernel
theorem dX3_copy_33 : decode cX3_copy 33 = .ok (.aload_n 0, 1) := by decide +kernel
theorem dX3_copy_34 : decode cX3_copy 34 = .ok (.aload_n 3, 1) := by decide +kernel
theorem dX3_copy_35 : decode cX3_copy 35 = .ok (.aload_n 0, 1) := by decide +kernel
theorem dX3_copy_36 : decode cX3_copy 36 = .ok (.getfield 22, 3) := by decide +kernel
theorem dX3_copy_39 : decode cX3_copy 39 = .ok (.invokevirtual 125, 3) := by decide +kernel
theorem dX3_copy_42 : decode cX3_copy 42 = .ok (.invokevirtual 39, 3) := by decide +kernel
theorem dX3_copy_45 : decode cX3_copy 45 = .ok (.goto 8, 3) := by decide +kernel
theorem dX3_copy_48 : decode cX3_copy 48 = .ok (.aload_n 0, 1) := by decide +kernel
theorem dX3_copy_49 : decode cX3_copy 49 = .ok (.aload_n 3, 1) := by decide +kernel
theorem dX3_copy_50 : decode cX3_copy 50 = .ok (.invokevirtual 128, 3) := by decide +kernel
theorem dX3_copy_53 : decode cX3_copy 53 = .ok (.ireturn, 1) := by decide +kernel
theorem dX3_ring_0 : decode cX3_ring 0 = .ok (.aload_n 0, 1) := by decide +kernel
theorem dX3_ring_1 : decode cX3_ring 1 = .ok (.iload_n 1, 1) := by decide +kernel
theorem dX3_ring_2 : decode cX3_ring 2 = .ok (.invokevirtual 43, 3) := by decide +kernel
theorem dX3_ring_5 : decode cX3_ring 5 = .ok (.astore_n 2, 1) := by decide +kernel
theorem dX3_ring_6 : decode cX3_ring 6 = .ok (.aload_n 2, 1) := by decide +kernel
theorem dX3_ring_7 : decode cX3_ring 7 = .ok (.ifnonnull 5, 3) := by decide +kernel
theorem dX3_ring_10 : decode cX3_ring 10 = .ok (.iconst (-1), 1) := by decide +kernel
theorem dX3_ring_11 : decode cX3_ring 11 = .ok (.ireturn, 1) := by decide +kernel
theorem dX3_ring_12 : decode cX3_ring 12 = .ok (.aload_n 0, 1) := by decide +kernel
theorem dX3_ring_13 : decode cX3_ring 13 = .ok (.getfield 18, 3) := by decide +kernel
theorem dX3_ring_16 : decode cX3_ring 16 = .ok (.aload_n 2, 1) := by decide +kernel
theorem dX3_ring_17 : decode cX3_ring 17 = .ok (.invokevirtual 131, 3) := by decide +kernel
theorem dX3_ring_20 : decode cX3_ring 20 = .ok (.aload_n 0, 1) := by decide +kernel
theorem dX3_ring_21 : decode cX3_ring 21 = .ok (.getfield 18, 3) := by decide +kernel
theorem dX3_ring_24 : decode cX3_ring 24 = .ok (.getfield 135, 3) := by decide +kernel
theorem dX3_ring_27 : decode cX3_ring 27 = .ok (.ifCond .eq 7, 3) := by decide +kernel
theorem dX3_ring_30 : decode cX3_ring 30 = .ok (.iconst 1, 1) := by decide +kernel
theorem dX3_ring_31 : decode cX3_ring 31 = .ok (.goto 4, 3) := by decide +kernel
theorem dX3_ring_34 : decode cX3_ring 34 = .ok (.iconst 0, 1) := by decide +kernel
theorem dX3_ring_35 : decode cX3_ring 35 = .ok (.ireturn, 1) := by decide +kernel
theorem dX3_status_0 : decode cX3_status 0 = .ok (.aload_n 0, 1) := by decide +kernel
theorem dX3_status_1 : decode cX3_status 1 = .ok (.getfield 26, 3) := by decide +kernel
theorem dX3_status_4 : decode cX3_status 4 = .ok (.ireturn, 1) := by decide +kernel
theorem dX3_count_0 : decode cX3_count 0 = .ok (.aload_n 0, 1) := by decide +kernel
theorem dX3_count_1 : decode cX3_count 1 = .ok (.getfield 22, 3) := by decide +kernel
theorem dX3_count_4 : decode cX3_count 4 = .ok (.ireturn, 1) := by decide +kernel
theorem dX3_thingAt_0 : decode cX3_thingAt 0 = .ok (.iload_n 1, 1) := by decide +kernel
theorem dX3_thingAt_1 : decode cX3_thingAt 1 = .ok (.ifCond .lt 29, 3) := by decide +kernel
theorem dX3_thingAt_4 : decode cX3_thingAt 4 = .ok (.iload_n 1, 1) := by decide +kernel
theorem dX3_thingAt_5 : decode cX3_thingAt 5 = .ok (.aload_n 0, 1) := by decide +kernel
theorem dX3_thingAt_6 : decode cX3_thingAt 6 = .ok (.getfield 22, 3) := by decide +kernel
theorem dX3_thingAt_9 : decode cX3_thingAt 9 = .ok (.if_icmp .ge 21, 3) := by decide +kernel
theorem dX3_thingAt_12 : decode cX3_thingAt 12 = .ok (.iload_n 1, 1) := by decide +kernel
theorem dX3_thingAt_13 : decode cX3_thingAt 13 = .ok (.aload_n 0, 1) := by decide +kernel
theorem dX3_thingAt_14 : decode cX3_thingAt 14 = .ok (.getfield 11, 3) := by decide +kernel
theorem dX3_thingAt_17 : decode cX3_thingAt 17 = .ok (.arraylength, 1) := by decide +kernel
theorem dX3_thingAt_18 : decode cX3_thingAt 18 = .ok (.if_icmp .ge 12, 3) := by decide +kernel
theorem dX3_thingAt_21 : decode cX3_thingAt 21 = .ok (.aload_n 0, 1) := by decide +kernel
theorem dX3_thingAt_22 : decode cX3_thingAt 22 = .ok (.getfield 11, 3) := by decide +kernel
theorem dX3_thingAt_25 : decode cX3_thingAt 25 = .ok (.iload_n 1, 1) := by decide +kernel
theorem dX3_thingAt_26 : decode cX3_thingAt 26 = .ok (.aaload, 1) := by decide +kernel
theorem dX3_thingAt_27 : decode cX3_thingAt 27 = .ok (.goto 4, 3) := by decide +kernel
theorem dX3_thingAt_30 : decode cX3_thingAt 30 = .ok (.aconst_null, 1) := by decide +kernel
theorem dX3_thingAt_31 : decode cX3_thingAt 31 = .ok (.areturn, 1) := by decide +kernel
theorem dX3_hasRoomFor_0 : decode cX3_hasRoomFor 0 = .ok (.aload_n 0, 1) := by decide +kernel
theorem dX3_hasRoomFor_1 : decode cX3_hasRoomFor 1 = .ok (.getfield 22, 3) := by decide +kernel
theorem dX3_hasRoomFor_4 : decode cX3_hasRoomFor 4 = .ok (.iload_n 1, 1) := by decide +kernel
theorem dX3_hasRoomFor_5 : decode cX3_hasRoomFor 5 = .ok (.iadd, 1) := by decide +kernel
theorem dX3_hasRoomFor_6 : decode cX3_hasRoomFor 6 = .ok (.sipush 2000, 3) := by decide +kernel
theorem dX3_hasRoomFor_9 : decode cX3_hasRoomFor 9 = .ok (.if_icmp .gt 7, 3) := by decide +kernel
theorem dX3_hasRoomFor_12 : decode cX3_hasRoomFor 12 = .ok (.iconst 1, 1) := by decide +kernel
theorem dX3_hasRoomFor_13 : decode cX3_hasRoomFor 13 = .ok (.goto 4, 3) := by decide +kernel
theorem dX3_hasRoomFor_16 : decode cX3_hasRoomFor 16 = .ok (.iconst 0, 1) := by decide +kernel
theorem dX3_hasRoomFor_17 : decode cX3_hasRoomFor 17 = .ok (.ireturn, 1) := by decide +kernel
theorem dX3_shelve_0 : decode cX3_shelve 0 = .ok (.aload_n 0, 1) := by decide +kernel
theorem dX3_shelve_1 : decode cX3_shelve 1 = .ok (.getfield 22, 3) := by decide +kernel
theorem dX3_shelve_4 : decode cX3_shelve 4 = .ok (.ifCond .lt 15, 3) := by decide +kernel
theorem dX3_shelve_7 : decode cX3_shelve 7 = .ok (.aload_n 0, 1) := by decide +kernel
theorem dX3_shelve_8 : decode cX3_shelve 8 = .ok (.getfield 22, 3) := by decide +kernel
theorem dX3_shelve_11 : decode cX3_shelve 11 = .ok (.aload_n 0, 1) := by decide +kernel
theorem dX3_shelve_12 : decode cX3_shelve 12 = .ok (.getfield 11, 3) := by decide +kernel
theorem dX3_shelve_15 : decode cX3_shelve 15 = .ok (.arraylength, 1) := by decide +kernel
theorem dX3_shelve_16 : decode cX3_shelve 16 = .ok (.if_icmp .lt 5, 3) := by decide +kernel
theorem dX3_shelve_19 : decode cX3_shelve 19 = .ok (.iconst (-1), 1) := by decide +kernel
theorem dX3_shelve_20 : decode cX3_shelve 20 = .ok (.ireturn, 1) := by decide +kernel
theorem dX3_shelve_21 : decode cX3_shelve 21 = .ok (.aload_n 0, 1) := by decide +kernel
theorem dX3_shelve_22 : decode cX3_shelve 22 = .ok (.getfield 11, 3) := by decide +kernel
theorem dX3_shelve_25 : decode cX3_shelve 25 = .ok (.aload_n 0, 1) := by decide +kernel
theorem dX3_shelve_26 : decode cX3_shelve 26 = .ok (.getfield 22, 3) := by decide +kernel
theorem dX3_shelve_29 : decode cX3_shelve 29 = .ok (.aload_n 1, 1) := by decide +kernel
theorem dX3_shelve_30 : decode cX3_shelve 30 = .ok (.aastore, 1) := by decide +kernel
theorem dX3_shelve_31 : decode cX3_shelve 31 = .ok (.aload_n 0, 1) := by decide +kernel
theorem dX3_shelve_32 : decode cX3_shelve 32 = .ok (.dup, 1) := by decide +kernel
theorem dX3_shelve_33 : decode cX3_shelve 33 = .ok (.getfield 22, 3) := by decide +kernel
theorem dX3_shelve_36 : decode cX3_shelve 36 = .ok (.iconst 1, 1) := by decide +kernel
theorem dX3_shelve_37 : decode cX3_shelve 37 = .ok (.iadd, 1) := by decide +kernel
theorem dX3_shelve_38 : decode cX3_shelve 38 = .ok (.putfield 22, 3) := by decide +kernel
theorem dX3_shelve_41 : decode cX3_shelve 41 = .ok (.aload_n 1, 1) := by decide +kernel
theorem dX3_shelve_42 : decode cX3_shelve 42 = .ok (.getfield 82, 3) := by decide +kernel
theorem dX3_shelve_45 : decode cX3_shelve 45 = .ok (.ireturn, 1) := by decide +kernel
theorem dX3_holdsNumbers_0 : decode cX3_holdsNumbers 0 = .ok (.iload_n 0, 1) := by decide +kernel
theorem dX3_holdsNumbers_1 : decode cX3_holdsNumbers 1 = .ok (.ifCond .lt 12, 3) := by decide +kernel
theorem dX3_holdsNumbers_4 : decode cX3_holdsNumbers 4 = .ok (.iload_n 0, 1) := by decide +kernel
theorem dX3_holdsNumbers_5 : decode cX3_holdsNumbers 5 = .ok (.iconst 2, 1) := by decide +kernel
theorem dX3_holdsNumbers_6 : decode cX3_holdsNumbers 6 = .ok (.if_icmp .gt 7, 3) := by decide +kernel
theorem dX3_holdsNumbers_9 : decode cX3_holdsNumbers 9 = .ok (.iconst 1, 1) := by decide +kernel
theorem dX3_holdsNumbers_10 : decode cX3_holdsNumbers 10 = .ok (.goto 4, 3) := by decide +kernel
theorem dX3_holdsNumbers_13 : decode cX3_holdsNumbers 13 = .ok (.iconst 0, 1) := by decide +kernel
theorem dX3_holdsNumbers_14 : decode cX3_holdsNumbers 14 = .ok (.ireturn, 1) := by decide +kernel
theorem dX3_holdsThings_0 : decode cX3_holdsThings 0 = .ok (.iload_n 0, 1) := by decide +kernel
theorem dX3_holdsThings_1 : decode cX3_holdsThings 1 = .ok (.iconst 3, 1) := by decide +kernel
theorem dX3_holdsThings_2 : decode cX3_holdsThings 2 = .ok (.if_icmp .lt 13, 3) := by decide +kernel
theorem dX3_holdsThings_5 : decode cX3_holdsThings 5 = .ok (.iload_n 0, 1) := by decide +kernel
theorem dX3_holdsThings_6 : decode cX3_holdsThings 6 = .ok (.bipush 7, 2) := by decide +kernel
theorem dX3_holdsThings_8 : decode cX3_holdsThings 8 = .ok (.if_icmp .gt 7, 3) := by decide +kernel
theorem dX3_holdsThings_11 : decode cX3_holdsThings 11 = .ok (.iconst 1, 1) := by decide +kernel
theorem dX3_holdsThings_12 : decode cX3_holdsThings 12 = .ok (.goto 4, 3) := by decide +kernel
theorem dX3_holdsThings_15 : decode cX3_holdsThings 15 = .ok (.iconst 0, 1) := by decide +kernel
theorem dX3_holdsThings_16 : decode cX3_holdsThings 16 = .ok (.ireturn, 1) := by decide +kernel
theorem dX3_isToken_0 : decode cX3_isToken 0 = .ok (.iload_n 0, 1) := by decide +kernel
theorem dX3_isToken_1 : decode cX3_isToken 1 = .ok (.bipush 7, 2) := by decide +kernel
theorem dX3_isToken_3 : decode cX3_isToken 3 = .ok (.if_icmp .eq 9, 3) := by decide +kernel
theorem dX3_isToken_6 : decode cX3_isToken 6 = .ok (.iload_n 0, 1) := by decide +kernel
theorem dX3_isToken_7 : decode cX3_isToken 7 = .ok (.bipush 8, 2) := by decide +kernel
theorem dX3_isToken_9 : decode cX3_isToken 9 = .ok (.if_icmp .ne 7, 3) := by decide +kernel
theorem dX3_isToken_12 : decode cX3_isToken 12 = .ok (.iconst 1, 1) := by decide +kernel
theorem dX3_isToken_13 : decode cX3_isToken 13 = .ok (.goto 4, 3) := by decide +kernel
theorem dX3_isToken_16 : decode cX3_isToken 16 = .ok (.iconst 0, 1) := by decide +kernel
theorem dX3_isToken_17 : decode cX3_isToken 17 = .ok (.ireturn, 1) := by decide +kernel
theorem dX3_fitted_0 : decode cX3_fitted 0 = .ok (.iload_n 0, 1) := by decide +kernel
theorem dX3_fitted_1 : decode cX3_fitted 1 = .ok (.ifCond .ne 7, 3) := by decide +kernel
theorem dX3_fitted_4 : decode cX3_fitted 4 = .ok (.lload_n 1, 1) := by decide +kernel
theorem dX3_fitted_5 : decode cX3_fitted 5 = .ok (.l2i, 1) := by decide +kernel
theorem dX3_fitted_6 : decode cX3_fitted 6 = .ok (.i2l, 1) := by decide +kernel
theorem dX3_fitted_7 : decode cX3_fitted 7 = .ok (.lreturn, 1) := by decide +kernel
theorem dX3_fitted_8 : decode cX3_fitted 8 = .ok (.iload_n 0, 1) := by decide +kernel
theorem dX3_fitted_9 : decode cX3_fitted 9 = .ok (.iconst 2, 1) := by decide +kernel
theorem dX3_fitted_10 : decode cX3_fitted 10 = .ok (.if_icmp .ne 10, 3) := by decide +kernel
theorem dX3_fitted_13 : decode cX3_fitted 13 = .ok (.lload_n 1, 1) := by decide +kernel
theorem dX3_fitted_14 : decode cX3_fitted 14 = .ok (.l2i, 1) := by decide +kernel
theorem dX3_fitted_15 : decode cX3_fitted 15 = .ok (.i2c, 1) := by decide +kernel
theorem dX3_fitted_16 : decode cX3_fitted 16 = .ok (.i2l, 1) := by decide +kernel
theorem dX3_fitted_17 : decode cX3_fitted 17 = .ok (.goto 4, 3) := by decide +kernel
theorem dX3_fitted_20 : decode cX3_fitted 20 = .ok (.lload_n 1, 1) := by decide +kernel
theorem dX3_fitted_21 : decode cX3_fitted 21 = .ok (.lreturn, 1) := by decide +kernel
theorem dX3_passes_0 : decode cX3_passes 0 = .ok (.iload_n 1, 1) := by decide +kernel
theorem dX3_passes_1 : decode cX3_passes 1 = .ok (.iconst 4, 1) := by decide +kernel
theorem dX3_passes_2 : decode cX3_passes 2 = .ok (.if_icmp .ne 20, 3) := by decide +kernel
theorem dX3_passes_5 : decode cX3_passes 5 = .ok (.iload_n 0, 1) := by decide +kernel
theorem dX3_passes_6 : decode cX3_passes 6 = .ok (.iconst 4, 1) := by decide +kernel
theorem dX3_passes_7 : decode cX3_passes 7 = .ok (.if_icmp .eq 9, 3) := by decide +kernel
theorem dX3_passes_10 : decode cX3_passes 10 = .ok (.iload_n 0, 1) := by decide +kernel
theorem dX3_passes_11 : decode cX3_passes 11 = .ok (.bipush 6, 2) := by decide +kernel
theorem dX3_passes_13 : decode cX3_passes 13 = .ok (.if_icmp .ne 7, 3) := by decide +kernel
theorem dX3_passes_16 : decode cX3_passes 16 = .ok (.iconst 1, 1) := by decide +kernel
theorem dX3_passes_17 : decode cX3_passes 17 = .ok (.goto 4, 3) := by decide +kernel
theorem dX3_passes_20 : decode cX3_passes 20 = .ok (.iconst 0, 1) := by decide +kernel
theorem dX3_passes_21 : decode cX3_passes 21 = .ok (.ireturn, 1) := by decide +kernel
theorem dX3_passes_22 : decode cX3_passes 22 = .ok (.iload_n 1, 1) := by decide +kernel
theorem dX3_passes_23 : decode cX3_passes 23 = .ok (.bipush 7, 2) := by decide +kernel
theorem dX3_passes_25 : decode cX3_passes 25 = .ok (.if_icmp .ne 8, 3) := by decide +kernel
theorem dX3_passes_28 : decode cX3_passes 28 = .ok (.iload_n 0, 1) := by decide +kernel
theorem dX3_passes_29 : decode cX3_passes 29 = .ok (.invokestatic 139, 3) := by decide +kernel
theorem dX3_passes_32 : decode cX3_passes 32 = .ok (.ireturn, 1) := by decide +kernel
theorem dX3_passes_33 : decode cX3_passes 33 = .ok (.iload_n 0, 1) := by decide +kernel
theorem dX3_passes_34 : decode cX3_passes 34 = .ok (.iload_n 1, 1) := by decide +kernel
theorem dX3_passes_35 : decode cX3_passes 35 = .ok (.if_icmp .ne 7, 3) := by decide +kernel
theorem dX3_passes_38 : decode cX3_passes 38 = .ok (.iconst 1, 1) := by decide +kernel
theorem dX3_passes_39 : decode cX3_passes 39 = .ok (.goto 4, 3) := by decide +kernel
theorem dX3_passes_42 : decode cX3_passes 42 = .ok (.iconst 0, 1) := by decide +kernel
theorem dX3_passes_43 : decode cX3_passes 43 = .ok (.ireturn, 1) := by decide +kernel
theorem dX3_mayHang_0 : decode cX3_mayHang 0 = .ok (.iload_n 1, 1) := by decide +kernel
theorem dX3_mayHang_1 : decode cX3_mayHang 1 = .ok (.tableswitch 57 3 6 #[31, 37, 44, 50], 31) := by decide +kernel
theorem dX3_mayHang_32 : decode cX3_mayHang 32 = .ok (.iload_n 0, 1) := by decide +kernel
theorem dX3_mayHang_33 : decode cX3_mayHang 33 = .ok (.iconst 0, 1) := by decide +kernel
theorem dX3_mayHang_34 : decode cX3_mayHang 34 = .ok (.invokestatic 89, 3) := by decide +kernel
theorem dX3_mayHang_37 : decode cX3_mayHang 37 = .ok (.ireturn, 1) := by decide +kernel
theorem dX3_mayHang_38 : decode cX3_mayHang 38 = .ok (.iload_n 0, 1) := by decide +kernel
theorem dX3_mayHang_39 : decode cX3_mayHang 39 = .ok (.bipush 7, 2) := by decide +kernel
theorem dX3_mayHang_41 : decode cX3_mayHang 41 = .ok (.invokestatic 89, 3) := by decide +kernel
theorem dX3_mayHang_44 : decode cX3_mayHang 44 = .ok (.ireturn, 1) := by decide +kernel
theorem dX3_mayHang_45 : decode cX3_mayHang 45 = .ok (.iload_n 0, 1) := by decide +kernel
theorem dX3_mayHang_46 : decode cX3_mayHang 46 = .ok (.iconst 4, 1) := by decide +kernel
theorem dX3_mayHang_47 : decode cX3_mayHang 47 = .ok (.invokestatic 89, 3) := by decide +kernel
theorem dX3_mayHang_50 : decode cX3_mayHang 50 = .ok (.ireturn, 1) := by decide +kernel
theorem dX3_mayHang_51 : decode cX3_mayHang 51 = .ok (.iload_n 0, 1) := by decide +kernel
theorem dX3_mayHang_52 : decode cX3_mayHang 52 = .ok (.bipush 8, 2) := by decide +kernel
theorem dX3_mayHang_54 : decode cX3_mayHang 54 = .ok (.invokestatic 89, 3) := by decide +kernel
theorem dX3_mayHang_57 : decode cX3_mayHang 57 = .ok (.ireturn, 1) := by decide +kernel
theorem dX3_mayHang_58 : decode cX3_mayHang 58 = .ok (.iload_n 1, 1) := by decide +kernel
theorem dX3_mayHang_59 : decode cX3_mayHang 59 = .ok (.bipush 7, 2) := by decide +kernel
theorem dX3_mayHang_61 : decode cX3_mayHang 61 = .ok (.if_icmp .ne 7, 3) := by decide +kernel
theorem dX3_mayHang_64 : decode cX3_mayHang 64 = .ok (.iconst 1, 1) := by decide +kernel
theorem dX3_mayHang_65 : decode cX3_mayHang 65 = .ok (.goto 4, 3) := by decide +kernel
theorem dX3_mayHang_68 : decode cX3_mayHang 68 = .ok (.iconst 0, 1) := by decide +kernel
theorem dX3_mayHang_69 : decode cX3_mayHang 69 = .ok (.ireturn, 1) := by decide +kernel
theorem dX3_isUnknownQuestion_0 : decode cX3_isUnknownQuestion 0 = .ok (.iload_n 2, 1) := by decide +kernel
theorem dX3_isUnknownQuestion_1 : decode cX3_isUnknownQuestion 1 = .ok (.ifCond .lt 18, 3) := by decide +kernel
theorem dX3_isUnknownQuestion_4 : decode cX3_isUnknownQuestion 4 = .ok (.iload_n 2, 1) := by decide +kernel
theorem dX3_isUnknownQuestion_5 : decode cX3_isUnknownQuestion 5 = .ok (.bipush 8, 2) := by decide +kernel
theorem dX3_isUnknownQuestion_7 : decode cX3_isUnknownQuestion 7 = .ok (.if_icmp .gt 12, 3) := by decide +kernel
theorem dX3_isUnknownQuestion_10 : decode cX3_isUnknownQuestion 10 = .ok (.aload_n 0, 1) := by decide +kernel
theorem dX3_isUnknownQuestion_11 : decode cX3_isUnknownQuestion 11 = .ok (.ifnonnull 12, 3) := by decide +kernel
theorem dX3_isUnknownQuestion_14 : decode cX3_isUnknownQuestion 14 = .ok (.iload_n 1, 1) := by decide +kernel
theorem dX3_isUnknownQuestion_15 : decode cX3_isUnknownQuestion 15 = .ok (.iconst (-1), 1) := by decide +kernel
theorem dX3_isUnknownQuestion_16 : decode cX3_isUnknownQuestion 16 = .ok (.if_icmp .eq 7, 3) := by decide +kernel
theorem dX3_isUnknownQuestion_19 : decode cX3_isUnknownQuestion 19 = .ok (.iconst 1, 1) := by decide +kernel
theorem dX3_isUnknownQuestion_20 : decode cX3_isUnknownQuestion 20 = .ok (.goto 4, 3) := by decide +kernel
theorem dX3_isUnknownQuestion_23 : decode cX3_isUnknownQuestion 23 = .ok (.iconst 0, 1) := by decide +kernel
theorem dX3_isUnknownQuestion_24 : decode cX3_isUnknownQuestion 24 = .ok (.ireturn, 1) := by decide +kernel
theorem dX3_numberRefusal_0 : decode cX3_numberRefusal 0 = .ok (.aload_n 0, 1) := by decide +kernel
theorem dX3_numberRefusal_1 : decode cX3_numberRefusal 1 = .ok (.ifnonnull 5, 3) := by decide +kernel
theorem dX3_numberRefusal_4 : decode cX3_numberRefusal 4 = .ok (.iconst 1, 1) := by decide +kernel
theorem dX3_numberRefusal_5 : decode cX3_numberRefusal 5 = .ok (.ireturn, 1) := by decide +kernel
theorem dX3_numberRefusal_6 : decode cX3_numberRefusal 6 = .ok (.aload_n 0, 1) := by decide +kernel
theorem dX3_numberRefusal_7 : decode cX3_numberRefusal 7 = .ok (.getfield 47, 3) := by decide +kernel
theorem dX3_numberRefusal_10 : decode cX3_numberRefusal 10 = .ok (.invokestatic 33, 3) := by decide +kernel
theorem dX3_numberRefusal_13 : decode cX3_numberRefusal 13 = .ok (.ifCond .ne 15, 3) := by decide +kernel
theorem dX3_numberRefusal_16 : decode cX3_numberRefusal 16 = .ok (.aload_n 0, 1) := by decide +kernel
theorem dX3_numberRefusal_17 : decode cX3_numberRefusal 17 = .ok (.getfield 47, 3) := by decide +kernel
theorem dX3_numberRefusal_20 : decode cX3_numberRefusal 20 = .ok (.invokestatic 139, 3) := by decide +kernel
theorem dX3_numberRefusal_23 : decode cX3_numberRefusal 23 = .ok (.ifCond .ne 5, 3) := by decide +kernel
theorem dX3_numberRefusal_26 : decode cX3_numberRefusal 26 = .ok (.iconst 4, 1) := by decide +kernel
theorem dX3_numberRefusal_27 : decode cX3_numberRefusal 27 = .ok (.ireturn, 1) := by decide +kernel
theorem dX3_numberRefusal_28 : decode cX3_numberRefusal 28 = .ok (.aload_n 0, 1) := by decide +kernel
theorem dX3_numberRefusal_29 : decode cX3_numberRefusal 29 = .ok (.getfield 47, 3) := by decide +kernel
theorem dX3_numberRefusal_32 : decode cX3_numberRefusal 32 = .ok (.invokestatic 139, 3) := by decide +kernel
theorem dX3_numberRefusal_35 : decode cX3_numberRefusal 35 = .ok (.ifCond .eq 7, 3) := by decide +kernel
theorem dX3_numberRefusal_38 : decode cX3_numberRefusal 38 = .ok (.iconst 1, 1) := by decide +kernel
theorem dX3_numberRefusal_39 : decode cX3_numberRefusal 39 = .ok (.goto 8, 3) := by decide +kernel
theorem dX3_numberRefusal_42 : decode cX3_numberRefusal 42 = .ok (.aload_n 0, 1) := by decide +kernel
theorem dX3_numberRefusal_43 : decode cX3_numberRefusal 43 = .ok (.getfield 50, 3) := by decide +kernel
theorem dX3_numberRefusal_46 : decode cX3_numberRefusal 46 = .ok (.arraylength, 1) := by decide +kernel
theorem dX3_numberRefusal_47 : decode cX3_numberRefusal 47 = .ok (.istore_n 2, 1) := by decide +kernel
theorem dX3_numberRefusal_48 : decode cX3_numberRefusal 48 = .ok (.iload_n 1, 1) := by decide +kernel
theorem dX3_numberRefusal_49 : decode cX3_numberRefusal 49 = .ok (.ifCond .lt 8, 3) := by decide +kernel
theorem dX3_numberRefusal_52 : decode cX3_numberRefusal 52 = .ok (.iload_n 1, 1) := by decide +kernel
theorem dX3_numberRefusal_53 : decode cX3_numberRefusal 53 = .ok (.iload_n 2, 1) := by decide +kernel
theorem dX3_numberRefusal_54 : decode cX3_numberRefusal 54 = .ok (.if_icmp .lt 7, 3) := by decide +kernel
theorem dX3_numberRefusal_57 : decode cX3_numberRefusal 57 = .ok (.iconst 2, 1) := by decide +kernel
theorem dX3_numberRefusal_58 : decode cX3_numberRefusal 58 = .ok (.goto 4, 3) := by decide +kernel
theorem dX3_numberRefusal_61 : decode cX3_numberRefusal 61 = .ok (.iconst 0, 1) := by decide +kernel
theorem dX3_numberRefusal_62 : decode cX3_numberRefusal 62 = .ok (.ireturn, 1) := by decide +kernel
theorem dX3_belowRefusal_0 : decode cX3_belowRefusal 0 = .ok (.aload_n 0, 1) := by decide +kernel
theorem dX3_belowRefusal_1 : decode cX3_belowRefusal 1 = .ok (.ifnonnull 5, 3) := by decide +kernel
theorem dX3_belowRefusal_4 : decode cX3_belowRefusal 4 = .ok (.iconst 1, 1) := by decide +kernel
theorem dX3_belowRefusal_5 : decode cX3_belowRefusal 5 = .ok (.ireturn, 1) := by decide +kernel
theorem dX3_belowRefusal_6 : decode cX3_belowRefusal 6 = .ok (.aload_n 0, 1) := by decide +kernel
theorem dX3_belowRefusal_7 : decode cX3_belowRefusal 7 = .ok (.getfield 47, 3) := by decide +kernel
theorem dX3_belowRefusal_10 : decode cX3_belowRefusal 10 = .ok (.invokestatic 62, 3) := by decide +kernel
theorem dX3_belowRefusal_13 : decode cX3_belowRefusal 13 = .ok (.ifCond .ne 5, 3) := by decide +kernel
theorem dX3_belowRefusal_16 : decode cX3_belowRefusal 16 = .ok (.iconst 4, 1) := by decide +kernel
theorem dX3_belowRefusal_17 : decode cX3_belowRefusal 17 = .ok (.ireturn, 1) := by decide +kernel
theorem dX3_belowRefusal_18 : decode cX3_belowRefusal 18 = .ok (.iload_n 1, 1) := by decide +kernel
theorem dX3_belowRefusal_19 : decode cX3_belowRefusal 19 = .ok (.ifCond .lt 12, 3) := by decide +kernel
theorem dX3_belowRefusal_22 : decode cX3_belowRefusal 22 = .ok (.iload_n 1, 1) := by decide +kernel
theorem dX3_belowRefusal_23 : decode cX3_belowRefusal 23 = .ok (.aload_n 0, 1) := by decide +kernel
theorem dX3_belowRefusal_24 : decode cX3_belowRefusal 24 = .ok (.getfield 65, 3) := by decide +kernel
theorem dX3_belowRefusal_27 : decode cX3_belowRefusal 27 = .ok (.arraylength, 1) := by decide +kernel
theorem dX3_belowRefusal_28 : decode cX3_belowRefusal 28 = .ok (.if_icmp .lt 7, 3) := by decide +kernel
theorem dX3_belowRefusal_31 : decode cX3_belowRefusal 31 = .ok (.iconst 2, 1) := by decide +kernel
theorem dX3_belowRefusal_32 : decode cX3_belowRefusal 32 = .ok (.goto 4, 3) := by decide +kernel
theorem dX3_belowRefusal_35 : decode cX3_belowRefusal 35 = .ok (.iconst 0, 1) := by decide +kernel
theorem dX3_belowRefusal_36 : decode cX3_belowRefusal 36 = .ok (.ireturn, 1) := by decide +kernel
theorem dX3_walkRefusal_0 : decode cX3_walkRefusal 0 = .ok (.aload_n 1, 1) := by decide +kernel
theorem dX3_walkRefusal_1 : decode cX3_walkRefusal 1 = .ok (.ifnonnull 5, 3) := by decide +kernel
theorem dX3_walkRefusal_4 : decode cX3_walkRefusal 4 = .ok (.iconst 1, 1) := by decide +kernel
theorem dX3_walkRefusal_5 : decode cX3_walkRefusal 5 = .ok (.ireturn, 1) := by decide +kernel
theorem dX3_walkRefusal_6 : decode cX3_walkRefusal 6 = .ok (.aload_n 0, 1) := by decide +kernel
theorem dX3_walkRefusal_7 : decode cX3_walkRefusal 7 = .ok (.getfield 18, 3) := by decide +kernel
theorem dX3_walkRefusal_10 : decode cX3_walkRefusal 10 = .ok (.aload_n 1, 1) := by decide +kernel
theorem dX3_walkRefusal_11 : decode cX3_walkRefusal 11 = .ok (.invokevirtual 131, 3) := by decide +kernel
theorem dX3_walkRefusal_14 : decode cX3_walkRefusal 14 = .ok (.aload_n 0, 1) := by decide +kernel
theorem dX3_walkRefusal_15 : decode cX3_walkRefusal 15 = .ok (.getfield 18, 3) := by decide +kernel
theorem dX3_walkRefusal_18 : decode cX3_walkRefusal 18 = .ok (.getfield 142, 3) := by decide +kernel
theorem dX3_walkRefusal_21 : decode cX3_walkRefusal 21 = .ok (.ifCond .eq 5, 3) := by decide +kernel
theorem dX3_walkRefusal_24 : decode cX3_walkRefusal 24 = .ok (.iconst 5, 1) := by decide +kernel
theorem dX3_walkRefusal_25 : decode cX3_walkRefusal 25 = .ok (.ireturn, 1) := by decide +kernel
theorem dX3_walkRefusal_26 : decode cX3_walkRefusal 26 = .ok (.aload_n 1, 1) := by decide +kernel
theorem dX3_walkRefusal_27 : decode cX3_walkRefusal 27 = .ok (.getfield 100, 3) := by decide +kernel
theorem dX3_walkRefusal_30 : decode cX3_walkRefusal 30 = .ok (.sipush 400, 3) := by decide +kernel
theorem dX3_walkRefusal_33 : decode cX3_walkRefusal 33 = .ok (.if_icmp .le 8, 3) := by decide +kernel
theorem dX3_walkRefusal_36 : decode cX3_walkRefusal 36 = .ok (.bipush 6, 2) := by decide +kernel
theorem dX3_walkRefusal_38 : decode cX3_walkRefusal 38 = .ok (.goto 4, 3) := by decide +kernel
theorem dX3_walkRefusal_41 : decode cX3_walkRefusal 41 = .ok (.iconst 0, 1) := by decide +kernel
theorem dX3_walkRefusal_42 : decode cX3_walkRefusal 42 = .ok (.ireturn, 1) := by decide +kernel
theorem dX3_firstReason_0 : decode cX3_firstReason 0 = .ok (.iload_n 0, 1) := by decide +kernel
theorem dX3_firstReason_1 : decode cX3_firstReason 1 = .ok (.ifCond .ne 5, 3) := by decide +kernel
theorem dX3_firstReason_4 : decode cX3_firstReason 4 = .ok (.iload_n 1, 1) := by decide +kernel
theorem dX3_firstReason_5 : decode cX3_firstReason 5 = .ok (.ireturn, 1) := by decide +kernel
theorem dX3_firstReason_6 : decode cX3_firstReason 6 = .ok (.iload_n 1, 1) := by decide +kernel
theorem dX3_firstReason_7 : decode cX3_firstReason 7 = .ok (.ifCond .ne 7, 3) := by decide +kernel
theorem dX3_firstReason_10 : decode cX3_firstReason 10 = .ok (.iload_n 0, 1) := by decide +kernel
theorem dX3_firstReason_11 : decode cX3_firstReason 11 = .ok (.goto 8, 3) := by decide +kernel
theorem dX3_firstReason_14 : decode cX3_firstReason 14 = .ok (.iload_n 0, 1) := by decide +kernel
theorem dX3_firstReason_15 : decode cX3_firstReason 15 = .ok (.iload_n 1, 1) := by decide +kernel
theorem dX3_firstReason_16 : decode cX3_firstReason 16 = .ok (.invokestatic 145, 3) := by decide +kernel
theorem dX3_firstReason_19 : decode cX3_firstReason 19 = .ok (.ireturn, 1) := by decide +kernel
theorem dX3_copyRefusal_0 : decode cX3_copyRefusal 0 = .ok (.aload_n 1, 1) := by decide +kernel
theorem dX3_copyRefusal_1 : decode cX3_copyRefusal 1 = .ok (.ifnonnull 5, 3) := by decide +kernel
theorem dX3_copyRefusal_4 : decode cX3_copyRefusal 4 = .ok (.iconst 1, 1) := by decide +kernel
theorem dX3_copyRefusal_5 : decode cX3_copyRefusal 5 = .ok (.ireturn, 1) := by decide +kernel
theorem dX3_copyRefusal_6 : decode cX3_copyRefusal 6 = .ok (.iconst 1, 1) := by decide +kernel
theorem dX3_copyRefusal_7 : decode cX3_copyRefusal 7 = .ok (.istore_n 3, 1) := by decide +kernel
theorem dX3_copyRefusal_8 : decode cX3_copyRefusal 8 = .ok (.iload_n 2, 1) := by decide +kernel
theorem dX3_copyRefusal_9 : decode cX3_copyRefusal 9 = .ok (.ifCond .eq 26, 3) := by decide +kernel
theorem dX3_copyRefusal_12 : decode cX3_copyRefusal 12 = .ok (.aload_n 0, 1) := by decide +kernel
theorem dX3_copyRefusal_13 : decode cX3_copyRefusal 13 = .ok (.aload_n 1, 1) := by decide +kernel
theorem dX3_copyRefusal_14 : decode cX3_copyRefusal 14 = .ok (.invokevirtual 92, 3) := by decide +kernel
theorem dX3_copyRefusal_17 : decode cX3_copyRefusal 17 = .ok (.istore 4, 2) := by decide +kernel
theorem dX3_copyRefusal_19 : decode cX3_copyRefusal 19 = .ok (.iload 4, 2) := by decide +kernel
theorem dX3_copyRefusal_21 : decode cX3_copyRefusal 21 = .ok (.ifCond .eq 6, 3) := by decide +kernel
theorem dX3_copyRefusal_24 : decode cX3_copyRefusal 24 = .ok (.iload 4, 2) := by decide +kernel
theorem dX3_copyRefusal_26 : decode cX3_copyRefusal 26 = .ok (.ireturn, 1) := by decide +kernel
theorem dX3_copyRefusal_27 : decode cX3_copyRefusal 27 = .ok (.aload_n 0, 1) := by decide +kernel
theorem dX3_copyRefusal_28 : decode cX3_copyRefusal 28 = .ok (.getfield 18, 3) := by decide +kernel
theorem dX3_copyRefusal_31 : decode cX3_copyRefusal 31 = .ok (.getfield 150, 3) := by decide +kernel
theorem dX3_copyRefusal_34 : decode cX3_copyRefusal 34 = .ok (.istore_n 3, 1) := by decide +kernel
theorem dX3_copyRefusal_35 : decode cX3_copyRefusal 35 = .ok (.aload_n 0, 1) := by decide +kernel
theorem dX3_copyRefusal_36 : decode cX3_copyRefusal 36 = .ok (.iload_n 3, 1) := by decide +kernel
theorem dX3_copyRefusal_37 : decode cX3_copyRefusal 37 = .ok (.invokevirtual 29, 3) := by decide +kernel
theorem dX3_copyRefusal_40 : decode cX3_copyRefusal 40 = .ok (.ifCond .eq 7, 3) := by decide +kernel
theorem dX3_copyRefusal_43 : decode cX3_copyRefusal 43 = .ok (.iconst 0, 1) := by decide +kernel
theorem dX3_copyRefusal_44 : decode cX3_copyRefusal 44 = .ok (.goto 5, 3) := by decide +kernel
theorem dX3_copyRefusal_47 : decode cX3_copyRefusal 47 = .ok (.bipush 7, 2) := by decide +kernel
theorem dX3_copyRefusal_49 : decode cX3_copyRefusal 49 = .ok (.ireturn, 1) := by decide +kernel
theorem dX3_shelveTwins_0 : decode cX3_shelveTwins 0 = .ok (.aload_n 0, 1) := by decide +kernel
theorem dX3_shelveTwins_1 : decode cX3_shelveTwins 1 = .ok (.getfield 22, 3) := by decide +kernel
theorem dX3_shelveTwins_4 : decode cX3_shelveTwins 4 = .ok (.istore_n 2, 1) := by decide +kernel
theorem dX3_shelveTwins_5 : decode cX3_shelveTwins 5 = .ok (.aload_n 1, 1) := by decide +kernel
theorem dX3_shelveTwins_6 : decode cX3_shelveTwins 6 = .ok (.astore_n 3, 1) := by decide +kernel
theorem dX3_shelveTwins_7 : decode cX3_shelveTwins 7 = .ok (.iconst 0, 1) := by decide +kernel
theorem dX3_shelveTwins_8 : decode cX3_shelveTwins 8 = .ok (.istore 4, 2) := by decide +kernel
theorem dX3_shelveTwins_10 : decode cX3_shelveTwins 10 = .ok (.iload 4, 2) := by decide +kernel
theorem dX3_shelveTwins_12 : decode cX3_shelveTwins 12 = .ok (.sipush 2000, 3) := by decide +kernel
theorem dX3_shelveTwins_15 : decode cX3_shelveTwins 15 = .ok (.if_icmp .ge 39, 3) := by decide +kernel
theorem dX3_shelveTwins_18 : decode cX3_shelveTwins 18 = .ok (.aload_n 3, 1) := by decide +kernel
theorem dX3_shelveTwins_19 : decode cX3_shelveTwins 19 = .ok (.ifnull 35, 3) := by decide +kernel
theorem dX3_shelveTwins_22 : decode cX3_shelveTwins 22 = .ok (.aload_n 3, 1) := by decide +kernel
theorem dX3_shelveTwins_23 : decode cX3_shelveTwins 23 = .ok (.aload_n 3, 1) := by decide +kernel
theorem dX3_shelveTwins_24 : decode cX3_shelveTwins 24 = .ok (.aload_n 0, 1) := by decide +kernel
theorem dX3_shelveTwins_25 : decode cX3_shelveTwins 25 = .ok (.getfield 22, 3) := by decide +kernel
theorem dX3_shelveTwins_28 : decode cX3_shelveTwins 28 = .ok (.invokevirtual 125, 3) := by decide +kernel
theorem dX3_shelveTwins_31 : decode cX3_shelveTwins 31 = .ok (.putfield 153, 3) := by decide +kernel
theorem dX3_shelveTwins_34 : decode cX3_shelveTwins 34 = .ok (.aload_n 0, 1) := by decide +kernel
theorem dX3_shelveTwins_35 : decode cX3_shelveTwins 35 = .ok (.aload_n 3, 1) := by decide +kernel
theorem dX3_shelveTwins_36 : decode cX3_shelveTwins 36 = .ok (.getfield 153, 3) := by decide +kernel
theorem dX3_shelveTwins_39 : decode cX3_shelveTwins 39 = .ok (.invokevirtual 39, 3) := by decide +kernel
theorem dX3_shelveTwins_42 : decode cX3_shelveTwins 42 = .ok (.pop, 1) := by decide +kernel
theorem dX3_shelveTwins_43 : decode cX3_shelveTwins 43 = .ok (.aload_n 3, 1) := by decide +kernel
theorem dX3_shelveTwins_44 : decode cX3_shelveTwins 44 = .ok (.getfield 157, 3) := by decide +kernel
theorem dX3_shelveTwins_47 : decode cX3_shelveTwins 47 = .ok (.astore_n 3, 1) := by decide +kernel
theorem dX3_shelveTwins_48 : decode cX3_shelveTwins 48 = .ok (.iinc 4 1, 3) := by decide +kernel
theorem dX3_shelveTwins_51 : decode cX3_shelveTwins 51 = .ok (.goto (-41), 3) := by decide +kernel
theorem dX3_shelveTwins_54 : decode cX3_shelveTwins 54 = .ok (.aload_n 1, 1) := by decide +kernel
theorem dX3_shelveTwins_55 : decode cX3_shelveTwins 55 = .ok (.astore_n 3, 1) := by decide +kernel
theorem dX3_shelveTwins_56 : decode cX3_shelveTwins 56 = .ok (.iconst 0, 1) := by decide +kernel
theorem dX3_shelveTwins_57 : decode cX3_shelveTwins 57 = .ok (.istore 4, 2) := by decide +kernel
theorem dX3_shelveTwins_59 : decode cX3_shelveTwins 59 = .ok (.iload 4, 2) := by decide +kernel
theorem dX3_shelveTwins_61 : decode cX3_shelveTwins 61 = .ok (.sipush 2000, 3) := by decide +kernel
theorem dX3_shelveTwins_64 : decode cX3_shelveTwins 64 = .ok (.if_icmp .ge 22, 3) := by decide +kernel
theorem dX3_shelveTwins_67 : decode cX3_shelveTwins 67 = .ok (.aload_n 3, 1) := by decide +kernel
theorem dX3_shelveTwins_68 : decode cX3_shelveTwins 68 = .ok (.ifnull 18, 3) := by decide +kernel
theorem dX3_shelveTwins_71 : decode cX3_shelveTwins 71 = .ok (.aload_n 3, 1) := by decide +kernel
theorem dX3_shelveTwins_72 : decode cX3_shelveTwins 72 = .ok (.invokestatic 160, 3) := by decide +kernel
theorem dX3_shelveTwins_75 : decode cX3_shelveTwins 75 = .ok (.aload_n 3, 1) := by decide +kernel
theorem dX3_shelveTwins_76 : decode cX3_shelveTwins 76 = .ok (.getfield 157, 3) := by decide +kernel
theorem dX3_shelveTwins_79 : decode cX3_shelveTwins 79 = .ok (.astore_n 3, 1) := by decide +kernel
theorem dX3_shelveTwins_80 : decode cX3_shelveTwins 80 = .ok (.iinc 4 1, 3) := by decide +kernel
theorem dX3_shelveTwins_83 : decode cX3_shelveTwins 83 = .ok (.goto (-24), 3) := by decide +kernel
theorem dX3_shelveTwins_86 : decode cX3_shelveTwins 86 = .ok (.iload_n 2, 1) := by decide +kernel
theorem dX3_shelveTwins_87 : decode cX3_shelveTwins 87 = .ok (.ireturn, 1) := by decide +kernel
theorem dX3_hangTwins_0 : decode cX3_hangTwins 0 = .ok (.aload_n 0, 1) := by decide +kernel
theorem dX3_hangTwins_1 : decode cX3_hangTwins 1 = .ok (.getfield 153, 3) := by decide +kernel
theorem dX3_hangTwins_4 : decode cX3_hangTwins 4 = .ok (.astore_n 1, 1) := by decide +kernel
theorem dX3_hangTwins_5 : decode cX3_hangTwins 5 = .ok (.aload_n 1, 1) := by decide +kernel
theorem dX3_hangTwins_6 : decode cX3_hangTwins 6 = .ok (.ifnonnull 4, 3) := by decide +kernel
theorem dX3_hangTwins_9 : decode cX3_hangTwins 9 = .ok (.return_, 1) := by decide +kernel
theorem dX3_hangTwins_10 : decode cX3_hangTwins 10 = .ok (.iconst 0, 1) := by decide +kernel
theorem dX3_hangTwins_11 : decode cX3_hangTwins 11 = .ok (.istore_n 2, 1) := by decide +kernel
theorem dX3_hangTwins_12 : decode cX3_hangTwins 12 = .ok (.iload_n 2, 1) := by decide +kernel
theorem dX3_hangTwins_13 : decode cX3_hangTwins 13 = .ok (.aload_n 1, 1) := by decide +kernel
theorem dX3_hangTwins_14 : decode cX3_hangTwins 14 = .ok (.getfield 65, 3) := by decide +kernel
theorem dX3_hangTwins_17 : decode cX3_hangTwins 17 = .ok (.arraylength, 1) := by decide +kernel
theorem dX3_hangTwins_18 : decode cX3_hangTwins 18 = .ok (.if_icmp .ge 30, 3) := by decide +kernel
theorem dX3_hangTwins_21 : decode cX3_hangTwins 21 = .ok (.aload_n 1, 1) := by decide +kernel
theorem dX3_hangTwins_22 : decode cX3_hangTwins 22 = .ok (.getfield 65, 3) := by decide +kernel
theorem dX3_hangTwins_25 : decode cX3_hangTwins 25 = .ok (.iload_n 2, 1) := by decide +kernel
theorem dX3_hangTwins_26 : decode cX3_hangTwins 26 = .ok (.aaload, 1) := by decide +kernel
theorem dX3_hangTwins_27 : decode cX3_hangTwins 27 = .ok (.astore_n 3, 1) := by decide +kernel
theorem dX3_hangTwins_28 : decode cX3_hangTwins 28 = .ok (.aload_n 3, 1) := by decide +kernel
theorem dX3_hangTwins_29 : decode cX3_hangTwins 29 = .ok (.ifnull 13, 3) := by decide +kernel
theorem dX3_hangTwins_32 : decode cX3_hangTwins 32 = .ok (.aload_n 1, 1) := by decide +kernel
theorem dX3_hangTwins_33 : decode cX3_hangTwins 33 = .ok (.getfield 65, 3) := by decide +kernel
theorem dX3_hangTwins_36 : decode cX3_hangTwins 36 = .ok (.iload_n 2, 1) := by decide +kernel
theorem dX3_hangTwins_37 : decode cX3_hangTwins 37 = .ok (.aload_n 3, 1) := by decide +kernel
theorem dX3_hangTwins_38 : decode cX3_hangTwins 38 = .ok (.getfield 153, 3) := by decide +kernel
theorem dX3_hangTwins_41 : decode cX3_hangTwins 41 = .ok (.aastore, 1) := by decide +kernel
theorem dX3_hangTwins_42 : decode cX3_hangTwins 42 = .ok (.iinc 2 1, 3) := by decide +kernel
theorem dX3_hangTwins_45 : decode cX3_hangTwins 45 = .ok (.goto (-33), 3) := by decide +kernel
theorem dX3_hangTwins_48 : decode cX3_hangTwins 48 = .ok (.return_, 1) := by decide +kernel
theorem dX3_holdsPlainToken_0 : decode cX3_holdsPlainToken 0 = .ok (.iconst 0, 1) := by decide +kernel
theorem dX3_holdsPlainToken_1 : decode cX3_holdsPlainToken 1 = .ok (.istore_n 1, 1) := by decide +kernel
theorem dX3_holdsPlainToken_2 : decode cX3_holdsPlainToken 2 = .ok (.iload_n 1, 1) := by decide +kernel
theorem dX3_holdsPlainToken_3 : decode cX3_holdsPlainToken 3 = .ok (.aload_n 0, 1) := by decide +kernel
theorem dX3_holdsPlainToken_4 : decode cX3_holdsPlainToken 4 = .ok (.arraylength, 1) := by decide +kernel
theorem dX3_holdsPlainToken_5 : decode cX3_holdsPlainToken 5 = .ok (.if_icmp .ge 28, 3) := by decide +kernel
theorem dX3_holdsPlainToken_8 : decode cX3_holdsPlainToken 8 = .ok (.aload_n 0, 1) := by decide +kernel
theorem dX3_holdsPlainToken_9 : decode cX3_holdsPlainToken 9 = .ok (.iload_n 1, 1) := by decide +kernel
theorem dX3_holdsPlainToken_10 : decode cX3_holdsPlainToken 10 = .ok (.aaload, 1) := by decide +kernel
theorem dX3_holdsPlainToken_11 : decode cX3_holdsPlainToken 11 = .ok (.astore_n 2, 1) := by decide +kernel
theorem dX3_holdsPlainToken_12 : decode cX3_holdsPlainToken 12 = .ok (.aload_n 2, 1) := by decide +kernel
theorem dX3_holdsPlainToken_13 : decode cX3_holdsPlainToken 13 = .ok (.ifnull 14, 3) := by decide +kernel
theorem dX3_holdsPlainToken_16 : decode cX3_holdsPlainToken 16 = .ok (.aload_n 2, 1) := by decide +kernel
theorem dX3_holdsPlainToken_17 : decode cX3_holdsPlainToken 17 = .ok (.getfield 47, 3) := by decide +kernel
theorem dX3_holdsPlainToken_20 : decode cX3_holdsPlainToken 20 = .ok (.bipush 7, 2) := by decide +kernel
theorem dX3_holdsPlainToken_22 : decode cX3_holdsPlainToken 22 = .ok (.if_icmp .ne 5, 3) := by decide +kernel
theorem dX3_holdsPlainToken_25 : decode cX3_holdsPlainToken 25 = .ok (.iconst 1, 1) := by decide +kernel
theorem dX3_holdsPlainToken_26 : decode cX3_holdsPlainToken 26 = .ok (.ireturn, 1) := by decide +kernel
theorem dX3_holdsPlainToken_27 : decode cX3_holdsPlainToken 27 = .ok (.iinc 1 1, 3) := by decide +kernel
theorem dX3_holdsPlainToken_30 : decode cX3_holdsPlainToken 30 = .ok (.goto (-28), 3) := by decide +kernel
theorem dX3_holdsPlainToken_33 : decode cX3_holdsPlainToken 33 = .ok (.iconst 0, 1) := by decide +kernel
theorem dX3_holdsPlainToken_34 : decode cX3_holdsPlainToken 34 = .ok (.ireturn, 1) := by decide +kernel
theorem dX3_putInOrder_0 : decode cX3_putInOrder 0 = .ok (.iconst 1, 1) := by decide +kernel
theorem dX3_putInOrder_1 : decode cX3_putInOrder 1 = .ok (.istore_n 1, 1) := by decide +kernel
theorem dX3_putInOrder_2 : decode cX3_putInOrder 2 = .ok (.iload_n 1, 1) := by decide +kernel
theorem dX3_putInOrder_3 : decode cX3_putInOrder 3 = .ok (.aload_n 0, 1) := by decide +kernel
theorem dX3_putInOrder_4 : decode cX3_putInOrder 4 = .ok (.arraylength, 1) := by decide +kernel
theorem dX3_putInOrder_5 : decode cX3_putInOrder 5 = .ok (.if_icmp .ge 49, 3) := by decide +kernel
theorem dX3_putInOrder_8 : decode cX3_putInOrder 8 = .ok (.aload_n 0, 1) := by decide +kernel
theorem dX3_putInOrder_9 : decode cX3_putInOrder 9 = .ok (.iload_n 1, 1) := by decide +kernel
theorem dX3_putInOrder_10 : decode cX3_putInOrder 10 = .ok (.aaload, 1) := by decide +kernel
theorem dX3_putInOrder_11 : decode cX3_putInOrder 11 = .ok (.astore_n 2, 1) := by decide +kernel
theorem dX3_putInOrder_12 : decode cX3_putInOrder 12 = .ok (.iload_n 1, 1) := by decide +kernel
theorem dX3_putInOrder_13 : decode cX3_putInOrder 13 = .ok (.istore_n 3, 1) := by decide +kernel
theorem dX3_putInOrder_14 : decode cX3_putInOrder 14 = .ok (.iload_n 3, 1) := by decide +kernel
theorem dX3_putInOrder_15 : decode cX3_putInOrder 15 = .ok (.ifCond .le 29, 3) := by decide +kernel
theorem dX3_putInOrder_18 : decode cX3_putInOrder 18 = .ok (.aload_n 0, 1) := by decide +kernel
theorem dX3_putInOrder_19 : decode cX3_putInOrder 19 = .ok (.iload_n 3, 1) := by decide +kernel
theorem dX3_putInOrder_20 : decode cX3_putInOrder 20 = .ok (.iconst 1, 1) := by decide +kernel
theorem dX3_putInOrder_21 : decode cX3_putInOrder 21 = .ok (.isub, 1) := by decide +kernel
theorem dX3_putInOrder_22 : decode cX3_putInOrder 22 = .ok (.aaload, 1) := by decide +kernel
theorem dX3_putInOrder_23 : decode cX3_putInOrder 23 = .ok (.aload_n 2, 1) := by decide +kernel
theorem dX3_putInOrder_24 : decode cX3_putInOrder 24 = .ok (.invokestatic 163, 3) := by decide +kernel
theorem dX3_putInOrder_27 : decode cX3_putInOrder 27 = .ok (.ifCond .eq 17, 3) := by decide +kernel
theorem dX3_putInOrder_30 : decode cX3_putInOrder 30 = .ok (.aload_n 0, 1) := by decide +kernel
theorem dX3_putInOrder_31 : decode cX3_putInOrder 31 = .ok (.iload_n 3, 1) := by decide +kernel
theorem dX3_putInOrder_32 : decode cX3_putInOrder 32 = .ok (.aload_n 0, 1) := by decide +kernel
theorem dX3_putInOrder_33 : decode cX3_putInOrder 33 = .ok (.iload_n 3, 1) := by decide +kernel
theorem dX3_putInOrder_34 : decode cX3_putInOrder 34 = .ok (.iconst 1, 1) := by decide +kernel
theorem dX3_putInOrder_35 : decode cX3_putInOrder 35 = .ok (.isub, 1) := by decide +kernel
theorem dX3_putInOrder_36 : decode cX3_putInOrder 36 = .ok (.aaload, 1) := by decide +kernel
theorem dX3_putInOrder_37 : decode cX3_putInOrder 37 = .ok (.aastore, 1) := by decide +kernel
theorem dX3_putInOrder_38 : decode cX3_putInOrder 38 = .ok (.iinc 3 (-1), 3) := by decide +kernel
theorem dX3_putInOrder_41 : decode cX3_putInOrder 41 = .ok (.goto (-27), 3) := by decide +kernel
theorem dX3_putInOrder_44 : decode cX3_putInOrder 44 = .ok (.aload_n 0, 1) := by decide +kernel
theorem dX3_putInOrder_45 : decode cX3_putInOrder 45 = .ok (.iload_n 3, 1) := by decide +kernel
theorem dX3_putInOrder_46 : decode cX3_putInOrder 46 = .ok (.aload_n 2, 1) := by decide +kernel
theorem dX3_putInOrder_47 : decode cX3_putInOrder 47 = .ok (.aastore, 1) := by decide +kernel
theorem dX3_putInOrder_48 : decode cX3_putInOrder 48 = .ok (.iinc 1 1, 3) := by decide +kernel
theorem dX3_putInOrder_51 : decode cX3_putInOrder 51 = .ok (.goto (-49), 3) := by decide +kernel
theorem dX3_putInOrder_54 : decode cX3_putInOrder 54 = .ok (.return_, 1) := by decide +kernel
theorem dX3_belongsBehind_0 : decode cX3_belongsBehind 0 = .ok (.aload_n 1, 1) := by decide +kernel
theorem dX3_belongsBehind_1 : decode cX3_belongsBehind 1 = .ok (.ifnonnull 5, 3) := by decide +kernel
theorem dX3_belongsBehind_4 : decode cX3_belongsBehind 4 = .ok (.iconst 0, 1) := by decide +kernel
theorem dX3_belongsBehind_5 : decode cX3_belongsBehind 5 = .ok (.ireturn, 1) := by decide +kernel
theorem dX3_belongsBehind_6 : decode cX3_belongsBehind 6 = .ok (.aload_n 0, 1) := by decide +kernel
theorem dX3_belongsBehind_7 : decode cX3_belongsBehind 7 = .ok (.ifnull 14, 3) := by decide +kernel
theorem dX3_belongsBehind_10 : decode cX3_belongsBehind 10 = .ok (.aload_n 0, 1) := by decide +kernel
theorem dX3_belongsBehind_11 : decode cX3_belongsBehind 11 = .ok (.getfield 76, 3) := by decide +kernel
theorem dX3_belongsBehind_14 : decode cX3_belongsBehind 14 = .ok (.aload_n 1, 1) := by decide +kernel
theorem dX3_belongsBehind_15 : decode cX3_belongsBehind 15 = .ok (.getfield 76, 3) := by decide +kernel
theorem dX3_belongsBehind_18 : decode cX3_belongsBehind 18 = .ok (.if_icmp .le 7, 3) := by decide +kernel
theorem dX3_belongsBehind_21 : decode cX3_belongsBehind 21 = .ok (.iconst 1, 1) := by decide +kernel
theorem dX3_belongsBehind_22 : decode cX3_belongsBehind 22 = .ok (.goto 4, 3) := by decide +kernel
theorem dX3_belongsBehind_25 : decode cX3_belongsBehind 25 = .ok (.iconst 0, 1) := by decide +kernel
theorem dX3_belongsBehind_26 : decode cX3_belongsBehind 26 = .ok (.ireturn, 1) := by decide +kernel
