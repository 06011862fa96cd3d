theorem dX4_init_0 : decode cX4_init 0 = .ok (.aload_n 0, 1) := by decide +kernel
theorem dX4_init_1 : decode cX4_init 1 = .ok (.invokespecial 1, 3) := by decide +kernel
theorem dX4_init_4 : decode cX4_init 4 = .ok (.aload_n 0, 1) := by decide +kernel
theorem dX4_init_5 : decode cX4_init 5 = .ok (.sipush 2000, 3) := by decide +kernel
theorem dX4_init_8 : decode cX4_init 8 = .ok (.newarray .int, 2) := by decide +kernel
theorem dX4_init_10 : decode cX4_init 10 = .ok (.putfield 7, 3) := by decide +kernel
theorem dX4_init_13 : decode cX4_init 13 = .ok (.aload_n 0, 1) := by decide +kernel
theorem dX4_init_14 : decode cX4_init 14 = .ok (.sipush 2000, 3) := by decide +kernel
theorem dX4_init_17 : decode cX4_init 17 = .ok (.newarray .int, 2) := by decide +kernel
theorem dX4_init_19 : decode cX4_init 19 = .ok (.putfield 13, 3) := by decide +kernel
theorem dX4_init_22 : decode cX4_init 22 = .ok (.aload_n 0, 1) := by decide +kernel
theorem dX4_init_23 : decode cX4_init 23 = .ok (.sipush 2000, 3) := by decide +kernel
theorem dX4_init_26 : decode cX4_init 26 = .ok (.newarray .int, 2) := by decide +kernel
theorem dX4_init_28 : decode cX4_init 28 = .ok (.putfield 16, 3) := by decide +kernel
theorem dX4_init_31 : decode cX4_init 31 = .ok (.aload_n 0, 1) := by decide +kernel
theorem dX4_init_32 : decode cX4_init 32 = .ok (.sipush 2000, 3) := by decide +kernel
theorem dX4_init_35 : decode cX4_init 35 = .ok (.newarray .int, 2) := by decide +kernel
theorem dX4_init_37 : decode cX4_init 37 = .ok (.putfield 19, 3) := by decide +kernel
theorem dX4_init_40 : decode cX4_init 40 = .ok (.aload_n 0, 1) := by decide +kernel
theorem dX4_init_41 : decode cX4_init 41 = .ok (.ldc 22, 2) := by decide +kernel
theorem dX4_init_43 : decode cX4_init 43 = .ok (.newarray .long, 2) := by decide +kernel
theorem dX4_init_45 : decode cX4_init 45 = .ok (.putfield 23, 3) := by decide +kernel
theorem dX4_init_48 : decode cX4_init 48 = .ok (.aload_n 0, 1) := by decide +kernel
theorem dX4_init_49 : decode cX4_init 49 = .ok (.sipush 2000, 3) := by decide +kernel
theorem dX4_init_52 : decode cX4_init 52 = .ok (.newarray .int, 2) := by decide +kernel
theorem dX4_init_54 : decode cX4_init 54 = .ok (.putfield 27, 3) := by decide +kernel
theorem dX4_init_57 : decode cX4_init 57 = .ok (.aload_n 0, 1) := by decide +kernel
theorem dX4_init_58 : decode cX4_init 58 = .ok (.sipush 2000, 3) := by decide +kernel
theorem dX4_init_61 : decode cX4_init 61 = .ok (.newarray .int, 2) := by decide +kernel
theorem dX4_init_63 : decode cX4_init 63 = .ok (.putfield 30, 3) := by decide +kernel
theorem dX4_init_66 : decode cX4_init 66 = .ok (.aload_n 0, 1) := by decide +kernel
theorem dX4_init_67 : decode cX4_init 67 = .ok (.sipush 2000, 3) := by decide +kernel
theorem dX4_init_70 : decode cX4_init 70 = .ok (.newarray .int, 2) := by decide +kernel
theorem dX4_init_72 : decode cX4_init 72 = .ok (.putfield 33, 3) := by decide +kernel
theorem dX4_init_75 : decode cX4_init 75 = .ok (.aload_n 0, 1) := by decide +kernel
theorem dX4_init_76 : decode cX4_init 76 = .ok (.sipush 2000, 3) := by decide +kernel
theorem dX4_init_79 : decode cX4_init 79 = .ok (.newarray .int, 2) := by decide +kernel
theorem dX4_init_81 : decode cX4_init 81 = .ok (.putfield 36, 3) := by decide +kernel
theorem dX4_init_84 : decode cX4_init 84 = .ok (.aload_n 0, 1) := by decide +kernel
theorem dX4_init_85 : decode cX4_init 85 = .ok (.sipush 2000, 3) := by decide +kernel
theorem dX4_init_88 : decode cX4_init 88 = .ok (.newarray .int, 2) := by decide +kernel
theorem dX4_init_90 : decode cX4_init 90 = .ok (.putfield 39, 3) := by decide +kernel
theorem dX4_init_93 : decode cX4_init 93 = .ok (.aload_n 0, 1) := by decide +kernel
theorem dX4_init_94 : decode cX4_init 94 = .ok (.sipush 2000, 3) := by decide +kernel
theorem dX4_init_97 : decode cX4_init 97 = .ok (.newarray .int, 2) := by decide +kernel
theorem dX4_init_99 : decode cX4_init 99 = .ok (.putfield 42, 3) := by decide +kernel
theorem dX4_init_102 : decode cX4_init 102 = .ok (.aload_n 0, 1) := by decide +kernel
theorem dX4_init_103 : decode cX4_init 103 = .ok (.sipush 2000, 3) := by decide +kernel
theorem dX4_init_106 : decode cX4_init 106 = .ok (.newarray .long, 2) := by decide +kernel
theorem dX4_init_108 : decode cX4_init 108 = .ok (.putfield 45, 3) := by decide +kernel
theorem dX4_init_111 : decode cX4_init 111 = .ok (.aload_n 0, 1) := by decide +kernel
theorem dX4_init_112 : decode cX4_init 112 = .ok (.sipush 2000, 3) := by decide +kernel
theorem dX4_init_115 : decode cX4_init 115 = .ok (.newarray .int, 2) := by decide +kernel
theorem dX4_init_117 : decode cX4_init 117 = .ok (.putfield 48, 3) := by decide +kernel
theorem dX4_init_120 : decode cX4_init 120 = .ok (.aload_n 0, 1) := by decide +kernel
theorem dX4_init_121 : decode cX4_init 121 = .ok (.sipush 2000, 3) := by decide +kernel
theorem dX4_init_124 : decode cX4_init 124 = .ok (.newarray .long, 2) := by decide +kernel
theorem dX4_init_126 : decode cX4_init 126 = .ok (.putfield 51, 3) := by decide +kernel
theorem dX4_init_129 : decode cX4_init 129 = .ok (.aload_n 0, 1) := by decide +kernel
theorem dX4_init_130 : decode cX4_init 130 = .ok (.sipush 500, 3) := by decide +kernel
theorem dX4_init_133 : decode cX4_init 133 = .ok (.newarray .int, 2) := by decide +kernel
theorem dX4_init_135 : decode cX4_init 135 = .ok (.putfield 54, 3) := by decide +kernel
theorem dX4_init_138 : decode cX4_init 138 = .ok (.iconst 0, 1) := by decide +kernel
theorem dX4_init_139 : decode cX4_init 139 = .ok (.istore_n 1, 1) := by decide +kernel
theorem dX4_init_140 : decode cX4_init 140 = .ok (.iload_n 1, 1) := by decide +kernel
theorem dX4_init_141 : decode cX4_init 141 = .ok (.sipush 2000, 3) := by decide +kernel
theorem dX4_init_144 : decode cX4_init 144 = .ok (.if_icmp .ge 16, 3) := by decide +kernel
theorem dX4_init_147 : decode cX4_init 147 = .ok (.aload_n 0, 1) := by decide +kernel
theorem dX4_init_148 : decode cX4_init 148 = .ok (.getfield 48, 3) := by decide +kernel
theorem dX4_init_151 : decode cX4_init 151 = .ok (.iload_n 1, 1) := by decide +kernel
theorem dX4_init_152 : decode cX4_init 152 = .ok (.iconst (-1), 1) := by decide +kernel
theorem dX4_init_153 : decode cX4_init 153 = .ok (.iastore, 1) := by decide +kernel
theorem dX4_init_154 : decode cX4_init 154 = .ok (.iinc 1 1, 3) := by decide +kernel
theorem dX4_init_157 : decode cX4_init 157 = .ok (.goto (-17), 3) := by decide +kernel
theorem dX4_init_160 : decode cX4_init 160 = .ok (.return_, 1) := by decide +kernel
theorem dX4_in_0 : decode cX4_in 0 = .ok (.iload_n 0, 1) := by decide +kernel
theorem dX4_in_1 : decode cX4_in 1 = .ok (.iload_n 1, 1) := by decide +kernel
theorem dX4_in_2 : decode cX4_in 2 = .ok (.if_icmp .lt 12, 3) := by decide +kernel
theorem dX4_in_5 : decode cX4_in 5 = .ok (.iload_n 0, 1) := by decide +kernel
theorem dX4_in_6 : decode cX4_in 6 = .ok (.iload_n 2, 1) := by decide +kernel
theorem dX4_in_7 : decode cX4_in 7 = .ok (.if_icmp .gt 7, 3) := by decide +kernel
theorem dX4_in_10 : decode cX4_in 10 = .ok (.iconst 1, 1) := by decide +kernel
theorem dX4_in_11 : decode cX4_in 11 = .ok (.goto 4, 3) := by decide +kernel
theorem dX4_in_14 : decode cX4_in 14 = .ok (.iconst 0, 1) := by decide +kernel
theorem dX4_in_15 : decode cX4_in 15 = .ok (.ireturn, 1) := by decide +kernel
theorem dX4_isThere_0 : decode cX4_isThere 0 = .ok (.iload_n 1, 1) := by decide +kernel
theorem dX4_isThere_1 : decode cX4_isThere 1 = .ok (.iconst 0, 1) := by decide +kernel
theorem dX4_isThere_2 : decode cX4_isThere 2 = .ok (.aload_n 0, 1) := by decide +kernel
theorem dX4_isThere_3 : decode cX4_isThere 3 = .ok (.getfield 57, 3) := by decide +kernel
theorem dX4_isThere_6 : decode cX4_isThere 6 = .ok (.iconst 1, 1) := by decide +kernel
theorem dX4_isThere_7 : decode cX4_isThere 7 = .ok (.isub, 1) := by decide +kernel
theorem dX4_isThere_8 : decode cX4_isThere 8 = .ok (.invokestatic 61, 3) := by decide +kernel
theorem dX4_isThere_11 : decode cX4_isThere 11 = .ok (.ireturn, 1) := by decide +kernel
theorem dX4_isNumbers_0 : decode cX4_isNumbers 0 = .ok (.iload_n 0, 1) := by decide +kernel
theorem dX4_isNumbers_1 : decode cX4_isNumbers 1 = .ok (.iconst 3, 1) := by decide +kernel
theorem dX4_isNumbers_2 : decode cX4_isNumbers 2 = .ok (.if_icmp .ge 7, 3) := by decide +kernel
theorem dX4_isNumbers_5 : decode cX4_isNumbers 5 = .ok (.iconst 1, 1) := by decide +kernel
theorem dX4_isNumbers_6 : decode cX4_isNumbers 6 = .ok (.goto 4, 3) := by decide +kernel
theorem dX4_isNumbers_9 : decode cX4_isNumbers 9 = .ok (.iconst 0, 1) := by decide +kernel
theorem dX4_isNumbers_10 : decode cX4_isNumbers 10 = .ok (.ireturn, 1) := by decide +kernel
theorem dX4_isHook_0 : decode cX4_isHook 0 = .ok (.iload_n 0, 1) := by decide +kernel
theorem dX4_isHook_1 : decode cX4_isHook 1 = .ok (.iconst 3, 1) := by decide +kernel
theorem dX4_isHook_2 : decode cX4_isHook 2 = .ok (.bipush 7, 2) := by decide +kernel
theorem dX4_isHook_4 : decode cX4_isHook 4 = .ok (.invokestatic 61, 3) := by decide +kernel
theorem dX4_isHook_7 : decode cX4_isHook 7 = .ok (.ireturn, 1) := by decide +kernel
theorem dX4_hung_0 : decode cX4_hung 0 = .ok (.aload_n 0, 1) := by decide +kernel
theorem dX4_hung_1 : decode cX4_hung 1 = .ok (.getfield 23, 3) := by decide +kernel
theorem dX4_hung_4 : decode cX4_hung 4 = .ok (.aload_n 0, 1) := by decide +kernel
theorem dX4_hung_5 : decode cX4_hung 5 = .ok (.getfield 19, 3) := by decide +kernel
theorem dX4_hung_8 : decode cX4_hung 8 = .ok (.iload_n 1, 1) := by decide +kernel
theorem dX4_hung_9 : decode cX4_hung 9 = .ok (.iaload, 1) := by decide +kernel
theorem dX4_hung_10 : decode cX4_hung 10 = .ok (.iload_n 2, 1) := by decide +kernel
theorem dX4_hung_11 : decode cX4_hung 11 = .ok (.iadd, 1) := by decide +kernel
theorem dX4_hung_12 : decode cX4_hung 12 = .ok (.laload, 1) := by decide +kernel
theorem dX4_hung_13 : decode cX4_hung 13 = .ok (.l2i, 1) := by decide +kernel
theorem dX4_hung_14 : decode cX4_hung 14 = .ok (.ireturn, 1) := by decide +kernel
theorem dX4_hooks_0 : decode cX4_hooks 0 = .ok (.aload_n 0, 1) := by decide +kernel
theorem dX4_hooks_1 : decode cX4_hooks 1 = .ok (.getfield 7, 3) := by decide +kernel
theorem dX4_hooks_4 : decode cX4_hooks 4 = .ok (.iload_n 1, 1) := by decide +kernel
theorem dX4_hooks_5 : decode cX4_hooks 5 = .ok (.iaload, 1) := by decide +kernel
theorem dX4_hooks_6 : decode cX4_hooks 6 = .ok (.invokestatic 65, 3) := by decide +kernel
theorem dX4_hooks_9 : decode cX4_hooks 9 = .ok (.ifCond .eq 12, 3) := by decide +kernel
theorem dX4_hooks_12 : decode cX4_hooks 12 = .ok (.aload_n 0, 1) := by decide +kernel
theorem dX4_hooks_13 : decode cX4_hooks 13 = .ok (.getfield 13, 3) := by decide +kernel
theorem dX4_hooks_16 : decode cX4_hooks 16 = .ok (.iload_n 1, 1) := by decide +kernel
theorem dX4_hooks_17 : decode cX4_hooks 17 = .ok (.iaload, 1) := by decide +kernel
theorem dX4_hooks_18 : decode cX4_hooks 18 = .ok (.goto 4, 3) := by decide +kernel
theorem dX4_hooks_21 : decode cX4_hooks 21 = .ok (.iconst 0, 1) := by decide +kernel
theorem dX4_hooks_22 : decode cX4_hooks 22 = .ok (.ireturn, 1) := by decide +kernel
theorem dX4_add_0 : decode cX4_add 0 = .ok (.aload_n 0, 1) := by decide +kernel
theorem dX4_add_1 : decode cX4_add 1 = .ok (.getfield 7, 3) := by decide +kernel
theorem dX4_add_4 : decode cX4_add 4 = .ok (.aload_n 0, 1) := by decide +kernel
theorem dX4_add_5 : decode cX4_add 5 = .ok (.getfield 57, 3) := by decide +kernel
theorem dX4_add_8 : decode cX4_add 8 = .ok (.iload_n 1, 1) := by decide +kernel
theorem dX4_add_9 : decode cX4_add 9 = .ok (.iastore, 1) := by decide +kernel
theorem dX4_add_10 : decode cX4_add 10 = .ok (.aload_n 0, 1) := by decide +kernel
theorem dX4_add_11 : decode cX4_add 11 = .ok (.getfield 13, 3) := by decide +kernel
theorem dX4_add_14 : decode cX4_add 14 = .ok (.aload_n 0, 1) := by decide +kernel
theorem dX4_add_15 : decode cX4_add 15 = .ok (.getfield 57, 3) := by decide +kernel
theorem dX4_add_18 : decode cX4_add 18 = .ok (.iload_n 2, 1) := by decide +kernel
theorem dX4_add_19 : decode cX4_add 19 = .ok (.iastore, 1) := by decide +kernel
theorem dX4_add_20 : decode cX4_add 20 = .ok (.aload_n 0, 1) := by decide +kernel
theorem dX4_add_21 : decode cX4_add 21 = .ok (.getfield 16, 3) := by decide +kernel
theorem dX4_add_24 : decode cX4_add 24 = .ok (.aload_n 0, 1) := by decide +kernel
theorem dX4_add_25 : decode cX4_add 25 = .ok (.getfield 57, 3) := by decide +kernel
theorem dX4_add_28 : decode cX4_add 28 = .ok (.iload_n 3, 1) := by decide +kernel
theorem dX4_add_29 : decode cX4_add 29 = .ok (.iastore, 1) := by decide +kernel
theorem dX4_add_30 : decode cX4_add 30 = .ok (.aload_n 0, 1) := by decide +kernel
theorem dX4_add_31 : decode cX4_add 31 = .ok (.getfield 19, 3) := by decide +kernel
theorem dX4_add_34 : decode cX4_add 34 = .ok (.aload_n 0, 1) := by decide +kernel
theorem dX4_add_35 : decode cX4_add 35 = .ok (.getfield 57, 3) := by decide +kernel
theorem dX4_add_38 : decode cX4_add 38 = .ok (.aload_n 0, 1) := by decide +kernel
theorem dX4_add_39 : decode cX4_add 39 = .ok (.getfield 69, 3) := by decide +kernel
theorem dX4_add_42 : decode cX4_add 42 = .ok (.iastore, 1) := by decide +kernel
theorem dX4_add_43 : decode cX4_add 43 = .ok (.iconst 0, 1) := by decide +kernel
theorem dX4_add_44 : decode cX4_add 44 = .ok (.istore 4, 2) := by decide +kernel
theorem dX4_add_46 : decode cX4_add 46 = .ok (.iload 4, 2) := by decide +kernel
theorem dX4_add_48 : decode cX4_add 48 = .ok (.iload_n 2, 1) := by decide +kernel
theorem dX4_add_49 : decode cX4_add 49 = .ok (.if_icmp .ge 42, 3) := by decide +kernel
theorem dX4_add_52 : decode cX4_add 52 = .ok (.aload_n 0, 1) := by decide +kernel
theorem dX4_add_53 : decode cX4_add 53 = .ok (.getfield 23, 3) := by decide +kernel
theorem dX4_add_56 : decode cX4_add 56 = .ok (.aload_n 0, 1) := by decide +kernel
theorem dX4_add_57 : decode cX4_add 57 = .ok (.getfield 69, 3) := by decide +kernel
theorem dX4_add_60 : decode cX4_add 60 = .ok (.iload_n 1, 1) := by decide +kernel
theorem dX4_add_61 : decode cX4_add 61 = .ok (.invokestatic 65, 3) := by decide +kernel
theorem dX4_add_64 : decode cX4_add 64 = .ok (.ifCond .eq 9, 3) := by decide +kernel
theorem dX4_add_67 : decode cX4_add 67 = .ok (.ldc2_w 72, 3) := by decide +kernel
theorem dX4_add_70 : decode cX4_add 70 = .ok (.goto 4, 3) := by decide +kernel
theorem dX4_add_73 : decode cX4_add 73 = .ok (.lconst 0, 1) := by decide +kernel
theorem dX4_add_74 : decode cX4_add 74 = .ok (.lastore, 1) := by decide +kernel
theorem dX4_add_75 : decode cX4_add 75 = .ok (.aload_n 0, 1) := by decide +kernel
theorem dX4_add_76 : decode cX4_add 76 = .ok (.dup, 1) := by decide +kernel
theorem dX4_add_77 : decode cX4_add 77 = .ok (.getfield 69, 3) := by decide +kernel
theorem dX4_add_80 : decode cX4_add 80 = .ok (.iconst 1, 1) := by decide +kernel
theorem dX4_add_81 : decode cX4_add 81 = .ok (.iadd, 1) := by decide +kernel
theorem dX4_add_82 : decode cX4_add 82 = .ok (.putfield 69, 3) := by decide +kernel
theorem dX4_add_85 : decode cX4_add 85 = .ok (.iinc 4 1, 3) := by decide +kernel
theorem dX4_add_88 : decode cX4_add 88 = .ok (.goto (-42), 3) := by decide +kernel
theorem dX4_add_91 : decode cX4_add 91 = .ok (.aload_n 0, 1) := by decide +kernel
theorem dX4_add_92 : decode cX4_add 92 = .ok (.dup, 1) := by decide +kernel
theorem dX4_add_93 : decode cX4_add 93 = .ok (.getfield 57, 3) := by decide +kernel
theorem dX4_add_96 : decode cX4_add 96 = .ok (.iconst 1, 1) := by decide +kernel
theorem dX4_add_97 : decode cX4_add 97 = .ok (.iadd, 1) := by decide +kernel
theorem dX4_add_98 : decode cX4_add 98 = .ok (.putfield 57, 3) := by decide +kernel
theorem dX4_add_101 : decode cX4_add 101 = .ok (.aload_n 0, 1) := by decide +kernel
theorem dX4_add_102 : decode cX4_add 102 = .ok (.getfield 57, 3) := by decide +kernel
theorem dX4_add_105 : decode cX4_add 105 = .ok (.iconst 1, 1) := by decide +kernel
theorem dX4_add_106 : decode cX4_add 106 = .ok (.isub, 1) := by decide +kernel
theorem dX4_add_107 : decode cX4_add 107 = .ok (.ireturn, 1) := by decide +kernel
theorem dX4_make_0 : decode cX4_make 0 = .ok (.iload_n 1, 1) := by decide +kernel
theorem dX4_make_1 : decode cX4_make 1 = .ok (.iconst 0, 1) := by decide +kernel
theorem dX4_make_2 : decode cX4_make 2 = .ok (.bipush 6, 2) := by decide +kernel
theorem dX4_make_4 : decode cX4_make 4 = .ok (.invokestatic 61, 3) := by decide +kernel
theorem dX4_make_7 : decode cX4_make 7 = .ok (.ifCond .ne 5, 3) := by decide +kernel
theorem dX4_make_10 : decode cX4_make 10 = .ok (.iconst (-1), 1) := by decide +kernel
theorem dX4_make_11 : decode cX4_make 11 = .ok (.ireturn, 1) := by decide +kernel
theorem dX4_make_12 : decode cX4_make 12 = .ok (.iload_n 2, 1) := by decide +kernel
theorem dX4_make_13 : decode cX4_make 13 = .ok (.sipush 500, 3) := by decide +kernel
theorem dX4_make_16 : decode cX4_make 16 = .ok (.if_icmp .gt 13, 3) := by decide +kernel
theorem dX4_make_19 : decode cX4_make 19 = .ok (.aload_n 0, 1) := by decide +kernel
theorem dX4_make_20 : decode cX4_make 20 = .ok (.getfield 57, 3) := by decide +kernel
theorem dX4_make_23 : decode cX4_make 23 = .ok (.sipush 2000, 3) := by decide +kernel
theorem dX4_make_26 : decode cX4_make 26 = .ok (.if_icmp .ne 6, 3) := by decide +kernel
theorem dX4_make_29 : decode cX4_make 29 = .ok (.bipush (-2), 2) := by decide +kernel
theorem dX4_make_31 : decode cX4_make 31 = .ok (.ireturn, 1) := by decide +kernel
theorem dX4_make_32 : decode cX4_make 32 = .ok (.iload_n 2, 1) := by decide +kernel
theorem dX4_make_33 : decode cX4_make 33 = .ok (.ifCond .ge 8, 3) := by decide +kernel
theorem dX4_make_36 : decode cX4_make 36 = .ok (.bipush (-3), 2) := by decide +kernel
theorem dX4_make_38 : decode cX4_make 38 = .ok (.goto 10, 3) := by decide +kernel
theorem dX4_make_41 : decode cX4_make 41 = .ok (.aload_n 0, 1) := by decide +kernel
theorem dX4_make_42 : decode cX4_make 42 = .ok (.iload_n 1, 1) := by decide +kernel
theorem dX4_make_43 : decode cX4_make 43 = .ok (.iload_n 2, 1) := by decide +kernel
theorem dX4_make_44 : decode cX4_make 44 = .ok (.iconst 0, 1) := by decide +kernel
theorem dX4_make_45 : decode cX4_make 45 = .ok (.invokevirtual 74, 3) := by decide +kernel
theorem dX4_make_48 : decode cX4_make 48 = .ok (.ireturn, 1) := by decide +kernel
theorem dX4_token_0 : decode cX4_token 0 = .ok (.aload_n 0, 1) := by decide +kernel
theorem dX4_token_1 : decode cX4_token 1 = .ok (.getfield 57, 3) := by decide +kernel
theorem dX4_token_4 : decode cX4_token 4 = .ok (.sipush 2000, 3) := by decide +kernel
theorem dX4_token_7 : decode cX4_token 7 = .ok (.if_icmp .ne 6, 3) := by decide +kernel
theorem dX4_token_10 : decode cX4_token 10 = .ok (.bipush (-2), 2) := by decide +kernel
theorem dX4_token_12 : decode cX4_token 12 = .ok (.ireturn, 1) := by decide +kernel
theorem dX4_token_13 : decode cX4_token 13 = .ok (.aload_n 0, 1) := by decide +kernel
theorem dX4_token_14 : decode cX4_token 14 = .ok (.iload_n 2, 1) := by decide +kernel
theorem dX4_token_15 : decode cX4_token 15 = .ok (.ifCond .eq 8, 3) := by decide +kernel
theorem dX4_token_18 : decode cX4_token 18 = .ok (.bipush 8, 2) := by decide +kernel
theorem dX4_token_20 : decode cX4_token 20 = .ok (.goto 5, 3) := by decide +kernel
theorem dX4_token_23 : decode cX4_token 23 = .ok (.bipush 7, 2) := by decide +kernel
theorem dX4_token_25 : decode cX4_token 25 = .ok (.iload_n 2, 1) := by decide +kernel
theorem dX4_token_26 : decode cX4_token 26 = .ok (.ifCond .eq 7, 3) := by decide +kernel
theorem dX4_token_29 : decode cX4_token 29 = .ok (.iconst 0, 1) := by decide +kernel
theorem dX4_token_30 : decode cX4_token 30 = .ok (.goto 4, 3) := by decide +kernel
theorem dX4_token_33 : decode cX4_token 33 = .ok (.iconst 1, 1) := by decide +kernel
theorem dX4_token_34 : decode cX4_token 34 = .ok (.iload_n 1, 1) := by decide +kernel
theorem dX4_token_35 : decode cX4_token 35 = .ok (.invokevirtual 74, 3) := by decide +kernel
theorem dX4_token_38 : decode cX4_token 38 = .ok (.ireturn, 1) := by decide +kernel
theorem dX4_put_0 : decode cX4_put 0 = .ok (.aload_n 0, 1) := by decide +kernel
theorem dX4_put_1 : decode cX4_put 1 = .ok (.iload_n 1, 1) := by decide +kernel
theorem dX4_put_2 : decode cX4_put 2 = .ok (.invokevirtual 78, 3) := by decide +kernel
theorem dX4_put_5 : decode cX4_put 5 = .ok (.ifCond .ne 5, 3) := by decide +kernel
theorem dX4_put_8 : decode cX4_put 8 = .ok (.iconst 1, 1) := by decide +kernel
theorem dX4_put_9 : decode cX4_put 9 = .ok (.ireturn, 1) := by decide +kernel
theorem dX4_put_10 : decode cX4_put 10 = .ok (.aload_n 0, 1) := by decide +kernel
theorem dX4_put_11 : decode cX4_put 11 = .ok (.getfield 7, 3) := by decide +kernel
theorem dX4_put_14 : decode cX4_put 14 = .ok (.iload_n 1, 1) := by decide +kernel
theorem dX4_put_15 : decode cX4_put 15 = .ok (.iaload, 1) := by decide +kernel
theorem dX4_put_16 : decode cX4_put 16 = .ok (.istore 5, 2) := by decide +kernel
theorem dX4_put_18 : decode cX4_put 18 = .ok (.iload 5, 2) := by decide +kernel
theorem dX4_put_20 : decode cX4_put 20 = .ok (.invokestatic 81, 3) := by decide +kernel
theorem dX4_put_23 : decode cX4_put 23 = .ok (.ifCond .ne 5, 3) := by decide +kernel
theorem dX4_put_26 : decode cX4_put 26 = .ok (.iconst 4, 1) := by decide +kernel
theorem dX4_put_27 : decode cX4_put 27 = .ok (.ireturn, 1) := by decide +kernel
theorem dX4_put_28 : decode cX4_put 28 = .ok (.iload_n 2, 1) := by decide +kernel
theorem dX4_put_29 : decode cX4_put 29 = .ok (.iconst 0, 1) := by decide +kernel
theorem dX4_put_30 : decode cX4_put 30 = .ok (.aload_n 0, 1) := by decide +kernel
theorem dX4_put_31 : decode cX4_put 31 = .ok (.getfield 13, 3) := by decide +kernel
theorem dX4_put_34 : decode cX4_put 34 = .ok (.iload_n 1, 1) := by decide +kernel
theorem dX4_put_35 : decode cX4_put 35 = .ok (.iaload, 1) := by decide +kernel
theorem dX4_put_36 : decode cX4_put 36 = .ok (.iconst 1, 1) := by decide +kernel
theorem dX4_put_37 : decode cX4_put 37 = .ok (.isub, 1) := by decide +kernel
theorem dX4_put_38 : decode cX4_put 38 = .ok (.invokestatic 61, 3) := by decide +kernel
theorem dX4_put_41 : decode cX4_put 41 = .ok (.ifCond .ne 5, 3) := by decide +kernel
theorem dX4_put_44 : decode cX4_put 44 = .ok (.iconst 2, 1) := by decide +kernel
theorem dX4_put_45 : decode cX4_put 45 = .ok (.ireturn, 1) := by decide +kernel
theorem dX4_put_46 : decode cX4_put 46 = .ok (.aload_n 0, 1) := by decide +kernel
theorem dX4_put_47 : decode cX4_put 47 = .ok (.getfield 23, 3) := by decide +kernel
theorem dX4_put_50 : decode cX4_put 50 = .ok (.aload_n 0, 1) := by decide +kernel
theorem dX4_put_51 : decode cX4_put 51 = .ok (.getfield 19, 3) := by decide +kernel
theorem dX4_put_54 : decode cX4_put 54 = .ok (.iload_n 1, 1) := by decide +kernel
theorem dX4_put_55 : decode cX4_put 55 = .ok (.iaload, 1) := by decide +kernel
theorem dX4_put_56 : decode cX4_put 56 = .ok (.iload_n 2, 1) := by decide +kernel
theorem dX4_put_57 : decode cX4_put 57 = .ok (.iadd, 1) := by decide +kernel
theorem dX4_put_58 : decode cX4_put 58 = .ok (.iload 5, 2) := by decide +kernel
theorem dX4_put_60 : decode cX4_put 60 = .ok (.ifCond .ne 9, 3) := by decide +kernel
theorem dX4_put_63 : decode cX4_put 63 = .ok (.lload_n 3, 1) := by decide +kernel
theorem dX4_put_64 : decode cX4_put 64 = .ok (.l2i, 1) := by decide +kernel
theorem dX4_put_65 : decode cX4_put 65 = .ok (.i2l, 1) := by decide +kernel
theorem dX4_put_66 : decode cX4_put 66 = .ok (.goto 18, 3) := by decide +kernel
theorem dX4_put_69 : decode cX4_put 69 = .ok (.iload 5, 2) := by decide +kernel
theorem dX4_put_71 : decode cX4_put 71 = .ok (.iconst 1, 1) := by decide +kernel
theorem dX4_put_72 : decode cX4_put 72 = .ok (.if_icmp .ne 7, 3) := by decide +kernel
theorem dX4_put_75 : decode cX4_put 75 = .ok (.lload_n 3, 1) := by decide +kernel
theorem dX4_put_76 : decode cX4_put 76 = .ok (.goto 8, 3) := by decide +kernel
theorem dX4_put_79 : decode cX4_put 79 = .ok (.lload_n 3, 1) := by decide +kernel
theorem dX4_put_80 : decode cX4_put 80 = .ok (.ldc2_w 84, 3) := by decide +kernel
theorem dX4_put_83 : decode cX4_put 83 = .ok (.land, 1) := by decide +kernel
theorem dX4_put_84 : decode cX4_put 84 = .ok (.lastore, 1) := by decide +kernel
theorem dX4_put_85 : decode cX4_put 85 = .ok (.iconst 0, 1) := by decide +kernel
theorem dX4_put_86 : decode cX4_put 86 = .ok (.ireturn, 1) := by decide +kernel
theorem dX4_passes_0 : decode cX4_passes 0 = .ok (.aload_n 0, 1) := by decide +kernel
theorem dX4_passes_1 : decode cX4_passes 1 = .ok (.getfield 7, 3) := by decide +kernel
theorem dX4_passes_4 : decode cX4_passes 4 = .ok (.iload_n 1, 1) := by decide +kernel
theorem dX4_passes_5 : decode cX4_passes 5 = .ok (.iaload, 1) := by decide +kernel
theorem dX4_passes_6 : decode cX4_passes 6 = .ok (.istore_n 3, 1) := by decide +kernel
theorem dX4_passes_7 : decode cX4_passes 7 = .ok (.iload_n 2, 1) := by decide +kernel
theorem dX4_passes_8 : decode cX4_passes 8 = .ok (.iconst 4, 1) := by decide +kernel
theorem dX4_passes_9 : decode cX4_passes 9 = .ok (.if_icmp .ne 20, 3) := by decide +kernel
theorem dX4_passes_12 : decode cX4_passes 12 = .ok (.iload_n 3, 1) := by decide +kernel
theorem dX4_passes_13 : decode cX4_passes 13 = .ok (.iconst 4, 1) := by decide +kernel
theorem dX4_passes_14 : decode cX4_passes 14 = .ok (.if_icmp .eq 9, 3) := by decide +kernel
theorem dX4_passes_17 : decode cX4_passes 17 = .ok (.iload_n 3, 1) := by decide +kernel
theorem dX4_passes_18 : decode cX4_passes 18 = .ok (.bipush 6, 2) := by decide +kernel
theorem dX4_passes_20 : decode cX4_passes 20 = .ok (.if_icmp .ne 7, 3) := by decide +kernel
theorem dX4_passes_23 : decode cX4_passes 23 = .ok (.iconst 1, 1) := by decide +kernel
theorem dX4_passes_24 : decode cX4_passes 24 = .ok (.goto 4, 3) := by decide +kernel
theorem dX4_passes_27 : decode cX4_passes 27 = .ok (.iconst 0, 1) := by decide +kernel
theorem dX4_passes_28 : decode cX4_passes 28 = .ok (.ireturn, 1) := by decide +kernel
theorem dX4_passes_29 : decode cX4_passes 29 = .ok (.iload_n 2, 1) := by decide +kernel
theorem dX4_passes_30 : decode cX4_passes 30 = .ok (.bipush 7, 2) := by decide +kernel
theorem dX4_passes_32 : decode cX4_passes 32 = .ok (.if_icmp .ne 17, 3) := by decide +kernel
theorem dX4_passes_35 : decode cX4_passes 35 = .ok (.iload_n 3, 1) := by decide +kernel
theorem dX4_passes_36 : decode cX4_passes 36 = .ok (.bipush 7, 2) := by decide +kernel
theorem dX4_passes_38 : decode cX4_passes 38 = .ok (.if_icmp .lt 7, 3) := by decide +kernel
theorem dX4_passes_41 : decode cX4_passes 41 = .ok (.iconst 1, 1) := by decide +kernel
theorem dX4_passes_42 : decode cX4_passes 42 = .ok (.goto 17, 3) := by decide +kernel
theorem dX4_passes_45 : decode cX4_passes 45 = .ok (.iconst 0, 1) := by decide +kernel
theorem dX4_passes_46 : decode cX4_passes 46 = .ok (.goto 13, 3) := by decide +kernel
theorem dX4_passes_49 : decode cX4_passes 49 = .ok (.iload_n 3, 1) := by decide +kernel
theorem dX4_passes_50 : decode cX4_passes 50 = .ok (.iload_n 2, 1) := by decide +kernel
theorem dX4_passes_51 : decode cX4_passes 51 = .ok (.if_icmp .ne 7, 3) := by decide +kernel
theorem dX4_passes_54 : decode cX4_passes 54 = .ok (.iconst 1, 1) := by decide +kernel
theorem dX4_passes_55 : decode cX4_passes 55 = .ok (.goto 4, 3) := by decide +kernel
theorem dX4_passes_58 : decode cX4_passes 58 = .ok (.iconst 0, 1) := by decide +kernel
theorem dX4_passes_59 : decode cX4_passes 59 = .ok (.ireturn, 1) := by decide +kernel
theorem dX4_mayHang_0 : decode cX4_mayHang 0 = .ok (.aload_n 0, 1) := by decide +kernel
theorem dX4_mayHang_1 : decode cX4_mayHang 1 = .ok (.getfield 7, 3) := by decide +kernel
theorem dX4_mayHang_4 : decode cX4_mayHang 4 = .ok (.iload_n 1, 1) := by decide +kernel
theorem dX4_mayHang_5 : decode cX4_mayHang 5 = .ok (.iaload, 1) := by decide +kernel
theorem dX4_mayHang_6 : decode cX4_mayHang 6 = .ok (.tableswitch 60 3 6 #[30, 37, 45, 52], 30) := by decide +kernel
theorem dX4_mayHang_36 : decode cX4_mayHang 36 = .ok (.aload_n 0, 1) := by decide +kernel
theorem dX4_mayHang_37 : decode cX4_mayHang 37 = .ok (.iload_n 2, 1) := by decide +kernel
theorem dX4_mayHang_38 : decode cX4_mayHang 38 = .ok (.iconst 0, 1) := by decide +kernel
theorem dX4_mayHang_39 : decode cX4_mayHang 39 = .ok (.invokevirtual 86, 3) := by decide +kernel
theorem dX4_mayHang_42 : decode cX4_mayHang 42 = .ok (.ireturn, 1) := by decide +kernel
theorem dX4_mayHang_43 : decode cX4_mayHang 43 = .ok (.aload_n 0, 1) := by decide +kernel
theorem dX4_mayHang_44 : decode cX4_mayHang 44 = .ok (.iload_n 2, 1) := by decide +kernel
theorem dX4_mayHang_45 : decode cX4_mayHang 45 = .ok (.bipush 7, 2) := by decide +kernel
theorem dX4_mayHang_47 : decode cX4_mayHang 47 = .ok (.invokevirtual 86, 3) := by decide +kernel
theorem dX4_mayHang_50 : decode cX4_mayHang 50 = .ok (.ireturn, 1) := by decide +kernel
theorem dX4_mayHang_51 : decode cX4_mayHang 51 = .ok (.aload_n 0, 1) := by decide +kernel
theorem dX4_mayHang_52 : decode cX4_mayHang 52 = .ok (.iload_n 2, 1) := by decide +kernel
theorem dX4_mayHang_53 : decode cX4_mayHang 53 = .ok (.iconst 4, 1) := by decide +kernel
theorem dX4_mayHang_54 : decode cX4_mayHang 54 = .ok (.invokevirtual 86, 3) := by decide +kernel
theorem dX4_mayHang_57 : decode cX4_mayHang 57 = .ok (.ireturn, 1) := by decide +kernel
theorem dX4_mayHang_58 : decode cX4_mayHang 58 = .ok (.aload_n 0, 1) := by decide +kernel
theorem dX4_mayHang_59 : decode cX4_mayHang 59 = .ok (.iload_n 2, 1) := by decide +kernel
theorem dX4_mayHang_60 : decode cX4_mayHang 60 = .ok (.bipush 8, 2) := by decide +kernel
theorem dX4_mayHang_62 : decode cX4_mayHang 62 = .ok (.invokevirtual 86, 3) := by decide +kernel
theorem dX4_mayHang_65 : decode cX4_mayHang 65 = .ok (.ireturn, 1) := by decide +kernel
theorem dX4_mayHang_66 : decode cX4_mayHang 66 = .ok (.iconst 1, 1) := by decide +kernel
theorem dX4_mayHang_67 : decode cX4_mayHang 67 = .ok (.ireturn, 1) := by decide +kernel
theorem dX4_hang_0 : decode cX4_hang 0 = .ok (.aload_n 0, 1) := by decide +kernel
theorem dX4_hang_1 : decode cX4_hang 1 = .ok (.iload_n 1, 1) := by decide +kernel
theorem dX4_hang_2 : decode cX4_hang 2 = .ok (.invokevirtual 78, 3) := by decide +kernel
theorem dX4_hang_5 : decode cX4_hang 5 = .ok (.ifCond .eq 16, 3) := by decide +kernel
theorem dX4_hang_8 : decode cX4_hang 8 = .ok (.iload_n 3, 1) := by decide +kernel
theorem dX4_hang_9 : decode cX4_hang 9 = .ok (.iconst (-1), 1) := by decide +kernel
theorem dX4_hang_10 : decode cX4_hang 10 = .ok (.if_icmp .eq 13, 3) := by decide +kernel
theorem dX4_hang_13 : decode cX4_hang 13 = .ok (.aload_n 0, 1) := by decide +kernel
theorem dX4_hang_14 : decode cX4_hang 14 = .ok (.iload_n 3, 1) := by decide +kernel
theorem dX4_hang_15 : decode cX4_hang 15 = .ok (.invokevirtual 78, 3) := by decide +kernel
theorem dX4_hang_18 : decode cX4_hang 18 = .ok (.ifCond .ne 5, 3) := by decide +kernel
theorem dX4_hang_21 : decode cX4_hang 21 = .ok (.iconst 1, 1) := by decide +kernel
theorem dX4_hang_22 : decode cX4_hang 22 = .ok (.ireturn, 1) := by decide +kernel
theorem dX4_hang_23 : decode cX4_hang 23 = .ok (.aload_n 0, 1) := by decide +kernel
theorem dX4_hang_24 : decode cX4_hang 24 = .ok (.getfield 7, 3) := by decide +kernel
theorem dX4_hang_27 : decode cX4_hang 27 = .ok (.iload_n 1, 1) := by decide +kernel
theorem dX4_hang_28 : decode cX4_hang 28 = .ok (.iaload, 1) := by decide +kernel
theorem dX4_hang_29 : decode cX4_hang 29 = .ok (.invokestatic 65, 3) := by decide +kernel
theorem dX4_hang_32 : decode cX4_hang 32 = .ok (.ifCond .ne 5, 3) := by decide +kernel
theorem dX4_hang_35 : decode cX4_hang 35 = .ok (.iconst 4, 1) := by decide +kernel
theorem dX4_hang_36 : decode cX4_hang 36 = .ok (.ireturn, 1) := by decide +kernel
theorem dX4_hang_37 : decode cX4_hang 37 = .ok (.iload_n 2, 1) := by decide +kernel
theorem dX4_hang_38 : decode cX4_hang 38 = .ok (.iconst 0, 1) := by decide +kernel
theorem dX4_hang_39 : decode cX4_hang 39 = .ok (.aload_n 0, 1) := by decide +kernel
theorem dX4_hang_40 : decode cX4_hang 40 = .ok (.getfield 13, 3) := by decide +kernel
theorem dX4_hang_43 : decode cX4_hang 43 = .ok (.iload_n 1, 1) := by decide +kernel
theorem dX4_hang_44 : decode cX4_hang 44 = .ok (.iaload, 1) := by decide +kernel
theorem dX4_hang_45 : decode cX4_hang 45 = .ok (.iconst 1, 1) := by decide +kernel
theorem dX4_hang_46 : decode cX4_hang 46 = .ok (.isub, 1) := by decide +kernel
theorem dX4_hang_47 : decode cX4_hang 47 = .ok (.invokestatic 61, 3) := by decide +kernel
theorem dX4_hang_50 : decode cX4_hang 50 = .ok (.ifCond .ne 5, 3) := by decide +kernel
theorem dX4_hang_53 : decode cX4_hang 53 = .ok (.iconst 2, 1) := by decide +kernel
theorem dX4_hang_54 : decode cX4_hang 54 = .ok (.ireturn, 1) := by decide +kernel
theorem dX4_hang_55 : decode cX4_hang 55 = .ok (.iload_n 3, 1) := by decide +kernel
theorem dX4_hang_56 : decode cX4_hang 56 = .ok (.iconst (-1), 1) := by decide +kernel
theorem dX4_hang_57 : decode cX4_hang 57 = .ok (.if_icmp .eq 14, 3) := by decide +kernel
theorem dX4_hang_60 : decode cX4_hang 60 = .ok (.aload_n 0, 1) := by decide +kernel
theorem dX4_hang_61 : decode cX4_hang 61 = .ok (.iload_n 1, 1) := by decide +kernel
theorem dX4_hang_62 : decode cX4_hang 62 = .ok (.iload_n 3, 1) := by decide +kernel
theorem dX4_hang_63 : decode cX4_hang 63 = .ok (.invokevirtual 90, 3) := by decide +kernel
theorem dX4_hang_66 : decode cX4_hang 66 = .ok (.ifCond .ne 5, 3) := by decide +kernel
theorem dX4_hang_69 : decode cX4_hang 69 = .ok (.iconst 3, 1) := by decide +kernel
theorem dX4_hang_70 : decode cX4_hang 70 = .ok (.ireturn, 1) := by decide +kernel
theorem dX4_hang_71 : decode cX4_hang 71 = .ok (.aload_n 0, 1) := by decide +kernel
theorem dX4_hang_72 : decode cX4_hang 72 = .ok (.getfield 23, 3) := by decide +kernel
theorem dX4_hang_75 : decode cX4_hang 75 = .ok (.aload_n 0, 1) := by decide +kernel
theorem dX4_hang_76 : decode cX4_hang 76 = .ok (.getfield 19, 3) := by decide +kernel
theorem dX4_hang_79 : decode cX4_hang 79 = .ok (.iload_n 1, 1) := by decide +kernel
theorem dX4_hang_80 : decode cX4_hang 80 = .ok (.iaload, 1) := by decide +kernel
theorem dX4_hang_81 : decode cX4_hang 81 = .ok (.iload_n 2, 1) := by decide +kernel
theorem dX4_hang_82 : decode cX4_hang 82 = .ok (.iadd, 1) := by decide +kernel
theorem dX4_hang_83 : decode cX4_hang 83 = .ok (.iload_n 3, 1) := by decide +kernel
theorem dX4_hang_84 : decode cX4_hang 84 = .ok (.i2l, 1) := by decide +kernel
theorem dX4_hang_85 : decode cX4_hang 85 = .ok (.lastore, 1) := by decide +kernel
theorem dX4_hang_86 : decode cX4_hang 86 = .ok (.iconst 0, 1) := by decide +kernel
theorem dX4_hang_87 : decode cX4_hang 87 = .ok (.ireturn, 1) := by decide +kernel
theorem dX4_kind_0 : decode cX4_kind 0 = .ok (.aload_n 0, 1) := by decide +kernel
theorem dX4_kind_1 : decode cX4_kind 1 = .ok (.iload_n 1, 1) := by decide +kernel
theorem dX4_kind_2 : decode cX4_kind 2 = .ok (.invokevirtual 78, 3) := by decide +kernel
theorem dX4_kind_5 : decode cX4_kind 5 = .ok (.ifCond .eq 12, 3) := by decide +kernel
theorem dX4_kind_8 : decode cX4_kind 8 = .ok (.aload_n 0, 1) := by decide +kernel
theorem dX4_kind_9 : decode cX4_kind 9 = .ok (.getfield 7, 3) := by decide +kernel
theorem dX4_kind_12 : decode cX4_kind 12 = .ok (.iload_n 1, 1) := by decide +kernel
theorem dX4_kind_13 : decode cX4_kind 13 = .ok (.iaload, 1) := by decide +kernel
theorem dX4_kind_14 : decode cX4_kind 14 = .ok (.goto 4, 3) := by decide +kernel
theorem dX4_kind_17 : decode cX4_kind 17 = .ok (.iconst (-1), 1) := by decide +kernel
theorem dX4_kind_18 : decode cX4_kind 18 = .ok (.ireturn, 1) := by decide +kernel
theorem dX4_length_0 : decode cX4_length 0 = .ok (.aload_n 0, 1) := by decide +kernel
theorem dX4_length_1 : decode cX4_length 1 = .ok (.iload_n 1, 1) := by decide +kernel
theorem dX4_length_2 : decode cX4_length 2 = .ok (.invokevirtual 78, 3) := by decide +kernel
theorem dX4_length_5 : decode cX4_length 5 = .ok (.ifCond .eq 12, 3) := by decide +kernel
theorem dX4_length_8 : decode cX4_length 8 = .ok (.aload_n 0, 1) := by decide +kernel
theorem dX4_length_9 : decode cX4_length 9 = .ok (.getfield 13, 3) := by decide +kernel
theorem dX4_length_12 : decode cX4_length 12 = .ok (.iload_n 1, 1) := by decide +kernel
theorem dX4_length_13 : decode cX4_length 13 = .ok (.iaload, 1) := by decide +kernel
theorem dX4_length_14 : decode cX4_length 14 = .ok (.goto 4, 3) := by decide +kernel
theorem dX4_length_17 : decode cX4_length 17 = .ok (.iconst (-1), 1) := by decide +kernel
theorem dX4_length_18 : decode cX4_length 18 = .ok (.ireturn, 1) := by decide +kernel
theorem dX4_number_0 : decode cX4_number 0 = .ok (.aload_n 0, 1) := by decide +kernel
theorem dX4_number_1 : decode cX4_number 1 = .ok (.iconst 0, 1) := by decide +kernel
theorem dX4_number_2 : decode cX4_number 2 = .ok (.putfield 93, 3) := by decide +kernel
theorem dX4_number_5 : decode cX4_number 5 = .ok (.aload_n 0, 1) := by decide +kernel
theorem dX4_number_6 : decode cX4_number 6 = .ok (.iload_n 1, 1) := by decide +kernel
theorem dX4_number_7 : decode cX4_number 7 = .ok (.invokevirtual 78, 3) := by decide +kernel
theorem dX4_number_10 : decode cX4_number 10 = .ok (.ifCond .ne 10, 3) := by decide +kernel
theorem dX4_number_13 : decode cX4_number 13 = .ok (.aload_n 0, 1) := by decide +kernel
theorem dX4_number_14 : decode cX4_number 14 = .ok (.iconst 1, 1) := by decide +kernel
theorem dX4_number_15 : decode cX4_number 15 = .ok (.putfield 93, 3) := by decide +kernel
theorem dX4_number_18 : decode cX4_number 18 = .ok (.lconst 0, 1) := by decide +kernel
theorem dX4_number_19 : decode cX4_number 19 = .ok (.lreturn, 1) := by decide +kernel
theorem dX4_number_20 : decode cX4_number 20 = .ok (.aload_n 0, 1) := by decide +kernel
theorem dX4_number_21 : decode cX4_number 21 = .ok (.getfield 7, 3) := by decide +kernel
theorem dX4_number_24 : decode cX4_number 24 = .ok (.iload_n 1, 1) := by decide +kernel
theorem dX4_number_25 : decode cX4_number 25 = .ok (.iaload, 1) := by decide +kernel
theorem dX4_number_26 : decode cX4_number 26 = .ok (.istore_n 3, 1) := by decide +kernel
theorem dX4_number_27 : decode cX4_number 27 = .ok (.iload_n 3, 1) := by decide +kernel
theorem dX4_number_28 : decode cX4_number 28 = .ok (.iconst 3, 1) := by decide +kernel
theorem dX4_number_29 : decode cX4_number 29 = .ok (.bipush 6, 2) := by decide +kernel
theorem dX4_number_31 : decode cX4_number 31 = .ok (.invokestatic 61, 3) := by decide +kernel
theorem dX4_number_34 : decode cX4_number 34 = .ok (.ifCond .eq 10, 3) := by decide +kernel
theorem dX4_number_37 : decode cX4_number 37 = .ok (.aload_n 0, 1) := by decide +kernel
theorem dX4_number_38 : decode cX4_number 38 = .ok (.iconst 4, 1) := by decide +kernel
theorem dX4_number_39 : decode cX4_number 39 = .ok (.putfield 93, 3) := by decide +kernel
theorem dX4_number_42 : decode cX4_number 42 = .ok (.lconst 0, 1) := by decide +kernel
theorem dX4_number_43 : decode cX4_number 43 = .ok (.lreturn, 1) := by decide +kernel
theorem dX4_number_44 : decode cX4_number 44 = .ok (.iload_n 2, 1) := by decide +kernel
theorem dX4_number_45 : decode cX4_number 45 = .ok (.iconst 0, 1) := by decide +kernel
theorem dX4_number_46 : decode cX4_number 46 = .ok (.iload_n 3, 1) := by decide +kernel
theorem dX4_number_47 : decode cX4_number 47 = .ok (.bipush 7, 2) := by decide +kernel
theorem dX4_number_49 : decode cX4_number 49 = .ok (.if_icmp .lt 7, 3) := by decide +kernel
theorem dX4_number_52 : decode cX4_number 52 = .ok (.iconst 0, 1) := by decide +kernel
theorem dX4_number_53 : decode cX4_number 53 = .ok (.goto 11, 3) := by decide +kernel
theorem dX4_number_56 : decode cX4_number 56 = .ok (.aload_n 0, 1) := by decide +kernel
theorem dX4_number_57 : decode cX4_number 57 = .ok (.getfield 13, 3) := by decide +kernel
theorem dX4_number_60 : decode cX4_number 60 = .ok (.iload_n 1, 1) := by decide +kernel
theorem dX4_number_61 : decode cX4_number 61 = .ok (.iaload, 1) := by decide +kernel
theorem dX4_number_62 : decode cX4_number 62 = .ok (.iconst 1, 1) := by decide +kernel
theorem dX4_number_63 : decode cX4_number 63 = .ok (.isub, 1) := by decide +kernel
theorem dX4_number_64 : decode cX4_number 64 = .ok (.invokestatic 61, 3) := by decide +kernel
theorem dX4_number_67 : decode cX4_number 67 = .ok (.ifCond .ne 10, 3) := by decide +kernel
theorem dX4_number_70 : decode cX4_number 70 = .ok (.aload_n 0, 1) := by decide +kernel
theorem dX4_number_71 : decode cX4_number 71 = .ok (.iconst 2, 1) := by decide +kernel
theorem dX4_number_72 : decode cX4_number 72 = .ok (.putfield 93, 3) := by decide +kernel
theorem dX4_number_75 : decode cX4_number 75 = .ok (.lconst 0, 1) := by decide +kernel
theorem dX4_number_76 : decode cX4_number 76 = .ok (.lreturn, 1) := by decide +kernel
theorem dX4_number_77 : decode cX4_number 77 = .ok (.iload_n 3, 1) := by decide +kernel
theorem dX4_number_78 : decode cX4_number 78 = .ok (.bipush 7, 2) := by decide +kernel
theorem dX4_number_80 : decode cX4_number 80 = .ok (.if_icmp .lt 13, 3) := by decide +kernel
theorem dX4_number_83 : decode cX4_number 83 = .ok (.aload_n 0, 1) := by decide +kernel
theorem dX4_number_84 : decode cX4_number 84 = .ok (.getfield 16, 3) := by decide +kernel
theorem dX4_number_87 : decode cX4_number 87 = .ok (.iload_n 1, 1) := by decide +kernel
theorem dX4_number_88 : decode cX4_number 88 = .ok (.iaload, 1) := by decide +kernel
theorem dX4_number_89 : decode cX4_number 89 = .ok (.i2l, 1) := by decide +kernel
theorem dX4_number_90 : decode cX4_number 90 = .ok (.goto 16, 3) := by decide +kernel
theorem dX4_number_93 : decode cX4_number 93 = .ok (.aload_n 0, 1) := by decide +kernel
theorem dX4_number_94 : decode cX4_number 94 = .ok (.getfield 23, 3) := by decide +kernel
theorem dX4_number_97 : decode cX4_number 97 = .ok (.aload_n 0, 1) := by decide +kernel
theorem dX4_number_98 : decode cX4_number 98 = .ok (.getfield 19, 3) := by decide +kernel
theorem dX4_number_101 : decode cX4_number 101 = .ok (.iload_n 1, 1) := by decide +kernel
theorem dX4_number_102 : decode cX4_number 102 = .ok (.iaload, 1) := by decide +kernel
theorem dX4_number_103 : decode cX4_number 103 = .ok (.iload_n 2, 1) := by decide +kernel
theorem dX4_number_104 : decode cX4_number 104 = .ok (.iadd, 1) := by decide +kernel
theorem dX4_number_105 : decode cX4_number 105 = .ok (.laload, 1) := by decide +kernel
theorem dX4_number_106 : decode cX4_number 106 = .ok (.lreturn, 1) := by decide +kernel
theorem dX4_below_0 : decode cX4_below 0 = .ok (.aload_n 0, 1) := by decide +kernel
theorem dX4_below_1 : decode cX4_below 1 = .ok (.iconst 0, 1) := by decide +kernel
theorem dX4_below_2 : decode cX4_below 2 = .ok (.putfield 93, 3) := by decide +kernel
theorem dX4_below_5 : decode cX4_below 5 = .ok (.aload_n 0, 1) := by decide +kernel
theorem dX4_below_6 : decode cX4_below 6 = .ok (.iload_n 1, 1) := by decide +kernel
theorem dX4_below_7 : decode cX4_below 7 = .ok (.invokevirtual 78, 3) := by decide +kernel
theorem dX4_below_10 : decode cX4_below 10 = .ok (.ifCond .ne 11, 3) := by decide +kernel
theorem dX4_below_13 : decode cX4_below 13 = .ok (.aload_n 0, 1) := by decide +kernel
theorem dX4_below_14 : decode cX4_below 14 = .ok (.iconst 1, 1) := by decide +kernel
theorem dX4_below_15 : decode cX4_below 15 = .ok (.putfield 93, 3) := by decide +kernel
theorem dX4_below_18 : decode cX4_below 18 = .ok (.goto 44, 3) := by decide +kernel
theorem dX4_below_21 : decode cX4_below 21 = .ok (.aload_n 0, 1) := by decide +kernel
theorem dX4_below_22 : decode cX4_below 22 = .ok (.getfield 7, 3) := by decide +kernel
theorem dX4_below_25 : decode cX4_below 25 = .ok (.iload_n 1, 1) := by decide +kernel
theorem dX4_below_26 : decode cX4_below 26 = .ok (.iaload, 1) := by decide +kernel
theorem dX4_below_27 : decode cX4_below 27 = .ok (.invokestatic 65, 3) := by decide +kernel
theorem dX4_below_30 : decode cX4_below 30 = .ok (.ifCond .ne 11, 3) := by decide +kernel
theorem dX4_below_33 : decode cX4_below 33 = .ok (.aload_n 0, 1) := by decide +kernel
theorem dX4_below_34 : decode cX4_below 34 = .ok (.iconst 4, 1) := by decide +kernel
theorem dX4_below_35 : decode cX4_below 35 = .ok (.putfield 93, 3) := by decide +kernel
theorem dX4_below_38 : decode cX4_below 38 = .ok (.goto 24, 3) := by decide +kernel
theorem dX4_below_41 : decode cX4_below 41 = .ok (.iload_n 2, 1) := by decide +kernel
theorem dX4_below_42 : decode cX4_below 42 = .ok (.iconst 0, 1) := by decide +kernel
theorem dX4_below_43 : decode cX4_below 43 = .ok (.aload_n 0, 1) := by decide +kernel
theorem dX4_below_44 : decode cX4_below 44 = .ok (.getfield 13, 3) := by decide +kernel
theorem dX4_below_47 : decode cX4_below 47 = .ok (.iload_n 1, 1) := by decide +kernel
theorem dX4_below_48 : decode cX4_below 48 = .ok (.iaload, 1) := by decide +kernel
theorem dX4_below_49 : decode cX4_below 49 = .ok (.iconst 1, 1) := by decide +kernel
theorem dX4_below_50 : decode cX4_below 50 = .ok (.isub, 1) := by decide +kernel
theorem dX4_below_51 : decode cX4_below 51 = .ok (.invokestatic 61, 3) := by decide +kernel
theorem dX4_below_54 : decode cX4_below 54 = .ok (.ifCond .ne 8, 3) := by decide +kernel
theorem dX4_below_57 : decode cX4_below 57 = .ok (.aload_n 0, 1) := by decide +kernel
theorem dX4_below_58 : decode cX4_below 58 = .ok (.iconst 2, 1) := by decide +kernel
theorem dX4_below_59 : decode cX4_below 59 = .ok (.putfield 93, 3) := by decide +kernel
theorem dX4_below_62 : decode cX4_below 62 = .ok (.aload_n 0, 1) := by decide +kernel
theorem dX4_below_63 : decode cX4_below 63 = .ok (.getfield 93, 3) := by decide +kernel
theorem dX4_below_66 : decode cX4_below 66 = .ok (.ifCond .ne 12, 3) := by decide +kernel
theorem dX4_below_69 : decode cX4_below 69 = .ok (.aload_n 0, 1) := by decide +kernel
theorem dX4_below_70 : decode cX4_below 70 = .ok (.iload_n 1, 1) := by decide +kernel
theorem dX4_below_71 : decode cX4_below 71 = .ok (.iload_n 2, 1) := by decide +kernel
theorem dX4_below_72 : decode cX4_below 72 = .ok (.invokevirtual 96, 3) := by decide +kernel
theorem dX4_below_75 : decode cX4_below 75 = .ok (.goto 5, 3) := by decide +kernel
theorem dX4_below_78 : decode cX4_below 78 = .ok (.bipush (-2), 2) := by decide +kernel
theorem dX4_below_80 : decode cX4_below 80 = .ok (.ireturn, 1) := by decide +kernel
theorem dX4_is_0 : decode cX4_is 0 = .ok (.iload_n 2, 1) := by decide +kernel
theorem dX4_is_1 : decode cX4_is 1 = .ok (.iconst 0, 1) := by decide +kernel
theorem dX4_is_2 : decode cX4_is 2 = .ok (.bipush 8, 2) := by decide +kernel
theorem dX4_is_4 : decode cX4_is 4 = .ok (.invokestatic 61, 3) := by decide +kernel
theorem dX4_is_7 : decode cX4_is 7 = .ok (.ifCond .eq 16, 3) := by decide +kernel
theorem dX4_is_10 : decode cX4_is 10 = .ok (.iload_n 1, 1) := by decide +kernel
theorem dX4_is_11 : decode cX4_is 11 = .ok (.iconst (-1), 1) := by decide +kernel
theorem dX4_is_12 : decode cX4_is 12 = .ok (.if_icmp .eq 13, 3) := by decide +kernel
theorem dX4_is_15 : decode cX4_is 15 = .ok (.aload_n 0, 1) := by decide +kernel
theorem dX4_is_16 : decode cX4_is 16 = .ok (.iload_n 1, 1) := by decide +kernel
theorem dX4_is_17 : decode cX4_is 17 = .ok (.invokevirtual 78, 3) := by decide +kernel
theorem dX4_is_20 : decode cX4_is 20 = .ok (.ifCond .ne 5, 3) := by decide +kernel
theorem dX4_is_23 : decode cX4_is 23 = .ok (.iconst (-1), 1) := by decide +kernel
theorem dX4_is_24 : decode cX4_is 24 = .ok (.ireturn, 1) := by decide +kernel
theorem dX4_is_25 : decode cX4_is 25 = .ok (.iload_n 1, 1) := by decide +kernel
theorem dX4_is_26 : decode cX4_is 26 = .ok (.iconst (-1), 1) := by decide +kernel
theorem dX4_is_27 : decode cX4_is 27 = .ok (.if_icmp .eq 16, 3) := by decide +kernel
theorem dX4_is_30 : decode cX4_is 30 = .ok (.aload_n 0, 1) := by decide +kernel
theorem dX4_is_31 : decode cX4_is 31 = .ok (.iload_n 1, 1) := by decide +kernel
theorem dX4_is_32 : decode cX4_is 32 = .ok (.iload_n 2, 1) := by decide +kernel
theorem dX4_is_33 : decode cX4_is 33 = .ok (.invokevirtual 86, 3) := by decide +kernel
theorem dX4_is_36 : decode cX4_is 36 = .ok (.ifCond .eq 7, 3) := by decide +kernel
theorem dX4_is_39 : decode cX4_is 39 = .ok (.iconst 1, 1) := by decide +kernel
theorem dX4_is_40 : decode cX4_is 40 = .ok (.goto 4, 3) := by decide +kernel
theorem dX4_is_43 : decode cX4_is 43 = .ok (.iconst 0, 1) := by decide +kernel
theorem dX4_is_44 : decode cX4_is 44 = .ok (.ireturn, 1) := by decide +kernel
theorem dX4_as_0 : decode cX4_as 0 = .ok (.iload_n 2, 1) := by decide +kernel
theorem dX4_as_1 : decode cX4_as 1 = .ok (.iconst 0, 1) := by decide +kernel
theorem dX4_as_2 : decode cX4_as 2 = .ok (.bipush 8, 2) := by decide +kernel
theorem dX4_as_4 : decode cX4_as 4 = .ok (.invokestatic 61, 3) := by decide +kernel
theorem dX4_as_7 : decode cX4_as 7 = .ok (.ifCond .eq 16, 3) := by decide +kernel
theorem dX4_as_10 : decode cX4_as 10 = .ok (.iload_n 1, 1) := by decide +kernel
theorem dX4_as_11 : decode cX4_as 11 = .ok (.iconst (-1), 1) := by decide +kernel
theorem dX4_as_12 : decode cX4_as 12 = .ok (.if_icmp .eq 13, 3) := by decide +kernel
theorem dX4_as_15 : decode cX4_as 15 = .ok (.aload_n 0, 1) := by decide +kernel
theorem dX4_as_16 : decode cX4_as 16 = .ok (.iload_n 1, 1) := by decide +kernel
theorem dX4_as_17 : decode cX4_as 17 = .ok (.invokevirtual 78, 3) := by decide +kernel
theorem dX4_as_20 : decode cX4_as 20 = .ok (.ifCond .ne 5, 3) := by decide +kernel
theorem dX4_as_23 : decode cX4_as 23 = .ok (.iconst (-1), 1) := by decide +kernel
theorem dX4_as_24 : decode cX4_as 24 = .ok (.ireturn, 1) := by decide +kernel
theorem dX4_as_25 : decode cX4_as 25 = .ok (.iload_n 1, 1) := by decide +kernel
theorem dX4_as_26 : decode cX4_as 26 = .ok (.iconst (-1), 1) := by decide +kernel
theorem dX4_as_27 : decode cX4_as 27 = .ok (.if_icmp .eq 12, 3) := by decide +kernel
theorem dX4_as_30 : decode cX4_as 30 = .ok (.aload_n 0, 1) := by decide +kernel
theorem dX4_as_31 : decode cX4_as 31 = .ok (.iload_n 1, 1) := by decide +kernel
theorem dX4_as_32 : decode cX4_as 32 = .ok (.iload_n 2, 1) := by decide +kernel
theorem dX4_as_33 : decode cX4_as 33 = .ok (.invokevirtual 86, 3) := by decide +kernel
theorem dX4_as_36 : decode cX4_as 36 = .ok (.ifCond .eq 7, 3) := by decide +kernel
theorem dX4_as_39 : decode cX4_as 39 = .ok (.iconst 0, 1) := by decide +kernel
theorem dX4_as_40 : decode cX4_as 40 = .ok (.goto 4, 3) := by decide +kernel
theorem dX4_as_43 : decode cX4_as 43 = .ok (.iconst 1, 1) := by decide +kernel
theorem dX4_as_44 : decode cX4_as 44 = .ok (.ireturn, 1) := by decide +kernel
theorem dX4_beginWalk_0 : decode cX4_beginWalk 0 = .ok (.iconst 0, 1) := by decide +kernel
theorem dX4_beginWalk_1 : decode cX4_beginWalk 1 = .ok (.istore_n 1, 1) := by decide +kernel
theorem dX4_beginWalk_2 : decode cX4_beginWalk 2 = .ok (.iload_n 1, 1) := by decide +kernel
theorem dX4_beginWalk_3 : decode cX4_beginWalk 3 = .ok (.aload_n 0, 1) := by decide +kernel
theorem dX4_beginWalk_4 : decode cX4_beginWalk 4 = .ok (.getfield 57, 3) := by decide +kernel
theorem dX4_beginWalk_7 : decode cX4_beginWalk 7 = .ok (.if_icmp .ge 16, 3) := by decide +kernel
theorem dX4_beginWalk_10 : decode cX4_beginWalk 10 = .ok (.aload_n 0, 1) := by decide +kernel
theorem dX4_beginWalk_11 : decode cX4_beginWalk 11 = .ok (.getfield 27, 3) := by decide +kernel
theorem dX4_beginWalk_14 : decode cX4_beginWalk 14 = .ok (.iload_n 1, 1) := by decide +kernel
theorem dX4_beginWalk_15 : decode cX4_beginWalk 15 = .ok (.iconst 0, 1) := by decide +kernel
theorem dX4_beginWalk_16 : decode cX4_beginWalk 16 = .ok (.iastore, 1) := by decide +kernel
theorem dX4_beginWalk_17 : decode cX4_beginWalk 17 = .ok (.iinc 1 1, 3) := by decide +kernel
theorem dX4_beginWalk_20 : decode cX4_beginWalk 20 = .ok (.goto (-18), 3) := by decide +kernel
theorem dX4_beginWalk_23 : decode cX4_beginWalk 23 = .ok (.aload_n 0, 1) := by decide +kernel
theorem dX4_beginWalk_24 : decode cX4_beginWalk 24 = .ok (.iconst 0, 1) := by decide +kernel
theorem dX4_beginWalk_25 : decode cX4_beginWalk 25 = .ok (.putfield 100, 3) := by decide +kernel
theorem dX4_beginWalk_28 : decode cX4_beginWalk 28 = .ok (.aload_n 0, 1) := by decide +kernel
theorem dX4_beginWalk_29 : decode cX4_beginWalk 29 = .ok (.iconst 0, 1) := by decide +kernel
theorem dX4_beginWalk_30 : decode cX4_beginWalk 30 = .ok (.putfield 103, 3) := by decide +kernel
theorem dX4_beginWalk_33 : decode cX4_beginWalk 33 = .ok (.return_, 1) := by decide +kernel
theorem dX4_walk_0 : decode cX4_walk 0 = .ok (.aload_n 0, 1) := by decide +kernel
theorem dX4_walk_1 : decode cX4_walk 1 = .ok (.getfield 27, 3) := by decide +kernel
theorem dX4_walk_4 : decode cX4_walk 4 = .ok (.iload_n 1, 1) := by decide +kernel
theorem dX4_walk_5 : decode cX4_walk 5 = .ok (.iaload, 1) := by decide +kernel
theorem dX4_walk_6 : decode cX4_walk 6 = .ok (.iconst 2, 1) := by decide +kernel
theorem dX4_walk_7 : decode cX4_walk 7 = .ok (.if_icmp .ne 5, 3) := by decide +kernel
theorem dX4_walk_10 : decode cX4_walk 10 = .ok (.iconst 1, 1) := by decide +kernel
theorem dX4_walk_11 : decode cX4_walk 11 = .ok (.ireturn, 1) := by decide +kernel
theorem dX4_walk_12 : decode cX4_walk 12 = .ok (.iconst 0, 1) := by decide +kernel
theorem dX4_walk_13 : decode cX4_walk 13 = .ok (.istore_n 2, 1) := by decide +kernel
theorem dX4_walk_14 : decode cX4_walk 14 = .ok (.aload_n 0, 1) := by decide +kernel
theorem dX4_walk_15 : decode cX4_walk 15 = .ok (.iload_n 1, 1) := by decide +kernel
theorem dX4_walk_16 : decode cX4_walk 16 = .ok (.iload_n 2, 1) := by decide +kernel
theorem dX4_walk_17 : decode cX4_walk 17 = .ok (.invokevirtual 106, 3) := by decide +kernel
theorem dX4_walk_20 : decode cX4_walk 20 = .ok (.iload_n 2, 1) := by decide +kernel
theorem dX4_walk_21 : decode cX4_walk 21 = .ok (.ifCond .lt 128, 3) := by decide +kernel
theorem dX4_walk_24 : decode cX4_walk 24 = .ok (.aload_n 0, 1) := by decide +kernel
theorem dX4_walk_25 : decode cX4_walk 25 = .ok (.getfield 36, 3) := by decide +kernel
theorem dX4_walk_28 : decode cX4_walk 28 = .ok (.iload_n 2, 1) := by decide +kernel
theorem dX4_walk_29 : decode cX4_walk 29 = .ok (.iaload, 1) := by decide +kernel
theorem dX4_walk_30 : decode cX4_walk 30 = .ok (.istore_n 3, 1) := by decide +kernel
theorem dX4_walk_31 : decode cX4_walk 31 = .ok (.aload_n 0, 1) := by decide +kernel
theorem dX4_walk_32 : decode cX4_walk 32 = .ok (.getfield 39, 3) := by decide +kernel
theorem dX4_walk_35 : decode cX4_walk 35 = .ok (.iload_n 2, 1) := by decide +kernel
theorem dX4_walk_36 : decode cX4_walk 36 = .ok (.iaload, 1) := by decide +kernel
theorem dX4_walk_37 : decode cX4_walk 37 = .ok (.aload_n 0, 1) := by decide +kernel
theorem dX4_walk_38 : decode cX4_walk 38 = .ok (.iload_n 3, 1) := by decide +kernel
theorem dX4_walk_39 : decode cX4_walk 39 = .ok (.invokevirtual 110, 3) := by decide +kernel
theorem dX4_walk_42 : decode cX4_walk 42 = .ok (.if_icmp .ne 36, 3) := by decide +kernel
theorem dX4_walk_45 : decode cX4_walk 45 = .ok (.aload_n 0, 1) := by decide +kernel
theorem dX4_walk_46 : decode cX4_walk 46 = .ok (.getfield 27, 3) := by decide +kernel
theorem dX4_walk_49 : decode cX4_walk 49 = .ok (.iload_n 3, 1) := by decide +kernel
theorem dX4_walk_50 : decode cX4_walk 50 = .ok (.iconst 2, 1) := by decide +kernel
theorem dX4_walk_51 : decode cX4_walk 51 = .ok (.iastore, 1) := by decide +kernel
theorem dX4_walk_52 : decode cX4_walk 52 = .ok (.aload_n 0, 1) := by decide +kernel
theorem dX4_walk_53 : decode cX4_walk 53 = .ok (.getfield 33, 3) := by decide +kernel
theorem dX4_walk_56 : decode cX4_walk 56 = .ok (.aload_n 0, 1) := by decide +kernel
theorem dX4_walk_57 : decode cX4_walk 57 = .ok (.getfield 103, 3) := by decide +kernel
theorem dX4_walk_60 : decode cX4_walk 60 = .ok (.iload_n 3, 1) := by decide +kernel
theorem dX4_walk_61 : decode cX4_walk 61 = .ok (.iastore, 1) := by decide +kernel
theorem dX4_walk_62 : decode cX4_walk 62 = .ok (.aload_n 0, 1) := by decide +kernel
theorem dX4_walk_63 : decode cX4_walk 63 = .ok (.dup, 1) := by decide +kernel
theorem dX4_walk_64 : decode cX4_walk 64 = .ok (.getfield 103, 3) := by decide +kernel
theorem dX4_walk_67 : decode cX4_walk 67 = .ok (.iconst 1, 1) := by decide +kernel
theorem dX4_walk_68 : decode cX4_walk 68 = .ok (.iadd, 1) := by decide +kernel
theorem dX4_walk_69 : decode cX4_walk 69 = .ok (.putfield 103, 3) := by decide +kernel
theorem dX4_walk_72 : decode cX4_walk 72 = .ok (.iinc 2 (-1), 3) := by decide +kernel
theorem dX4_walk_75 : decode cX4_walk 75 = .ok (.goto (-55), 3) := by decide +kernel
theorem dX4_walk_78 : decode cX4_walk 78 = .ok (.aload_n 0, 1) := by decide +kernel
theorem dX4_walk_79 : decode cX4_walk 79 = .ok (.iload_n 3, 1) := by decide +kernel
theorem dX4_walk_80 : decode cX4_walk 80 = .ok (.aload_n 0, 1) := by decide +kernel
theorem dX4_walk_81 : decode cX4_walk 81 = .ok (.getfield 39, 3) := by decide +kernel
theorem dX4_walk_84 : decode cX4_walk 84 = .ok (.iload_n 2, 1) := by decide +kernel
theorem dX4_walk_85 : decode cX4_walk 85 = .ok (.iaload, 1) := by decide +kernel
theorem dX4_walk_86 : decode cX4_walk 86 = .ok (.invokevirtual 96, 3) := by decide +kernel
theorem dX4_walk_89 : decode cX4_walk 89 = .ok (.istore 4, 2) := by decide +kernel
theorem dX4_walk_91 : decode cX4_walk 91 = .ok (.aload_n 0, 1) := by decide +kernel
theorem dX4_walk_92 : decode cX4_walk 92 = .ok (.getfield 39, 3) := by decide +kernel
theorem dX4_walk_95 : decode cX4_walk 95 = .ok (.iload_n 2, 1) := by decide +kernel
theorem dX4_walk_96 : decode cX4_walk 96 = .ok (.dup2, 1) := by decide +kernel
theorem dX4_walk_97 : decode cX4_walk 97 = .ok (.iaload, 1) := by decide +kernel
theorem dX4_walk_98 : decode cX4_walk 98 = .ok (.iconst 1, 1) := by decide +kernel
theorem dX4_walk_99 : decode cX4_walk 99 = .ok (.iadd, 1) := by decide +kernel
theorem dX4_walk_100 : decode cX4_walk 100 = .ok (.iastore, 1) := by decide +kernel
theorem dX4_walk_101 : decode cX4_walk 101 = .ok (.iload 4, 2) := by decide +kernel
theorem dX4_walk_103 : decode cX4_walk 103 = .ok (.iconst (-1), 1) := by decide +kernel
theorem dX4_walk_104 : decode cX4_walk 104 = .ok (.if_icmp .eq 16, 3) := by decide +kernel
theorem dX4_walk_107 : decode cX4_walk 107 = .ok (.aload_n 0, 1) := by decide +kernel
theorem dX4_walk_108 : decode cX4_walk 108 = .ok (.getfield 27, 3) := by decide +kernel
theorem dX4_walk_111 : decode cX4_walk 111 = .ok (.iload 4, 2) := by decide +kernel
theorem dX4_walk_113 : decode cX4_walk 113 = .ok (.iaload, 1) := by decide +kernel
theorem dX4_walk_114 : decode cX4_walk 114 = .ok (.iconst 1, 1) := by decide +kernel
theorem dX4_walk_115 : decode cX4_walk 115 = .ok (.if_icmp .ne 5, 3) := by decide +kernel
theorem dX4_walk_118 : decode cX4_walk 118 = .ok (.iconst 0, 1) := by decide +kernel
theorem dX4_walk_119 : decode cX4_walk 119 = .ok (.ireturn, 1) := by decide +kernel
theorem dX4_walk_120 : decode cX4_walk 120 = .ok (.iload 4, 2) := by decide +kernel
theorem dX4_walk_122 : decode cX4_walk 122 = .ok (.iconst (-1), 1) := by decide +kernel
theorem dX4_walk_123 : decode cX4_walk 123 = .ok (.if_icmp .eq 23, 3) := by decide +kernel
theorem dX4_walk_126 : decode cX4_walk 126 = .ok (.aload_n 0, 1) := by decide +kernel
theorem dX4_walk_127 : decode cX4_walk 127 = .ok (.getfield 27, 3) := by decide +kernel
theorem dX4_walk_130 : decode cX4_walk 130 = .ok (.iload 4, 2) := by decide +kernel
theorem dX4_walk_132 : decode cX4_walk 132 = .ok (.iaload, 1) := by decide +kernel
theorem dX4_walk_133 : decode cX4_walk 133 = .ok (.ifCond .ne 13, 3) := by decide +kernel
theorem dX4_walk_136 : decode cX4_walk 136 = .ok (.iinc 2 1, 3) := by decide +kernel
theorem dX4_walk_139 : decode cX4_walk 139 = .ok (.aload_n 0, 1) := by decide +kernel
theorem dX4_walk_140 : decode cX4_walk 140 = .ok (.iload 4, 2) := by decide +kernel
theorem dX4_walk_142 : decode cX4_walk 142 = .ok (.iload_n 2, 1) := by decide +kernel
theorem dX4_walk_143 : decode cX4_walk 143 = .ok (.invokevirtual 106, 3) := by decide +kernel
theorem dX4_walk_146 : decode cX4_walk 146 = .ok (.goto (-126), 3) := by decide +kernel
theorem dX4_walk_149 : decode cX4_walk 149 = .ok (.iconst 1, 1) := by decide +kernel
theorem dX4_walk_150 : decode cX4_walk 150 = .ok (.ireturn, 1) := by decide +kernel
theorem dX4_comeTo_0 : decode cX4_comeTo 0 = .ok (.aload_n 0, 1) := by decide +kernel
theorem dX4_comeTo_1 : decode cX4_comeTo 1 = .ok (.getfield 27, 3) := by decide +kernel
theorem dX4_comeTo_4 : decode cX4_comeTo 4 = .ok (.iload_n 1, 1) := by decide +kernel
theorem dX4_comeTo_5 : decode cX4_comeTo 5 = .ok (.iconst 1, 1) := by decide +kernel
theorem dX4_comeTo_6 : decode cX4_comeTo 6 = .ok (.iastore, 1) := by decide +kernel
theorem dX4_comeTo_7 : decode cX4_comeTo 7 = .ok (.aload_n 0, 1) := by decide +kernel
theorem dX4_comeTo_8 : decode cX4_comeTo 8 = .ok (.getfield 30, 3) := by decide +kernel
theorem dX4_comeTo_11 : decode cX4_comeTo 11 = .ok (.aload_n 0, 1) := by decide +kernel
theorem dX4_comeTo_12 : decode cX4_comeTo 12 = .ok (.getfield 100, 3) := by decide +kernel
theorem dX4_comeTo_15 : decode cX4_comeTo 15 = .ok (.iload_n 1, 1) := by decide +kernel
theorem dX4_comeTo_16 : decode cX4_comeTo 16 = .ok (.iastore, 1) := by decide +kernel
theorem dX4_comeTo_17 : decode cX4_comeTo 17 = .ok (.aload_n 0, 1) := by decide +kernel
theorem dX4_comeTo_18 : decode cX4_comeTo 18 = .ok (.dup, 1) := by decide +kernel
theorem dX4_comeTo_19 : decode cX4_comeTo 19 = .ok (.getfield 100, 3) := by decide +kernel
theorem dX4_comeTo_22 : decode cX4_comeTo 22 = .ok (.iconst 1, 1) := by decide +kernel
theorem dX4_comeTo_23 : decode cX4_comeTo 23 = .ok (.iadd, 1) := by decide +kernel
theorem dX4_comeTo_24 : decode cX4_comeTo 24 = .ok (.putfield 100, 3) := by decide +kernel
theorem dX4_comeTo_27 : decode cX4_comeTo 27 = .ok (.aload_n 0, 1) := by decide +kernel
theorem dX4_comeTo_28 : decode cX4_comeTo 28 = .ok (.getfield 36, 3) := by decide +kernel
theorem dX4_comeTo_31 : decode cX4_comeTo 31 = .ok (.iload_n 2, 1) := by decide +kernel
theorem dX4_comeTo_32 : decode cX4_comeTo 32 = .ok (.iload_n 1, 1) := by decide +kernel
theorem dX4_comeTo_33 : decode cX4_comeTo 33 = .ok (.iastore, 1) := by decide +kernel
theorem dX4_comeTo_34 : decode cX4_comeTo 34 = .ok (.aload_n 0, 1) := by decide +kernel
theorem dX4_comeTo_35 : decode cX4_comeTo 35 = .ok (.getfield 39, 3) := by decide +kernel
theorem dX4_comeTo_38 : decode cX4_comeTo 38 = .ok (.iload_n 2, 1) := by decide +kernel
theorem dX4_comeTo_39 : decode cX4_comeTo 39 = .ok (.iconst 0, 1) := by decide +kernel
theorem dX4_comeTo_40 : decode cX4_comeTo 40 = .ok (.iastore, 1) := by decide +kernel
theorem dX4_comeTo_41 : decode cX4_comeTo 41 = .ok (.return_, 1) := by decide +kernel
theorem dX4_workDepths_0 : decode cX4_workDepths 0 = .ok (.iconst 0, 1) := by decide +kernel
theorem dX4_workDepths_1 : decode cX4_workDepths 1 = .ok (.istore_n 1, 1) := by decide +kernel
theorem dX4_workDepths_2 : decode cX4_workDepths 2 = .ok (.iload_n 1, 1) := by decide +kernel
theorem dX4_workDepths_3 : decode cX4_workDepths 3 = .ok (.aload_n 0, 1) := by decide +kernel
theorem dX4_workDepths_4 : decode cX4_workDepths 4 = .ok (.getfield 103, 3) := by decide +kernel
theorem dX4_workDepths_7 : decode cX4_workDepths 7 = .ok (.if_icmp .ge 84, 3) := by decide +kernel
theorem dX4_workDepths_10 : decode cX4_workDepths 10 = .ok (.aload_n 0, 1) := by decide +kernel
theorem dX4_workDepths_11 : decode cX4_workDepths 11 = .ok (.getfield 33, 3) := by decide +kernel
theorem dX4_workDepths_14 : decode cX4_workDepths 14 = .ok (.iload_n 1, 1) := by decide +kernel
theorem dX4_workDepths_15 : decode cX4_workDepths 15 = .ok (.iaload, 1) := by decide +kernel
theorem dX4_workDepths_16 : decode cX4_workDepths 16 = .ok (.istore_n 2, 1) := by decide +kernel
theorem dX4_workDepths_17 : decode cX4_workDepths 17 = .ok (.iconst 0, 1) := by decide +kernel
theorem dX4_workDepths_18 : decode cX4_workDepths 18 = .ok (.istore_n 3, 1) := by decide +kernel
theorem dX4_workDepths_19 : decode cX4_workDepths 19 = .ok (.iconst 0, 1) := by decide +kernel
theorem dX4_workDepths_20 : decode cX4_workDepths 20 = .ok (.istore 4, 2) := by decide +kernel
theorem dX4_workDepths_22 : decode cX4_workDepths 22 = .ok (.iload 4, 2) := by decide +kernel
theorem dX4_workDepths_24 : decode cX4_workDepths 24 = .ok (.aload_n 0, 1) := by decide +kernel
theorem dX4_workDepths_25 : decode cX4_workDepths 25 = .ok (.iload_n 2, 1) := by decide +kernel
theorem dX4_workDepths_26 : decode cX4_workDepths 26 = .ok (.invokevirtual 110, 3) := by decide +kernel
theorem dX4_workDepths_29 : decode cX4_workDepths 29 = .ok (.if_icmp .ge 47, 3) := by decide +kernel
theorem dX4_workDepths_32 : decode cX4_workDepths 32 = .ok (.aload_n 0, 1) := by decide +kernel
theorem dX4_workDepths_33 : decode cX4_workDepths 33 = .ok (.iload_n 2, 1) := by decide +kernel
theorem dX4_workDepths_34 : decode cX4_workDepths 34 = .ok (.iload 4, 2) := by decide +kernel
theorem dX4_workDepths_36 : decode cX4_workDepths 36 = .ok (.invokevirtual 96, 3) := by decide +kernel
theorem dX4_workDepths_39 : decode cX4_workDepths 39 = .ok (.istore 5, 2) := by decide +kernel
theorem dX4_workDepths_41 : decode cX4_workDepths 41 = .ok (.iload 5, 2) := by decide +kernel
theorem dX4_workDepths_43 : decode cX4_workDepths 43 = .ok (.iconst (-1), 1) := by decide +kernel
theorem dX4_workDepths_44 : decode cX4_workDepths 44 = .ok (.if_icmp .eq 24, 3) := by decide +kernel
theorem dX4_workDepths_47 : decode cX4_workDepths 47 = .ok (.aload_n 0, 1) := by decide +kernel
theorem dX4_workDepths_48 : decode cX4_workDepths 48 = .ok (.getfield 42, 3) := by decide +kernel
theorem dX4_workDepths_51 : decode cX4_workDepths 51 = .ok (.iload 5, 2) := by decide +kernel
theorem dX4_workDepths_53 : decode cX4_workDepths 53 = .ok (.iaload, 1) := by decide +kernel
theorem dX4_workDepths_54 : decode cX4_workDepths 54 = .ok (.iload_n 3, 1) := by decide +kernel
theorem dX4_workDepths_55 : decode cX4_workDepths 55 = .ok (.if_icmp .le 13, 3) := by decide +kernel
theorem dX4_workDepths_58 : decode cX4_workDepths 58 = .ok (.aload_n 0, 1) := by decide +kernel
theorem dX4_workDepths_59 : decode cX4_workDepths 59 = .ok (.getfield 42, 3) := by decide +kernel
theorem dX4_workDepths_62 : decode cX4_workDepths 62 = .ok (.iload 5, 2) := by decide +kernel
theorem dX4_workDepths_64 : decode cX4_workDepths 64 = .ok (.iaload, 1) := by decide +kernel
theorem dX4_workDepths_65 : decode cX4_workDepths 65 = .ok (.goto 4, 3) := by decide +kernel
theorem dX4_workDepths_68 : decode cX4_workDepths 68 = .ok (.iload_n 3, 1) := by decide +kernel
theorem dX4_workDepths_69 : decode cX4_workDepths 69 = .ok (.istore_n 3, 1) := by decide +kernel
theorem dX4_workDepths_70 : decode cX4_workDepths 70 = .ok (.iinc 4 1, 3) := by decide +kernel
theorem dX4_workDepths_73 : decode cX4_workDepths 73 = .ok (.goto (-51), 3) := by decide +kernel
theorem dX4_workDepths_76 : decode cX4_workDepths 76 = .ok (.aload_n 0, 1) := by decide +kernel
theorem dX4_workDepths_77 : decode cX4_workDepths 77 = .ok (.getfield 42, 3) := by decide +kernel
theorem dX4_workDepths_80 : decode cX4_workDepths 80 = .ok (.iload_n 2, 1) := by decide +kernel
theorem dX4_workDepths_81 : decode cX4_workDepths 81 = .ok (.iload_n 3, 1) := by decide +kernel
theorem dX4_workDepths_82 : decode cX4_workDepths 82 = .ok (.iconst 1, 1) := by decide +kernel
theorem dX4_workDepths_83 : decode cX4_workDepths 83 = .ok (.iadd, 1) := by decide +kernel
theorem dX4_workDepths_84 : decode cX4_workDepths 84 = .ok (.iastore, 1) := by decide +kernel
theorem dX4_workDepths_85 : decode cX4_workDepths 85 = .ok (.iinc 1 1, 3) := by decide +kernel
theorem dX4_workDepths_88 : decode cX4_workDepths 88 = .ok (.goto (-86), 3) := by decide +kernel
theorem dX4_workDepths_91 : decode cX4_workDepths 91 = .ok (.return_, 1) := by decide +kernel
theorem dX4_goThrough_0 : decode cX4_goThrough 0 = .ok (.aload_n 0, 1) := by decide +kernel
theorem dX4_goThrough_1 : decode cX4_goThrough 1 = .ok (.iload_n 1, 1) := by decide +kernel
theorem dX4_goThrough_2 : decode cX4_goThrough 2 = .ok (.invokevirtual 78, 3) := by decide +kernel
theorem dX4_goThrough_5 : decode cX4_goThrough 5 = .ok (.ifCond .ne 5, 3) := by decide +kernel
theorem dX4_goThrough_8 : decode cX4_goThrough 8 = .ok (.iconst 1, 1) := by decide +kernel
theorem dX4_goThrough_9 : decode cX4_goThrough 9 = .ok (.ireturn, 1) := by decide +kernel
theorem dX4_goThrough_10 : decode cX4_goThrough 10 = .ok (.aload_n 0, 1) := by decide +kernel
theorem dX4_goThrough_11 : decode cX4_goThrough 11 = .ok (.invokevirtual 114, 3) := by decide +kernel
theorem dX4_goThrough_14 : decode cX4_goThrough 14 = .ok (.aload_n 0, 1) := by decide +kernel
theorem dX4_goThrough_15 : decode cX4_goThrough 15 = .ok (.iload_n 1, 1) := by decide +kernel
theorem dX4_goThrough_16 : decode cX4_goThrough 16 = .ok (.invokevirtual 117, 3) := by decide +kernel
theorem dX4_goThrough_19 : decode cX4_goThrough 19 = .ok (.ifCond .ne 5, 3) := by decide +kernel
theorem dX4_goThrough_22 : decode cX4_goThrough 22 = .ok (.iconst 5, 1) := by decide +kernel
theorem dX4_goThrough_23 : decode cX4_goThrough 23 = .ok (.ireturn, 1) := by decide +kernel
theorem dX4_goThrough_24 : decode cX4_goThrough 24 = .ok (.aload_n 0, 1) := by decide +kernel
theorem dX4_goThrough_25 : decode cX4_goThrough 25 = .ok (.invokevirtual 120, 3) := by decide +kernel
theorem dX4_goThrough_28 : decode cX4_goThrough 28 = .ok (.aload_n 0, 1) := by decide +kernel
theorem dX4_goThrough_29 : decode cX4_goThrough 29 = .ok (.getfield 42, 3) := by decide +kernel
theorem dX4_goThrough_32 : decode cX4_goThrough 32 = .ok (.iload_n 1, 1) := by decide +kernel
theorem dX4_goThrough_33 : decode cX4_goThrough 33 = .ok (.iaload, 1) := by decide +kernel
theorem dX4_goThrough_34 : decode cX4_goThrough 34 = .ok (.sipush 400, 3) := by decide +kernel
theorem dX4_goThrough_37 : decode cX4_goThrough 37 = .ok (.if_icmp .le 8, 3) := by decide +kernel
theorem dX4_goThrough_40 : decode cX4_goThrough 40 = .ok (.bipush 6, 2) := by decide +kernel
theorem dX4_goThrough_42 : decode cX4_goThrough 42 = .ok (.goto 4, 3) := by decide +kernel
theorem dX4_goThrough_45 : decode cX4_goThrough 45 = .ok (.iconst 0, 1) := by decide +kernel
theorem dX4_goThrough_46 : decode cX4_goThrough 46 = .ok (.ireturn, 1) := by decide +kernel
theorem dX4_own_0 : decode cX4_own 0 = .ok (.aload_n 0, 1) := by decide +kernel
theorem dX4_own_1 : decode cX4_own 1 = .ok (.getfield 7, 3) := by decide +kernel
theorem dX4_own_4 : decode cX4_own 4 = .ok (.iload_n 1, 1) := by decide +kernel
theorem dX4_own_5 : decode cX4_own 5 = .ok (.iaload, 1) := by decide +kernel
theorem dX4_own_6 : decode cX4_own 6 = .ok (.bipush 7, 2) := by decide +kernel
theorem dX4_own_8 : decode cX4_own 8 = .ok (.if_icmp .lt 13, 3) := by decide +kernel
theorem dX4_own_11 : decode cX4_own 11 = .ok (.aload_n 0, 1) := by decide +kernel
theorem dX4_own_12 : decode cX4_own 12 = .ok (.getfield 16, 3) := by decide +kernel
theorem dX4_own_15 : decode cX4_own 15 = .ok (.iload_n 1, 1) := by decide +kernel
theorem dX4_own_16 : decode cX4_own 16 = .ok (.iaload, 1) := by decide +kernel
theorem dX4_own_17 : decode cX4_own 17 = .ok (.i2l, 1) := by decide +kernel
theorem dX4_own_18 : decode cX4_own 18 = .ok (.goto 4, 3) := by decide +kernel
theorem dX4_own_21 : decode cX4_own 21 = .ok (.lconst 0, 1) := by decide +kernel
theorem dX4_own_22 : decode cX4_own 22 = .ok (.lstore_n 2, 1) := by decide +kernel
theorem dX4_own_23 : decode cX4_own 23 = .ok (.iconst 0, 1) := by decide +kernel
theorem dX4_own_24 : decode cX4_own 24 = .ok (.istore 4, 2) := by decide +kernel
theorem dX4_own_26 : decode cX4_own 26 = .ok (.aload_n 0, 1) := by decide +kernel
theorem dX4_own_27 : decode cX4_own 27 = .ok (.getfield 7, 3) := by decide +kernel
theorem dX4_own_30 : decode cX4_own 30 = .ok (.iload_n 1, 1) := by decide +kernel
theorem dX4_own_31 : decode cX4_own 31 = .ok (.iaload, 1) := by decide +kernel
theorem dX4_own_32 : decode cX4_own 32 = .ok (.invokestatic 81, 3) := by decide +kernel
theorem dX4_own_35 : decode cX4_own 35 = .ok (.ifCond .eq 37, 3) := by decide +kernel
theorem dX4_own_38 : decode cX4_own 38 = .ok (.iload 4, 2) := by decide +kernel
theorem dX4_own_40 : decode cX4_own 40 = .ok (.aload_n 0, 1) := by decide +kernel
theorem dX4_own_41 : decode cX4_own 41 = .ok (.getfield 13, 3) := by decide +kernel
theorem dX4_own_44 : decode cX4_own 44 = .ok (.iload_n 1, 1) := by decide +kernel
theorem dX4_own_45 : decode cX4_own 45 = .ok (.iaload, 1) := by decide +kernel
theorem dX4_own_46 : decode cX4_own 46 = .ok (.if_icmp .ge 26, 3) := by decide +kernel
theorem dX4_own_49 : decode cX4_own 49 = .ok (.lload_n 2, 1) := by decide +kernel
theorem dX4_own_50 : decode cX4_own 50 = .ok (.aload_n 0, 1) := by decide +kernel
theorem dX4_own_51 : decode cX4_own 51 = .ok (.getfield 23, 3) := by decide +kernel
theorem dX4_own_54 : decode cX4_own 54 = .ok (.aload_n 0, 1) := by decide +kernel
theorem dX4_own_55 : decode cX4_own 55 = .ok (.getfield 19, 3) := by decide +kernel
theorem dX4_own_58 : decode cX4_own 58 = .ok (.iload_n 1, 1) := by decide +kernel
theorem dX4_own_59 : decode cX4_own 59 = .ok (.iaload, 1) := by decide +kernel
theorem dX4_own_60 : decode cX4_own 60 = .ok (.iload 4, 2) := by decide +kernel
theorem dX4_own_62 : decode cX4_own 62 = .ok (.iadd, 1) := by decide +kernel
theorem dX4_own_63 : decode cX4_own 63 = .ok (.laload, 1) := by decide +kernel
theorem dX4_own_64 : decode cX4_own 64 = .ok (.ladd, 1) := by decide +kernel
theorem dX4_own_65 : decode cX4_own 65 = .ok (.lstore_n 2, 1) := by decide +kernel
theorem dX4_own_66 : decode cX4_own 66 = .ok (.iinc 4 1, 3) := by decide +kernel
theorem dX4_own_69 : decode cX4_own 69 = .ok (.goto (-43), 3) := by decide +kernel
theorem dX4_own_72 : decode cX4_own 72 = .ok (.lload_n 2, 1) := by decide +kernel
theorem dX4_own_73 : decode cX4_own 73 = .ok (.lreturn, 1) := by decide +kernel
theorem dX4_weight_0 : decode cX4_weight 0 = .ok (.aload_n 0, 1) := by decide +kernel
theorem dX4_weight_1 : decode cX4_weight 1 = .ok (.aload_n 0, 1) := by decide +kernel
theorem dX4_weight_2 : decode cX4_weight 2 = .ok (.iload_n 1, 1) := by decide +kernel
theorem dX4_weight_3 : decode cX4_weight 3 = .ok (.invokevirtual 123, 3) := by decide +kernel
theorem dX4_weight_6 : decode cX4_weight 6 = .ok (.putfield 93, 3) := by decide +kernel
theorem dX4_weight_9 : decode cX4_weight 9 = .ok (.aload_n 0, 1) := by decide +kernel
theorem dX4_weight_10 : decode cX4_weight 10 = .ok (.getfield 93, 3) := by decide +kernel
theorem dX4_weight_13 : decode cX4_weight 13 = .ok (.ifCond .eq 7, 3) := by decide +kernel
theorem dX4_weight_16 : decode cX4_weight 16 = .ok (.ldc2_w 72, 3) := by decide +kernel
theorem dX4_weight_19 : decode cX4_weight 19 = .ok (.lreturn, 1) := by decide +kernel
theorem dX4_weight_20 : decode cX4_weight 20 = .ok (.iconst 0, 1) := by decide +kernel
theorem dX4_weight_21 : decode cX4_weight 21 = .ok (.istore_n 2, 1) := by decide +kernel
theorem dX4_weight_22 : decode cX4_weight 22 = .ok (.iload_n 2, 1) := by decide +kernel
theorem dX4_weight_23 : decode cX4_weight 23 = .ok (.aload_n 0, 1) := by decide +kernel
theorem dX4_weight_24 : decode cX4_weight 24 = .ok (.getfield 103, 3) := by decide +kernel
theorem dX4_weight_27 : decode cX4_weight 27 = .ok (.if_icmp .ge 82, 3) := by decide +kernel
theorem dX4_weight_30 : decode cX4_weight 30 = .ok (.aload_n 0, 1) := by decide +kernel
theorem dX4_weight_31 : decode cX4_weight 31 = .ok (.getfield 33, 3) := by decide +kernel
theorem dX4_weight_34 : decode cX4_weight 34 = .ok (.iload_n 2, 1) := by decide +kernel
theorem dX4_weight_35 : decode cX4_weight 35 = .ok (.iaload, 1) := by decide +kernel
theorem dX4_weight_36 : decode cX4_weight 36 = .ok (.istore_n 3, 1) := by decide +kernel
theorem dX4_weight_37 : decode cX4_weight 37 = .ok (.aload_n 0, 1) := by decide +kernel
theorem dX4_weight_38 : decode cX4_weight 38 = .ok (.getfield 45, 3) := by decide +kernel
theorem dX4_weight_41 : decode cX4_weight 41 = .ok (.iload_n 3, 1) := by decide +kernel
theorem dX4_weight_42 : decode cX4_weight 42 = .ok (.aload_n 0, 1) := by decide +kernel
theorem dX4_weight_43 : decode cX4_weight 43 = .ok (.iload_n 3, 1) := by decide +kernel
theorem dX4_weight_44 : decode cX4_weight 44 = .ok (.invokevirtual 126, 3) := by decide +kernel
theorem dX4_weight_47 : decode cX4_weight 47 = .ok (.lastore, 1) := by decide +kernel
theorem dX4_weight_48 : decode cX4_weight 48 = .ok (.iconst 0, 1) := by decide +kernel
theorem dX4_weight_49 : decode cX4_weight 49 = .ok (.istore 4, 2) := by decide +kernel
theorem dX4_weight_51 : decode cX4_weight 51 = .ok (.iload 4, 2) := by decide +kernel
theorem dX4_weight_53 : decode cX4_weight 53 = .ok (.aload_n 0, 1) := by decide +kernel
theorem dX4_weight_54 : decode cX4_weight 54 = .ok (.iload_n 3, 1) := by decide +kernel
theorem dX4_weight_55 : decode cX4_weight 55 = .ok (.invokevirtual 110, 3) := by decide +kernel
theorem dX4_weight_58 : decode cX4_weight 58 = .ok (.if_icmp .ge 45, 3) := by decide +kernel
theorem dX4_weight_61 : decode cX4_weight 61 = .ok (.aload_n 0, 1) := by decide +kernel
theorem dX4_weight_62 : decode cX4_weight 62 = .ok (.getfield 45, 3) := by decide +kernel
theorem dX4_weight_65 : decode cX4_weight 65 = .ok (.iload_n 3, 1) := by decide +kernel
theorem dX4_weight_66 : decode cX4_weight 66 = .ok (.dup2, 1) := by decide +kernel
theorem dX4_weight_67 : decode cX4_weight 67 = .ok (.laload, 1) := by decide +kernel
theorem dX4_weight_68 : decode cX4_weight 68 = .ok (.aload_n 0, 1) := by decide +kernel
theorem dX4_weight_69 : decode cX4_weight 69 = .ok (.iload_n 3, 1) := by decide +kernel
theorem dX4_weight_70 : decode cX4_weight 70 = .ok (.iload 4, 2) := by decide +kernel
theorem dX4_weight_72 : decode cX4_weight 72 = .ok (.invokevirtual 96, 3) := by decide +kernel
theorem dX4_weight_75 : decode cX4_weight 75 = .ok (.iconst (-1), 1) := by decide +kernel
theorem dX4_weight_76 : decode cX4_weight 76 = .ok (.if_icmp .ne 7, 3) := by decide +kernel
theorem dX4_weight_79 : decode cX4_weight 79 = .ok (.lconst 0, 1) := by decide +kernel
theorem dX4_weight_80 : decode cX4_weight 80 = .ok (.goto 15, 3) := by decide +kernel
theorem dX4_weight_83 : decode cX4_weight 83 = .ok (.aload_n 0, 1) := by decide +kernel
theorem dX4_weight_84 : decode cX4_weight 84 = .ok (.getfield 45, 3) := by decide +kernel
theorem dX4_weight_87 : decode cX4_weight 87 = .ok (.aload_n 0, 1) := by decide +kernel
theorem dX4_weight_88 : decode cX4_weight 88 = .ok (.iload_n 3, 1) := by decide +kernel
theorem dX4_weight_89 : decode cX4_weight 89 = .ok (.iload 4, 2) := by decide +kernel
theorem dX4_weight_91 : decode cX4_weight 91 = .ok (.invokevirtual 96, 3) := by decide +kernel
theorem dX4_weight_94 : decode cX4_weight 94 = .ok (.laload, 1) := by decide +kernel
theorem dX4_weight_95 : decode cX4_weight 95 = .ok (.ladd, 1) := by decide +kernel
theorem dX4_weight_96 : decode cX4_weight 96 = .ok (.lastore, 1) := by decide +kernel
theorem dX4_weight_97 : decode cX4_weight 97 = .ok (.iinc 4 1, 3) := by decide +kernel
theorem dX4_weight_100 : decode cX4_weight 100 = .ok (.goto (-49), 3) := by decide +kernel
theorem dX4_weight_103 : decode cX4_weight 103 = .ok (.iinc 2 1, 3) := by decide +kernel
theorem dX4_weight_106 : decode cX4_weight 106 = .ok (.goto (-84), 3) := by decide +kernel
theorem dX4_weight_109 : decode cX4_weight 109 = .ok (.aload_n 0, 1) := by decide +kernel
theorem dX4_weight_110 : decode cX4_weight 110 = .ok (.getfield 45, 3) := by decide +kernel
theorem dX4_weight_113 : decode cX4_weight 113 = .ok (.iload_n 1, 1) := by decide +kernel
theorem dX4_weight_114 : decode cX4_weight 114 = .ok (.laload, 1) := by decide +kernel
theorem dX4_weight_115 : decode cX4_weight 115 = .ok (.lreturn, 1) := by decide +kernel
theorem dX4_depth_0 : decode cX4_depth 0 = .ok (.aload_n 0, 1) := by decide +kernel
theorem dX4_depth_1 : decode cX4_depth 1 = .ok (.aload_n 0, 1) := by decide +kernel
theorem dX4_depth_2 : decode cX4_depth 2 = .ok (.iload_n 1, 1) := by decide +kernel
theorem dX4_depth_3 : decode cX4_depth 3 = .ok (.invokevirtual 123, 3) := by decide +kernel
theorem dX4_depth_6 : decode cX4_depth 6 = .ok (.putfield 93, 3) := by decide +kernel
theorem dX4_depth_9 : decode cX4_depth 9 = .ok (.aload_n 0, 1) := by decide +kernel
theorem dX4_depth_10 : decode cX4_depth 10 = .ok (.getfield 93, 3) := by decide +kernel
theorem dX4_depth_13 : decode cX4_depth 13 = .ok (.ifCond .ne 12, 3) := by decide +kernel
theorem dX4_depth_16 : decode cX4_depth 16 = .ok (.aload_n 0, 1) := by decide +kernel
theorem dX4_depth_17 : decode cX4_depth 17 = .ok (.getfield 42, 3) := by decide +kernel
theorem dX4_depth_20 : decode cX4_depth 20 = .ok (.iload_n 1, 1) := by decide +kernel
theorem dX4_depth_21 : decode cX4_depth 21 = .ok (.iaload, 1) := by decide +kernel
theorem dX4_depth_22 : decode cX4_depth 22 = .ok (.goto 4, 3) := by decide +kernel
theorem dX4_depth_25 : decode cX4_depth 25 = .ok (.iconst (-1), 1) := by decide +kernel
theorem dX4_depth_26 : decode cX4_depth 26 = .ok (.ireturn, 1) := by decide +kernel
theorem dX4_ring_0 : decode cX4_ring 0 = .ok (.aload_n 0, 1) := by decide +kernel
theorem dX4_ring_1 : decode cX4_ring 1 = .ok (.iload_n 1, 1) := by decide +kernel
theorem dX4_ring_2 : decode cX4_ring 2 = .ok (.invokevirtual 78, 3) := by decide +kernel
theorem dX4_ring_5 : decode cX4_ring 5 = .ok (.ifCond .ne 5, 3) := by decide +kernel
theorem dX4_ring_8 : decode cX4_ring 8 = .ok (.iconst (-1), 1) := by decide +kernel
theorem dX4_ring_9 : decode cX4_ring 9 = .ok (.ireturn, 1) := by decide +kernel
theorem dX4_ring_10 : decode cX4_ring 10 = .ok (.aload_n 0, 1) := by decide +kernel
theorem dX4_ring_11 : decode cX4_ring 11 = .ok (.invokevirtual 114, 3) := by decide +kernel
theorem dX4_ring_14 : decode cX4_ring 14 = .ok (.iconst 0, 1) := by decide +kernel
theorem dX4_ring_15 : decode cX4_ring 15 = .ok (.istore_n 2, 1) := by decide +kernel
theorem dX4_ring_16 : decode cX4_ring 16 = .ok (.iload_n 1, 1) := by decide +kernel
theorem dX4_ring_17 : decode cX4_ring 17 = .ok (.istore_n 3, 1) := by decide +kernel
theorem dX4_ring_18 : decode cX4_ring 18 = .ok (.iconst 0, 1) := by decide +kernel
theorem dX4_ring_19 : decode cX4_ring 19 = .ok (.istore 4, 2) := by decide +kernel
theorem dX4_ring_21 : decode cX4_ring 21 = .ok (.iconst 1, 1) := by decide +kernel
theorem dX4_ring_22 : decode cX4_ring 22 = .ok (.istore 5, 2) := by decide +kernel
theorem dX4_ring_24 : decode cX4_ring 24 = .ok (.iload 5, 2) := by decide +kernel
theorem dX4_ring_26 : decode cX4_ring 26 = .ok (.ifCond .eq 135, 3) := by decide +kernel
theorem dX4_ring_29 : decode cX4_ring 29 = .ok (.iconst 0, 1) := by decide +kernel
theorem dX4_ring_30 : decode cX4_ring 30 = .ok (.istore 6, 2) := by decide +kernel
theorem dX4_ring_32 : decode cX4_ring 32 = .ok (.iload 6, 2) := by decide +kernel
theorem dX4_ring_34 : decode cX4_ring 34 = .ok (.aload_n 0, 1) := by decide +kernel
theorem dX4_ring_35 : decode cX4_ring 35 = .ok (.iload_n 3, 1) := by decide +kernel
theorem dX4_ring_36 : decode cX4_ring 36 = .ok (.invokevirtual 110, 3) := by decide +kernel
theorem dX4_ring_39 : decode cX4_ring 39 = .ok (.if_icmp .ge 79, 3) := by decide +kernel
theorem dX4_ring_42 : decode cX4_ring 42 = .ok (.aload_n 0, 1) := by decide +kernel
theorem dX4_ring_43 : decode cX4_ring 43 = .ok (.iload_n 3, 1) := by decide +kernel
theorem dX4_ring_44 : decode cX4_ring 44 = .ok (.iload 6, 2) := by decide +kernel
theorem dX4_ring_46 : decode cX4_ring 46 = .ok (.invokevirtual 96, 3) := by decide +kernel
theorem dX4_ring_49 : decode cX4_ring 49 = .ok (.istore 7, 2) := by decide +kernel
theorem dX4_ring_51 : decode cX4_ring 51 = .ok (.iload_n 2, 1) := by decide +kernel
theorem dX4_ring_52 : decode cX4_ring 52 = .ok (.ifCond .ne 9, 3) := by decide +kernel
theorem dX4_ring_55 : decode cX4_ring 55 = .ok (.iload 7, 2) := by decide +kernel
theorem dX4_ring_57 : decode cX4_ring 57 = .ok (.iload_n 1, 1) := by decide +kernel
theorem dX4_ring_58 : decode cX4_ring 58 = .ok (.if_icmp .ne 7, 3) := by decide +kernel
theorem dX4_ring_61 : decode cX4_ring 61 = .ok (.iconst 1, 1) := by decide +kernel
theorem dX4_ring_62 : decode cX4_ring 62 = .ok (.goto 4, 3) := by decide +kernel
theorem dX4_ring_65 : decode cX4_ring 65 = .ok (.iconst 0, 1) := by decide +kernel
theorem dX4_ring_66 : decode cX4_ring 66 = .ok (.istore_n 2, 1) := by decide +kernel
theorem dX4_ring_67 : decode cX4_ring 67 = .ok (.iload 7, 2) := by decide +kernel
theorem dX4_ring_69 : decode cX4_ring 69 = .ok (.iconst (-1), 1) := by decide +kernel
theorem dX4_ring_70 : decode cX4_ring 70 = .ok (.if_icmp .eq 42, 3) := by decide +kernel
theorem dX4_ring_73 : decode cX4_ring 73 = .ok (.aload_n 0, 1) := by decide +kernel
theorem dX4_ring_74 : decode cX4_ring 74 = .ok (.getfield 27, 3) := by decide +kernel
theorem dX4_ring_77 : decode cX4_ring 77 = .ok (.iload 7, 2) := by decide +kernel
theorem dX4_ring_79 : decode cX4_ring 79 = .ok (.iaload, 1) := by decide +kernel
theorem dX4_ring_80 : decode cX4_ring 80 = .ok (.ifCond .ne 32, 3) := by decide +kernel
theorem dX4_ring_83 : decode cX4_ring 83 = .ok (.aload_n 0, 1) := by decide +kernel
theorem dX4_ring_84 : decode cX4_ring 84 = .ok (.getfield 27, 3) := by decide +kernel
theorem dX4_ring_87 : decode cX4_ring 87 = .ok (.iload 7, 2) := by decide +kernel
theorem dX4_ring_89 : decode cX4_ring 89 = .ok (.iconst 2, 1) := by decide +kernel
theorem dX4_ring_90 : decode cX4_ring 90 = .ok (.iastore, 1) := by decide +kernel
theorem dX4_ring_91 : decode cX4_ring 91 = .ok (.aload_n 0, 1) := by decide +kernel
theorem dX4_ring_92 : decode cX4_ring 92 = .ok (.getfield 30, 3) := by decide +kernel
theorem dX4_ring_95 : decode cX4_ring 95 = .ok (.aload_n 0, 1) := by decide +kernel
theorem dX4_ring_96 : decode cX4_ring 96 = .ok (.getfield 100, 3) := by decide +kernel
theorem dX4_ring_99 : decode cX4_ring 99 = .ok (.iload 7, 2) := by decide +kernel
theorem dX4_ring_101 : decode cX4_ring 101 = .ok (.iastore, 1) := by decide +kernel
theorem dX4_ring_102 : decode cX4_ring 102 = .ok (.aload_n 0, 1) := by decide +kernel
theorem dX4_ring_103 : decode cX4_ring 103 = .ok (.dup, 1) := by decide +kernel
theorem dX4_ring_104 : decode cX4_ring 104 = .ok (.getfield 100, 3) := by decide +kernel
theorem dX4_ring_107 : decode cX4_ring 107 = .ok (.iconst 1, 1) := by decide +kernel
theorem dX4_ring_108 : decode cX4_ring 108 = .ok (.iadd, 1) := by decide +kernel
theorem dX4_ring_109 : decode cX4_ring 109 = .ok (.putfield 100, 3) := by decide +kernel
theorem dX4_ring_112 : decode cX4_ring 112 = .ok (.iinc 6 1, 3) := by decide +kernel
theorem dX4_ring_115 : decode cX4_ring 115 = .ok (.goto (-83), 3) := by decide +kernel
theorem dX4_ring_118 : decode cX4_ring 118 = .ok (.iload_n 2, 1) := by decide +kernel
theorem dX4_ring_119 : decode cX4_ring 119 = .ok (.ifCond .ne 16, 3) := by decide +kernel
theorem dX4_ring_122 : decode cX4_ring 122 = .ok (.iload 4, 2) := by decide +kernel
theorem dX4_ring_124 : decode cX4_ring 124 = .ok (.aload_n 0, 1) := by decide +kernel
theorem dX4_ring_125 : decode cX4_ring 125 = .ok (.getfield 100, 3) := by decide +kernel
theorem dX4_ring_128 : decode cX4_ring 128 = .ok (.if_icmp .ge 7, 3) := by decide +kernel
theorem dX4_ring_131 : decode cX4_ring 131 = .ok (.iconst 1, 1) := by decide +kernel
theorem dX4_ring_132 : decode cX4_ring 132 = .ok (.goto 4, 3) := by decide +kernel
theorem dX4_ring_135 : decode cX4_ring 135 = .ok (.iconst 0, 1) := by decide +kernel
theorem dX4_ring_136 : decode cX4_ring 136 = .ok (.istore 5, 2) := by decide +kernel
theorem dX4_ring_138 : decode cX4_ring 138 = .ok (.iload 5, 2) := by decide +kernel
theorem dX4_ring_140 : decode cX4_ring 140 = .ok (.ifCond .eq 13, 3) := by decide +kernel
theorem dX4_ring_143 : decode cX4_ring 143 = .ok (.aload_n 0, 1) := by decide +kernel
theorem dX4_ring_144 : decode cX4_ring 144 = .ok (.getfield 30, 3) := by decide +kernel
theorem dX4_ring_147 : decode cX4_ring 147 = .ok (.iload 4, 2) := by decide +kernel
theorem dX4_ring_149 : decode cX4_ring 149 = .ok (.iaload, 1) := by decide +kernel
theorem dX4_ring_150 : decode cX4_ring 150 = .ok (.goto 4, 3) := by decide +kernel
theorem dX4_ring_153 : decode cX4_ring 153 = .ok (.iload_n 3, 1) := by decide +kernel
theorem dX4_ring_154 : decode cX4_ring 154 = .ok (.istore_n 3, 1) := by decide +kernel
theorem dX4_ring_155 : decode cX4_ring 155 = .ok (.iinc 4 1, 3) := by decide +kernel
theorem dX4_ring_158 : decode cX4_ring 158 = .ok (.goto (-134), 3) := by decide +kernel
theorem dX4_ring_161 : decode cX4_ring 161 = .ok (.iload_n 2, 1) := by decide +kernel
theorem dX4_ring_162 : decode cX4_ring 162 = .ok (.ifCond .eq 7, 3) := by decide +kernel
theorem dX4_ring_165 : decode cX4_ring 165 = .ok (.iconst 1, 1) := by decide +kernel
theorem dX4_ring_166 : decode cX4_ring 166 = .ok (.goto 4, 3) := by decide +kernel
theorem dX4_ring_169 : decode cX4_ring 169 = .ok (.iconst 0, 1) := by decide +kernel
theorem dX4_ring_170 : decode cX4_ring 170 = .ok (.ireturn, 1) := by decide +kernel
theorem dX4_mix_0 : decode cX4_mix 0 = .ok (.aload_n 0, 1) := by decide +kernel
theorem dX4_mix_1 : decode cX4_mix 1 = .ok (.getfield 7, 3) := by decide +kernel
theorem dX4_mix_4 : decode cX4_mix 4 = .ok (.iload_n 1, 1) := by decide +kernel
theorem dX4_mix_5 : decode cX4_mix 5 = .ok (.iaload, 1) := by decide +kernel
theorem dX4_mix_6 : decode cX4_mix 6 = .ok (.i2l, 1) := by decide +kernel
theorem dX4_mix_7 : decode cX4_mix 7 = .ok (.ldc2_w 130, 3) := by decide +kernel
theorem dX4_mix_10 : decode cX4_mix 10 = .ok (.lmul, 1) := by decide +kernel
theorem dX4_mix_11 : decode cX4_mix 11 = .ok (.aload_n 0, 1) := by decide +kernel
theorem dX4_mix_12 : decode cX4_mix 12 = .ok (.getfield 13, 3) := by decide +kernel
theorem dX4_mix_15 : decode cX4_mix 15 = .ok (.iload_n 1, 1) := by decide +kernel
theorem dX4_mix_16 : decode cX4_mix 16 = .ok (.iaload, 1) := by decide +kernel
theorem dX4_mix_17 : decode cX4_mix 17 = .ok (.i2l, 1) := by decide +kernel
theorem dX4_mix_18 : decode cX4_mix 18 = .ok (.ladd, 1) := by decide +kernel
theorem dX4_mix_19 : decode cX4_mix 19 = .ok (.lstore_n 2, 1) := by decide +kernel
theorem dX4_mix_20 : decode cX4_mix 20 = .ok (.lload_n 2, 1) := by decide +kernel
theorem dX4_mix_21 : decode cX4_mix 21 = .ok (.ldc2_w 130, 3) := by decide +kernel
theorem dX4_mix_24 : decode cX4_mix 24 = .ok (.lmul, 1) := by decide +kernel
theorem dX4_mix_25 : decode cX4_mix 25 = .ok (.aload_n 0, 1) := by decide +kernel
theorem dX4_mix_26 : decode cX4_mix 26 = .ok (.getfield 16, 3) := by decide +kernel
theorem dX4_mix_29 : decode cX4_mix 29 = .ok (.iload_n 1, 1) := by decide +kernel
theorem dX4_mix_30 : decode cX4_mix 30 = .ok (.iaload, 1) := by decide +kernel
theorem dX4_mix_31 : decode cX4_mix 31 = .ok (.i2l, 1) := by decide +kernel
theorem dX4_mix_32 : decode cX4_mix 32 = .ok (.ladd, 1) := by decide +kernel
theorem dX4_mix_33 : decode cX4_mix 33 = .ok (.lstore_n 2, 1) := by decide +kernel
theorem dX4_mix_34 : decode cX4_mix 34 = .ok (.aload_n 0, 1) := by decide +kernel
theorem dX4_mix_35 : decode cX4_mix 35 = .ok (.getfield 7, 3) := by decide +kernel
theorem dX4_mix_38 : decode cX4_mix 38 = .ok (.iload_n 1, 1) := by decide +kernel
theorem dX4_mix_39 : decode cX4_mix 39 = .ok (.iaload, 1) := by decide +kernel
theorem dX4_mix_40 : decode cX4_mix 40 = .ok (.invokestatic 65, 3) := by decide +kernel
theorem dX4_mix_43 : decode cX4_mix 43 = .ok (.istore 4, 2) := by decide +kernel
theorem dX4_mix_45 : decode cX4_mix 45 = .ok (.iconst 0, 1) := by decide +kernel
theorem dX4_mix_46 : decode cX4_mix 46 = .ok (.istore 5, 2) := by decide +kernel
theorem dX4_mix_48 : decode cX4_mix 48 = .ok (.iload 5, 2) := by decide +kernel
theorem dX4_mix_50 : decode cX4_mix 50 = .ok (.aload_n 0, 1) := by decide +kernel
theorem dX4_mix_51 : decode cX4_mix 51 = .ok (.getfield 13, 3) := by decide +kernel
theorem dX4_mix_54 : decode cX4_mix 54 = .ok (.iload_n 1, 1) := by decide +kernel
theorem dX4_mix_55 : decode cX4_mix 55 = .ok (.iaload, 1) := by decide +kernel
theorem dX4_mix_56 : decode cX4_mix 56 = .ok (.if_icmp .ge 64, 3) := by decide +kernel
theorem dX4_mix_59 : decode cX4_mix 59 = .ok (.aload_n 0, 1) := by decide +kernel
theorem dX4_mix_60 : decode cX4_mix 60 = .ok (.getfield 23, 3) := by decide +kernel
theorem dX4_mix_63 : decode cX4_mix 63 = .ok (.aload_n 0, 1) := by decide +kernel
theorem dX4_mix_64 : decode cX4_mix 64 = .ok (.getfield 19, 3) := by decide +kernel
theorem dX4_mix_67 : decode cX4_mix 67 = .ok (.iload_n 1, 1) := by decide +kernel
theorem dX4_mix_68 : decode cX4_mix 68 = .ok (.iaload, 1) := by decide +kernel
theorem dX4_mix_69 : decode cX4_mix 69 = .ok (.iload 5, 2) := by decide +kernel
theorem dX4_mix_71 : decode cX4_mix 71 = .ok (.iadd, 1) := by decide +kernel
theorem dX4_mix_72 : decode cX4_mix 72 = .ok (.laload, 1) := by decide +kernel
theorem dX4_mix_73 : decode cX4_mix 73 = .ok (.lstore 6, 2) := by decide +kernel
theorem dX4_mix_75 : decode cX4_mix 75 = .ok (.lload_n 2, 1) := by decide +kernel
theorem dX4_mix_76 : decode cX4_mix 76 = .ok (.ldc2_w 132, 3) := by decide +kernel
theorem dX4_mix_79 : decode cX4_mix 79 = .ok (.lmul, 1) := by decide +kernel
theorem dX4_mix_80 : decode cX4_mix 80 = .ok (.iload 4, 2) := by decide +kernel
theorem dX4_mix_82 : decode cX4_mix 82 = .ok (.ifCond .ne 8, 3) := by decide +kernel
theorem dX4_mix_85 : decode cX4_mix 85 = .ok (.lload 6, 2) := by decide +kernel
theorem dX4_mix_87 : decode cX4_mix 87 = .ok (.goto 25, 3) := by decide +kernel
theorem dX4_mix_90 : decode cX4_mix 90 = .ok (.lload 6, 2) := by decide +kernel
theorem dX4_mix_92 : decode cX4_mix 92 = .ok (.lconst 0, 1) := by decide +kernel
theorem dX4_mix_93 : decode cX4_mix 93 = .ok (.lcmp, 1) := by decide +kernel
theorem dX4_mix_94 : decode cX4_mix 94 = .ok (.ifCond .ge 9, 3) := by decide +kernel
theorem dX4_mix_97 : decode cX4_mix 97 = .ok (.ldc2_w 72, 3) := by decide +kernel
theorem dX4_mix_100 : decode cX4_mix 100 = .ok (.goto 12, 3) := by decide +kernel
theorem dX4_mix_103 : decode cX4_mix 103 = .ok (.aload_n 0, 1) := by decide +kernel
theorem dX4_mix_104 : decode cX4_mix 104 = .ok (.getfield 48, 3) := by decide +kernel
theorem dX4_mix_107 : decode cX4_mix 107 = .ok (.lload 6, 2) := by decide +kernel
theorem dX4_mix_109 : decode cX4_mix 109 = .ok (.l2i, 1) := by decide +kernel
theorem dX4_mix_110 : decode cX4_mix 110 = .ok (.iaload, 1) := by decide +kernel
theorem dX4_mix_111 : decode cX4_mix 111 = .ok (.i2l, 1) := by decide +kernel
theorem dX4_mix_112 : decode cX4_mix 112 = .ok (.ladd, 1) := by decide +kernel
theorem dX4_mix_113 : decode cX4_mix 113 = .ok (.lstore_n 2, 1) := by decide +kernel
theorem dX4_mix_114 : decode cX4_mix 114 = .ok (.iinc 5 1, 3) := by decide +kernel
theorem dX4_mix_117 : decode cX4_mix 117 = .ok (.goto (-69), 3) := by decide +kernel
theorem dX4_mix_120 : decode cX4_mix 120 = .ok (.lload_n 2, 1) := by decide +kernel
theorem dX4_mix_121 : decode cX4_mix 121 = .ok (.lreturn, 1) := by decide +kernel
theorem dX4_isLike_0 : decode cX4_isLike 0 = .ok (.aload_n 0, 1) := by decide +kernel
theorem dX4_isLike_1 : decode cX4_isLike 1 = .ok (.getfield 7, 3) := by decide +kernel
theorem dX4_isLike_4 : decode cX4_isLike 4 = .ok (.iload_n 1, 1) := by decide +kernel
theorem dX4_isLike_5 : decode cX4_isLike 5 = .ok (.iaload, 1) := by decide +kernel
theorem dX4_isLike_6 : decode cX4_isLike 6 = .ok (.aload_n 0, 1) := by decide +kernel
theorem dX4_isLike_7 : decode cX4_isLike 7 = .ok (.getfield 7, 3) := by decide +kernel
theorem dX4_isLike_10 : decode cX4_isLike 10 = .ok (.iload_n 2, 1) := by decide +kernel
theorem dX4_isLike_11 : decode cX4_isLike 11 = .ok (.iaload, 1) := by decide +kernel
theorem dX4_isLike_12 : decode cX4_isLike 12 = .ok (.if_icmp .ne 49, 3) := by decide +kernel
theorem dX4_isLike_15 : decode cX4_isLike 15 = .ok (.aload_n 0, 1) := by decide +kernel
theorem dX4_isLike_16 : decode cX4_isLike 16 = .ok (.getfield 13, 3) := by decide +kernel
theorem dX4_isLike_19 : decode cX4_isLike 19 = .ok (.iload_n 1, 1) := by decide +kernel
theorem dX4_isLike_20 : decode cX4_isLike 20 = .ok (.iaload, 1) := by decide +kernel
theorem dX4_isLike_21 : decode cX4_isLike 21 = .ok (.aload_n 0, 1) := by decide +kernel
theorem dX4_isLike_22 : decode cX4_isLike 22 = .ok (.getfield 13, 3) := by decide +kernel
theorem dX4_isLike_25 : decode cX4_isLike 25 = .ok (.iload_n 2, 1) := by decide +kernel
theorem dX4_isLike_26 : decode cX4_isLike 26 = .ok (.iaload, 1) := by decide +kernel
theorem dX4_isLike_27 : decode cX4_isLike 27 = .ok (.if_icmp .ne 34, 3) := by decide +kernel
theorem dX4_isLike_30 : decode cX4_isLike 30 = .ok (.aload_n 0, 1) := by decide +kernel
theorem dX4_isLike_31 : decode cX4_isLike 31 = .ok (.getfield 16, 3) := by decide +kernel
theorem dX4_isLike_34 : decode cX4_isLike 34 = .ok (.iload_n 1, 1) := by decide +kernel
theorem dX4_isLike_35 : decode cX4_isLike 35 = .ok (.iaload, 1) := by decide +kernel
theorem dX4_isLike_36 : decode cX4_isLike 36 = .ok (.aload_n 0, 1) := by decide +kernel
theorem dX4_isLike_37 : decode cX4_isLike 37 = .ok (.getfield 16, 3) := by decide +kernel
theorem dX4_isLike_40 : decode cX4_isLike 40 = .ok (.iload_n 2, 1) := by decide +kernel
theorem dX4_isLike_41 : decode cX4_isLike 41 = .ok (.iaload, 1) := by decide +kernel
theorem dX4_isLike_42 : decode cX4_isLike 42 = .ok (.if_icmp .ne 19, 3) := by decide +kernel
theorem dX4_isLike_45 : decode cX4_isLike 45 = .ok (.aload_n 0, 1) := by decide +kernel
theorem dX4_isLike_46 : decode cX4_isLike 46 = .ok (.getfield 51, 3) := by decide +kernel
theorem dX4_isLike_49 : decode cX4_isLike 49 = .ok (.iload_n 1, 1) := by decide +kernel
theorem dX4_isLike_50 : decode cX4_isLike 50 = .ok (.laload, 1) := by decide +kernel
theorem dX4_isLike_51 : decode cX4_isLike 51 = .ok (.aload_n 0, 1) := by decide +kernel
theorem dX4_isLike_52 : decode cX4_isLike 52 = .ok (.getfield 51, 3) := by decide +kernel
theorem dX4_isLike_55 : decode cX4_isLike 55 = .ok (.iload_n 2, 1) := by decide +kernel
theorem dX4_isLike_56 : decode cX4_isLike 56 = .ok (.laload, 1) := by decide +kernel
theorem dX4_isLike_57 : decode cX4_isLike 57 = .ok (.lcmp, 1) := by decide +kernel
theorem dX4_isLike_58 : decode cX4_isLike 58 = .ok (.ifCond .eq 5, 3) := by decide +kernel
theorem dX4_isLike_61 : decode cX4_isLike 61 = .ok (.iconst 0, 1) := by decide +kernel
theorem dX4_isLike_62 : decode cX4_isLike 62 = .ok (.ireturn, 1) := by decide +kernel
theorem dX4_isLike_63 : decode cX4_isLike 63 = .ok (.aload_n 0, 1) := by decide +kernel
theorem dX4_isLike_64 : decode cX4_isLike 64 = .ok (.getfield 7, 3) := by decide +kernel
theorem dX4_isLike_67 : decode cX4_isLike 67 = .ok (.iload_n 1, 1) := by decide +kernel
theorem dX4_isLike_68 : decode cX4_isLike 68 = .ok (.iaload, 1) := by decide +kernel
theorem dX4_isLike_69 : decode cX4_isLike 69 = .ok (.invokestatic 65, 3) := by decide +kernel
theorem dX4_isLike_72 : decode cX4_isLike 72 = .ok (.istore_n 3, 1) := by decide +kernel
theorem dX4_isLike_73 : decode cX4_isLike 73 = .ok (.iconst 1, 1) := by decide +kernel
theorem dX4_isLike_74 : decode cX4_isLike 74 = .ok (.istore 4, 2) := by decide +kernel
theorem dX4_isLike_76 : decode cX4_isLike 76 = .ok (.iconst 0, 1) := by decide +kernel
theorem dX4_isLike_77 : decode cX4_isLike 77 = .ok (.istore 5, 2) := by decide +kernel
theorem dX4_isLike_79 : decode cX4_isLike 79 = .ok (.iload 5, 2) := by decide +kernel
theorem dX4_isLike_81 : decode cX4_isLike 81 = .ok (.aload_n 0, 1) := by decide +kernel
theorem dX4_isLike_82 : decode cX4_isLike 82 = .ok (.getfield 13, 3) := by decide +kernel
theorem dX4_isLike_85 : decode cX4_isLike 85 = .ok (.iload_n 1, 1) := by decide +kernel
theorem dX4_isLike_86 : decode cX4_isLike 86 = .ok (.iaload, 1) := by decide +kernel
theorem dX4_isLike_87 : decode cX4_isLike 87 = .ok (.if_icmp .ge 98, 3) := by decide +kernel
theorem dX4_isLike_90 : decode cX4_isLike 90 = .ok (.iload 4, 2) := by decide +kernel
theorem dX4_isLike_92 : decode cX4_isLike 92 = .ok (.ifCond .eq 93, 3) := by decide +kernel
theorem dX4_isLike_95 : decode cX4_isLike 95 = .ok (.aload_n 0, 1) := by decide +kernel
theorem dX4_isLike_96 : decode cX4_isLike 96 = .ok (.getfield 23, 3) := by decide +kernel
theorem dX4_isLike_99 : decode cX4_isLike 99 = .ok (.aload_n 0, 1) := by decide +kernel
theorem dX4_isLike_100 : decode cX4_isLike 100 = .ok (.getfield 19, 3) := by decide +kernel
theorem dX4_isLike_103 : decode cX4_isLike 103 = .ok (.iload_n 1, 1) := by decide +kernel
theorem dX4_isLike_104 : decode cX4_isLike 104 = .ok (.iaload, 1) := by decide +kernel
theorem dX4_isLike_105 : decode cX4_isLike 105 = .ok (.iload 5, 2) := by decide +kernel
theorem dX4_isLike_107 : decode cX4_isLike 107 = .ok (.iadd, 1) := by decide +kernel
theorem dX4_isLike_108 : decode cX4_isLike 108 = .ok (.laload, 1) := by decide +kernel
theorem dX4_isLike_109 : decode cX4_isLike 109 = .ok (.lstore 6, 2) := by decide +kernel
theorem dX4_isLike_111 : decode cX4_isLike 111 = .ok (.aload_n 0, 1) := by decide +kernel
theorem dX4_isLike_112 : decode cX4_isLike 112 = .ok (.getfield 23, 3) := by decide +kernel
theorem dX4_isLike_115 : decode cX4_isLike 115 = .ok (.aload_n 0, 1) := by decide +kernel
theorem dX4_isLike_116 : decode cX4_isLike 116 = .ok (.getfield 19, 3) := by decide +kernel
theorem dX4_isLike_119 : decode cX4_isLike 119 = .ok (.iload_n 2, 1) := by decide +kernel
theorem dX4_isLike_120 : decode cX4_isLike 120 = .ok (.iaload, 1) := by decide +kernel
theorem dX4_isLike_121 : decode cX4_isLike 121 = .ok (.iload 5, 2) := by decide +kernel
theorem dX4_isLike_123 : decode cX4_isLike 123 = .ok (.iadd, 1) := by decide +kernel
theorem dX4_isLike_124 : decode cX4_isLike 124 = .ok (.laload, 1) := by decide +kernel
theorem dX4_isLike_125 : decode cX4_isLike 125 = .ok (.lstore 8, 2) := by decide +kernel
theorem dX4_isLike_127 : decode cX4_isLike 127 = .ok (.lload 6, 2) := by decide +kernel
theorem dX4_isLike_129 : decode cX4_isLike 129 = .ok (.lload 8, 2) := by decide +kernel
theorem dX4_isLike_131 : decode cX4_isLike 131 = .ok (.lcmp, 1) := by decide +kernel
theorem dX4_isLike_132 : decode cX4_isLike 132 = .ok (.ifCond .eq 40, 3) := by decide +kernel
theorem dX4_isLike_135 : decode cX4_isLike 135 = .ok (.iload_n 3, 1) := by decide +kernel
theorem dX4_isLike_136 : decode cX4_isLike 136 = .ok (.ifCond .eq 40, 3) := by decide +kernel
theorem dX4_isLike_139 : decode cX4_isLike 139 = .ok (.lload 6, 2) := by decide +kernel
theorem dX4_isLike_141 : decode cX4_isLike 141 = .ok (.lconst 0, 1) := by decide +kernel
theorem dX4_isLike_142 : decode cX4_isLike 142 = .ok (.lcmp, 1) := by decide +kernel
theorem dX4_isLike_143 : decode cX4_isLike 143 = .ok (.ifCond .lt 33, 3) := by decide +kernel
theorem dX4_isLike_146 : decode cX4_isLike 146 = .ok (.lload 8, 2) := by decide +kernel
theorem dX4_isLike_148 : decode cX4_isLike 148 = .ok (.lconst 0, 1) := by decide +kernel
theorem dX4_isLike_149 : decode cX4_isLike 149 = .ok (.lcmp, 1) := by decide +kernel
theorem dX4_isLike_150 : decode cX4_isLike 150 = .ok (.ifCond .lt 26, 3) := by decide +kernel
theorem dX4_isLike_153 : decode cX4_isLike 153 = .ok (.aload_n 0, 1) := by decide +kernel
theorem dX4_isLike_154 : decode cX4_isLike 154 = .ok (.getfield 48, 3) := by decide +kernel
theorem dX4_isLike_157 : decode cX4_isLike 157 = .ok (.lload 6, 2) := by decide +kernel
theorem dX4_isLike_159 : decode cX4_isLike 159 = .ok (.l2i, 1) := by decide +kernel
theorem dX4_isLike_160 : decode cX4_isLike 160 = .ok (.iaload, 1) := by decide +kernel
theorem dX4_isLike_161 : decode cX4_isLike 161 = .ok (.aload_n 0, 1) := by decide +kernel
theorem dX4_isLike_162 : decode cX4_isLike 162 = .ok (.getfield 48, 3) := by decide +kernel
theorem dX4_isLike_165 : decode cX4_isLike 165 = .ok (.lload 8, 2) := by decide +kernel
theorem dX4_isLike_167 : decode cX4_isLike 167 = .ok (.l2i, 1) := by decide +kernel
theorem dX4_isLike_168 : decode cX4_isLike 168 = .ok (.iaload, 1) := by decide +kernel
theorem dX4_isLike_169 : decode cX4_isLike 169 = .ok (.if_icmp .ne 7, 3) := by decide +kernel
theorem dX4_isLike_172 : decode cX4_isLike 172 = .ok (.iconst 1, 1) := by decide +kernel
theorem dX4_isLike_173 : decode cX4_isLike 173 = .ok (.goto 4, 3) := by decide +kernel
theorem dX4_isLike_176 : decode cX4_isLike 176 = .ok (.iconst 0, 1) := by decide +kernel
theorem dX4_isLike_177 : decode cX4_isLike 177 = .ok (.istore 4, 2) := by decide +kernel
theorem dX4_isLike_179 : decode cX4_isLike 179 = .ok (.iinc 5 1, 3) := by decide +kernel
theorem dX4_isLike_182 : decode cX4_isLike 182 = .ok (.goto (-103), 3) := by decide +kernel
theorem dX4_isLike_185 : decode cX4_isLike 185 = .ok (.iload 4, 2) := by decide +kernel
theorem dX4_isLike_187 : decode cX4_isLike 187 = .ok (.ireturn, 1) := by decide +kernel
theorem dX4_workLikes_0 : decode cX4_workLikes 0 = .ok (.iconst 0, 1) := by decide +kernel
theorem dX4_workLikes_1 : decode cX4_workLikes 1 = .ok (.istore_n 1, 1) := by decide +kernel
theorem dX4_workLikes_2 : decode cX4_workLikes 2 = .ok (.iload_n 1, 1) := by decide +kernel
theorem dX4_workLikes_3 : decode cX4_workLikes 3 = .ok (.aload_n 0, 1) := by decide +kernel
theorem dX4_workLikes_4 : decode cX4_workLikes 4 = .ok (.getfield 103, 3) := by decide +kernel
theorem dX4_workLikes_7 : decode cX4_workLikes 7 = .ok (.if_icmp .ge 108, 3) := by decide +kernel
theorem dX4_workLikes_10 : decode cX4_workLikes 10 = .ok (.aload_n 0, 1) := by decide +kernel
theorem dX4_workLikes_11 : decode cX4_workLikes 11 = .ok (.getfield 33, 3) := by decide +kernel
theorem dX4_workLikes_14 : decode cX4_workLikes 14 = .ok (.iload_n 1, 1) := by decide +kernel
theorem dX4_workLikes_15 : decode cX4_workLikes 15 = .ok (.iaload, 1) := by decide +kernel
theorem dX4_workLikes_16 : decode cX4_workLikes 16 = .ok (.istore_n 2, 1) := by decide +kernel
theorem dX4_workLikes_17 : decode cX4_workLikes 17 = .ok (.aload_n 0, 1) := by decide +kernel
theorem dX4_workLikes_18 : decode cX4_workLikes 18 = .ok (.getfield 51, 3) := by decide +kernel
theorem dX4_workLikes_21 : decode cX4_workLikes 21 = .ok (.iload_n 2, 1) := by decide +kernel
theorem dX4_workLikes_22 : decode cX4_workLikes 22 = .ok (.aload_n 0, 1) := by decide +kernel
theorem dX4_workLikes_23 : decode cX4_workLikes 23 = .ok (.iload_n 2, 1) := by decide +kernel
theorem dX4_workLikes_24 : decode cX4_workLikes 24 = .ok (.invokevirtual 134, 3) := by decide +kernel
theorem dX4_workLikes_27 : decode cX4_workLikes 27 = .ok (.lastore, 1) := by decide +kernel
theorem dX4_workLikes_28 : decode cX4_workLikes 28 = .ok (.aload_n 0, 1) := by decide +kernel
theorem dX4_workLikes_29 : decode cX4_workLikes 29 = .ok (.getfield 48, 3) := by decide +kernel
theorem dX4_workLikes_32 : decode cX4_workLikes 32 = .ok (.iload_n 2, 1) := by decide +kernel
theorem dX4_workLikes_33 : decode cX4_workLikes 33 = .ok (.iload_n 2, 1) := by decide +kernel
theorem dX4_workLikes_34 : decode cX4_workLikes 34 = .ok (.iastore, 1) := by decide +kernel
theorem dX4_workLikes_35 : decode cX4_workLikes 35 = .ok (.iconst 0, 1) := by decide +kernel
theorem dX4_workLikes_36 : decode cX4_workLikes 36 = .ok (.istore_n 3, 1) := by decide +kernel
theorem dX4_workLikes_37 : decode cX4_workLikes 37 = .ok (.iconst 0, 1) := by decide +kernel
theorem dX4_workLikes_38 : decode cX4_workLikes 38 = .ok (.istore 4, 2) := by decide +kernel
theorem dX4_workLikes_40 : decode cX4_workLikes 40 = .ok (.iload 4, 2) := by decide +kernel
theorem dX4_workLikes_42 : decode cX4_workLikes 42 = .ok (.iload_n 1, 1) := by decide +kernel
theorem dX4_workLikes_43 : decode cX4_workLikes 43 = .ok (.if_icmp .ge 66, 3) := by decide +kernel
theorem dX4_workLikes_46 : decode cX4_workLikes 46 = .ok (.iload_n 3, 1) := by decide +kernel
theorem dX4_workLikes_47 : decode cX4_workLikes 47 = .ok (.ifCond .ne 62, 3) := by decide +kernel
theorem dX4_workLikes_50 : decode cX4_workLikes 50 = .ok (.aload_n 0, 1) := by decide +kernel
theorem dX4_workLikes_51 : decode cX4_workLikes 51 = .ok (.getfield 33, 3) := by decide +kernel
theorem dX4_workLikes_54 : decode cX4_workLikes 54 = .ok (.iload 4, 2) := by decide +kernel
theorem dX4_workLikes_56 : decode cX4_workLikes 56 = .ok (.iaload, 1) := by decide +kernel
theorem dX4_workLikes_57 : decode cX4_workLikes 57 = .ok (.istore 5, 2) := by decide +kernel
theorem dX4_workLikes_59 : decode cX4_workLikes 59 = .ok (.aload_n 0, 1) := by decide +kernel
theorem dX4_workLikes_60 : decode cX4_workLikes 60 = .ok (.getfield 48, 3) := by decide +kernel
theorem dX4_workLikes_63 : decode cX4_workLikes 63 = .ok (.iload 5, 2) := by decide +kernel
theorem dX4_workLikes_65 : decode cX4_workLikes 65 = .ok (.iaload, 1) := by decide +kernel
theorem dX4_workLikes_66 : decode cX4_workLikes 66 = .ok (.iload 5, 2) := by decide +kernel
theorem dX4_workLikes_68 : decode cX4_workLikes 68 = .ok (.if_icmp .ne 17, 3) := by decide +kernel
theorem dX4_workLikes_71 : decode cX4_workLikes 71 = .ok (.aload_n 0, 1) := by decide +kernel
theorem dX4_workLikes_72 : decode cX4_workLikes 72 = .ok (.iload 5, 2) := by decide +kernel
theorem dX4_workLikes_74 : decode cX4_workLikes 74 = .ok (.iload_n 2, 1) := by decide +kernel
theorem dX4_workLikes_75 : decode cX4_workLikes 75 = .ok (.invokevirtual 137, 3) := by decide +kernel
theorem dX4_workLikes_78 : decode cX4_workLikes 78 = .ok (.ifCond .eq 7, 3) := by decide +kernel
theorem dX4_workLikes_81 : decode cX4_workLikes 81 = .ok (.iconst 1, 1) := by decide +kernel
theorem dX4_workLikes_82 : decode cX4_workLikes 82 = .ok (.goto 4, 3) := by decide +kernel
theorem dX4_workLikes_85 : decode cX4_workLikes 85 = .ok (.iconst 0, 1) := by decide +kernel
theorem dX4_workLikes_86 : decode cX4_workLikes 86 = .ok (.istore_n 3, 1) := by decide +kernel
theorem dX4_workLikes_87 : decode cX4_workLikes 87 = .ok (.aload_n 0, 1) := by decide +kernel
theorem dX4_workLikes_88 : decode cX4_workLikes 88 = .ok (.getfield 48, 3) := by decide +kernel
theorem dX4_workLikes_91 : decode cX4_workLikes 91 = .ok (.iload_n 2, 1) := by decide +kernel
theorem dX4_workLikes_92 : decode cX4_workLikes 92 = .ok (.iload_n 3, 1) := by decide +kernel
theorem dX4_workLikes_93 : decode cX4_workLikes 93 = .ok (.ifCond .eq 8, 3) := by decide +kernel
theorem dX4_workLikes_96 : decode cX4_workLikes 96 = .ok (.iload 5, 2) := by decide +kernel
theorem dX4_workLikes_98 : decode cX4_workLikes 98 = .ok (.goto 4, 3) := by decide +kernel
theorem dX4_workLikes_101 : decode cX4_workLikes 101 = .ok (.iload_n 2, 1) := by decide +kernel
theorem dX4_workLikes_102 : decode cX4_workLikes 102 = .ok (.iastore, 1) := by decide +kernel
theorem dX4_workLikes_103 : decode cX4_workLikes 103 = .ok (.iinc 4 1, 3) := by decide +kernel
theorem dX4_workLikes_106 : decode cX4_workLikes 106 = .ok (.goto (-66), 3) := by decide +kernel
theorem dX4_workLikes_109 : decode cX4_workLikes 109 = .ok (.iinc 1 1, 3) := by decide +kernel
theorem dX4_workLikes_112 : decode cX4_workLikes 112 = .ok (.goto (-110), 3) := by decide +kernel
theorem dX4_workLikes_115 : decode cX4_workLikes 115 = .ok (.return_, 1) := by decide +kernel
theorem dX4_equal_0 : decode cX4_equal 0 = .ok (.aload_n 0, 1) := by decide +kernel
theorem dX4_equal_1 : decode cX4_equal 1 = .ok (.iconst 0, 1) := by decide +kernel
theorem dX4_equal_2 : decode cX4_equal 2 = .ok (.putfield 93, 3) := by decide +kernel
theorem dX4_equal_5 : decode cX4_equal 5 = .ok (.aload_n 0, 1) := by decide +kernel
theorem dX4_equal_6 : decode cX4_equal 6 = .ok (.iload_n 1, 1) := by decide +kernel
theorem dX4_equal_7 : decode cX4_equal 7 = .ok (.invokevirtual 78, 3) := by decide +kernel
theorem dX4_equal_10 : decode cX4_equal 10 = .ok (.ifCond .eq 11, 3) := by decide +kernel
theorem dX4_equal_13 : decode cX4_equal 13 = .ok (.aload_n 0, 1) := by decide +kernel
theorem dX4_equal_14 : decode cX4_equal 14 = .ok (.iload_n 2, 1) := by decide +kernel
theorem dX4_equal_15 : decode cX4_equal 15 = .ok (.invokevirtual 78, 3) := by decide +kernel
theorem dX4_equal_18 : decode cX4_equal 18 = .ok (.ifCond .ne 10, 3) := by decide +kernel
theorem dX4_equal_21 : decode cX4_equal 21 = .ok (.aload_n 0, 1) := by decide +kernel
theorem dX4_equal_22 : decode cX4_equal 22 = .ok (.iconst 1, 1) := by decide +kernel
theorem dX4_equal_23 : decode cX4_equal 23 = .ok (.putfield 93, 3) := by decide +kernel
theorem dX4_equal_26 : decode cX4_equal 26 = .ok (.iconst (-1), 1) := by decide +kernel
theorem dX4_equal_27 : decode cX4_equal 27 = .ok (.ireturn, 1) := by decide +kernel
theorem dX4_equal_28 : decode cX4_equal 28 = .ok (.aload_n 0, 1) := by decide +kernel
theorem dX4_equal_29 : decode cX4_equal 29 = .ok (.invokevirtual 114, 3) := by decide +kernel
theorem dX4_equal_32 : decode cX4_equal 32 = .ok (.aload_n 0, 1) := by decide +kernel
theorem dX4_equal_33 : decode cX4_equal 33 = .ok (.iload_n 1, 1) := by decide +kernel
theorem dX4_equal_34 : decode cX4_equal 34 = .ok (.invokevirtual 117, 3) := by decide +kernel
theorem dX4_equal_37 : decode cX4_equal 37 = .ok (.ifCond .eq 11, 3) := by decide +kernel
theorem dX4_equal_40 : decode cX4_equal 40 = .ok (.aload_n 0, 1) := by decide +kernel
theorem dX4_equal_41 : decode cX4_equal 41 = .ok (.iload_n 2, 1) := by decide +kernel
theorem dX4_equal_42 : decode cX4_equal 42 = .ok (.invokevirtual 117, 3) := by decide +kernel
theorem dX4_equal_45 : decode cX4_equal 45 = .ok (.ifCond .ne 10, 3) := by decide +kernel
theorem dX4_equal_48 : decode cX4_equal 48 = .ok (.aload_n 0, 1) := by decide +kernel
theorem dX4_equal_49 : decode cX4_equal 49 = .ok (.iconst 5, 1) := by decide +kernel
theorem dX4_equal_50 : decode cX4_equal 50 = .ok (.putfield 93, 3) := by decide +kernel
theorem dX4_equal_53 : decode cX4_equal 53 = .ok (.iconst (-1), 1) := by decide +kernel
theorem dX4_equal_54 : decode cX4_equal 54 = .ok (.ireturn, 1) := by decide +kernel
theorem dX4_equal_55 : decode cX4_equal 55 = .ok (.aload_n 0, 1) := by decide +kernel
theorem dX4_equal_56 : decode cX4_equal 56 = .ok (.invokevirtual 120, 3) := by decide +kernel
theorem dX4_equal_59 : decode cX4_equal 59 = .ok (.aload_n 0, 1) := by decide +kernel
theorem dX4_equal_60 : decode cX4_equal 60 = .ok (.getfield 42, 3) := by decide +kernel
theorem dX4_equal_63 : decode cX4_equal 63 = .ok (.iload_n 1, 1) := by decide +kernel
theorem dX4_equal_64 : decode cX4_equal 64 = .ok (.iaload, 1) := by decide +kernel
theorem dX4_equal_65 : decode cX4_equal 65 = .ok (.sipush 400, 3) := by decide +kernel
theorem dX4_equal_68 : decode cX4_equal 68 = .ok (.if_icmp .gt 15, 3) := by decide +kernel
theorem dX4_equal_71 : decode cX4_equal 71 = .ok (.aload_n 0, 1) := by decide +kernel
theorem dX4_equal_72 : decode cX4_equal 72 = .ok (.getfield 42, 3) := by decide +kernel
theorem dX4_equal_75 : decode cX4_equal 75 = .ok (.iload_n 2, 1) := by decide +kernel
theorem dX4_equal_76 : decode cX4_equal 76 = .ok (.iaload, 1) := by decide +kernel
theorem dX4_equal_77 : decode cX4_equal 77 = .ok (.sipush 400, 3) := by decide +kernel
theorem dX4_equal_80 : decode cX4_equal 80 = .ok (.if_icmp .le 11, 3) := by decide +kernel
theorem dX4_equal_83 : decode cX4_equal 83 = .ok (.aload_n 0, 1) := by decide +kernel
theorem dX4_equal_84 : decode cX4_equal 84 = .ok (.bipush 6, 2) := by decide +kernel
theorem dX4_equal_86 : decode cX4_equal 86 = .ok (.putfield 93, 3) := by decide +kernel
theorem dX4_equal_89 : decode cX4_equal 89 = .ok (.iconst (-1), 1) := by decide +kernel
theorem dX4_equal_90 : decode cX4_equal 90 = .ok (.ireturn, 1) := by decide +kernel
theorem dX4_equal_91 : decode cX4_equal 91 = .ok (.aload_n 0, 1) := by decide +kernel
theorem dX4_equal_92 : decode cX4_equal 92 = .ok (.invokevirtual 140, 3) := by decide +kernel
theorem dX4_equal_95 : decode cX4_equal 95 = .ok (.aload_n 0, 1) := by decide +kernel
theorem dX4_equal_96 : decode cX4_equal 96 = .ok (.getfield 48, 3) := by decide +kernel
theorem dX4_equal_99 : decode cX4_equal 99 = .ok (.iload_n 1, 1) := by decide +kernel
theorem dX4_equal_100 : decode cX4_equal 100 = .ok (.iaload, 1) := by decide +kernel
theorem dX4_equal_101 : decode cX4_equal 101 = .ok (.aload_n 0, 1) := by decide +kernel
theorem dX4_equal_102 : decode cX4_equal 102 = .ok (.getfield 48, 3) := by decide +kernel
theorem dX4_equal_105 : decode cX4_equal 105 = .ok (.iload_n 2, 1) := by decide +kernel
theorem dX4_equal_106 : decode cX4_equal 106 = .ok (.iaload, 1) := by decide +kernel
theorem dX4_equal_107 : decode cX4_equal 107 = .ok (.if_icmp .ne 7, 3) := by decide +kernel
theorem dX4_equal_110 : decode cX4_equal 110 = .ok (.iconst 1, 1) := by decide +kernel
theorem dX4_equal_111 : decode cX4_equal 111 = .ok (.goto 4, 3) := by decide +kernel
theorem dX4_equal_114 : decode cX4_equal 114 = .ok (.iconst 0, 1) := by decide +kernel
theorem dX4_equal_115 : decode cX4_equal 115 = .ok (.ireturn, 1) := by decide +kernel
theorem dX4_order_0 : decode cX4_order 0 = .ok (.aload_n 0, 1) := by decide +kernel
theorem dX4_order_1 : decode cX4_order 1 = .ok (.iload_n 1, 1) := by decide +kernel
theorem dX4_order_2 : decode cX4_order 2 = .ok (.invokevirtual 78, 3) := by decide +kernel
theorem dX4_order_5 : decode cX4_order 5 = .ok (.ifCond .eq 11, 3) := by decide +kernel
theorem dX4_order_8 : decode cX4_order 8 = .ok (.aload_n 0, 1) := by decide +kernel
theorem dX4_order_9 : decode cX4_order 9 = .ok (.iload_n 2, 1) := by decide +kernel
theorem dX4_order_10 : decode cX4_order 10 = .ok (.invokevirtual 78, 3) := by decide +kernel
theorem dX4_order_13 : decode cX4_order 13 = .ok (.ifCond .ne 5, 3) := by decide +kernel
theorem dX4_order_16 : decode cX4_order 16 = .ok (.iconst 3, 1) := by decide +kernel
theorem dX4_order_17 : decode cX4_order 17 = .ok (.ireturn, 1) := by decide +kernel
theorem dX4_order_18 : decode cX4_order 18 = .ok (.aload_n 0, 1) := by decide +kernel
theorem dX4_order_19 : decode cX4_order 19 = .ok (.getfield 7, 3) := by decide +kernel
theorem dX4_order_22 : decode cX4_order 22 = .ok (.iload_n 1, 1) := by decide +kernel
theorem dX4_order_23 : decode cX4_order 23 = .ok (.iaload, 1) := by decide +kernel
theorem dX4_order_24 : decode cX4_order 24 = .ok (.bipush 8, 2) := by decide +kernel
theorem dX4_order_26 : decode cX4_order 26 = .ok (.if_icmp .ne 14, 3) := by decide +kernel
theorem dX4_order_29 : decode cX4_order 29 = .ok (.aload_n 0, 1) := by decide +kernel
theorem dX4_order_30 : decode cX4_order 30 = .ok (.getfield 7, 3) := by decide +kernel
theorem dX4_order_33 : decode cX4_order 33 = .ok (.iload_n 2, 1) := by decide +kernel
theorem dX4_order_34 : decode cX4_order 34 = .ok (.iaload, 1) := by decide +kernel
theorem dX4_order_35 : decode cX4_order 35 = .ok (.bipush 8, 2) := by decide +kernel
theorem dX4_order_37 : decode cX4_order 37 = .ok (.if_icmp .eq 5, 3) := by decide +kernel
theorem dX4_order_40 : decode cX4_order 40 = .ok (.iconst 2, 1) := by decide +kernel
theorem dX4_order_41 : decode cX4_order 41 = .ok (.ireturn, 1) := by decide +kernel
theorem dX4_order_42 : decode cX4_order 42 = .ok (.aload_n 0, 1) := by decide +kernel
theorem dX4_order_43 : decode cX4_order 43 = .ok (.getfield 16, 3) := by decide +kernel
theorem dX4_order_46 : decode cX4_order 46 = .ok (.iload_n 1, 1) := by decide +kernel
theorem dX4_order_47 : decode cX4_order 47 = .ok (.iaload, 1) := by decide +kernel
theorem dX4_order_48 : decode cX4_order 48 = .ok (.aload_n 0, 1) := by decide +kernel
theorem dX4_order_49 : decode cX4_order 49 = .ok (.getfield 16, 3) := by decide +kernel
theorem dX4_order_52 : decode cX4_order 52 = .ok (.iload_n 2, 1) := by decide +kernel
theorem dX4_order_53 : decode cX4_order 53 = .ok (.iaload, 1) := by decide +kernel
theorem dX4_order_54 : decode cX4_order 54 = .ok (.if_icmp .ge 7, 3) := by decide +kernel
theorem dX4_order_57 : decode cX4_order 57 = .ok (.iconst (-1), 1) := by decide +kernel
theorem dX4_order_58 : decode cX4_order 58 = .ok (.goto 23, 3) := by decide +kernel
theorem dX4_order_61 : decode cX4_order 61 = .ok (.aload_n 0, 1) := by decide +kernel
theorem dX4_order_62 : decode cX4_order 62 = .ok (.getfield 16, 3) := by decide +kernel
theorem dX4_order_65 : decode cX4_order 65 = .ok (.iload_n 1, 1) := by decide +kernel
theorem dX4_order_66 : decode cX4_order 66 = .ok (.iaload, 1) := by decide +kernel
theorem dX4_order_67 : decode cX4_order 67 = .ok (.aload_n 0, 1) := by decide +kernel
theorem dX4_order_68 : decode cX4_order 68 = .ok (.getfield 16, 3) := by decide +kernel
theorem dX4_order_71 : decode cX4_order 71 = .ok (.iload_n 2, 1) := by decide +kernel
theorem dX4_order_72 : decode cX4_order 72 = .ok (.iaload, 1) := by decide +kernel
theorem dX4_order_73 : decode cX4_order 73 = .ok (.if_icmp .ne 7, 3) := by decide +kernel
theorem dX4_order_76 : decode cX4_order 76 = .ok (.iconst 0, 1) := by decide +kernel
theorem dX4_order_77 : decode cX4_order 77 = .ok (.goto 4, 3) := by decide +kernel
theorem dX4_order_80 : decode cX4_order 80 = .ok (.iconst 1, 1) := by decide +kernel
theorem dX4_order_81 : decode cX4_order 81 = .ok (.ireturn, 1) := by decide +kernel
theorem dX4_sort_0 : decode cX4_sort 0 = .ok (.aload_n 0, 1) := by decide +kernel
theorem dX4_sort_1 : decode cX4_sort 1 = .ok (.iload_n 1, 1) := by decide +kernel
theorem dX4_sort_2 : decode cX4_sort 2 = .ok (.invokevirtual 78, 3) := by decide +kernel
theorem dX4_sort_5 : decode cX4_sort 5 = .ok (.ifCond .ne 5, 3) := by decide +kernel
theorem dX4_sort_8 : decode cX4_sort 8 = .ok (.iconst 1, 1) := by decide +kernel
theorem dX4_sort_9 : decode cX4_sort 9 = .ok (.ireturn, 1) := by decide +kernel
theorem dX4_sort_10 : decode cX4_sort 10 = .ok (.aload_n 0, 1) := by decide +kernel
theorem dX4_sort_11 : decode cX4_sort 11 = .ok (.getfield 7, 3) := by decide +kernel
theorem dX4_sort_14 : decode cX4_sort 14 = .ok (.iload_n 1, 1) := by decide +kernel
theorem dX4_sort_15 : decode cX4_sort 15 = .ok (.iaload, 1) := by decide +kernel
theorem dX4_sort_16 : decode cX4_sort 16 = .ok (.iconst 4, 1) := by decide +kernel
theorem dX4_sort_17 : decode cX4_sort 17 = .ok (.if_icmp .eq 16, 3) := by decide +kernel
theorem dX4_sort_20 : decode cX4_sort 20 = .ok (.aload_n 0, 1) := by decide +kernel
theorem dX4_sort_21 : decode cX4_sort 21 = .ok (.getfield 7, 3) := by decide +kernel
theorem dX4_sort_24 : decode cX4_sort 24 = .ok (.iload_n 1, 1) := by decide +kernel
theorem dX4_sort_25 : decode cX4_sort 25 = .ok (.iaload, 1) := by decide +kernel
theorem dX4_sort_26 : decode cX4_sort 26 = .ok (.bipush 6, 2) := by decide +kernel
theorem dX4_sort_28 : decode cX4_sort 28 = .ok (.if_icmp .eq 5, 3) := by decide +kernel
theorem dX4_sort_31 : decode cX4_sort 31 = .ok (.iconst 4, 1) := by decide +kernel
theorem dX4_sort_32 : decode cX4_sort 32 = .ok (.ireturn, 1) := by decide +kernel
theorem dX4_sort_33 : decode cX4_sort 33 = .ok (.aload_n 0, 1) := by decide +kernel
theorem dX4_sort_34 : decode cX4_sort 34 = .ok (.getfield 13, 3) := by decide +kernel
theorem dX4_sort_37 : decode cX4_sort 37 = .ok (.iload_n 1, 1) := by decide +kernel
theorem dX4_sort_38 : decode cX4_sort 38 = .ok (.iaload, 1) := by decide +kernel
theorem dX4_sort_39 : decode cX4_sort 39 = .ok (.istore_n 2, 1) := by decide +kernel
theorem dX4_sort_40 : decode cX4_sort 40 = .ok (.iconst 0, 1) := by decide +kernel
theorem dX4_sort_41 : decode cX4_sort 41 = .ok (.istore_n 3, 1) := by decide +kernel
theorem dX4_sort_42 : decode cX4_sort 42 = .ok (.iload_n 3, 1) := by decide +kernel
theorem dX4_sort_43 : decode cX4_sort 43 = .ok (.iload_n 2, 1) := by decide +kernel
theorem dX4_sort_44 : decode cX4_sort 44 = .ok (.if_icmp .ge 37, 3) := by decide +kernel
theorem dX4_sort_47 : decode cX4_sort 47 = .ok (.aload_n 0, 1) := by decide +kernel
theorem dX4_sort_48 : decode cX4_sort 48 = .ok (.iload_n 1, 1) := by decide +kernel
theorem dX4_sort_49 : decode cX4_sort 49 = .ok (.iload_n 3, 1) := by decide +kernel
theorem dX4_sort_50 : decode cX4_sort 50 = .ok (.invokevirtual 96, 3) := by decide +kernel
theorem dX4_sort_53 : decode cX4_sort 53 = .ok (.iconst (-1), 1) := by decide +kernel
theorem dX4_sort_54 : decode cX4_sort 54 = .ok (.if_icmp .eq 21, 3) := by decide +kernel
theorem dX4_sort_57 : decode cX4_sort 57 = .ok (.aload_n 0, 1) := by decide +kernel
theorem dX4_sort_58 : decode cX4_sort 58 = .ok (.getfield 7, 3) := by decide +kernel
theorem dX4_sort_61 : decode cX4_sort 61 = .ok (.aload_n 0, 1) := by decide +kernel
theorem dX4_sort_62 : decode cX4_sort 62 = .ok (.iload_n 1, 1) := by decide +kernel
theorem dX4_sort_63 : decode cX4_sort 63 = .ok (.iload_n 3, 1) := by decide +kernel
theorem dX4_sort_64 : decode cX4_sort 64 = .ok (.invokevirtual 96, 3) := by decide +kernel
theorem dX4_sort_67 : decode cX4_sort 67 = .ok (.iaload, 1) := by decide +kernel
theorem dX4_sort_68 : decode cX4_sort 68 = .ok (.bipush 7, 2) := by decide +kernel
theorem dX4_sort_70 : decode cX4_sort 70 = .ok (.if_icmp .ne 5, 3) := by decide +kernel
theorem dX4_sort_73 : decode cX4_sort 73 = .ok (.iconst 3, 1) := by decide +kernel
theorem dX4_sort_74 : decode cX4_sort 74 = .ok (.ireturn, 1) := by decide +kernel
theorem dX4_sort_75 : decode cX4_sort 75 = .ok (.iinc 3 1, 3) := by decide +kernel
theorem dX4_sort_78 : decode cX4_sort 78 = .ok (.goto (-36), 3) := by decide +kernel
theorem dX4_sort_81 : decode cX4_sort 81 = .ok (.iconst 0, 1) := by decide +kernel
theorem dX4_sort_82 : decode cX4_sort 82 = .ok (.istore_n 3, 1) := by decide +kernel
theorem dX4_sort_83 : decode cX4_sort 83 = .ok (.iconst 0, 1) := by decide +kernel
theorem dX4_sort_84 : decode cX4_sort 84 = .ok (.istore 4, 2) := by decide +kernel
theorem dX4_sort_86 : decode cX4_sort 86 = .ok (.iload 4, 2) := by decide +kernel
theorem dX4_sort_88 : decode cX4_sort 88 = .ok (.iload_n 2, 1) := by decide +kernel
theorem dX4_sort_89 : decode cX4_sort 89 = .ok (.if_icmp .ge 93, 3) := by decide +kernel
theorem dX4_sort_92 : decode cX4_sort 92 = .ok (.aload_n 0, 1) := by decide +kernel
theorem dX4_sort_93 : decode cX4_sort 93 = .ok (.iload_n 1, 1) := by decide +kernel
theorem dX4_sort_94 : decode cX4_sort 94 = .ok (.iload 4, 2) := by decide +kernel
theorem dX4_sort_96 : decode cX4_sort 96 = .ok (.invokevirtual 96, 3) := by decide +kernel
theorem dX4_sort_99 : decode cX4_sort 99 = .ok (.istore 5, 2) := by decide +kernel
theorem dX4_sort_101 : decode cX4_sort 101 = .ok (.iload 5, 2) := by decide +kernel
theorem dX4_sort_103 : decode cX4_sort 103 = .ok (.iconst (-1), 1) := by decide +kernel
theorem dX4_sort_104 : decode cX4_sort 104 = .ok (.if_icmp .ne 6, 3) := by decide +kernel
theorem dX4_sort_107 : decode cX4_sort 107 = .ok (.goto 69, 3) := by decide +kernel
theorem dX4_sort_110 : decode cX4_sort 110 = .ok (.iload_n 3, 1) := by decide +kernel
theorem dX4_sort_111 : decode cX4_sort 111 = .ok (.istore 6, 2) := by decide +kernel
theorem dX4_sort_113 : decode cX4_sort 113 = .ok (.iload 6, 2) := by decide +kernel
theorem dX4_sort_115 : decode cX4_sort 115 = .ok (.ifCond .le 49, 3) := by decide +kernel
theorem dX4_sort_118 : decode cX4_sort 118 = .ok (.aload_n 0, 1) := by decide +kernel
theorem dX4_sort_119 : decode cX4_sort 119 = .ok (.getfield 16, 3) := by decide +kernel
theorem dX4_sort_122 : decode cX4_sort 122 = .ok (.aload_n 0, 1) := by decide +kernel
theorem dX4_sort_123 : decode cX4_sort 123 = .ok (.getfield 54, 3) := by decide +kernel
theorem dX4_sort_126 : decode cX4_sort 126 = .ok (.iload 6, 2) := by decide +kernel
theorem dX4_sort_128 : decode cX4_sort 128 = .ok (.iconst 1, 1) := by decide +kernel
theorem dX4_sort_129 : decode cX4_sort 129 = .ok (.isub, 1) := by decide +kernel
theorem dX4_sort_130 : decode cX4_sort 130 = .ok (.iaload, 1) := by decide +kernel
theorem dX4_sort_131 : decode cX4_sort 131 = .ok (.iaload, 1) := by decide +kernel
theorem dX4_sort_132 : decode cX4_sort 132 = .ok (.aload_n 0, 1) := by decide +kernel
theorem dX4_sort_133 : decode cX4_sort 133 = .ok (.getfield 16, 3) := by decide +kernel
theorem dX4_sort_136 : decode cX4_sort 136 = .ok (.iload 5, 2) := by decide +kernel
theorem dX4_sort_138 : decode cX4_sort 138 = .ok (.iaload, 1) := by decide +kernel
theorem dX4_sort_139 : decode cX4_sort 139 = .ok (.if_icmp .le 25, 3) := by decide +kernel
theorem dX4_sort_142 : decode cX4_sort 142 = .ok (.aload_n 0, 1) := by decide +kernel
theorem dX4_sort_143 : decode cX4_sort 143 = .ok (.getfield 54, 3) := by decide +kernel
theorem dX4_sort_146 : decode cX4_sort 146 = .ok (.iload 6, 2) := by decide +kernel
theorem dX4_sort_148 : decode cX4_sort 148 = .ok (.aload_n 0, 1) := by decide +kernel
theorem dX4_sort_149 : decode cX4_sort 149 = .ok (.getfield 54, 3) := by decide +kernel
theorem dX4_sort_152 : decode cX4_sort 152 = .ok (.iload 6, 2) := by decide +kernel
theorem dX4_sort_154 : decode cX4_sort 154 = .ok (.iconst 1, 1) := by decide +kernel
theorem dX4_sort_155 : decode cX4_sort 155 = .ok (.isub, 1) := by decide +kernel
theorem dX4_sort_156 : decode cX4_sort 156 = .ok (.iaload, 1) := by decide +kernel
theorem dX4_sort_157 : decode cX4_sort 157 = .ok (.iastore, 1) := by decide +kernel
theorem dX4_sort_158 : decode cX4_sort 158 = .ok (.iinc 6 (-1), 3) := by decide +kernel
theorem dX4_sort_161 : decode cX4_sort 161 = .ok (.goto (-48), 3) := by decide +kernel
theorem dX4_sort_164 : decode cX4_sort 164 = .ok (.aload_n 0, 1) := by decide +kernel
theorem dX4_sort_165 : decode cX4_sort 165 = .ok (.getfield 54, 3) := by decide +kernel
theorem dX4_sort_168 : decode cX4_sort 168 = .ok (.iload 6, 2) := by decide +kernel
theorem dX4_sort_170 : decode cX4_sort 170 = .ok (.iload 5, 2) := by decide +kernel
theorem dX4_sort_172 : decode cX4_sort 172 = .ok (.iastore, 1) := by decide +kernel
theorem dX4_sort_173 : decode cX4_sort 173 = .ok (.iinc 3 1, 3) := by decide +kernel
theorem dX4_sort_176 : decode cX4_sort 176 = .ok (.iinc 4 1, 3) := by decide +kernel
theorem dX4_sort_179 : decode cX4_sort 179 = .ok (.goto (-93), 3) := by decide +kernel
theorem dX4_sort_182 : decode cX4_sort 182 = .ok (.iconst 0, 1) := by decide +kernel
theorem dX4_sort_183 : decode cX4_sort 183 = .ok (.istore 4, 2) := by decide +kernel
theorem dX4_sort_185 : decode cX4_sort 185 = .ok (.iload 4, 2) := by decide +kernel
theorem dX4_sort_187 : decode cX4_sort 187 = .ok (.iload_n 2, 1) := by decide +kernel
theorem dX4_sort_188 : decode cX4_sort 188 = .ok (.if_icmp .ge 43, 3) := by decide +kernel
theorem dX4_sort_191 : decode cX4_sort 191 = .ok (.aload_n 0, 1) := by decide +kernel
theorem dX4_sort_192 : decode cX4_sort 192 = .ok (.getfield 23, 3) := by decide +kernel
theorem dX4_sort_195 : decode cX4_sort 195 = .ok (.aload_n 0, 1) := by decide +kernel
theorem dX4_sort_196 : decode cX4_sort 196 = .ok (.getfield 19, 3) := by decide +kernel
theorem dX4_sort_199 : decode cX4_sort 199 = .ok (.iload_n 1, 1) := by decide +kernel
theorem dX4_sort_200 : decode cX4_sort 200 = .ok (.iaload, 1) := by decide +kernel
theorem dX4_sort_201 : decode cX4_sort 201 = .ok (.iload 4, 2) := by decide +kernel
theorem dX4_sort_203 : decode cX4_sort 203 = .ok (.iadd, 1) := by decide +kernel
theorem dX4_sort_204 : decode cX4_sort 204 = .ok (.iload 4, 2) := by decide +kernel
theorem dX4_sort_206 : decode cX4_sort 206 = .ok (.iload_n 3, 1) := by decide +kernel
theorem dX4_sort_207 : decode cX4_sort 207 = .ok (.if_icmp .ge 14, 3) := by decide +kernel
theorem dX4_sort_210 : decode cX4_sort 210 = .ok (.aload_n 0, 1) := by decide +kernel
theorem dX4_sort_211 : decode cX4_sort 211 = .ok (.getfield 54, 3) := by decide +kernel
theorem dX4_sort_214 : decode cX4_sort 214 = .ok (.iload 4, 2) := by decide +kernel
theorem dX4_sort_216 : decode cX4_sort 216 = .ok (.iaload, 1) := by decide +kernel
theorem dX4_sort_217 : decode cX4_sort 217 = .ok (.i2l, 1) := by decide +kernel
theorem dX4_sort_218 : decode cX4_sort 218 = .ok (.goto 6, 3) := by decide +kernel
theorem dX4_sort_221 : decode cX4_sort 221 = .ok (.ldc2_w 72, 3) := by decide +kernel
theorem dX4_sort_224 : decode cX4_sort 224 = .ok (.lastore, 1) := by decide +kernel
theorem dX4_sort_225 : decode cX4_sort 225 = .ok (.iinc 4 1, 3) := by decide +kernel
theorem dX4_sort_228 : decode cX4_sort 228 = .ok (.goto (-43), 3) := by decide +kernel
theorem dX4_sort_231 : decode cX4_sort 231 = .ok (.iconst 0, 1) := by decide +kernel
theorem dX4_sort_232 : decode cX4_sort 232 = .ok (.ireturn, 1) := by decide +kernel
theorem dX4_copyOne_0 : decode cX4_copyOne 0 = .ok (.aload_n 0, 1) := by decide +kernel
theorem dX4_copyOne_1 : decode cX4_copyOne 1 = .ok (.aload_n 0, 1) := by decide +kernel
theorem dX4_copyOne_2 : decode cX4_copyOne 2 = .ok (.getfield 7, 3) := by decide +kernel
theorem dX4_copyOne_5 : decode cX4_copyOne 5 = .ok (.iload_n 1, 1) := by decide +kernel
theorem dX4_copyOne_6 : decode cX4_copyOne 6 = .ok (.iaload, 1) := by decide +kernel
theorem dX4_copyOne_7 : decode cX4_copyOne 7 = .ok (.aload_n 0, 1) := by decide +kernel
theorem dX4_copyOne_8 : decode cX4_copyOne 8 = .ok (.getfield 13, 3) := by decide +kernel
theorem dX4_copyOne_11 : decode cX4_copyOne 11 = .ok (.iload_n 1, 1) := by decide +kernel
theorem dX4_copyOne_12 : decode cX4_copyOne 12 = .ok (.iaload, 1) := by decide +kernel
theorem dX4_copyOne_13 : decode cX4_copyOne 13 = .ok (.aload_n 0, 1) := by decide +kernel
theorem dX4_copyOne_14 : decode cX4_copyOne 14 = .ok (.getfield 16, 3) := by decide +kernel
theorem dX4_copyOne_17 : decode cX4_copyOne 17 = .ok (.iload_n 1, 1) := by decide +kernel
theorem dX4_copyOne_18 : decode cX4_copyOne 18 = .ok (.iaload, 1) := by decide +kernel
theorem dX4_copyOne_19 : decode cX4_copyOne 19 = .ok (.invokevirtual 74, 3) := by decide +kernel
theorem dX4_copyOne_22 : decode cX4_copyOne 22 = .ok (.istore_n 2, 1) := by decide +kernel
theorem dX4_copyOne_23 : decode cX4_copyOne 23 = .ok (.iconst 0, 1) := by decide +kernel
theorem dX4_copyOne_24 : decode cX4_copyOne 24 = .ok (.istore_n 3, 1) := by decide +kernel
theorem dX4_copyOne_25 : decode cX4_copyOne 25 = .ok (.iload_n 3, 1) := by decide +kernel
theorem dX4_copyOne_26 : decode cX4_copyOne 26 = .ok (.aload_n 0, 1) := by decide +kernel
theorem dX4_copyOne_27 : decode cX4_copyOne 27 = .ok (.getfield 13, 3) := by decide +kernel
theorem dX4_copyOne_30 : decode cX4_copyOne 30 = .ok (.iload_n 1, 1) := by decide +kernel
theorem dX4_copyOne_31 : decode cX4_copyOne 31 = .ok (.iaload, 1) := by decide +kernel
theorem dX4_copyOne_32 : decode cX4_copyOne 32 = .ok (.if_icmp .ge 35, 3) := by decide +kernel
theorem dX4_copyOne_35 : decode cX4_copyOne 35 = .ok (.aload_n 0, 1) := by decide +kernel
theorem dX4_copyOne_36 : decode cX4_copyOne 36 = .ok (.getfield 23, 3) := by decide +kernel
theorem dX4_copyOne_39 : decode cX4_copyOne 39 = .ok (.aload_n 0, 1) := by decide +kernel
theorem dX4_copyOne_40 : decode cX4_copyOne 40 = .ok (.getfield 19, 3) := by decide +kernel
theorem dX4_copyOne_43 : decode cX4_copyOne 43 = .ok (.iload_n 2, 1) := by decide +kernel
theorem dX4_copyOne_44 : decode cX4_copyOne 44 = .ok (.iaload, 1) := by decide +kernel
theorem dX4_copyOne_45 : decode cX4_copyOne 45 = .ok (.iload_n 3, 1) := by decide +kernel
theorem dX4_copyOne_46 : decode cX4_copyOne 46 = .ok (.iadd, 1) := by decide +kernel
theorem dX4_copyOne_47 : decode cX4_copyOne 47 = .ok (.aload_n 0, 1) := by decide +kernel
theorem dX4_copyOne_48 : decode cX4_copyOne 48 = .ok (.getfield 23, 3) := by decide +kernel
theorem dX4_copyOne_51 : decode cX4_copyOne 51 = .ok (.aload_n 0, 1) := by decide +kernel
theorem dX4_copyOne_52 : decode cX4_copyOne 52 = .ok (.getfield 19, 3) := by decide +kernel
theorem dX4_copyOne_55 : decode cX4_copyOne 55 = .ok (.iload_n 1, 1) := by decide +kernel
theorem dX4_copyOne_56 : decode cX4_copyOne 56 = .ok (.iaload, 1) := by decide +kernel
theorem dX4_copyOne_57 : decode cX4_copyOne 57 = .ok (.iload_n 3, 1) := by decide +kernel
theorem dX4_copyOne_58 : decode cX4_copyOne 58 = .ok (.iadd, 1) := by decide +kernel
theorem dX4_copyOne_59 : decode cX4_copyOne 59 = .ok (.laload, 1) := by decide +kernel
theorem dX4_copyOne_60 : decode cX4_copyOne 60 = .ok (.lastore, 1) := by decide +kernel
theorem dX4_copyOne_61 : decode cX4_copyOne 61 = .ok (.iinc 3 1, 3) := by decide +kernel
theorem dX4_copyOne_64 : decode cX4_copyOne 64 = .ok (.goto (-39), 3) := by decide +kernel
theorem dX4_copyOne_67 : decode cX4_copyOne 67 = .ok (.iload_n 2, 1) := by decide +kernel
theorem dX4_copyOne_68 : decode cX4_copyOne 68 = .ok (.ireturn, 1) := by decide +kernel
theorem dX4_copy_0 : decode cX4_copy 0 = .ok (.aload_n 0, 1) := by decide +kernel
theorem dX4_copy_1 : decode cX4_copy 1 = .ok (.iload_n 2, 1) := by decide +kernel
theorem dX4_copy_2 : decode cX4_copy 2 = .ok (.ifCond .ne 19, 3) := by decide +kernel
theorem dX4_copy_5 : decode cX4_copy 5 = .ok (.aload_n 0, 1) := by decide +kernel
theorem dX4_copy_6 : decode cX4_copy 6 = .ok (.iload_n 1, 1) := by decide +kernel
theorem dX4_copy_7 : decode cX4_copy 7 = .ok (.invokevirtual 78, 3) := by decide +kernel
theorem dX4_copy_10 : decode cX4_copy 10 = .ok (.ifCond .eq 7, 3) := by decide +kernel
theorem dX4_copy_13 : decode cX4_copy 13 = .ok (.iconst 0, 1) := by decide +kernel
theorem dX4_copy_14 : decode cX4_copy 14 = .ok (.goto 12, 3) := by decide +kernel
theorem dX4_copy_17 : decode cX4_copy 17 = .ok (.iconst 1, 1) := by decide +kernel
theorem dX4_copy_18 : decode cX4_copy 18 = .ok (.goto 8, 3) := by decide +kernel
theorem dX4_copy_21 : decode cX4_copy 21 = .ok (.aload_n 0, 1) := by decide +kernel
theorem dX4_copy_22 : decode cX4_copy 22 = .ok (.iload_n 1, 1) := by decide +kernel
theorem dX4_copy_23 : decode cX4_copy 23 = .ok (.invokevirtual 123, 3) := by decide +kernel
theorem dX4_copy_26 : decode cX4_copy 26 = .ok (.putfield 93, 3) := by decide +kernel
theorem dX4_copy_29 : decode cX4_copy 29 = .ok (.iload_n 2, 1) := by decide +kernel
theorem dX4_copy_30 : decode cX4_copy 30 = .ok (.ifCond .ne 7, 3) := by decide +kernel
theorem dX4_copy_33 : decode cX4_copy 33 = .ok (.iconst 1, 1) := by decide +kernel
theorem dX4_copy_34 : decode cX4_copy 34 = .ok (.goto 7, 3) := by decide +kernel
theorem dX4_copy_37 : decode cX4_copy 37 = .ok (.aload_n 0, 1) := by decide +kernel
theorem dX4_copy_38 : decode cX4_copy 38 = .ok (.getfield 100, 3) := by decide +kernel
theorem dX4_copy_41 : decode cX4_copy 41 = .ok (.istore_n 3, 1) := by decide +kernel
theorem dX4_copy_42 : decode cX4_copy 42 = .ok (.aload_n 0, 1) := by decide +kernel
theorem dX4_copy_43 : decode cX4_copy 43 = .ok (.getfield 93, 3) := by decide +kernel
theorem dX4_copy_46 : decode cX4_copy 46 = .ok (.ifCond .ne 21, 3) := by decide +kernel
theorem dX4_copy_49 : decode cX4_copy 49 = .ok (.aload_n 0, 1) := by decide +kernel
theorem dX4_copy_50 : decode cX4_copy 50 = .ok (.getfield 57, 3) := by decide +kernel
theorem dX4_copy_53 : decode cX4_copy 53 = .ok (.iload_n 3, 1) := by decide +kernel
theorem dX4_copy_54 : decode cX4_copy 54 = .ok (.iadd, 1) := by decide +kernel
theorem dX4_copy_55 : decode cX4_copy 55 = .ok (.sipush 2000, 3) := by decide +kernel
theorem dX4_copy_58 : decode cX4_copy 58 = .ok (.if_icmp .le 9, 3) := by decide +kernel
theorem dX4_copy_61 : decode cX4_copy 61 = .ok (.aload_n 0, 1) := by decide +kernel
theorem dX4_copy_62 : decode cX4_copy 62 = .ok (.bipush 7, 2) := by decide +kernel
theorem dX4_copy_64 : decode cX4_copy 64 = .ok (.putfield 93, 3) := by decide +kernel
theorem dX4_copy_67 : decode cX4_copy 67 = .ok (.aload_n 0, 1) := by decide +kernel
theorem dX4_copy_68 : decode cX4_copy 68 = .ok (.getfield 93, 3) := by decide +kernel
theorem dX4_copy_71 : decode cX4_copy 71 = .ok (.ifCond .eq 5, 3) := by decide +kernel
theorem dX4_copy_74 : decode cX4_copy 74 = .ok (.iconst (-1), 1) := by decide +kernel
theorem dX4_copy_75 : decode cX4_copy 75 = .ok (.ireturn, 1) := by decide +kernel
theorem dX4_copy_76 : decode cX4_copy 76 = .ok (.aload_n 0, 1) := by decide +kernel
theorem dX4_copy_77 : decode cX4_copy 77 = .ok (.getfield 57, 3) := by decide +kernel
theorem dX4_copy_80 : decode cX4_copy 80 = .ok (.istore 4, 2) := by decide +kernel
theorem dX4_copy_82 : decode cX4_copy 82 = .ok (.iload_n 2, 1) := by decide +kernel
theorem dX4_copy_83 : decode cX4_copy 83 = .ok (.ifCond .ne 9, 3) := by decide +kernel
theorem dX4_copy_86 : decode cX4_copy 86 = .ok (.aload_n 0, 1) := by decide +kernel
theorem dX4_copy_87 : decode cX4_copy 87 = .ok (.iload_n 1, 1) := by decide +kernel
theorem dX4_copy_88 : decode cX4_copy 88 = .ok (.invokevirtual 143, 3) := by decide +kernel
theorem dX4_copy_91 : decode cX4_copy 91 = .ok (.ireturn, 1) := by decide +kernel
theorem dX4_copy_92 : decode cX4_copy 92 = .ok (.iconst 0, 1) := by decide +kernel
theorem dX4_copy_93 : decode cX4_copy 93 = .ok (.istore 5, 2) := by decide +kernel
theorem dX4_copy_95 : decode cX4_copy 95 = .ok (.iload 5, 2) := by decide +kernel
theorem dX4_copy_97 : decode cX4_copy 97 = .ok (.iload_n 3, 1) := by decide +kernel
theorem dX4_copy_98 : decode cX4_copy 98 = .ok (.if_icmp .ge 36, 3) := by decide +kernel
theorem dX4_copy_101 : decode cX4_copy 101 = .ok (.aload_n 0, 1) := by decide +kernel
theorem dX4_copy_102 : decode cX4_copy 102 = .ok (.aload_n 0, 1) := by decide +kernel
theorem dX4_copy_103 : decode cX4_copy 103 = .ok (.getfield 30, 3) := by decide +kernel
theorem dX4_copy_106 : decode cX4_copy 106 = .ok (.iload 5, 2) := by decide +kernel
theorem dX4_copy_108 : decode cX4_copy 108 = .ok (.iaload, 1) := by decide +kernel
theorem dX4_copy_109 : decode cX4_copy 109 = .ok (.invokevirtual 143, 3) := by decide +kernel
theorem dX4_copy_112 : decode cX4_copy 112 = .ok (.istore 6, 2) := by decide +kernel
theorem dX4_copy_114 : decode cX4_copy 114 = .ok (.aload_n 0, 1) := by decide +kernel
theorem dX4_copy_115 : decode cX4_copy 115 = .ok (.getfield 48, 3) := by decide +kernel
theorem dX4_copy_118 : decode cX4_copy 118 = .ok (.aload_n 0, 1) := by decide +kernel
theorem dX4_copy_119 : decode cX4_copy 119 = .ok (.getfield 30, 3) := by decide +kernel
theorem dX4_copy_122 : decode cX4_copy 122 = .ok (.iload 5, 2) := by decide +kernel
theorem dX4_copy_124 : decode cX4_copy 124 = .ok (.iaload, 1) := by decide +kernel
theorem dX4_copy_125 : decode cX4_copy 125 = .ok (.iload 6, 2) := by decide +kernel
theorem dX4_copy_127 : decode cX4_copy 127 = .ok (.iastore, 1) := by decide +kernel
theorem dX4_copy_128 : decode cX4_copy 128 = .ok (.iinc 5 1, 3) := by decide +kernel
theorem dX4_copy_131 : decode cX4_copy 131 = .ok (.goto (-36), 3) := by decide +kernel
theorem dX4_copy_134 : decode cX4_copy 134 = .ok (.iload 4, 2) := by decide +kernel
theorem dX4_copy_136 : decode cX4_copy 136 = .ok (.istore 5, 2) := by decide +kernel
theorem dX4_copy_138 : decode cX4_copy 138 = .ok (.iload 5, 2) := by decide +kernel
theorem dX4_copy_140 : decode cX4_copy 140 = .ok (.aload_n 0, 1) := by decide +kernel
theorem dX4_copy_141 : decode cX4_copy 141 = .ok (.getfield 57, 3) := by decide +kernel
theorem dX4_copy_144 : decode cX4_copy 144 = .ok (.if_icmp .ge 74, 3) := by decide +kernel
theorem dX4_copy_147 : decode cX4_copy 147 = .ok (.iconst 0, 1) := by decide +kernel
theorem dX4_copy_148 : decode cX4_copy 148 = .ok (.istore 6, 2) := by decide +kernel
theorem dX4_copy_150 : decode cX4_copy 150 = .ok (.iload 6, 2) := by decide +kernel
theorem dX4_copy_152 : decode cX4_copy 152 = .ok (.aload_n 0, 1) := by decide +kernel
theorem dX4_copy_153 : decode cX4_copy 153 = .ok (.iload 5, 2) := by decide +kernel
theorem dX4_copy_155 : decode cX4_copy 155 = .ok (.invokevirtual 110, 3) := by decide +kernel
theorem dX4_copy_158 : decode cX4_copy 158 = .ok (.if_icmp .ge 54, 3) := by decide +kernel
theorem dX4_copy_161 : decode cX4_copy 161 = .ok (.aload_n 0, 1) := by decide +kernel
theorem dX4_copy_162 : decode cX4_copy 162 = .ok (.iload 5, 2) := by decide +kernel
theorem dX4_copy_164 : decode cX4_copy 164 = .ok (.iload 6, 2) := by decide +kernel
theorem dX4_copy_166 : decode cX4_copy 166 = .ok (.invokevirtual 96, 3) := by decide +kernel
theorem dX4_copy_169 : decode cX4_copy 169 = .ok (.istore 7, 2) := by decide +kernel
theorem dX4_copy_171 : decode cX4_copy 171 = .ok (.aload_n 0, 1) := by decide +kernel
theorem dX4_copy_172 : decode cX4_copy 172 = .ok (.getfield 23, 3) := by decide +kernel
theorem dX4_copy_175 : decode cX4_copy 175 = .ok (.aload_n 0, 1) := by decide +kernel
theorem dX4_copy_176 : decode cX4_copy 176 = .ok (.getfield 19, 3) := by decide +kernel
theorem dX4_copy_179 : decode cX4_copy 179 = .ok (.iload 5, 2) := by decide +kernel
theorem dX4_copy_181 : decode cX4_copy 181 = .ok (.iaload, 1) := by decide +kernel
theorem dX4_copy_182 : decode cX4_copy 182 = .ok (.iload 6, 2) := by decide +kernel
theorem dX4_copy_184 : decode cX4_copy 184 = .ok (.iadd, 1) := by decide +kernel
theorem dX4_copy_185 : decode cX4_copy 185 = .ok (.iload 7, 2) := by decide +kernel
theorem dX4_copy_187 : decode cX4_copy 187 = .ok (.iconst (-1), 1) := by decide +kernel
theorem dX4_copy_188 : decode cX4_copy 188 = .ok (.if_icmp .ne 9, 3) := by decide +kernel
theorem dX4_copy_191 : decode cX4_copy 191 = .ok (.ldc2_w 72, 3) := by decide +kernel
theorem dX4_copy_194 : decode cX4_copy 194 = .ok (.goto 11, 3) := by decide +kernel
theorem dX4_copy_197 : decode cX4_copy 197 = .ok (.aload_n 0, 1) := by decide +kernel
theorem dX4_copy_198 : decode cX4_copy 198 = .ok (.getfield 48, 3) := by decide +kernel
theorem dX4_copy_201 : decode cX4_copy 201 = .ok (.iload 7, 2) := by decide +kernel
theorem dX4_copy_203 : decode cX4_copy 203 = .ok (.iaload, 1) := by decide +kernel
theorem dX4_copy_204 : decode cX4_copy 204 = .ok (.i2l, 1) := by decide +kernel
theorem dX4_copy_205 : decode cX4_copy 205 = .ok (.lastore, 1) := by decide +kernel
theorem dX4_copy_206 : decode cX4_copy 206 = .ok (.iinc 6 1, 3) := by decide +kernel
theorem dX4_copy_209 : decode cX4_copy 209 = .ok (.goto (-59), 3) := by decide +kernel
theorem dX4_copy_212 : decode cX4_copy 212 = .ok (.iinc 5 1, 3) := by decide +kernel
theorem dX4_copy_215 : decode cX4_copy 215 = .ok (.goto (-77), 3) := by decide +kernel
theorem dX4_copy_218 : decode cX4_copy 218 = .ok (.iload 4, 2) := by decide +kernel
theorem dX4_copy_220 : decode cX4_copy 220 = .ok (.ireturn, 1) := by decide +kernel
theorem dX4_status_0 : decode cX4_status 0 = .ok (.aload_n 0, 1) := by decide +kernel
theorem dX4_status_1 : decode cX4_status 1 = .ok (.getfield 93, 3) := by decide +kernel
theorem dX4_status_4 : decode cX4_status 4 = .ok (.ireturn, 1) := by decide +kernel
theorem dX4_count_0 : decode cX4_count 0 = .ok (.aload_n 0, 1) := by decide +kernel
theorem dX4_count_1 : decode cX4_count 1 = .ok (.getfield 57, 3) := by decide +kernel
theorem dX4_count_4 : decode cX4_count 4 = .ok (.ireturn, 1) := by decide +kernel
