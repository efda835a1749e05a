theorem dX6_init_16 : decode cX6_init 16 = .ok (.iconst (-1), 1) := by decide +kernel
theorem dX6_init_17 : decode cX6_init 17 = .ok (.putfield 18, 3) := by decide +kernel
theorem dX6_init_20 : decode cX6_init 20 = .ok (.return_, 1) := by decide +kernel
theorem dX6_clear_0 : decode cX6_clear 0 = .ok (.aload_n 0, 1) := by decide +kernel
theorem dX6_clear_1 : decode cX6_clear 1 = .ok (.iconst 0, 1) := by decide +kernel
theorem dX6_clear_2 : decode cX6_clear 2 = .ok (.putfield 22, 3) := by decide +kernel
theorem dX6_clear_5 : decode cX6_clear 5 = .ok (.aload_n 0, 1) := by decide +kernel
theorem dX6_clear_6 : decode cX6_clear 6 = .ok (.iconst 0, 1) := by decide +kernel
theorem dX6_clear_7 : decode cX6_clear 7 = .ok (.putfield 25, 3) := by decide +kernel
theorem dX6_clear_10 : decode cX6_clear 10 = .ok (.aload_n 0, 1) := by decide +kernel
theorem dX6_clear_11 : decode cX6_clear 11 = .ok (.iconst (-1), 1) := by decide +kernel
theorem dX6_clear_12 : decode cX6_clear 12 = .ok (.putfield 18, 3) := by decide +kernel
theorem dX6_clear_15 : decode cX6_clear 15 = .ok (.return_, 1) := by decide +kernel
theorem dX6_runBlock_0 : decode cX6_runBlock 0 = .ok (.iconst 0, 1) := by decide +kernel
theorem dX6_runBlock_1 : decode cX6_runBlock 1 = .ok (.istore 6, 2) := by decide +kernel
theorem dX6_runBlock_3 : decode cX6_runBlock 3 = .ok (.iload 6, 2) := by decide +kernel
theorem dX6_runBlock_5 : decode cX6_runBlock 5 = .ok (.iload 4, 2) := by decide +kernel
theorem dX6_runBlock_7 : decode cX6_runBlock 7 = .ok (.if_icmp .ge 134, 3) := by decide +kernel
theorem dX6_runBlock_10 : decode cX6_runBlock 10 = .ok (.iload_n 2, 1) := by decide +kernel
theorem dX6_runBlock_11 : decode cX6_runBlock 11 = .ok (.istore 7, 2) := by decide +kernel
theorem dX6_runBlock_13 : decode cX6_runBlock 13 = .ok (.iconst 0, 1) := by decide +kernel
theorem dX6_runBlock_14 : decode cX6_runBlock 14 = .ok (.istore 8, 2) := by decide +kernel
theorem dX6_runBlock_16 : decode cX6_runBlock 16 = .ok (.iload 8, 2) := by decide +kernel
theorem dX6_runBlock_18 : decode cX6_runBlock 18 = .ok (.bipush 60, 2) := by decide +kernel
theorem dX6_runBlock_20 : decode cX6_runBlock 20 = .ok (.if_icmp .ge 115, 3) := by decide +kernel
theorem dX6_runBlock_23 : decode cX6_runBlock 23 = .ok (.iload 7, 2) := by decide +kernel
theorem dX6_runBlock_25 : decode cX6_runBlock 25 = .ok (.iload_n 3, 1) := by decide +kernel
theorem dX6_runBlock_26 : decode cX6_runBlock 26 = .ok (.if_icmp .ge 109, 3) := by decide +kernel
theorem dX6_runBlock_29 : decode cX6_runBlock 29 = .ok (.aload_n 0, 1) := by decide +kernel
theorem dX6_runBlock_30 : decode cX6_runBlock 30 = .ok (.aload_n 0, 1) := by decide +kernel
theorem dX6_runBlock_31 : decode cX6_runBlock 31 = .ok (.aload_n 1, 1) := by decide +kernel
theorem dX6_runBlock_32 : decode cX6_runBlock 32 = .ok (.iload 7, 2) := by decide +kernel
theorem dX6_runBlock_34 : decode cX6_runBlock 34 = .ok (.invokevirtual 28, 3) := by decide +kernel
theorem dX6_runBlock_37 : decode cX6_runBlock 37 = .ok (.putfield 25, 3) := by decide +kernel
theorem dX6_runBlock_40 : decode cX6_runBlock 40 = .ok (.aload_n 0, 1) := by decide +kernel
theorem dX6_runBlock_41 : decode cX6_runBlock 41 = .ok (.getfield 25, 3) := by decide +kernel
theorem dX6_runBlock_44 : decode cX6_runBlock 44 = .ok (.ifCond .eq 21, 3) := by decide +kernel
theorem dX6_runBlock_47 : decode cX6_runBlock 47 = .ok (.aload_n 0, 1) := by decide +kernel
theorem dX6_runBlock_48 : decode cX6_runBlock 48 = .ok (.aload_n 0, 1) := by decide +kernel
theorem dX6_runBlock_49 : decode cX6_runBlock 49 = .ok (.getfield 12, 3) := by decide +kernel
theorem dX6_runBlock_52 : decode cX6_runBlock 52 = .ok (.getfield 32, 3) := by decide +kernel
theorem dX6_runBlock_55 : decode cX6_runBlock 55 = .ok (.iload 7, 2) := by decide +kernel
theorem dX6_runBlock_57 : decode cX6_runBlock 57 = .ok (.invokevirtual 36, 3) := by decide +kernel
theorem dX6_runBlock_60 : decode cX6_runBlock 60 = .ok (.putfield 18, 3) := by decide +kernel
theorem dX6_runBlock_63 : decode cX6_runBlock 63 = .ok (.iconst 0, 1) := by decide +kernel
theorem dX6_runBlock_64 : decode cX6_runBlock 64 = .ok (.ireturn, 1) := by decide +kernel
theorem dX6_runBlock_65 : decode cX6_runBlock 65 = .ok (.aload_n 0, 1) := by decide +kernel
theorem dX6_runBlock_66 : decode cX6_runBlock 66 = .ok (.getfield 12, 3) := by decide +kernel
theorem dX6_runBlock_69 : decode cX6_runBlock 69 = .ok (.getfield 42, 3) := by decide +kernel
theorem dX6_runBlock_72 : decode cX6_runBlock 72 = .ok (.iload 7, 2) := by decide +kernel
theorem dX6_runBlock_74 : decode cX6_runBlock 74 = .ok (.invokevirtual 36, 3) := by decide +kernel
theorem dX6_runBlock_77 : decode cX6_runBlock 77 = .ok (.istore 9, 2) := by decide +kernel
theorem dX6_runBlock_79 : decode cX6_runBlock 79 = .ok (.iload 5, 2) := by decide +kernel
theorem dX6_runBlock_81 : decode cX6_runBlock 81 = .ok (.iconst 4, 1) := by decide +kernel
theorem dX6_runBlock_82 : decode cX6_runBlock 82 = .ok (.if_icmp .ge 13, 3) := by decide +kernel
theorem dX6_runBlock_85 : decode cX6_runBlock 85 = .ok (.aload_n 0, 1) := by decide +kernel
theorem dX6_runBlock_86 : decode cX6_runBlock 86 = .ok (.aload_n 1, 1) := by decide +kernel
theorem dX6_runBlock_87 : decode cX6_runBlock 87 = .ok (.iload 7, 2) := by decide +kernel
theorem dX6_runBlock_89 : decode cX6_runBlock 89 = .ok (.invokevirtual 45, 3) := by decide +kernel
theorem dX6_runBlock_92 : decode cX6_runBlock 92 = .ok (.goto 4, 3) := by decide +kernel
theorem dX6_runBlock_95 : decode cX6_runBlock 95 = .ok (.iconst 0, 1) := by decide +kernel
theorem dX6_runBlock_96 : decode cX6_runBlock 96 = .ok (.istore 10, 2) := by decide +kernel
theorem dX6_runBlock_98 : decode cX6_runBlock 98 = .ok (.iload 10, 2) := by decide +kernel
theorem dX6_runBlock_100 : decode cX6_runBlock 100 = .ok (.ifCond .le 25, 3) := by decide +kernel
theorem dX6_runBlock_103 : decode cX6_runBlock 103 = .ok (.aload_n 0, 1) := by decide +kernel
theorem dX6_runBlock_104 : decode cX6_runBlock 104 = .ok (.aload_n 1, 1) := by decide +kernel
theorem dX6_runBlock_105 : decode cX6_runBlock 105 = .ok (.iload 7, 2) := by decide +kernel
theorem dX6_runBlock_107 : decode cX6_runBlock 107 = .ok (.iconst 1, 1) := by decide +kernel
theorem dX6_runBlock_108 : decode cX6_runBlock 108 = .ok (.iadd, 1) := by decide +kernel
theorem dX6_runBlock_109 : decode cX6_runBlock 109 = .ok (.iload 9, 2) := by decide +kernel
theorem dX6_runBlock_111 : decode cX6_runBlock 111 = .ok (.iload 10, 2) := by decide +kernel
theorem dX6_runBlock_113 : decode cX6_runBlock 113 = .ok (.iload 5, 2) := by decide +kernel
theorem dX6_runBlock_115 : decode cX6_runBlock 115 = .ok (.iconst 1, 1) := by decide +kernel
theorem dX6_runBlock_116 : decode cX6_runBlock 116 = .ok (.iadd, 1) := by decide +kernel
theorem dX6_runBlock_117 : decode cX6_runBlock 117 = .ok (.invokevirtual 48, 3) := by decide +kernel
theorem dX6_runBlock_120 : decode cX6_runBlock 120 = .ok (.ifCond .ne 5, 3) := by decide +kernel
theorem dX6_runBlock_123 : decode cX6_runBlock 123 = .ok (.iconst 0, 1) := by decide +kernel
theorem dX6_runBlock_124 : decode cX6_runBlock 124 = .ok (.ireturn, 1) := by decide +kernel
theorem dX6_runBlock_125 : decode cX6_runBlock 125 = .ok (.iload 9, 2) := by decide +kernel
theorem dX6_runBlock_127 : decode cX6_runBlock 127 = .ok (.istore 7, 2) := by decide +kernel
theorem dX6_runBlock_129 : decode cX6_runBlock 129 = .ok (.iinc 8 1, 3) := by decide +kernel
theorem dX6_runBlock_132 : decode cX6_runBlock 132 = .ok (.goto (-116), 3) := by decide +kernel
theorem dX6_runBlock_135 : decode cX6_runBlock 135 = .ok (.iinc 6 1, 3) := by decide +kernel
theorem dX6_runBlock_138 : decode cX6_runBlock 138 = .ok (.goto (-135), 3) := by decide +kernel
theorem dX6_runBlock_141 : decode cX6_runBlock 141 = .ok (.iconst 1, 1) := by decide +kernel
theorem dX6_runBlock_142 : decode cX6_runBlock 142 = .ok (.ireturn, 1) := by decide +kernel
theorem dX6_start_0 : decode cX6_start 0 = .ok (.aload_n 0, 1) := by decide +kernel
theorem dX6_start_1 : decode cX6_start 1 = .ok (.dup, 1) := by decide +kernel
theorem dX6_start_2 : decode cX6_start 2 = .ok (.getfield 22, 3) := by decide +kernel
theorem dX6_start_5 : decode cX6_start 5 = .ok (.iconst 1, 1) := by decide +kernel
theorem dX6_start_6 : decode cX6_start 6 = .ok (.iadd, 1) := by decide +kernel
theorem dX6_start_7 : decode cX6_start 7 = .ok (.putfield 22, 3) := by decide +kernel
theorem dX6_start_10 : decode cX6_start 10 = .ok (.aload_n 0, 1) := by decide +kernel
theorem dX6_start_11 : decode cX6_start 11 = .ok (.getfield 22, 3) := by decide +kernel
theorem dX6_start_14 : decode cX6_start 14 = .ok (.sipush 200, 3) := by decide +kernel
theorem dX6_start_17 : decode cX6_start 17 = .ok (.if_icmp .le 5, 3) := by decide +kernel
theorem dX6_start_20 : decode cX6_start 20 = .ok (.iconst 4, 1) := by decide +kernel
theorem dX6_start_21 : decode cX6_start 21 = .ok (.ireturn, 1) := by decide +kernel
theorem dX6_start_22 : decode cX6_start 22 = .ok (.aload_n 0, 1) := by decide +kernel
theorem dX6_start_23 : decode cX6_start 23 = .ok (.getfield 12, 3) := by decide +kernel
theorem dX6_start_26 : decode cX6_start 26 = .ok (.getfield 52, 3) := by decide +kernel
theorem dX6_start_29 : decode cX6_start 29 = .ok (.iload_n 2, 1) := by decide +kernel
theorem dX6_start_30 : decode cX6_start 30 = .ok (.invokevirtual 36, 3) := by decide +kernel
theorem dX6_start_33 : decode cX6_start 33 = .ok (.istore_n 3, 1) := by decide +kernel
theorem dX6_start_34 : decode cX6_start 34 = .ok (.iload_n 3, 1) := by decide +kernel
theorem dX6_start_35 : decode cX6_start 35 = .ok (.sipush 267, 3) := by decide +kernel
theorem dX6_start_38 : decode cX6_start 38 = .ok (.if_icmp .lt 5, 3) := by decide +kernel
theorem dX6_start_41 : decode cX6_start 41 = .ok (.iconst 0, 1) := by decide +kernel
theorem dX6_start_42 : decode cX6_start 42 = .ok (.ireturn, 1) := by decide +kernel
theorem dX6_start_43 : decode cX6_start 43 = .ok (.aload_n 0, 1) := by decide +kernel
theorem dX6_start_44 : decode cX6_start 44 = .ok (.getfield 12, 3) := by decide +kernel
theorem dX6_start_47 : decode cX6_start 47 = .ok (.getfield 55, 3) := by decide +kernel
theorem dX6_start_50 : decode cX6_start 50 = .ok (.iload_n 2, 1) := by decide +kernel
theorem dX6_start_51 : decode cX6_start 51 = .ok (.invokevirtual 36, 3) := by decide +kernel
theorem dX6_start_54 : decode cX6_start 54 = .ok (.istore 4, 2) := by decide +kernel
theorem dX6_start_56 : decode cX6_start 56 = .ok (.aload_n 0, 1) := by decide +kernel
theorem dX6_start_57 : decode cX6_start 57 = .ok (.getfield 12, 3) := by decide +kernel
theorem dX6_start_60 : decode cX6_start 60 = .ok (.getfield 58, 3) := by decide +kernel
theorem dX6_start_63 : decode cX6_start 63 = .ok (.iload_n 2, 1) := by decide +kernel
theorem dX6_start_64 : decode cX6_start 64 = .ok (.invokevirtual 36, 3) := by decide +kernel
theorem dX6_start_67 : decode cX6_start 67 = .ok (.istore 5, 2) := by decide +kernel
theorem dX6_start_69 : decode cX6_start 69 = .ok (.aload_n 0, 1) := by decide +kernel
theorem dX6_start_70 : decode cX6_start 70 = .ok (.getfield 12, 3) := by decide +kernel
theorem dX6_start_73 : decode cX6_start 73 = .ok (.getfield 61, 3) := by decide +kernel
theorem dX6_start_76 : decode cX6_start 76 = .ok (.iload_n 2, 1) := by decide +kernel
theorem dX6_start_77 : decode cX6_start 77 = .ok (.invokevirtual 36, 3) := by decide +kernel
theorem dX6_start_80 : decode cX6_start 80 = .ok (.istore 6, 2) := by decide +kernel
theorem dX6_start_82 : decode cX6_start 82 = .ok (.aload_n 0, 1) := by decide +kernel
theorem dX6_start_83 : decode cX6_start 83 = .ok (.getfield 12, 3) := by decide +kernel
theorem dX6_start_86 : decode cX6_start 86 = .ok (.getfield 64, 3) := by decide +kernel
theorem dX6_start_89 : decode cX6_start 89 = .ok (.iload_n 2, 1) := by decide +kernel
theorem dX6_start_90 : decode cX6_start 90 = .ok (.invokevirtual 36, 3) := by decide +kernel
theorem dX6_start_93 : decode cX6_start 93 = .ok (.istore 7, 2) := by decide +kernel
theorem dX6_start_95 : decode cX6_start 95 = .ok (.aload_n 1, 1) := by decide +kernel
theorem dX6_start_96 : decode cX6_start 96 = .ok (.iload_n 3, 1) := by decide +kernel
theorem dX6_start_97 : decode cX6_start 97 = .ok (.iload 4, 2) := by decide +kernel
theorem dX6_start_99 : decode cX6_start 99 = .ok (.iload 5, 2) := by decide +kernel
theorem dX6_start_101 : decode cX6_start 101 = .ok (.iload 6, 2) := by decide +kernel
theorem dX6_start_103 : decode cX6_start 103 = .ok (.iload 7, 2) := by decide +kernel
theorem dX6_start_105 : decode cX6_start 105 = .ok (.invokevirtual 67, 3) := by decide +kernel
theorem dX6_start_108 : decode cX6_start 108 = .ok (.istore 8, 2) := by decide +kernel
theorem dX6_start_110 : decode cX6_start 110 = .ok (.iload 8, 2) := by decide +kernel
theorem dX6_start_112 : decode cX6_start 112 = .ok (.ifCond .ne 17, 3) := by decide +kernel
theorem dX6_start_115 : decode cX6_start 115 = .ok (.aload_n 1, 1) := by decide +kernel
theorem dX6_start_116 : decode cX6_start 116 = .ok (.iload_n 3, 1) := by decide +kernel
theorem dX6_start_117 : decode cX6_start 117 = .ok (.iload 4, 2) := by decide +kernel
theorem dX6_start_119 : decode cX6_start 119 = .ok (.iload 5, 2) := by decide +kernel
theorem dX6_start_121 : decode cX6_start 121 = .ok (.iload 6, 2) := by decide +kernel
theorem dX6_start_123 : decode cX6_start 123 = .ok (.iload 7, 2) := by decide +kernel
theorem dX6_start_125 : decode cX6_start 125 = .ok (.invokevirtual 73, 3) := by decide +kernel
theorem dX6_start_128 : decode cX6_start 128 = .ok (.pop, 1) := by decide +kernel
theorem dX6_start_129 : decode cX6_start 129 = .ok (.iload 8, 2) := by decide +kernel
theorem dX6_start_131 : decode cX6_start 131 = .ok (.ireturn, 1) := by decide +kernel
theorem dX6_innerRounds_0 : decode cX6_innerRounds 0 = .ok (.aload_n 0, 1) := by decide +kernel
theorem dX6_innerRounds_1 : decode cX6_innerRounds 1 = .ok (.getfield 12, 3) := by decide +kernel
theorem dX6_innerRounds_4 : decode cX6_innerRounds 4 = .ok (.getfield 52, 3) := by decide +kernel
theorem dX6_innerRounds_7 : decode cX6_innerRounds 7 = .ok (.iload_n 2, 1) := by decide +kernel
theorem dX6_innerRounds_8 : decode cX6_innerRounds 8 = .ok (.invokevirtual 36, 3) := by decide +kernel
theorem dX6_innerRounds_11 : decode cX6_innerRounds 11 = .ok (.istore_n 3, 1) := by decide +kernel
theorem dX6_innerRounds_12 : decode cX6_innerRounds 12 = .ok (.iload_n 3, 1) := by decide +kernel
theorem dX6_innerRounds_13 : decode cX6_innerRounds 13 = .ok (.sipush 267, 3) := by decide +kernel
theorem dX6_innerRounds_16 : decode cX6_innerRounds 16 = .ok (.if_icmp .ne 15, 3) := by decide +kernel
theorem dX6_innerRounds_19 : decode cX6_innerRounds 19 = .ok (.aload_n 0, 1) := by decide +kernel
theorem dX6_innerRounds_20 : decode cX6_innerRounds 20 = .ok (.getfield 12, 3) := by decide +kernel
theorem dX6_innerRounds_23 : decode cX6_innerRounds 23 = .ok (.getfield 55, 3) := by decide +kernel
theorem dX6_innerRounds_26 : decode cX6_innerRounds 26 = .ok (.iload_n 2, 1) := by decide +kernel
theorem dX6_innerRounds_27 : decode cX6_innerRounds 27 = .ok (.invokevirtual 36, 3) := by decide +kernel
theorem dX6_innerRounds_30 : decode cX6_innerRounds 30 = .ok (.ireturn, 1) := by decide +kernel
theorem dX6_innerRounds_31 : decode cX6_innerRounds 31 = .ok (.iload_n 3, 1) := by decide +kernel
theorem dX6_innerRounds_32 : decode cX6_innerRounds 32 = .ok (.sipush 268, 3) := by decide +kernel
theorem dX6_innerRounds_35 : decode cX6_innerRounds 35 = .ok (.if_icmp .ne 16, 3) := by decide +kernel
theorem dX6_innerRounds_38 : decode cX6_innerRounds 38 = .ok (.aload_n 0, 1) := by decide +kernel
theorem dX6_innerRounds_39 : decode cX6_innerRounds 39 = .ok (.aload_n 1, 1) := by decide +kernel
theorem dX6_innerRounds_40 : decode cX6_innerRounds 40 = .ok (.iload_n 2, 1) := by decide +kernel
theorem dX6_innerRounds_41 : decode cX6_innerRounds 41 = .ok (.invokevirtual 76, 3) := by decide +kernel
theorem dX6_innerRounds_44 : decode cX6_innerRounds 44 = .ok (.ifCond .eq 7, 3) := by decide +kernel
theorem dX6_innerRounds_47 : decode cX6_innerRounds 47 = .ok (.iconst 1, 1) := by decide +kernel
theorem dX6_innerRounds_48 : decode cX6_innerRounds 48 = .ok (.goto 4, 3) := by decide +kernel
theorem dX6_innerRounds_51 : decode cX6_innerRounds 51 = .ok (.iconst 0, 1) := by decide +kernel
theorem dX6_innerRounds_52 : decode cX6_innerRounds 52 = .ok (.ireturn, 1) := by decide +kernel
theorem dX6_holds_0 : decode cX6_holds 0 = .ok (.aload_n 0, 1) := by decide +kernel
theorem dX6_holds_1 : decode cX6_holds 1 = .ok (.getfield 12, 3) := by decide +kernel
theorem dX6_holds_4 : decode cX6_holds 4 = .ok (.getfield 58, 3) := by decide +kernel
theorem dX6_holds_7 : decode cX6_holds 7 = .ok (.iload_n 2, 1) := by decide +kernel
theorem dX6_holds_8 : decode cX6_holds 8 = .ok (.invokevirtual 36, 3) := by decide +kernel
theorem dX6_holds_11 : decode cX6_holds 11 = .ok (.istore_n 3, 1) := by decide +kernel
theorem dX6_holds_12 : decode cX6_holds 12 = .ok (.aload_n 0, 1) := by decide +kernel
theorem dX6_holds_13 : decode cX6_holds 13 = .ok (.aload_n 1, 1) := by decide +kernel
theorem dX6_holds_14 : decode cX6_holds 14 = .ok (.aload_n 0, 1) := by decide +kernel
theorem dX6_holds_15 : decode cX6_holds 15 = .ok (.getfield 12, 3) := by decide +kernel
theorem dX6_holds_18 : decode cX6_holds 18 = .ok (.getfield 55, 3) := by decide +kernel
theorem dX6_holds_21 : decode cX6_holds 21 = .ok (.iload_n 2, 1) := by decide +kernel
theorem dX6_holds_22 : decode cX6_holds 22 = .ok (.invokevirtual 36, 3) := by decide +kernel
theorem dX6_holds_25 : decode cX6_holds 25 = .ok (.iload_n 3, 1) := by decide +kernel
theorem dX6_holds_26 : decode cX6_holds 26 = .ok (.invokevirtual 80, 3) := by decide +kernel
theorem dX6_holds_29 : decode cX6_holds 29 = .ok (.istore 4, 2) := by decide +kernel
theorem dX6_holds_31 : decode cX6_holds 31 = .ok (.aload_n 0, 1) := by decide +kernel
theorem dX6_holds_32 : decode cX6_holds 32 = .ok (.aload_n 1, 1) := by decide +kernel
theorem dX6_holds_33 : decode cX6_holds 33 = .ok (.iload_n 3, 1) := by decide +kernel
theorem dX6_holds_34 : decode cX6_holds 34 = .ok (.iconst 1, 1) := by decide +kernel
theorem dX6_holds_35 : decode cX6_holds 35 = .ok (.iadd, 1) := by decide +kernel
theorem dX6_holds_36 : decode cX6_holds 36 = .ok (.aload_n 0, 1) := by decide +kernel
theorem dX6_holds_37 : decode cX6_holds 37 = .ok (.getfield 12, 3) := by decide +kernel
theorem dX6_holds_40 : decode cX6_holds 40 = .ok (.getfield 61, 3) := by decide +kernel
theorem dX6_holds_43 : decode cX6_holds 43 = .ok (.iload_n 2, 1) := by decide +kernel
theorem dX6_holds_44 : decode cX6_holds 44 = .ok (.invokevirtual 36, 3) := by decide +kernel
theorem dX6_holds_47 : decode cX6_holds 47 = .ok (.invokevirtual 80, 3) := by decide +kernel
theorem dX6_holds_50 : decode cX6_holds 50 = .ok (.istore 5, 2) := by decide +kernel
theorem dX6_holds_52 : decode cX6_holds 52 = .ok (.aload_n 0, 1) := by decide +kernel
theorem dX6_holds_53 : decode cX6_holds 53 = .ok (.getfield 12, 3) := by decide +kernel
theorem dX6_holds_56 : decode cX6_holds 56 = .ok (.getfield 84, 3) := by decide +kernel
theorem dX6_holds_59 : decode cX6_holds 59 = .ok (.getfield 88, 3) := by decide +kernel
theorem dX6_holds_62 : decode cX6_holds 62 = .ok (.iload_n 3, 1) := by decide +kernel
theorem dX6_holds_63 : decode cX6_holds 63 = .ok (.invokevirtual 36, 3) := by decide +kernel
theorem dX6_holds_66 : decode cX6_holds 66 = .ok (.lookupswitch 52 #[(60, 26), (61, 39)], 26) := by decide +kernel
theorem dX6_holds_92 : decode cX6_holds 92 = .ok (.iload 4, 2) := by decide +kernel
theorem dX6_holds_94 : decode cX6_holds 94 = .ok (.iload 5, 2) := by decide +kernel
theorem dX6_holds_96 : decode cX6_holds 96 = .ok (.if_icmp .ge 7, 3) := by decide +kernel
theorem dX6_holds_99 : decode cX6_holds 99 = .ok (.iconst 1, 1) := by decide +kernel
theorem dX6_holds_100 : decode cX6_holds 100 = .ok (.goto 4, 3) := by decide +kernel
theorem dX6_holds_103 : decode cX6_holds 103 = .ok (.iconst 0, 1) := by decide +kernel
theorem dX6_holds_104 : decode cX6_holds 104 = .ok (.ireturn, 1) := by decide +kernel
theorem dX6_holds_105 : decode cX6_holds 105 = .ok (.iload 4, 2) := by decide +kernel
theorem dX6_holds_107 : decode cX6_holds 107 = .ok (.iload 5, 2) := by decide +kernel
theorem dX6_holds_109 : decode cX6_holds 109 = .ok (.if_icmp .ne 7, 3) := by decide +kernel
theorem dX6_holds_112 : decode cX6_holds 112 = .ok (.iconst 1, 1) := by decide +kernel
theorem dX6_holds_113 : decode cX6_holds 113 = .ok (.goto 4, 3) := by decide +kernel
theorem dX6_holds_116 : decode cX6_holds 116 = .ok (.iconst 0, 1) := by decide +kernel
theorem dX6_holds_117 : decode cX6_holds 117 = .ok (.ireturn, 1) := by decide +kernel
theorem dX6_holds_118 : decode cX6_holds 118 = .ok (.iload 4, 2) := by decide +kernel
theorem dX6_holds_120 : decode cX6_holds 120 = .ok (.iload 5, 2) := by decide +kernel
theorem dX6_holds_122 : decode cX6_holds 122 = .ok (.if_icmp .le 7, 3) := by decide +kernel
theorem dX6_holds_125 : decode cX6_holds 125 = .ok (.iconst 1, 1) := by decide +kernel
theorem dX6_holds_126 : decode cX6_holds 126 = .ok (.goto 4, 3) := by decide +kernel
theorem dX6_holds_129 : decode cX6_holds 129 = .ok (.iconst 0, 1) := by decide +kernel
theorem dX6_holds_130 : decode cX6_holds 130 = .ok (.ireturn, 1) := by decide +kernel
theorem dX6_sumOf_0 : decode cX6_sumOf 0 = .ok (.iconst 0, 1) := by decide +kernel
theorem dX6_sumOf_1 : decode cX6_sumOf 1 = .ok (.istore 4, 2) := by decide +kernel
theorem dX6_sumOf_3 : decode cX6_sumOf 3 = .ok (.iconst 1, 1) := by decide +kernel
theorem dX6_sumOf_4 : decode cX6_sumOf 4 = .ok (.istore 5, 2) := by decide +kernel
theorem dX6_sumOf_6 : decode cX6_sumOf 6 = .ok (.iload_n 2, 1) := by decide +kernel
theorem dX6_sumOf_7 : decode cX6_sumOf 7 = .ok (.istore 6, 2) := by decide +kernel
theorem dX6_sumOf_9 : decode cX6_sumOf 9 = .ok (.iload 6, 2) := by decide +kernel
theorem dX6_sumOf_11 : decode cX6_sumOf 11 = .ok (.iload_n 3, 1) := by decide +kernel
theorem dX6_sumOf_12 : decode cX6_sumOf 12 = .ok (.if_icmp .ge 72, 3) := by decide +kernel
theorem dX6_sumOf_15 : decode cX6_sumOf 15 = .ok (.aload_n 0, 1) := by decide +kernel
theorem dX6_sumOf_16 : decode cX6_sumOf 16 = .ok (.getfield 12, 3) := by decide +kernel
theorem dX6_sumOf_19 : decode cX6_sumOf 19 = .ok (.getfield 84, 3) := by decide +kernel
theorem dX6_sumOf_22 : decode cX6_sumOf 22 = .ok (.getfield 88, 3) := by decide +kernel
theorem dX6_sumOf_25 : decode cX6_sumOf 25 = .ok (.iload 6, 2) := by decide +kernel
theorem dX6_sumOf_27 : decode cX6_sumOf 27 = .ok (.invokevirtual 36, 3) := by decide +kernel
theorem dX6_sumOf_30 : decode cX6_sumOf 30 = .ok (.istore 7, 2) := by decide +kernel
theorem dX6_sumOf_32 : decode cX6_sumOf 32 = .ok (.iload 7, 2) := by decide +kernel
theorem dX6_sumOf_34 : decode cX6_sumOf 34 = .ok (.bipush 43, 2) := by decide +kernel
theorem dX6_sumOf_36 : decode cX6_sumOf 36 = .ok (.if_icmp .eq 10, 3) := by decide +kernel
theorem dX6_sumOf_39 : decode cX6_sumOf 39 = .ok (.iload 7, 2) := by decide +kernel
theorem dX6_sumOf_41 : decode cX6_sumOf 41 = .ok (.bipush 45, 2) := by decide +kernel
theorem dX6_sumOf_43 : decode cX6_sumOf 43 = .ok (.if_icmp .ne 20, 3) := by decide +kernel
theorem dX6_sumOf_46 : decode cX6_sumOf 46 = .ok (.iload 7, 2) := by decide +kernel
theorem dX6_sumOf_48 : decode cX6_sumOf 48 = .ok (.bipush 43, 2) := by decide +kernel
theorem dX6_sumOf_50 : decode cX6_sumOf 50 = .ok (.if_icmp .ne 7, 3) := by decide +kernel
theorem dX6_sumOf_53 : decode cX6_sumOf 53 = .ok (.iconst 1, 1) := by decide +kernel
theorem dX6_sumOf_54 : decode cX6_sumOf 54 = .ok (.goto 4, 3) := by decide +kernel
theorem dX6_sumOf_57 : decode cX6_sumOf 57 = .ok (.iconst (-1), 1) := by decide +kernel
theorem dX6_sumOf_58 : decode cX6_sumOf 58 = .ok (.istore 5, 2) := by decide +kernel
theorem dX6_sumOf_60 : decode cX6_sumOf 60 = .ok (.goto 18, 3) := by decide +kernel
theorem dX6_sumOf_63 : decode cX6_sumOf 63 = .ok (.iload 4, 2) := by decide +kernel
theorem dX6_sumOf_65 : decode cX6_sumOf 65 = .ok (.iload 5, 2) := by decide +kernel
theorem dX6_sumOf_67 : decode cX6_sumOf 67 = .ok (.aload_n 0, 1) := by decide +kernel
theorem dX6_sumOf_68 : decode cX6_sumOf 68 = .ok (.aload_n 1, 1) := by decide +kernel
theorem dX6_sumOf_69 : decode cX6_sumOf 69 = .ok (.iload 6, 2) := by decide +kernel
theorem dX6_sumOf_71 : decode cX6_sumOf 71 = .ok (.invokevirtual 93, 3) := by decide +kernel
theorem dX6_sumOf_74 : decode cX6_sumOf 74 = .ok (.imul, 1) := by decide +kernel
theorem dX6_sumOf_75 : decode cX6_sumOf 75 = .ok (.iadd, 1) := by decide +kernel
theorem dX6_sumOf_76 : decode cX6_sumOf 76 = .ok (.istore 4, 2) := by decide +kernel
theorem dX6_sumOf_78 : decode cX6_sumOf 78 = .ok (.iinc 6 1, 3) := by decide +kernel
theorem dX6_sumOf_81 : decode cX6_sumOf 81 = .ok (.goto (-72), 3) := by decide +kernel
theorem dX6_sumOf_84 : decode cX6_sumOf 84 = .ok (.iload 4, 2) := by decide +kernel
theorem dX6_sumOf_86 : decode cX6_sumOf 86 = .ok (.ireturn, 1) := by decide +kernel
theorem dX6_amountAt_0 : decode cX6_amountAt 0 = .ok (.aload_n 0, 1) := by decide +kernel
theorem dX6_amountAt_1 : decode cX6_amountAt 1 = .ok (.getfield 12, 3) := by decide +kernel
theorem dX6_amountAt_4 : decode cX6_amountAt 4 = .ok (.getfield 84, 3) := by decide +kernel
theorem dX6_amountAt_7 : decode cX6_amountAt 7 = .ok (.getfield 96, 3) := by decide +kernel
theorem dX6_amountAt_10 : decode cX6_amountAt 10 = .ok (.iload_n 2, 1) := by decide +kernel
theorem dX6_amountAt_11 : decode cX6_amountAt 11 = .ok (.invokevirtual 36, 3) := by decide +kernel
theorem dX6_amountAt_14 : decode cX6_amountAt 14 = .ok (.istore_n 3, 1) := by decide +kernel
theorem dX6_amountAt_15 : decode cX6_amountAt 15 = .ok (.aload_n 0, 1) := by decide +kernel
theorem dX6_amountAt_16 : decode cX6_amountAt 16 = .ok (.getfield 12, 3) := by decide +kernel
theorem dX6_amountAt_19 : decode cX6_amountAt 19 = .ok (.getfield 84, 3) := by decide +kernel
theorem dX6_amountAt_22 : decode cX6_amountAt 22 = .ok (.getfield 88, 3) := by decide +kernel
theorem dX6_amountAt_25 : decode cX6_amountAt 25 = .ok (.iload_n 2, 1) := by decide +kernel
theorem dX6_amountAt_26 : decode cX6_amountAt 26 = .ok (.invokevirtual 36, 3) := by decide +kernel
theorem dX6_amountAt_29 : decode cX6_amountAt 29 = .ok (.tableswitch 57 270 273 #[31, 39, 47, 55], 31) := by decide +kernel
theorem dX6_amountAt_60 : decode cX6_amountAt 60 = .ok (.aload_n 1, 1) := by decide +kernel
theorem dX6_amountAt_61 : decode cX6_amountAt 61 = .ok (.getfield 99, 3) := by decide +kernel
theorem dX6_amountAt_64 : decode cX6_amountAt 64 = .ok (.getfield 103, 3) := by decide +kernel
theorem dX6_amountAt_67 : decode cX6_amountAt 67 = .ok (.ireturn, 1) := by decide +kernel
theorem dX6_amountAt_68 : decode cX6_amountAt 68 = .ok (.aload_n 1, 1) := by decide +kernel
theorem dX6_amountAt_69 : decode cX6_amountAt 69 = .ok (.getfield 99, 3) := by decide +kernel
theorem dX6_amountAt_72 : decode cX6_amountAt 72 = .ok (.getfield 108, 3) := by decide +kernel
theorem dX6_amountAt_75 : decode cX6_amountAt 75 = .ok (.ireturn, 1) := by decide +kernel
theorem dX6_amountAt_76 : decode cX6_amountAt 76 = .ok (.aload_n 1, 1) := by decide +kernel
theorem dX6_amountAt_77 : decode cX6_amountAt 77 = .ok (.getfield 111, 3) := by decide +kernel
theorem dX6_amountAt_80 : decode cX6_amountAt 80 = .ok (.getfield 115, 3) := by decide +kernel
theorem dX6_amountAt_83 : decode cX6_amountAt 83 = .ok (.ireturn, 1) := by decide +kernel
theorem dX6_amountAt_84 : decode cX6_amountAt 84 = .ok (.iconst 0, 1) := by decide +kernel
theorem dX6_amountAt_85 : decode cX6_amountAt 85 = .ok (.ireturn, 1) := by decide +kernel
theorem dX6_amountAt_86 : decode cX6_amountAt 86 = .ok (.aload_n 0, 1) := by decide +kernel
theorem dX6_amountAt_87 : decode cX6_amountAt 87 = .ok (.getfield 12, 3) := by decide +kernel
theorem dX6_amountAt_90 : decode cX6_amountAt 90 = .ok (.getfield 84, 3) := by decide +kernel
theorem dX6_amountAt_93 : decode cX6_amountAt 93 = .ok (.getfield 88, 3) := by decide +kernel
theorem dX6_amountAt_96 : decode cX6_amountAt 96 = .ok (.iload_n 2, 1) := by decide +kernel
theorem dX6_amountAt_97 : decode cX6_amountAt 97 = .ok (.iconst 1, 1) := by decide +kernel
theorem dX6_amountAt_98 : decode cX6_amountAt 98 = .ok (.isub, 1) := by decide +kernel
theorem dX6_amountAt_99 : decode cX6_amountAt 99 = .ok (.invokevirtual 36, 3) := by decide +kernel
theorem dX6_amountAt_102 : decode cX6_amountAt 102 = .ok (.sipush 273, 3) := by decide +kernel
theorem dX6_amountAt_105 : decode cX6_amountAt 105 = .ok (.if_icmp .eq 5, 3) := by decide +kernel
theorem dX6_amountAt_108 : decode cX6_amountAt 108 = .ok (.iload_n 3, 1) := by decide +kernel
theorem dX6_amountAt_109 : decode cX6_amountAt 109 = .ok (.ireturn, 1) := by decide +kernel
theorem dX6_amountAt_110 : decode cX6_amountAt 110 = .ok (.aload_n 1, 1) := by decide +kernel
theorem dX6_amountAt_111 : decode cX6_amountAt 111 = .ok (.getfield 120, 3) := by decide +kernel
theorem dX6_amountAt_114 : decode cX6_amountAt 114 = .ok (.iload_n 3, 1) := by decide +kernel
theorem dX6_amountAt_115 : decode cX6_amountAt 115 = .ok (.invokevirtual 124, 3) := by decide +kernel
theorem dX6_amountAt_118 : decode cX6_amountAt 118 = .ok (.ifCond .eq 14, 3) := by decide +kernel
theorem dX6_amountAt_121 : decode cX6_amountAt 121 = .ok (.aload_n 1, 1) := by decide +kernel
theorem dX6_amountAt_122 : decode cX6_amountAt 122 = .ok (.getfield 120, 3) := by decide +kernel
theorem dX6_amountAt_125 : decode cX6_amountAt 125 = .ok (.iload_n 3, 1) := by decide +kernel
theorem dX6_amountAt_126 : decode cX6_amountAt 126 = .ok (.invokevirtual 130, 3) := by decide +kernel
theorem dX6_amountAt_129 : decode cX6_amountAt 129 = .ok (.goto 4, 3) := by decide +kernel
theorem dX6_amountAt_132 : decode cX6_amountAt 132 = .ok (.iconst 0, 1) := by decide +kernel
theorem dX6_amountAt_133 : decode cX6_amountAt 133 = .ok (.ireturn, 1) := by decide +kernel
theorem dX7_init_0 : decode cX7_init 0 = .ok (.aload_n 0, 1) := by decide +kernel
theorem dX7_init_1 : decode cX7_init 1 = .ok (.invokespecial 3, 3) := by decide +kernel
theorem dX7_init_4 : decode cX7_init 4 = .ok (.aload_n 0, 1) := by decide +kernel
theorem dX7_init_5 : decode cX7_init 5 = .ok (.new 9, 3) := by decide +kernel
theorem dX7_init_8 : decode cX7_init 8 = .ok (.dup, 1) := by decide +kernel
theorem dX7_init_9 : decode cX7_init 9 = .ok (.sipush 401, 3) := by decide +kernel
theorem dX7_init_12 : decode cX7_init 12 = .ok (.invokespecial 11, 3) := by decide +kernel
theorem dX7_init_15 : decode cX7_init 15 = .ok (.putfield 14, 3) := by decide +kernel
theorem dX7_init_18 : decode cX7_init 18 = .ok (.aload_n 0, 1) := by decide +kernel
theorem dX7_init_19 : decode cX7_init 19 = .ok (.new 9, 3) := by decide +kernel
theorem dX7_init_22 : decode cX7_init 22 = .ok (.dup, 1) := by decide +kernel
theorem dX7_init_23 : decode cX7_init 23 = .ok (.sipush 401, 3) := by decide +kernel
theorem dX7_init_26 : decode cX7_init 26 = .ok (.invokespecial 11, 3) := by decide +kernel
theorem dX7_init_29 : decode cX7_init 29 = .ok (.putfield 20, 3) := by decide +kernel
theorem dX7_init_32 : decode cX7_init 32 = .ok (.return_, 1) := by decide +kernel
theorem dX7_clear_0 : decode cX7_clear 0 = .ok (.aload_n 0, 1) := by decide +kernel
theorem dX7_clear_1 : decode cX7_clear 1 = .ok (.iconst 0, 1) := by decide +kernel
theorem dX7_clear_2 : decode cX7_clear 2 = .ok (.putfield 23, 3) := by decide +kernel
theorem dX7_clear_5 : decode cX7_clear 5 = .ok (.aload_n 0, 1) := by decide +kernel
theorem dX7_clear_6 : decode cX7_clear 6 = .ok (.iconst 0, 1) := by decide +kernel
theorem dX7_clear_7 : decode cX7_clear 7 = .ok (.putfield 27, 3) := by decide +kernel
theorem dX7_clear_10 : decode cX7_clear 10 = .ok (.aload_n 0, 1) := by decide +kernel
theorem dX7_clear_11 : decode cX7_clear 11 = .ok (.iload_n 1, 1) := by decide +kernel
theorem dX7_clear_12 : decode cX7_clear 12 = .ok (.putfield 30, 3) := by decide +kernel
theorem dX7_clear_15 : decode cX7_clear 15 = .ok (.aload_n 0, 1) := by decide +kernel
theorem dX7_clear_16 : decode cX7_clear 16 = .ok (.iconst 0, 1) := by decide +kernel
theorem dX7_clear_17 : decode cX7_clear 17 = .ok (.putfield 33, 3) := by decide +kernel
theorem dX7_clear_20 : decode cX7_clear 20 = .ok (.aload_n 0, 1) := by decide +kernel
theorem dX7_clear_21 : decode cX7_clear 21 = .ok (.iconst 0, 1) := by decide +kernel
theorem dX7_clear_22 : decode cX7_clear 22 = .ok (.putfield 36, 3) := by decide +kernel
theorem dX7_clear_25 : decode cX7_clear 25 = .ok (.aload_n 0, 1) := by decide +kernel
theorem dX7_clear_26 : decode cX7_clear 26 = .ok (.getfield 14, 3) := by decide +kernel
theorem dX7_clear_29 : decode cX7_clear 29 = .ok (.iconst 0, 1) := by decide +kernel
theorem dX7_clear_30 : decode cX7_clear 30 = .ok (.iconst 0, 1) := by decide +kernel
theorem dX7_clear_31 : decode cX7_clear 31 = .ok (.invokevirtual 39, 3) := by decide +kernel
theorem dX7_clear_34 : decode cX7_clear 34 = .ok (.aload_n 0, 1) := by decide +kernel
theorem dX7_clear_35 : decode cX7_clear 35 = .ok (.getfield 20, 3) := by decide +kernel
theorem dX7_clear_38 : decode cX7_clear 38 = .ok (.iconst 0, 1) := by decide +kernel
theorem dX7_clear_39 : decode cX7_clear 39 = .ok (.iconst 0, 1) := by decide +kernel
theorem dX7_clear_40 : decode cX7_clear 40 = .ok (.invokevirtual 39, 3) := by decide +kernel
theorem dX7_clear_43 : decode cX7_clear 43 = .ok (.return_, 1) := by decide +kernel
theorem dX7_count_0 : decode cX7_count 0 = .ok (.aload_n 0, 1) := by decide +kernel
theorem dX7_count_1 : decode cX7_count 1 = .ok (.getfield 27, 3) := by decide +kernel
theorem dX7_count_4 : decode cX7_count 4 = .ok (.aload_n 0, 1) := by decide +kernel
theorem dX7_count_5 : decode cX7_count 5 = .ok (.getfield 23, 3) := by decide +kernel
theorem dX7_count_8 : decode cX7_count 8 = .ok (.isub, 1) := by decide +kernel
theorem dX7_count_9 : decode cX7_count 9 = .ok (.iconst 1, 1) := by decide +kernel
theorem dX7_count_10 : decode cX7_count 10 = .ok (.iadd, 1) := by decide +kernel
theorem dX7_count_11 : decode cX7_count 11 = .ok (.ireturn, 1) := by decide +kernel
theorem dX7_firstNumber_0 : decode cX7_firstNumber 0 = .ok (.aload_n 0, 1) := by decide +kernel
theorem dX7_firstNumber_1 : decode cX7_firstNumber 1 = .ok (.getfield 14, 3) := by decide +kernel
theorem dX7_firstNumber_4 : decode cX7_firstNumber 4 = .ok (.aload_n 0, 1) := by decide +kernel
theorem dX7_firstNumber_5 : decode cX7_firstNumber 5 = .ok (.getfield 23, 3) := by decide +kernel
theorem dX7_firstNumber_8 : decode cX7_firstNumber 8 = .ok (.invokevirtual 43, 3) := by decide +kernel
theorem dX7_firstNumber_11 : decode cX7_firstNumber 11 = .ok (.ireturn, 1) := by decide +kernel
theorem dX7_place_0 : decode cX7_place 0 = .ok (.aload_n 0, 1) := by decide +kernel
theorem dX7_place_1 : decode cX7_place 1 = .ok (.getfield 20, 3) := by decide +kernel
theorem dX7_place_4 : decode cX7_place 4 = .ok (.aload_n 0, 1) := by decide +kernel
theorem dX7_place_5 : decode cX7_place 5 = .ok (.getfield 27, 3) := by decide +kernel
theorem dX7_place_8 : decode cX7_place 8 = .ok (.invokevirtual 43, 3) := by decide +kernel
theorem dX7_place_11 : decode cX7_place 11 = .ok (.iload_n 2, 1) := by decide +kernel
theorem dX7_place_12 : decode cX7_place 12 = .ok (.iadd, 1) := by decide +kernel
theorem dX7_place_13 : decode cX7_place 13 = .ok (.aload_n 0, 1) := by decide +kernel
theorem dX7_place_14 : decode cX7_place 14 = .ok (.getfield 30, 3) := by decide +kernel
theorem dX7_place_17 : decode cX7_place 17 = .ok (.if_icmp .le 37, 3) := by decide +kernel
theorem dX7_place_20 : decode cX7_place 20 = .ok (.aload_n 0, 1) := by decide +kernel
theorem dX7_place_21 : decode cX7_place 21 = .ok (.dup, 1) := by decide +kernel
theorem dX7_place_22 : decode cX7_place 22 = .ok (.getfield 27, 3) := by decide +kernel
theorem dX7_place_25 : decode cX7_place 25 = .ok (.iconst 1, 1) := by decide +kernel
theorem dX7_place_26 : decode cX7_place 26 = .ok (.iadd, 1) := by decide +kernel
theorem dX7_place_27 : decode cX7_place 27 = .ok (.putfield 27, 3) := by decide +kernel
theorem dX7_place_30 : decode cX7_place 30 = .ok (.aload_n 0, 1) := by decide +kernel
theorem dX7_place_31 : decode cX7_place 31 = .ok (.getfield 14, 3) := by decide +kernel
theorem dX7_place_34 : decode cX7_place 34 = .ok (.aload_n 0, 1) := by decide +kernel
theorem dX7_place_35 : decode cX7_place 35 = .ok (.getfield 27, 3) := by decide +kernel
theorem dX7_place_38 : decode cX7_place 38 = .ok (.iload_n 1, 1) := by decide +kernel
theorem dX7_place_39 : decode cX7_place 39 = .ok (.invokevirtual 39, 3) := by decide +kernel
theorem dX7_place_42 : decode cX7_place 42 = .ok (.aload_n 0, 1) := by decide +kernel
theorem dX7_place_43 : decode cX7_place 43 = .ok (.getfield 20, 3) := by decide +kernel
theorem dX7_place_46 : decode cX7_place 46 = .ok (.aload_n 0, 1) := by decide +kernel
theorem dX7_place_47 : decode cX7_place 47 = .ok (.getfield 27, 3) := by decide +kernel
theorem dX7_place_50 : decode cX7_place 50 = .ok (.iconst 0, 1) := by decide +kernel
theorem dX7_place_51 : decode cX7_place 51 = .ok (.invokevirtual 39, 3) := by decide +kernel
theorem dX7_place_54 : decode cX7_place 54 = .ok (.aload_n 0, 1) := by decide +kernel
theorem dX7_place_55 : decode cX7_place 55 = .ok (.getfield 20, 3) := by decide +kernel
theorem dX7_place_58 : decode cX7_place 58 = .ok (.aload_n 0, 1) := by decide +kernel
theorem dX7_place_59 : decode cX7_place 59 = .ok (.getfield 27, 3) := by decide +kernel
theorem dX7_place_62 : decode cX7_place 62 = .ok (.aload_n 0, 1) := by decide +kernel
theorem dX7_place_63 : decode cX7_place 63 = .ok (.getfield 20, 3) := by decide +kernel
theorem dX7_place_66 : decode cX7_place 66 = .ok (.aload_n 0, 1) := by decide +kernel
theorem dX7_place_67 : decode cX7_place 67 = .ok (.getfield 27, 3) := by decide +kernel
theorem dX7_place_70 : decode cX7_place 70 = .ok (.invokevirtual 43, 3) := by decide +kernel
theorem dX7_place_73 : decode cX7_place 73 = .ok (.iload_n 2, 1) := by decide +kernel
theorem dX7_place_74 : decode cX7_place 74 = .ok (.iadd, 1) := by decide +kernel
theorem dX7_place_75 : decode cX7_place 75 = .ok (.invokevirtual 39, 3) := by decide +kernel
theorem dX7_place_78 : decode cX7_place 78 = .ok (.aload_n 0, 1) := by decide +kernel
theorem dX7_place_79 : decode cX7_place 79 = .ok (.dup, 1) := by decide +kernel
theorem dX7_place_80 : decode cX7_place 80 = .ok (.getfield 33, 3) := by decide +kernel
theorem dX7_place_83 : decode cX7_place 83 = .ok (.iload_n 2, 1) := by decide +kernel
theorem dX7_place_84 : decode cX7_place 84 = .ok (.iadd, 1) := by decide +kernel
theorem dX7_place_85 : decode cX7_place 85 = .ok (.putfield 33, 3) := by decide +kernel
theorem dX7_place_88 : decode cX7_place 88 = .ok (.aload_n 0, 1) := by decide +kernel
theorem dX7_place_89 : decode cX7_place 89 = .ok (.getfield 27, 3) := by decide +kernel
theorem dX7_place_92 : decode cX7_place 92 = .ok (.ireturn, 1) := by decide +kernel
theorem dX7_trimBefore_0 : decode cX7_trimBefore 0 = .ok (.aload_n 0, 1) := by decide +kernel
theorem dX7_trimBefore_1 : decode cX7_trimBefore 1 = .ok (.getfield 23, 3) := by decide +kernel
theorem dX7_trimBefore_4 : decode cX7_trimBefore 4 = .ok (.istore_n 2, 1) := by decide +kernel
theorem dX7_trimBefore_5 : decode cX7_trimBefore 5 = .ok (.iload_n 2, 1) := by decide +kernel
theorem dX7_trimBefore_6 : decode cX7_trimBefore 6 = .ok (.aload_n 0, 1) := by decide +kernel
theorem dX7_trimBefore_7 : decode cX7_trimBefore 7 = .ok (.getfield 27, 3) := by decide +kernel
theorem dX7_trimBefore_10 : decode cX7_trimBefore 10 = .ok (.if_icmp .ge 52, 3) := by decide +kernel
theorem dX7_trimBefore_13 : decode cX7_trimBefore 13 = .ok (.aload_n 0, 1) := by decide +kernel
theorem dX7_trimBefore_14 : decode cX7_trimBefore 14 = .ok (.iload_n 2, 1) := by decide +kernel
theorem dX7_trimBefore_15 : decode cX7_trimBefore 15 = .ok (.iload_n 1, 1) := by decide +kernel
theorem dX7_trimBefore_16 : decode cX7_trimBefore 16 = .ok (.invokevirtual 47, 3) := by decide +kernel
theorem dX7_trimBefore_19 : decode cX7_trimBefore 19 = .ok (.ifCond .eq 43, 3) := by decide +kernel
theorem dX7_trimBefore_22 : decode cX7_trimBefore 22 = .ok (.aload_n 0, 1) := by decide +kernel
theorem dX7_trimBefore_23 : decode cX7_trimBefore 23 = .ok (.dup, 1) := by decide +kernel
theorem dX7_trimBefore_24 : decode cX7_trimBefore 24 = .ok (.getfield 33, 3) := by decide +kernel
theorem dX7_trimBefore_27 : decode cX7_trimBefore 27 = .ok (.aload_n 0, 1) := by decide +kernel
theorem dX7_trimBefore_28 : decode cX7_trimBefore 28 = .ok (.getfield 20, 3) := by decide +kernel
theorem dX7_trimBefore_31 : decode cX7_trimBefore 31 = .ok (.iload_n 2, 1) := by decide +kernel
theorem dX7_trimBefore_32 : decode cX7_trimBefore 32 = .ok (.invokevirtual 43, 3) := by decide +kernel
theorem dX7_trimBefore_35 : decode cX7_trimBefore 35 = .ok (.isub, 1) := by decide +kernel
theorem dX7_trimBefore_36 : decode cX7_trimBefore 36 = .ok (.putfield 33, 3) := by decide +kernel
theorem dX7_trimBefore_39 : decode cX7_trimBefore 39 = .ok (.aload_n 0, 1) := by decide +kernel
theorem dX7_trimBefore_40 : decode cX7_trimBefore 40 = .ok (.iload_n 2, 1) := by decide +kernel
theorem dX7_trimBefore_41 : decode cX7_trimBefore 41 = .ok (.iconst 1, 1) := by decide +kernel
theorem dX7_trimBefore_42 : decode cX7_trimBefore 42 = .ok (.iadd, 1) := by decide +kernel
theorem dX7_trimBefore_43 : decode cX7_trimBefore 43 = .ok (.putfield 23, 3) := by decide +kernel
theorem dX7_trimBefore_46 : decode cX7_trimBefore 46 = .ok (.aload_n 0, 1) := by decide +kernel
theorem dX7_trimBefore_47 : decode cX7_trimBefore 47 = .ok (.dup, 1) := by decide +kernel
theorem dX7_trimBefore_48 : decode cX7_trimBefore 48 = .ok (.getfield 36, 3) := by decide +kernel
theorem dX7_trimBefore_51 : decode cX7_trimBefore 51 = .ok (.iconst 1, 1) := by decide +kernel
theorem dX7_trimBefore_52 : decode cX7_trimBefore 52 = .ok (.iadd, 1) := by decide +kernel
theorem dX7_trimBefore_53 : decode cX7_trimBefore 53 = .ok (.putfield 36, 3) := by decide +kernel
theorem dX7_trimBefore_56 : decode cX7_trimBefore 56 = .ok (.iinc 2 1, 3) := by decide +kernel
theorem dX7_trimBefore_59 : decode cX7_trimBefore 59 = .ok (.goto (-54), 3) := by decide +kernel
theorem dX7_trimBefore_62 : decode cX7_trimBefore 62 = .ok (.return_, 1) := by decide +kernel
theorem dX7_bytesBefore_0 : decode cX7_bytesBefore 0 = .ok (.iconst 0, 1) := by decide +kernel
theorem dX7_bytesBefore_1 : decode cX7_bytesBefore 1 = .ok (.istore_n 2, 1) := by decide +kernel
theorem dX7_bytesBefore_2 : decode cX7_bytesBefore 2 = .ok (.aload_n 0, 1) := by decide +kernel
theorem dX7_bytesBefore_3 : decode cX7_bytesBefore 3 = .ok (.getfield 23, 3) := by decide +kernel
theorem dX7_bytesBefore_6 : decode cX7_bytesBefore 6 = .ok (.istore_n 3, 1) := by decide +kernel
theorem dX7_bytesBefore_7 : decode cX7_bytesBefore 7 = .ok (.iload_n 3, 1) := by decide +kernel
theorem dX7_bytesBefore_8 : decode cX7_bytesBefore 8 = .ok (.aload_n 0, 1) := by decide +kernel
theorem dX7_bytesBefore_9 : decode cX7_bytesBefore 9 = .ok (.getfield 27, 3) := by decide +kernel
theorem dX7_bytesBefore_12 : decode cX7_bytesBefore 12 = .ok (.if_icmp .ge 29, 3) := by decide +kernel
theorem dX7_bytesBefore_15 : decode cX7_bytesBefore 15 = .ok (.aload_n 0, 1) := by decide +kernel
theorem dX7_bytesBefore_16 : decode cX7_bytesBefore 16 = .ok (.iload_n 3, 1) := by decide +kernel
theorem dX7_bytesBefore_17 : decode cX7_bytesBefore 17 = .ok (.iload_n 1, 1) := by decide +kernel
theorem dX7_bytesBefore_18 : decode cX7_bytesBefore 18 = .ok (.invokevirtual 47, 3) := by decide +kernel
theorem dX7_bytesBefore_21 : decode cX7_bytesBefore 21 = .ok (.ifCond .eq 20, 3) := by decide +kernel
theorem dX7_bytesBefore_24 : decode cX7_bytesBefore 24 = .ok (.iload_n 2, 1) := by decide +kernel
theorem dX7_bytesBefore_25 : decode cX7_bytesBefore 25 = .ok (.aload_n 0, 1) := by decide +kernel
theorem dX7_bytesBefore_26 : decode cX7_bytesBefore 26 = .ok (.getfield 20, 3) := by decide +kernel
theorem dX7_bytesBefore_29 : decode cX7_bytesBefore 29 = .ok (.iload_n 3, 1) := by decide +kernel
theorem dX7_bytesBefore_30 : decode cX7_bytesBefore 30 = .ok (.invokevirtual 43, 3) := by decide +kernel
theorem dX7_bytesBefore_33 : decode cX7_bytesBefore 33 = .ok (.iadd, 1) := by decide +kernel
theorem dX7_bytesBefore_34 : decode cX7_bytesBefore 34 = .ok (.istore_n 2, 1) := by decide +kernel
theorem dX7_bytesBefore_35 : decode cX7_bytesBefore 35 = .ok (.iinc 3 1, 3) := by decide +kernel
theorem dX7_bytesBefore_38 : decode cX7_bytesBefore 38 = .ok (.goto (-31), 3) := by decide +kernel
theorem dX7_bytesBefore_41 : decode cX7_bytesBefore 41 = .ok (.iload_n 2, 1) := by decide +kernel
theorem dX7_bytesBefore_42 : decode cX7_bytesBefore 42 = .ok (.ireturn, 1) := by decide +kernel
theorem dX7_isBefore_0 : decode cX7_isBefore 0 = .ok (.aload_n 0, 1) := by decide +kernel
theorem dX7_isBefore_1 : decode cX7_isBefore 1 = .ok (.getfield 14, 3) := by decide +kernel
theorem dX7_isBefore_4 : decode cX7_isBefore 4 = .ok (.iload_n 1, 1) := by decide +kernel
theorem dX7_isBefore_5 : decode cX7_isBefore 5 = .ok (.iconst 1, 1) := by decide +kernel
theorem dX7_isBefore_6 : decode cX7_isBefore 6 = .ok (.iadd, 1) := by decide +kernel
theorem dX7_isBefore_7 : decode cX7_isBefore 7 = .ok (.invokevirtual 43, 3) := by decide +kernel
theorem dX7_isBefore_10 : decode cX7_isBefore 10 = .ok (.iload_n 2, 1) := by decide +kernel
theorem dX7_isBefore_11 : decode cX7_isBefore 11 = .ok (.if_icmp .gt 7, 3) := by decide +kernel
theorem dX7_isBefore_14 : decode cX7_isBefore 14 = .ok (.iconst 1, 1) := by decide +kernel
theorem dX7_isBefore_15 : decode cX7_isBefore 15 = .ok (.goto 4, 3) := by decide +kernel
theorem dX7_isBefore_18 : decode cX7_isBefore 18 = .ok (.iconst 0, 1) := by decide +kernel
theorem dX7_isBefore_19 : decode cX7_isBefore 19 = .ok (.ireturn, 1) := by decide +kernel
theorem dX7_dropFrom_0 : decode cX7_dropFrom 0 = .ok (.aload_n 0, 1) := by decide +kernel
theorem dX7_dropFrom_1 : decode cX7_dropFrom 1 = .ok (.getfield 27, 3) := by decide +kernel
theorem dX7_dropFrom_4 : decode cX7_dropFrom 4 = .ok (.istore_n 3, 1) := by decide +kernel
theorem dX7_dropFrom_5 : decode cX7_dropFrom 5 = .ok (.iload_n 3, 1) := by decide +kernel
theorem dX7_dropFrom_6 : decode cX7_dropFrom 6 = .ok (.aload_n 0, 1) := by decide +kernel
theorem dX7_dropFrom_7 : decode cX7_dropFrom 7 = .ok (.getfield 23, 3) := by decide +kernel
theorem dX7_dropFrom_10 : decode cX7_dropFrom 10 = .ok (.if_icmp .le 45, 3) := by decide +kernel
theorem dX7_dropFrom_13 : decode cX7_dropFrom 13 = .ok (.aload_n 0, 1) := by decide +kernel
theorem dX7_dropFrom_14 : decode cX7_dropFrom 14 = .ok (.getfield 14, 3) := by decide +kernel
theorem dX7_dropFrom_17 : decode cX7_dropFrom 17 = .ok (.iload_n 3, 1) := by decide +kernel
theorem dX7_dropFrom_18 : decode cX7_dropFrom 18 = .ok (.invokevirtual 43, 3) := by decide +kernel
theorem dX7_dropFrom_21 : decode cX7_dropFrom 21 = .ok (.iload_n 1, 1) := by decide +kernel
theorem dX7_dropFrom_22 : decode cX7_dropFrom 22 = .ok (.if_icmp .lt 33, 3) := by decide +kernel
theorem dX7_dropFrom_25 : decode cX7_dropFrom 25 = .ok (.aload_n 0, 1) := by decide +kernel
theorem dX7_dropFrom_26 : decode cX7_dropFrom 26 = .ok (.dup, 1) := by decide +kernel
theorem dX7_dropFrom_27 : decode cX7_dropFrom 27 = .ok (.getfield 33, 3) := by decide +kernel
theorem dX7_dropFrom_30 : decode cX7_dropFrom 30 = .ok (.aload_n 0, 1) := by decide +kernel
theorem dX7_dropFrom_31 : decode cX7_dropFrom 31 = .ok (.getfield 20, 3) := by decide +kernel
theorem dX7_dropFrom_34 : decode cX7_dropFrom 34 = .ok (.iload_n 3, 1) := by decide +kernel
theorem dX7_dropFrom_35 : decode cX7_dropFrom 35 = .ok (.invokevirtual 43, 3) := by decide +kernel
theorem dX7_dropFrom_38 : decode cX7_dropFrom 38 = .ok (.isub, 1) := by decide +kernel
theorem dX7_dropFrom_39 : decode cX7_dropFrom 39 = .ok (.putfield 33, 3) := by decide +kernel
theorem dX7_dropFrom_42 : decode cX7_dropFrom 42 = .ok (.aload_n 0, 1) := by decide +kernel
theorem dX7_dropFrom_43 : decode cX7_dropFrom 43 = .ok (.iload_n 3, 1) := by decide +kernel
theorem dX7_dropFrom_44 : decode cX7_dropFrom 44 = .ok (.iconst 1, 1) := by decide +kernel
theorem dX7_dropFrom_45 : decode cX7_dropFrom 45 = .ok (.isub, 1) := by decide +kernel
theorem dX7_dropFrom_46 : decode cX7_dropFrom 46 = .ok (.putfield 27, 3) := by decide +kernel
theorem dX7_dropFrom_49 : decode cX7_dropFrom 49 = .ok (.iinc 3 (-1), 3) := by decide +kernel
theorem dX7_dropFrom_52 : decode cX7_dropFrom 52 = .ok (.goto (-47), 3) := by decide +kernel
theorem dX7_dropFrom_55 : decode cX7_dropFrom 55 = .ok (.aload_n 0, 1) := by decide +kernel
theorem dX7_dropFrom_56 : decode cX7_dropFrom 56 = .ok (.getfield 14, 3) := by decide +kernel
theorem dX7_dropFrom_59 : decode cX7_dropFrom 59 = .ok (.aload_n 0, 1) := by decide +kernel
theorem dX7_dropFrom_60 : decode cX7_dropFrom 60 = .ok (.getfield 27, 3) := by decide +kernel
theorem dX7_dropFrom_63 : decode cX7_dropFrom 63 = .ok (.invokevirtual 43, 3) := by decide +kernel
theorem dX7_dropFrom_66 : decode cX7_dropFrom 66 = .ok (.iload_n 1, 1) := by decide +kernel
theorem dX7_dropFrom_67 : decode cX7_dropFrom 67 = .ok (.if_icmp .lt 15, 3) := by decide +kernel
theorem dX7_dropFrom_70 : decode cX7_dropFrom 70 = .ok (.aload_n 0, 1) := by decide +kernel
theorem dX7_dropFrom_71 : decode cX7_dropFrom 71 = .ok (.getfield 14, 3) := by decide +kernel
theorem dX7_dropFrom_74 : decode cX7_dropFrom 74 = .ok (.aload_n 0, 1) := by decide +kernel
theorem dX7_dropFrom_75 : decode cX7_dropFrom 75 = .ok (.getfield 27, 3) := by decide +kernel
theorem dX7_dropFrom_78 : decode cX7_dropFrom 78 = .ok (.iload_n 1, 1) := by decide +kernel
theorem dX7_dropFrom_79 : decode cX7_dropFrom 79 = .ok (.invokevirtual 39, 3) := by decide +kernel
theorem dX7_dropFrom_82 : decode cX7_dropFrom 82 = .ok (.iconst 0, 1) := by decide +kernel
theorem dX7_dropFrom_83 : decode cX7_dropFrom 83 = .ok (.istore_n 3, 1) := by decide +kernel
theorem dX7_dropFrom_84 : decode cX7_dropFrom 84 = .ok (.aload_n 0, 1) := by decide +kernel
theorem dX7_dropFrom_85 : decode cX7_dropFrom 85 = .ok (.getfield 14, 3) := by decide +kernel
theorem dX7_dropFrom_88 : decode cX7_dropFrom 88 = .ok (.aload_n 0, 1) := by decide +kernel
theorem dX7_dropFrom_89 : decode cX7_dropFrom 89 = .ok (.getfield 27, 3) := by decide +kernel
theorem dX7_dropFrom_92 : decode cX7_dropFrom 92 = .ok (.invokevirtual 43, 3) := by decide +kernel
theorem dX7_dropFrom_95 : decode cX7_dropFrom 95 = .ok (.istore 4, 2) := by decide +kernel
theorem dX7_dropFrom_97 : decode cX7_dropFrom 97 = .ok (.iload 4, 2) := by decide +kernel
theorem dX7_dropFrom_99 : decode cX7_dropFrom 99 = .ok (.iload_n 1, 1) := by decide +kernel
theorem dX7_dropFrom_100 : decode cX7_dropFrom 100 = .ok (.if_icmp .ge 21, 3) := by decide +kernel
theorem dX7_dropFrom_103 : decode cX7_dropFrom 103 = .ok (.iload_n 3, 1) := by decide +kernel
theorem dX7_dropFrom_104 : decode cX7_dropFrom 104 = .ok (.aload_n 2, 1) := by decide +kernel
theorem dX7_dropFrom_105 : decode cX7_dropFrom 105 = .ok (.getfield 51, 3) := by decide +kernel
theorem dX7_dropFrom_108 : decode cX7_dropFrom 108 = .ok (.iload 4, 2) := by decide +kernel
theorem dX7_dropFrom_110 : decode cX7_dropFrom 110 = .ok (.invokevirtual 43, 3) := by decide +kernel
theorem dX7_dropFrom_113 : decode cX7_dropFrom 113 = .ok (.iadd, 1) := by decide +kernel
theorem dX7_dropFrom_114 : decode cX7_dropFrom 114 = .ok (.istore_n 3, 1) := by decide +kernel
theorem dX7_dropFrom_115 : decode cX7_dropFrom 115 = .ok (.iinc 4 1, 3) := by decide +kernel
theorem dX7_dropFrom_118 : decode cX7_dropFrom 118 = .ok (.goto (-21), 3) := by decide +kernel
theorem dX7_dropFrom_121 : decode cX7_dropFrom 121 = .ok (.aload_n 0, 1) := by decide +kernel
theorem dX7_dropFrom_122 : decode cX7_dropFrom 122 = .ok (.dup, 1) := by decide +kernel
theorem dX7_dropFrom_123 : decode cX7_dropFrom 123 = .ok (.getfield 33, 3) := by decide +kernel
theorem dX7_dropFrom_126 : decode cX7_dropFrom 126 = .ok (.iload_n 3, 1) := by decide +kernel
theorem dX7_dropFrom_127 : decode cX7_dropFrom 127 = .ok (.aload_n 0, 1) := by decide +kernel
theorem dX7_dropFrom_128 : decode cX7_dropFrom 128 = .ok (.getfield 20, 3) := by decide +kernel
theorem dX7_dropFrom_131 : decode cX7_dropFrom 131 = .ok (.aload_n 0, 1) := by decide +kernel
theorem dX7_dropFrom_132 : decode cX7_dropFrom 132 = .ok (.getfield 27, 3) := by decide +kernel
theorem dX7_dropFrom_135 : decode cX7_dropFrom 135 = .ok (.invokevirtual 43, 3) := by decide +kernel
theorem dX7_dropFrom_138 : decode cX7_dropFrom 138 = .ok (.isub, 1) := by decide +kernel
theorem dX7_dropFrom_139 : decode cX7_dropFrom 139 = .ok (.iadd, 1) := by decide +kernel
theorem dX7_dropFrom_140 : decode cX7_dropFrom 140 = .ok (.putfield 33, 3) := by decide +kernel
theorem dX7_dropFrom_143 : decode cX7_dropFrom 143 = .ok (.aload_n 0, 1) := by decide +kernel
theorem dX7_dropFrom_144 : decode cX7_dropFrom 144 = .ok (.getfield 20, 3) := by decide +kernel
theorem dX7_dropFrom_147 : decode cX7_dropFrom 147 = .ok (.aload_n 0, 1) := by decide +kernel
theorem dX7_dropFrom_148 : decode cX7_dropFrom 148 = .ok (.getfield 27, 3) := by decide +kernel
theorem dX7_dropFrom_151 : decode cX7_dropFrom 151 = .ok (.iload_n 3, 1) := by decide +kernel
theorem dX7_dropFrom_152 : decode cX7_dropFrom 152 = .ok (.invokevirtual 39, 3) := by decide +kernel
theorem dX7_dropFrom_155 : decode cX7_dropFrom 155 = .ok (.return_, 1) := by decide +kernel
theorem dX7_valueOf_0 : decode cX7_valueOf 0 = .ok (.aload_n 0, 1) := by decide +kernel
theorem dX7_valueOf_1 : decode cX7_valueOf 1 = .ok (.getfield 23, 3) := by decide +kernel
theorem dX7_valueOf_4 : decode cX7_valueOf 4 = .ok (.iload_n 1, 1) := by decide +kernel
theorem dX7_valueOf_5 : decode cX7_valueOf 5 = .ok (.iadd, 1) := by decide +kernel
theorem dX7_valueOf_6 : decode cX7_valueOf 6 = .ok (.istore 4, 2) := by decide +kernel
theorem dX7_valueOf_8 : decode cX7_valueOf 8 = .ok (.iload_n 2, 1) := by decide +kernel
theorem dX7_valueOf_9 : decode cX7_valueOf 9 = .ok (.tableswitch 89 0 3 #[31, 34, 44, 79], 31) := by decide +kernel
theorem dX7_valueOf_40 : decode cX7_valueOf 40 = .ok (.iload 4, 2) := by decide +kernel
theorem dX7_valueOf_42 : decode cX7_valueOf 42 = .ok (.ireturn, 1) := by decide +kernel
theorem dX7_valueOf_43 : decode cX7_valueOf 43 = .ok (.aload_n 0, 1) := by decide +kernel
theorem dX7_valueOf_44 : decode cX7_valueOf 44 = .ok (.getfield 14, 3) := by decide +kernel
theorem dX7_valueOf_47 : decode cX7_valueOf 47 = .ok (.iload 4, 2) := by decide +kernel
theorem dX7_valueOf_49 : decode cX7_valueOf 49 = .ok (.invokevirtual 43, 3) := by decide +kernel
theorem dX7_valueOf_52 : decode cX7_valueOf 52 = .ok (.ireturn, 1) := by decide +kernel
theorem dX7_valueOf_53 : decode cX7_valueOf 53 = .ok (.iload 4, 2) := by decide +kernel
theorem dX7_valueOf_55 : decode cX7_valueOf 55 = .ok (.aload_n 0, 1) := by decide +kernel
theorem dX7_valueOf_56 : decode cX7_valueOf 56 = .ok (.getfield 27, 3) := by decide +kernel
theorem dX7_valueOf_59 : decode cX7_valueOf 59 = .ok (.if_icmp .ge 17, 3) := by decide +kernel
theorem dX7_valueOf_62 : decode cX7_valueOf 62 = .ok (.aload_n 0, 1) := by decide +kernel
theorem dX7_valueOf_63 : decode cX7_valueOf 63 = .ok (.getfield 14, 3) := by decide +kernel
theorem dX7_valueOf_66 : decode cX7_valueOf 66 = .ok (.iload 4, 2) := by decide +kernel
theorem dX7_valueOf_68 : decode cX7_valueOf 68 = .ok (.iconst 1, 1) := by decide +kernel
theorem dX7_valueOf_69 : decode cX7_valueOf 69 = .ok (.iadd, 1) := by decide +kernel
theorem dX7_valueOf_70 : decode cX7_valueOf 70 = .ok (.invokevirtual 43, 3) := by decide +kernel
theorem dX7_valueOf_73 : decode cX7_valueOf 73 = .ok (.goto 4, 3) := by decide +kernel
theorem dX7_valueOf_76 : decode cX7_valueOf 76 = .ok (.iload_n 3, 1) := by decide +kernel
theorem dX7_valueOf_77 : decode cX7_valueOf 77 = .ok (.aload_n 0, 1) := by decide +kernel
theorem dX7_valueOf_78 : decode cX7_valueOf 78 = .ok (.getfield 14, 3) := by decide +kernel
theorem dX7_valueOf_81 : decode cX7_valueOf 81 = .ok (.iload 4, 2) := by decide +kernel
theorem dX7_valueOf_83 : decode cX7_valueOf 83 = .ok (.invokevirtual 43, 3) := by decide +kernel
theorem dX7_valueOf_86 : decode cX7_valueOf 86 = .ok (.isub, 1) := by decide +kernel
theorem dX7_valueOf_87 : decode cX7_valueOf 87 = .ok (.ireturn, 1) := by decide +kernel
theorem dX7_valueOf_88 : decode cX7_valueOf 88 = .ok (.aload_n 0, 1) := by decide +kernel
theorem dX7_valueOf_89 : decode cX7_valueOf 89 = .ok (.getfield 20, 3) := by decide +kernel
theorem dX7_valueOf_92 : decode cX7_valueOf 92 = .ok (.iload 4, 2) := by decide +kernel
theorem dX7_valueOf_94 : decode cX7_valueOf 94 = .ok (.invokevirtual 43, 3) := by decide +kernel
theorem dX7_valueOf_97 : decode cX7_valueOf 97 = .ok (.ireturn, 1) := by decide +kernel
theorem dX7_valueOf_98 : decode cX7_valueOf 98 = .ok (.iload 4, 2) := by decide +kernel
theorem dX7_valueOf_100 : decode cX7_valueOf 100 = .ok (.aload_n 0, 1) := by decide +kernel
theorem dX7_valueOf_101 : decode cX7_valueOf 101 = .ok (.getfield 27, 3) := by decide +kernel
theorem dX7_valueOf_104 : decode cX7_valueOf 104 = .ok (.if_icmp .ge 7, 3) := by decide +kernel
theorem dX7_valueOf_107 : decode cX7_valueOf 107 = .ok (.iconst 1, 1) := by decide +kernel
theorem dX7_valueOf_108 : decode cX7_valueOf 108 = .ok (.goto 4, 3) := by decide +kernel
theorem dX7_valueOf_111 : decode cX7_valueOf 111 = .ok (.iconst 0, 1) := by decide +kernel
theorem dX7_valueOf_112 : decode cX7_valueOf 112 = .ok (.ireturn, 1) := by decide +kernel
theorem dX7_share_0 : decode cX7_share 0 = .ok (.aload_n 0, 1) := by decide +kernel
theorem dX7_share_1 : decode cX7_share 1 = .ok (.getfield 30, 3) := by decide +kernel
theorem dX7_share_4 : decode cX7_share 4 = .ok (.ifCond .le 26, 3) := by decide +kernel
theorem dX7_share_7 : decode cX7_share 7 = .ok (.aload_n 0, 1) := by decide +kernel
theorem dX7_share_8 : decode cX7_share 8 = .ok (.getfield 20, 3) := by decide +kernel
theorem dX7_share_11 : decode cX7_share 11 = .ok (.aload_n 0, 1) := by decide +kernel
theorem dX7_share_12 : decode cX7_share 12 = .ok (.getfield 23, 3) := by decide +kernel
theorem dX7_share_15 : decode cX7_share 15 = .ok (.iload_n 1, 1) := by decide +kernel
theorem dX7_share_16 : decode cX7_share 16 = .ok (.iadd, 1) := by decide +kernel
theorem dX7_share_17 : decode cX7_share 17 = .ok (.invokevirtual 43, 3) := by decide +kernel
theorem dX7_share_20 : decode cX7_share 20 = .ok (.i2f, 1) := by decide +kernel
theorem dX7_share_21 : decode cX7_share 21 = .ok (.aload_n 0, 1) := by decide +kernel
theorem dX7_share_22 : decode cX7_share 22 = .ok (.getfield 30, 3) := by decide +kernel
theorem dX7_share_25 : decode cX7_share 25 = .ok (.i2f, 1) := by decide +kernel
theorem dX7_share_26 : decode cX7_share 26 = .ok (.fdiv, 1) := by decide +kernel
theorem dX7_share_27 : decode cX7_share 27 = .ok (.goto 4, 3) := by decide +kernel
theorem dX7_share_30 : decode cX7_share 30 = .ok (.fconst 0, 1) := by decide +kernel
theorem dX7_share_31 : decode cX7_share 31 = .ok (.freturn, 1) := by decide +kernel
theorem dX8_init_0 : decode cX8_init 0 = .ok (.aload_n 0, 1) := by decide +kernel
theorem dX8_init_1 : decode cX8_init 1 = .ok (.invokespecial 3, 3) := by decide +kernel
theorem dX8_init_4 : decode cX8_init 4 = .ok (.aload_n 0, 1) := by decide +kernel
theorem dX8_init_5 : decode cX8_init 5 = .ok (.new 9, 3) := by decide +kernel
theorem dX8_init_8 : decode cX8_init 8 = .ok (.dup, 1) := by decide +kernel
theorem dX8_init_9 : decode cX8_init 9 = .ok (.sipush 901, 3) := by decide +kernel
theorem dX8_init_12 : decode cX8_init 12 = .ok (.invokespecial 11, 3) := by decide +kernel
theorem dX8_init_15 : decode cX8_init 15 = .ok (.putfield 14, 3) := by decide +kernel
theorem dX8_init_18 : decode cX8_init 18 = .ok (.aload_n 0, 1) := by decide +kernel
theorem dX8_init_19 : decode cX8_init 19 = .ok (.new 9, 3) := by decide +kernel
theorem dX8_init_22 : decode cX8_init 22 = .ok (.dup, 1) := by decide +kernel
theorem dX8_init_23 : decode cX8_init 23 = .ok (.sipush 901, 3) := by decide +kernel
theorem dX8_init_26 : decode cX8_init 26 = .ok (.invokespecial 11, 3) := by decide +kernel
theorem dX8_init_29 : decode cX8_init 29 = .ok (.putfield 20, 3) := by decide +kernel
theorem dX8_init_32 : decode cX8_init 32 = .ok (.aload_n 0, 1) := by decide +kernel
theorem dX8_init_33 : decode cX8_init 33 = .ok (.new 9, 3) := by decide +kernel
theorem dX8_init_36 : decode cX8_init 36 = .ok (.dup, 1) := by decide +kernel
theorem dX8_init_37 : decode cX8_init 37 = .ok (.sipush 901, 3) := by decide +kernel
theorem dX8_init_40 : decode cX8_init 40 = .ok (.invokespecial 11, 3) := by decide +kernel
theorem dX8_init_43 : decode cX8_init 43 = .ok (.putfield 23, 3) := by decide +kernel
theorem dX8_init_46 : decode cX8_init 46 = .ok (.return_, 1) := by decide +kernel
theorem dX8_split_0 : decode cX8_split 0 = .ok (.aload_n 0, 1) := by decide +kernel
theorem dX8_split_1 : decode cX8_split 1 = .ok (.iconst 0, 1) := by decide +kernel
theorem dX8_split_2 : decode cX8_split 2 = .ok (.putfield 26, 3) := by decide +kernel
theorem dX8_split_5 : decode cX8_split 5 = .ok (.iconst 0, 1) := by decide +kernel
theorem dX8_split_6 : decode cX8_split 6 = .ok (.istore_n 3, 1) := by decide +kernel
theorem dX8_split_7 : decode cX8_split 7 = .ok (.iconst 0, 1) := by decide +kernel
theorem dX8_split_8 : decode cX8_split 8 = .ok (.istore 4, 2) := by decide +kernel
theorem dX8_split_10 : decode cX8_split 10 = .ok (.iload 4, 2) := by decide +kernel
theorem dX8_split_12 : decode cX8_split 12 = .ok (.iload_n 2, 1) := by decide +kernel
theorem dX8_split_13 : decode cX8_split 13 = .ok (.if_icmp .ge 62, 3) := by decide +kernel
theorem dX8_split_16 : decode cX8_split 16 = .ok (.iload 4, 2) := by decide +kernel
theorem dX8_split_18 : decode cX8_split 18 = .ok (.aload_n 1, 1) := by decide +kernel
theorem dX8_split_19 : decode cX8_split 19 = .ok (.arraylength, 1) := by decide +kernel
theorem dX8_split_20 : decode cX8_split 20 = .ok (.if_icmp .ge 55, 3) := by decide +kernel
theorem dX8_split_23 : decode cX8_split 23 = .ok (.aload_n 1, 1) := by decide +kernel
theorem dX8_split_24 : decode cX8_split 24 = .ok (.iload 4, 2) := by decide +kernel
theorem dX8_split_26 : decode cX8_split 26 = .ok (.baload, 1) := by decide +kernel
theorem dX8_split_27 : decode cX8_split 27 = .ok (.sipush 255, 3) := by decide +kernel
theorem dX8_split_30 : decode cX8_split 30 = .ok (.iand, 1) := by decide +kernel
theorem dX8_split_31 : decode cX8_split 31 = .ok (.istore 5, 2) := by decide +kernel
theorem dX8_split_33 : decode cX8_split 33 = .ok (.iload 5, 2) := by decide +kernel
theorem dX8_split_35 : decode cX8_split 35 = .ok (.invokestatic 30, 3) := by decide +kernel
theorem dX8_split_38 : decode cX8_split 38 = .ok (.istore 6, 2) := by decide +kernel
theorem dX8_split_40 : decode cX8_split 40 = .ok (.iload 6, 2) := by decide +kernel
theorem dX8_split_42 : decode cX8_split 42 = .ok (.ifCond .eq 24, 3) := by decide +kernel
theorem dX8_split_45 : decode cX8_split 45 = .ok (.aload_n 0, 1) := by decide +kernel
theorem dX8_split_46 : decode cX8_split 46 = .ok (.iload 6, 2) := by decide +kernel
theorem dX8_split_48 : decode cX8_split 48 = .ok (.iload 6, 2) := by decide +kernel
theorem dX8_split_50 : decode cX8_split 50 = .ok (.iload_n 3, 1) := by decide +kernel
theorem dX8_split_51 : decode cX8_split 51 = .ok (.if_icmp .ne 7, 3) := by decide +kernel
theorem dX8_split_54 : decode cX8_split 54 = .ok (.iconst 1, 1) := by decide +kernel
theorem dX8_split_55 : decode cX8_split 55 = .ok (.goto 4, 3) := by decide +kernel
theorem dX8_split_58 : decode cX8_split 58 = .ok (.iconst 0, 1) := by decide +kernel
theorem dX8_split_59 : decode cX8_split 59 = .ok (.iload 5, 2) := by decide +kernel
theorem dX8_split_61 : decode cX8_split 61 = .ok (.iload 4, 2) := by decide +kernel
theorem dX8_split_63 : decode cX8_split 63 = .ok (.invokevirtual 34, 3) := by decide +kernel
theorem dX8_split_66 : decode cX8_split 66 = .ok (.iload 6, 2) := by decide +kernel
theorem dX8_split_68 : decode cX8_split 68 = .ok (.istore_n 3, 1) := by decide +kernel
theorem dX8_split_69 : decode cX8_split 69 = .ok (.iinc 4 1, 3) := by decide +kernel
theorem dX8_split_72 : decode cX8_split 72 = .ok (.goto (-62), 3) := by decide +kernel
theorem dX8_split_75 : decode cX8_split 75 = .ok (.aload_n 0, 1) := by decide +kernel
theorem dX8_split_76 : decode cX8_split 76 = .ok (.getfield 14, 3) := by decide +kernel
theorem dX8_split_79 : decode cX8_split 79 = .ok (.aload_n 0, 1) := by decide +kernel
theorem dX8_split_80 : decode cX8_split 80 = .ok (.getfield 26, 3) := by decide +kernel
theorem dX8_split_83 : decode cX8_split 83 = .ok (.sipush 303, 3) := by decide +kernel
theorem dX8_split_86 : decode cX8_split 86 = .ok (.invokevirtual 38, 3) := by decide +kernel
theorem dX8_split_89 : decode cX8_split 89 = .ok (.aload_n 0, 1) := by decide +kernel
theorem dX8_split_90 : decode cX8_split 90 = .ok (.getfield 20, 3) := by decide +kernel
theorem dX8_split_93 : decode cX8_split 93 = .ok (.aload_n 0, 1) := by decide +kernel
theorem dX8_split_94 : decode cX8_split 94 = .ok (.getfield 26, 3) := by decide +kernel
theorem dX8_split_97 : decode cX8_split 97 = .ok (.iload_n 2, 1) := by decide +kernel
theorem dX8_split_98 : decode cX8_split 98 = .ok (.invokevirtual 38, 3) := by decide +kernel
theorem dX8_split_101 : decode cX8_split 101 = .ok (.iconst 0, 1) := by decide +kernel
theorem dX8_split_102 : decode cX8_split 102 = .ok (.istore 4, 2) := by decide +kernel
theorem dX8_split_104 : decode cX8_split 104 = .ok (.iload 4, 2) := by decide +kernel
theorem dX8_split_106 : decode cX8_split 106 = .ok (.aload_n 0, 1) := by decide +kernel
theorem dX8_split_107 : decode cX8_split 107 = .ok (.getfield 26, 3) := by decide +kernel
theorem dX8_split_110 : decode cX8_split 110 = .ok (.if_icmp .ge 16, 3) := by decide +kernel
theorem dX8_split_113 : decode cX8_split 113 = .ok (.aload_n 0, 1) := by decide +kernel
theorem dX8_split_114 : decode cX8_split 114 = .ok (.iload 4, 2) := by decide +kernel
theorem dX8_split_116 : decode cX8_split 116 = .ok (.aload_n 1, 1) := by decide +kernel
theorem dX8_split_117 : decode cX8_split 117 = .ok (.invokevirtual 42, 3) := by decide +kernel
theorem dX8_split_120 : decode cX8_split 120 = .ok (.iinc 4 1, 3) := by decide +kernel
theorem dX8_split_123 : decode cX8_split 123 = .ok (.goto (-19), 3) := by decide +kernel
theorem dX8_split_126 : decode cX8_split 126 = .ok (.return_, 1) := by decide +kernel
theorem dX8_kindOf_0 : decode cX8_kindOf 0 = .ok (.iload_n 0, 1) := by decide +kernel
theorem dX8_kindOf_1 : decode cX8_kindOf 1 = .ok (.bipush 32, 2) := by decide +kernel
theorem dX8_kindOf_3 : decode cX8_kindOf 3 = .ok (.if_icmp .eq 9, 3) := by decide +kernel
theorem dX8_kindOf_6 : decode cX8_kindOf 6 = .ok (.iload_n 0, 1) := by decide +kernel
theorem dX8_kindOf_7 : decode cX8_kindOf 7 = .ok (.bipush 10, 2) := by decide +kernel
theorem dX8_kindOf_9 : decode cX8_kindOf 9 = .ok (.if_icmp .ne 5, 3) := by decide +kernel
theorem dX8_kindOf_12 : decode cX8_kindOf 12 = .ok (.iconst 0, 1) := by decide +kernel
theorem dX8_kindOf_13 : decode cX8_kindOf 13 = .ok (.ireturn, 1) := by decide +kernel
theorem dX8_kindOf_14 : decode cX8_kindOf 14 = .ok (.iload_n 0, 1) := by decide +kernel
theorem dX8_kindOf_15 : decode cX8_kindOf 15 = .ok (.bipush 97, 2) := by decide +kernel
theorem dX8_kindOf_17 : decode cX8_kindOf 17 = .ok (.bipush 122, 2) := by decide +kernel
theorem dX8_kindOf_19 : decode cX8_kindOf 19 = .ok (.invokestatic 46, 3) := by decide +kernel
theorem dX8_kindOf_22 : decode cX8_kindOf 22 = .ok (.ifCond .eq 5, 3) := by decide +kernel
theorem dX8_kindOf_25 : decode cX8_kindOf 25 = .ok (.iconst 1, 1) := by decide +kernel
theorem dX8_kindOf_26 : decode cX8_kindOf 26 = .ok (.ireturn, 1) := by decide +kernel
theorem dX8_kindOf_27 : decode cX8_kindOf 27 = .ok (.iload_n 0, 1) := by decide +kernel
theorem dX8_kindOf_28 : decode cX8_kindOf 28 = .ok (.bipush 48, 2) := by decide +kernel
theorem dX8_kindOf_30 : decode cX8_kindOf 30 = .ok (.bipush 57, 2) := by decide +kernel
theorem dX8_kindOf_32 : decode cX8_kindOf 32 = .ok (.invokestatic 46, 3) := by decide +kernel
theorem dX8_kindOf_35 : decode cX8_kindOf 35 = .ok (.ifCond .eq 7, 3) := by decide +kernel
theorem dX8_kindOf_38 : decode cX8_kindOf 38 = .ok (.iconst 2, 1) := by decide +kernel
theorem dX8_kindOf_39 : decode cX8_kindOf 39 = .ok (.goto 4, 3) := by decide +kernel
theorem dX8_kindOf_42 : decode cX8_kindOf 42 = .ok (.iconst 3, 1) := by decide +kernel
theorem dX8_kindOf_43 : decode cX8_kindOf 43 = .ok (.ireturn, 1) := by decide +kernel
theorem dX8_take_0 : decode cX8_take 0 = .ok (.iload_n 2, 1) := by decide +kernel
theorem dX8_take_1 : decode cX8_take 1 = .ok (.ifCond .eq 37, 3) := by decide +kernel
theorem dX8_take_4 : decode cX8_take 4 = .ok (.iload_n 1, 1) := by decide +kernel
theorem dX8_take_5 : decode cX8_take 5 = .ok (.iconst 3, 1) := by decide +kernel
theorem dX8_take_6 : decode cX8_take 6 = .ok (.if_icmp .eq 32, 3) := by decide +kernel
theorem dX8_take_9 : decode cX8_take 9 = .ok (.aload_n 0, 1) := by decide +kernel
theorem dX8_take_10 : decode cX8_take 10 = .ok (.getfield 23, 3) := by decide +kernel
theorem dX8_take_13 : decode cX8_take 13 = .ok (.aload_n 0, 1) := by decide +kernel
theorem dX8_take_14 : decode cX8_take 14 = .ok (.getfield 26, 3) := by decide +kernel
theorem dX8_take_17 : decode cX8_take 17 = .ok (.iconst 1, 1) := by decide +kernel
theorem dX8_take_18 : decode cX8_take 18 = .ok (.isub, 1) := by decide +kernel
theorem dX8_take_19 : decode cX8_take 19 = .ok (.aload_n 0, 1) := by decide +kernel
theorem dX8_take_20 : decode cX8_take 20 = .ok (.getfield 23, 3) := by decide +kernel
theorem dX8_take_23 : decode cX8_take 23 = .ok (.aload_n 0, 1) := by decide +kernel
theorem dX8_take_24 : decode cX8_take 24 = .ok (.getfield 26, 3) := by decide +kernel
theorem dX8_take_27 : decode cX8_take 27 = .ok (.iconst 1, 1) := by decide +kernel
theorem dX8_take_28 : decode cX8_take 28 = .ok (.isub, 1) := by decide +kernel
theorem dX8_take_29 : decode cX8_take 29 = .ok (.invokevirtual 50, 3) := by decide +kernel
theorem dX8_take_32 : decode cX8_take 32 = .ok (.iconst 1, 1) := by decide +kernel
theorem dX8_take_33 : decode cX8_take 33 = .ok (.iadd, 1) := by decide +kernel
theorem dX8_take_34 : decode cX8_take 34 = .ok (.invokevirtual 38, 3) := by decide +kernel
theorem dX8_take_37 : decode cX8_take 37 = .ok (.return_, 1) := by decide +kernel
theorem dX8_take_38 : decode cX8_take 38 = .ok (.iload_n 1, 1) := by decide +kernel
theorem dX8_take_39 : decode cX8_take 39 = .ok (.iconst 1, 1) := by decide +kernel
theorem dX8_take_40 : decode cX8_take 40 = .ok (.if_icmp .ne 9, 3) := by decide +kernel
theorem dX8_take_43 : decode cX8_take 43 = .ok (.sipush 300, 3) := by decide +kernel
theorem dX8_take_46 : decode cX8_take 46 = .ok (.goto 6, 3) := by decide +kernel
theorem dX8_take_49 : decode cX8_take 49 = .ok (.sipush 301, 3) := by decide +kernel
theorem dX8_take_52 : decode cX8_take 52 = .ok (.istore 5, 2) := by decide +kernel
theorem dX8_take_54 : decode cX8_take 54 = .ok (.aload_n 0, 1) := by decide +kernel
theorem dX8_take_55 : decode cX8_take 55 = .ok (.getfield 14, 3) := by decide +kernel
theorem dX8_take_58 : decode cX8_take 58 = .ok (.aload_n 0, 1) := by decide +kernel
theorem dX8_take_59 : decode cX8_take 59 = .ok (.getfield 26, 3) := by decide +kernel
theorem dX8_take_62 : decode cX8_take 62 = .ok (.iload_n 1, 1) := by decide +kernel
theorem dX8_take_63 : decode cX8_take 63 = .ok (.iconst 3, 1) := by decide +kernel
theorem dX8_take_64 : decode cX8_take 64 = .ok (.if_icmp .ne 7, 3) := by decide +kernel
theorem dX8_take_67 : decode cX8_take 67 = .ok (.iload_n 3, 1) := by decide +kernel
theorem dX8_take_68 : decode cX8_take 68 = .ok (.goto 5, 3) := by decide +kernel
theorem dX8_take_71 : decode cX8_take 71 = .ok (.iload 5, 2) := by decide +kernel
theorem dX8_take_73 : decode cX8_take 73 = .ok (.invokevirtual 38, 3) := by decide +kernel
theorem dX8_take_76 : decode cX8_take 76 = .ok (.aload_n 0, 1) := by decide +kernel
theorem dX8_take_77 : decode cX8_take 77 = .ok (.getfield 20, 3) := by decide +kernel
theorem dX8_take_80 : decode cX8_take 80 = .ok (.aload_n 0, 1) := by decide +kernel
theorem dX8_take_81 : decode cX8_take 81 = .ok (.getfield 26, 3) := by decide +kernel
theorem dX8_take_84 : decode cX8_take 84 = .ok (.iload 4, 2) := by decide +kernel
theorem dX8_take_86 : decode cX8_take 86 = .ok (.invokevirtual 38, 3) := by decide +kernel
theorem dX8_take_89 : decode cX8_take 89 = .ok (.aload_n 0, 1) := by decide +kernel
theorem dX8_take_90 : decode cX8_take 90 = .ok (.getfield 23, 3) := by decide +kernel
theorem dX8_take_93 : decode cX8_take 93 = .ok (.aload_n 0, 1) := by decide +kernel
theorem dX8_take_94 : decode cX8_take 94 = .ok (.getfield 26, 3) := by decide +kernel
theorem dX8_take_97 : decode cX8_take 97 = .ok (.iconst 1, 1) := by decide +kernel
theorem dX8_take_98 : decode cX8_take 98 = .ok (.invokevirtual 38, 3) := by decide +kernel
theorem dX8_take_101 : decode cX8_take 101 = .ok (.aload_n 0, 1) := by decide +kernel
theorem dX8_take_102 : decode cX8_take 102 = .ok (.dup, 1) := by decide +kernel
theorem dX8_take_103 : decode cX8_take 103 = .ok (.getfield 26, 3) := by decide +kernel
theorem dX8_take_106 : decode cX8_take 106 = .ok (.iconst 1, 1) := by decide +kernel
theorem dX8_take_107 : decode cX8_take 107 = .ok (.iadd, 1) := by decide +kernel
theorem dX8_take_108 : decode cX8_take 108 = .ok (.putfield 26, 3) := by decide +kernel
theorem dX8_take_111 : decode cX8_take 111 = .ok (.return_, 1) := by decide +kernel
theorem dX8_evaluate_0 : decode cX8_evaluate 0 = .ok (.aload_n 0, 1) := by decide +kernel
theorem dX8_evaluate_1 : decode cX8_evaluate 1 = .ok (.getfield 23, 3) := by decide +kernel
theorem dX8_evaluate_4 : decode cX8_evaluate 4 = .ok (.iload_n 1, 1) := by decide +kernel
theorem dX8_evaluate_5 : decode cX8_evaluate 5 = .ok (.invokevirtual 50, 3) := by decide +kernel
theorem dX8_evaluate_8 : decode cX8_evaluate 8 = .ok (.istore_n 3, 1) := by decide +kernel
theorem dX8_evaluate_9 : decode cX8_evaluate 9 = .ok (.aload_n 0, 1) := by decide +kernel
theorem dX8_evaluate_10 : decode cX8_evaluate 10 = .ok (.getfield 14, 3) := by decide +kernel
theorem dX8_evaluate_13 : decode cX8_evaluate 13 = .ok (.iload_n 1, 1) := by decide +kernel
theorem dX8_evaluate_14 : decode cX8_evaluate 14 = .ok (.invokevirtual 50, 3) := by decide +kernel
theorem dX8_evaluate_17 : decode cX8_evaluate 17 = .ok (.sipush 300, 3) := by decide +kernel
theorem dX8_evaluate_20 : decode cX8_evaluate 20 = .ok (.if_icmp .ne 27, 3) := by decide +kernel
theorem dX8_evaluate_23 : decode cX8_evaluate 23 = .ok (.aload_n 0, 1) := by decide +kernel
theorem dX8_evaluate_24 : decode cX8_evaluate 24 = .ok (.getfield 14, 3) := by decide +kernel
theorem dX8_evaluate_27 : decode cX8_evaluate 27 = .ok (.iload_n 1, 1) := by decide +kernel
theorem dX8_evaluate_28 : decode cX8_evaluate 28 = .ok (.aload_n 2, 1) := by decide +kernel
theorem dX8_evaluate_29 : decode cX8_evaluate 29 = .ok (.aload_n 0, 1) := by decide +kernel
theorem dX8_evaluate_30 : decode cX8_evaluate 30 = .ok (.getfield 20, 3) := by decide +kernel
theorem dX8_evaluate_33 : decode cX8_evaluate 33 = .ok (.iload_n 1, 1) := by decide +kernel
theorem dX8_evaluate_34 : decode cX8_evaluate 34 = .ok (.invokevirtual 50, 3) := by decide +kernel
theorem dX8_evaluate_37 : decode cX8_evaluate 37 = .ok (.iload_n 3, 1) := by decide +kernel
theorem dX8_evaluate_38 : decode cX8_evaluate 38 = .ok (.invokestatic 53, 3) := by decide +kernel
theorem dX8_evaluate_41 : decode cX8_evaluate 41 = .ok (.invokevirtual 38, 3) := by decide +kernel
theorem dX8_evaluate_44 : decode cX8_evaluate 44 = .ok (.goto 71, 3) := by decide +kernel
theorem dX8_evaluate_47 : decode cX8_evaluate 47 = .ok (.aload_n 0, 1) := by decide +kernel
theorem dX8_evaluate_48 : decode cX8_evaluate 48 = .ok (.getfield 14, 3) := by decide +kernel
theorem dX8_evaluate_51 : decode cX8_evaluate 51 = .ok (.iload_n 1, 1) := by decide +kernel
theorem dX8_evaluate_52 : decode cX8_evaluate 52 = .ok (.invokevirtual 50, 3) := by decide +kernel
theorem dX8_evaluate_55 : decode cX8_evaluate 55 = .ok (.sipush 301, 3) := by decide +kernel
theorem dX8_evaluate_58 : decode cX8_evaluate 58 = .ok (.if_icmp .ne 22, 3) := by decide +kernel
theorem dX8_evaluate_61 : decode cX8_evaluate 61 = .ok (.iload_n 3, 1) := by decide +kernel
theorem dX8_evaluate_62 : decode cX8_evaluate 62 = .ok (.iconst 5, 1) := by decide +kernel
theorem dX8_evaluate_63 : decode cX8_evaluate 63 = .ok (.if_icmp .le 17, 3) := by decide +kernel
theorem dX8_evaluate_66 : decode cX8_evaluate 66 = .ok (.aload_n 0, 1) := by decide +kernel
theorem dX8_evaluate_67 : decode cX8_evaluate 67 = .ok (.getfield 14, 3) := by decide +kernel
theorem dX8_evaluate_70 : decode cX8_evaluate 70 = .ok (.iload_n 1, 1) := by decide +kernel
theorem dX8_evaluate_71 : decode cX8_evaluate 71 = .ok (.sipush 302, 3) := by decide +kernel
theorem dX8_evaluate_74 : decode cX8_evaluate 74 = .ok (.invokevirtual 38, 3) := by decide +kernel
theorem dX8_evaluate_77 : decode cX8_evaluate 77 = .ok (.goto 38, 3) := by decide +kernel
theorem dX8_evaluate_80 : decode cX8_evaluate 80 = .ok (.aload_n 0, 1) := by decide +kernel
theorem dX8_evaluate_81 : decode cX8_evaluate 81 = .ok (.getfield 14, 3) := by decide +kernel
theorem dX8_evaluate_84 : decode cX8_evaluate 84 = .ok (.iload_n 1, 1) := by decide +kernel
theorem dX8_evaluate_85 : decode cX8_evaluate 85 = .ok (.invokevirtual 50, 3) := by decide +kernel
theorem dX8_evaluate_88 : decode cX8_evaluate 88 = .ok (.sipush 301, 3) := by decide +kernel
theorem dX8_evaluate_91 : decode cX8_evaluate 91 = .ok (.if_icmp .ne 24, 3) := by decide +kernel
theorem dX8_evaluate_94 : decode cX8_evaluate 94 = .ok (.aload_n 0, 1) := by decide +kernel
theorem dX8_evaluate_95 : decode cX8_evaluate 95 = .ok (.getfield 23, 3) := by decide +kernel
theorem dX8_evaluate_98 : decode cX8_evaluate 98 = .ok (.iload_n 1, 1) := by decide +kernel
theorem dX8_evaluate_99 : decode cX8_evaluate 99 = .ok (.aload_n 2, 1) := by decide +kernel
theorem dX8_evaluate_100 : decode cX8_evaluate 100 = .ok (.aload_n 0, 1) := by decide +kernel
theorem dX8_evaluate_101 : decode cX8_evaluate 101 = .ok (.getfield 20, 3) := by decide +kernel
theorem dX8_evaluate_104 : decode cX8_evaluate 104 = .ok (.iload_n 1, 1) := by decide +kernel
theorem dX8_evaluate_105 : decode cX8_evaluate 105 = .ok (.invokevirtual 50, 3) := by decide +kernel
theorem dX8_evaluate_108 : decode cX8_evaluate 108 = .ok (.iload_n 3, 1) := by decide +kernel
theorem dX8_evaluate_109 : decode cX8_evaluate 109 = .ok (.invokestatic 57, 3) := by decide +kernel
theorem dX8_evaluate_112 : decode cX8_evaluate 112 = .ok (.invokevirtual 38, 3) := by decide +kernel
theorem dX8_evaluate_115 : decode cX8_evaluate 115 = .ok (.return_, 1) := by decide +kernel
theorem dX8_wordAt_0 : decode cX8_wordAt 0 = .ok (.iload_n 2, 1) := by decide +kernel
theorem dX8_wordAt_1 : decode cX8_wordAt 1 = .ok (.bipush 8, 2) := by decide +kernel
theorem dX8_wordAt_3 : decode cX8_wordAt 3 = .ok (.if_icmp .le 7, 3) := by decide +kernel
theorem dX8_wordAt_6 : decode cX8_wordAt 6 = .ok (.sipush 302, 3) := by decide +kernel
theorem dX8_wordAt_9 : decode cX8_wordAt 9 = .ok (.ireturn, 1) := by decide +kernel
theorem dX8_wordAt_10 : decode cX8_wordAt 10 = .ok (.iconst 0, 1) := by decide +kernel
theorem dX8_wordAt_11 : decode cX8_wordAt 11 = .ok (.istore_n 3, 1) := by decide +kernel
theorem dX8_wordAt_12 : decode cX8_wordAt 12 = .ok (.iload_n 3, 1) := by decide +kernel
theorem dX8_wordAt_13 : decode cX8_wordAt 13 = .ok (.ldc 60, 2) := by decide +kernel
theorem dX8_wordAt_15 : decode cX8_wordAt 15 = .ok (.invokevirtual 62, 3) := by decide +kernel
theorem dX8_wordAt_18 : decode cX8_wordAt 18 = .ok (.if_icmp .ge 28, 3) := by decide +kernel
theorem dX8_wordAt_21 : decode cX8_wordAt 21 = .ok (.iload_n 3, 1) := by decide +kernel
theorem dX8_wordAt_22 : decode cX8_wordAt 22 = .ok (.aload_n 0, 1) := by decide +kernel
theorem dX8_wordAt_23 : decode cX8_wordAt 23 = .ok (.iload_n 1, 1) := by decide +kernel
theorem dX8_wordAt_24 : decode cX8_wordAt 24 = .ok (.iload_n 2, 1) := by decide +kernel
theorem dX8_wordAt_25 : decode cX8_wordAt 25 = .ok (.invokestatic 68, 3) := by decide +kernel
theorem dX8_wordAt_28 : decode cX8_wordAt 28 = .ok (.ifCond .eq 12, 3) := by decide +kernel
theorem dX8_wordAt_31 : decode cX8_wordAt 31 = .ok (.sipush 256, 3) := by decide +kernel
theorem dX8_wordAt_34 : decode cX8_wordAt 34 = .ok (.iload_n 3, 1) := by decide +kernel
theorem dX8_wordAt_35 : decode cX8_wordAt 35 = .ok (.bipush 8, 2) := by decide +kernel
theorem dX8_wordAt_37 : decode cX8_wordAt 37 = .ok (.idiv, 1) := by decide +kernel
theorem dX8_wordAt_38 : decode cX8_wordAt 38 = .ok (.iadd, 1) := by decide +kernel
theorem dX8_wordAt_39 : decode cX8_wordAt 39 = .ok (.ireturn, 1) := by decide +kernel
theorem dX8_wordAt_40 : decode cX8_wordAt 40 = .ok (.iinc 3 8, 3) := by decide +kernel
theorem dX8_wordAt_43 : decode cX8_wordAt 43 = .ok (.goto (-31), 3) := by decide +kernel
theorem dX8_wordAt_46 : decode cX8_wordAt 46 = .ok (.sipush 302, 3) := by decide +kernel
theorem dX8_wordAt_49 : decode cX8_wordAt 49 = .ok (.ireturn, 1) := by decide +kernel
theorem dX8_isWord_0 : decode cX8_isWord 0 = .ok (.iconst 0, 1) := by decide +kernel
theorem dX8_isWord_1 : decode cX8_isWord 1 = .ok (.istore 4, 2) := by decide +kernel
theorem dX8_isWord_3 : decode cX8_isWord 3 = .ok (.iload 4, 2) := by decide +kernel
theorem dX8_isWord_5 : decode cX8_isWord 5 = .ok (.bipush 8, 2) := by decide +kernel
theorem dX8_isWord_7 : decode cX8_isWord 7 = .ok (.if_icmp .ge 80, 3) := by decide +kernel
theorem dX8_isWord_10 : decode cX8_isWord 10 = .ok (.iload_n 0, 1) := by decide +kernel
theorem dX8_isWord_11 : decode cX8_isWord 11 = .ok (.iload 4, 2) := by decide +kernel
theorem dX8_isWord_13 : decode cX8_isWord 13 = .ok (.iadd, 1) := by decide +kernel
theorem dX8_isWord_14 : decode cX8_isWord 14 = .ok (.ldc 60, 2) := by decide +kernel
theorem dX8_isWord_16 : decode cX8_isWord 16 = .ok (.invokevirtual 62, 3) := by decide +kernel
theorem dX8_isWord_19 : decode cX8_isWord 19 = .ok (.if_icmp .ge 68, 3) := by decide +kernel
theorem dX8_isWord_22 : decode cX8_isWord 22 = .ok (.iload_n 2, 1) := by decide +kernel
theorem dX8_isWord_23 : decode cX8_isWord 23 = .ok (.iload 4, 2) := by decide +kernel
theorem dX8_isWord_25 : decode cX8_isWord 25 = .ok (.iadd, 1) := by decide +kernel
theorem dX8_isWord_26 : decode cX8_isWord 26 = .ok (.istore 5, 2) := by decide +kernel
theorem dX8_isWord_28 : decode cX8_isWord 28 = .ok (.iload 4, 2) := by decide +kernel
theorem dX8_isWord_30 : decode cX8_isWord 30 = .ok (.iload_n 3, 1) := by decide +kernel
theorem dX8_isWord_31 : decode cX8_isWord 31 = .ok (.if_icmp .ge 19, 3) := by decide +kernel
theorem dX8_isWord_34 : decode cX8_isWord 34 = .ok (.iload 5, 2) := by decide +kernel
theorem dX8_isWord_36 : decode cX8_isWord 36 = .ok (.ifCond .lt 14, 3) := by decide +kernel
theorem dX8_isWord_39 : decode cX8_isWord 39 = .ok (.iload 5, 2) := by decide +kernel
theorem dX8_isWord_41 : decode cX8_isWord 41 = .ok (.aload_n 1, 1) := by decide +kernel
theorem dX8_isWord_42 : decode cX8_isWord 42 = .ok (.arraylength, 1) := by decide +kernel
theorem dX8_isWord_43 : decode cX8_isWord 43 = .ok (.if_icmp .ge 7, 3) := by decide +kernel
theorem dX8_isWord_46 : decode cX8_isWord 46 = .ok (.iconst 1, 1) := by decide +kernel
theorem dX8_isWord_47 : decode cX8_isWord 47 = .ok (.goto 4, 3) := by decide +kernel
theorem dX8_isWord_50 : decode cX8_isWord 50 = .ok (.iconst 0, 1) := by decide +kernel
theorem dX8_isWord_51 : decode cX8_isWord 51 = .ok (.istore 6, 2) := by decide +kernel
theorem dX8_isWord_53 : decode cX8_isWord 53 = .ok (.ldc 60, 2) := by decide +kernel
theorem dX8_isWord_55 : decode cX8_isWord 55 = .ok (.iload_n 0, 1) := by decide +kernel
theorem dX8_isWord_56 : decode cX8_isWord 56 = .ok (.iload 4, 2) := by decide +kernel
theorem dX8_isWord_58 : decode cX8_isWord 58 = .ok (.iadd, 1) := by decide +kernel
theorem dX8_isWord_59 : decode cX8_isWord 59 = .ok (.invokevirtual 72, 3) := by decide +kernel
theorem dX8_isWord_62 : decode cX8_isWord 62 = .ok (.iload 6, 2) := by decide +kernel
theorem dX8_isWord_64 : decode cX8_isWord 64 = .ok (.ifCond .eq 10, 3) := by decide +kernel
theorem dX8_isWord_67 : decode cX8_isWord 67 = .ok (.aload_n 1, 1) := by decide +kernel
theorem dX8_isWord_68 : decode cX8_isWord 68 = .ok (.iload 5, 2) := by decide +kernel
theorem dX8_isWord_70 : decode cX8_isWord 70 = .ok (.baload, 1) := by decide +kernel
theorem dX8_isWord_71 : decode cX8_isWord 71 = .ok (.goto 5, 3) := by decide +kernel
theorem dX8_isWord_74 : decode cX8_isWord 74 = .ok (.bipush 32, 2) := by decide +kernel
theorem dX8_isWord_76 : decode cX8_isWord 76 = .ok (.if_icmp .eq 5, 3) := by decide +kernel
theorem dX8_isWord_79 : decode cX8_isWord 79 = .ok (.iconst 0, 1) := by decide +kernel
theorem dX8_isWord_80 : decode cX8_isWord 80 = .ok (.ireturn, 1) := by decide +kernel
theorem dX8_isWord_81 : decode cX8_isWord 81 = .ok (.iinc 4 1, 3) := by decide +kernel
theorem dX8_isWord_84 : decode cX8_isWord 84 = .ok (.goto (-81), 3) := by decide +kernel
theorem dX8_isWord_87 : decode cX8_isWord 87 = .ok (.iconst 1, 1) := by decide +kernel
theorem dX8_isWord_88 : decode cX8_isWord 88 = .ok (.ireturn, 1) := by decide +kernel
theorem dX8_numberAt_0 : decode cX8_numberAt 0 = .ok (.iconst 0, 1) := by decide +kernel
theorem dX8_numberAt_1 : decode cX8_numberAt 1 = .ok (.istore_n 3, 1) := by decide +kernel
theorem dX8_numberAt_2 : decode cX8_numberAt 2 = .ok (.iload_n 1, 1) := by decide +kernel
theorem dX8_numberAt_3 : decode cX8_numberAt 3 = .ok (.istore 4, 2) := by decide +kernel
theorem dX8_numberAt_5 : decode cX8_numberAt 5 = .ok (.iload 4, 2) := by decide +kernel
theorem dX8_numberAt_7 : decode cX8_numberAt 7 = .ok (.iload_n 1, 1) := by decide +kernel
theorem dX8_numberAt_8 : decode cX8_numberAt 8 = .ok (.iload_n 2, 1) := by decide +kernel
theorem dX8_numberAt_9 : decode cX8_numberAt 9 = .ok (.iadd, 1) := by decide +kernel
theorem dX8_numberAt_10 : decode cX8_numberAt 10 = .ok (.if_icmp .ge 34, 3) := by decide +kernel
theorem dX8_numberAt_13 : decode cX8_numberAt 13 = .ok (.iload 4, 2) := by decide +kernel
theorem dX8_numberAt_15 : decode cX8_numberAt 15 = .ok (.ifCond .lt 23, 3) := by decide +kernel
theorem dX8_numberAt_18 : decode cX8_numberAt 18 = .ok (.iload 4, 2) := by decide +kernel
theorem dX8_numberAt_20 : decode cX8_numberAt 20 = .ok (.aload_n 0, 1) := by decide +kernel
theorem dX8_numberAt_21 : decode cX8_numberAt 21 = .ok (.arraylength, 1) := by decide +kernel
theorem dX8_numberAt_22 : decode cX8_numberAt 22 = .ok (.if_icmp .ge 16, 3) := by decide +kernel
theorem dX8_numberAt_25 : decode cX8_numberAt 25 = .ok (.bipush 10, 2) := by decide +kernel
theorem dX8_numberAt_27 : decode cX8_numberAt 27 = .ok (.iload_n 3, 1) := by decide +kernel
theorem dX8_numberAt_28 : decode cX8_numberAt 28 = .ok (.imul, 1) := by decide +kernel
theorem dX8_numberAt_29 : decode cX8_numberAt 29 = .ok (.aload_n 0, 1) := by decide +kernel
theorem dX8_numberAt_30 : decode cX8_numberAt 30 = .ok (.iload 4, 2) := by decide +kernel
theorem dX8_numberAt_32 : decode cX8_numberAt 32 = .ok (.baload, 1) := by decide +kernel
theorem dX8_numberAt_33 : decode cX8_numberAt 33 = .ok (.bipush 48, 2) := by decide +kernel
theorem dX8_numberAt_35 : decode cX8_numberAt 35 = .ok (.isub, 1) := by decide +kernel
theorem dX8_numberAt_36 : decode cX8_numberAt 36 = .ok (.iadd, 1) := by decide +kernel
theorem dX8_numberAt_37 : decode cX8_numberAt 37 = .ok (.istore_n 3, 1) := by decide +kernel
theorem dX8_numberAt_38 : decode cX8_numberAt 38 = .ok (.iinc 4 1, 3) := by decide +kernel
theorem dX8_numberAt_41 : decode cX8_numberAt 41 = .ok (.goto (-36), 3) := by decide +kernel
theorem dX8_numberAt_44 : decode cX8_numberAt 44 = .ok (.iload_n 3, 1) := by decide +kernel
theorem dX8_numberAt_45 : decode cX8_numberAt 45 = .ok (.ireturn, 1) := by decide +kernel
theorem dX9_init_0 : decode cX9_init 0 = .ok (.aload_n 0, 1) := by decide +kernel
theorem dX9_init_1 : decode cX9_init 1 = .ok (.invokespecial 1, 3) := by decide +kernel
theorem dX9_init_4 : decode cX9_init 4 = .ok (.aload_n 0, 1) := by decide +kernel
theorem dX9_init_5 : decode cX9_init 5 = .ok (.new 7, 3) := by decide +kernel
theorem dX9_init_8 : decode cX9_init 8 = .ok (.dup, 1) := by decide +kernel
theorem dX9_init_9 : decode cX9_init 9 = .ok (.invokespecial 9, 3) := by decide +kernel
theorem dX9_init_12 : decode cX9_init 12 = .ok (.putfield 10, 3) := by decide +kernel
theorem dX9_init_15 : decode cX9_init 15 = .ok (.aload_n 0, 1) := by decide +kernel
theorem dX9_init_16 : decode cX9_init 16 = .ok (.new 16, 3) := by decide +kernel
theorem dX9_init_19 : decode cX9_init 19 = .ok (.dup, 1) := by decide +kernel
theorem dX9_init_20 : decode cX9_init 20 = .ok (.invokespecial 18, 3) := by decide +kernel
theorem dX9_init_23 : decode cX9_init 23 = .ok (.putfield 19, 3) := by decide +kernel
theorem dX9_init_26 : decode cX9_init 26 = .ok (.aload_n 0, 1) := by decide +kernel
theorem dX9_init_27 : decode cX9_init 27 = .ok (.sipush 900, 3) := by decide +kernel
theorem dX9_init_30 : decode cX9_init 30 = .ok (.newarray .byte, 2) := by decide +kernel
theorem dX9_init_32 : decode cX9_init 32 = .ok (.putfield 23, 3) := by decide +kernel
theorem dX9_init_35 : decode cX9_init 35 = .ok (.aload_n 0, 1) := by decide +kernel
theorem dX9_init_36 : decode cX9_init 36 = .ok (.getfield 10, 3) := by decide +kernel
theorem dX9_init_39 : decode cX9_init 39 = .ok (.bipush 100, 2) := by decide +kernel
theorem dX9_init_41 : decode cX9_init 41 = .ok (.sipush 300, 3) := by decide +kernel
theorem dX9_init_44 : decode cX9_init 44 = .ok (.bipush 20, 2) := by decide +kernel
theorem dX9_init_46 : decode cX9_init 46 = .ok (.invokevirtual 27, 3) := by decide +kernel
theorem dX9_init_49 : decode cX9_init 49 = .ok (.return_, 1) := by decide +kernel
theorem dX9_append_0 : decode cX9_append 0 = .ok (.aload_n 0, 1) := by decide +kernel
theorem dX9_append_1 : decode cX9_append 1 = .ok (.getfield 31, 3) := by decide +kernel
theorem dX9_append_4 : decode cX9_append 4 = .ok (.bipush 20, 2) := by decide +kernel
theorem dX9_append_6 : decode cX9_append 6 = .ok (.iadd, 1) := by decide +kernel
theorem dX9_append_7 : decode cX9_append 7 = .ok (.sipush 900, 3) := by decide +kernel
theorem dX9_append_10 : decode cX9_append 10 = .ok (.if_icmp .le 13, 3) := by decide +kernel
theorem dX9_append_13 : decode cX9_append 13 = .ok (.new 35, 3) := by decide +kernel
theorem dX9_append_16 : decode cX9_append 16 = .ok (.dup, 1) := by decide +kernel
theorem dX9_append_17 : decode cX9_append 17 = .ok (.ldc 37, 2) := by decide +kernel
theorem dX9_append_19 : decode cX9_append 19 = .ok (.invokespecial 39, 3) := by decide +kernel
theorem dX9_append_22 : decode cX9_append 22 = .ok (.athrow, 1) := by decide +kernel
theorem dX9_append_23 : decode cX9_append 23 = .ok (.aload_n 0, 1) := by decide +kernel
theorem dX9_append_24 : decode cX9_append 24 = .ok (.iload_n 1, 1) := by decide +kernel
theorem dX9_append_25 : decode cX9_append 25 = .ok (.invokevirtual 42, 3) := by decide +kernel
theorem dX9_append_28 : decode cX9_append 28 = .ok (.aload_n 0, 1) := by decide +kernel
theorem dX9_append_29 : decode cX9_append 29 = .ok (.iload_n 2, 1) := by decide +kernel
theorem dX9_append_30 : decode cX9_append 30 = .ok (.invokevirtual 42, 3) := by decide +kernel
theorem dX9_append_33 : decode cX9_append 33 = .ok (.aload_n 0, 1) := by decide +kernel
theorem dX9_append_34 : decode cX9_append 34 = .ok (.iload_n 3, 1) := by decide +kernel
theorem dX9_append_35 : decode cX9_append 35 = .ok (.invokevirtual 42, 3) := by decide +kernel
theorem dX9_append_38 : decode cX9_append 38 = .ok (.aload_n 0, 1) := by decide +kernel
theorem dX9_append_39 : decode cX9_append 39 = .ok (.iload 4, 2) := by decide +kernel
theorem dX9_append_41 : decode cX9_append 41 = .ok (.invokevirtual 42, 3) := by decide +kernel
theorem dX9_append_44 : decode cX9_append 44 = .ok (.aload_n 0, 1) := by decide +kernel
theorem dX9_append_45 : decode cX9_append 45 = .ok (.iload 5, 2) := by decide +kernel
theorem dX9_append_47 : decode cX9_append 47 = .ok (.invokevirtual 42, 3) := by decide +kernel
theorem dX9_append_50 : decode cX9_append 50 = .ok (.aload_n 0, 1) := by decide +kernel
theorem dX9_append_51 : decode cX9_append 51 = .ok (.getfield 31, 3) := by decide +kernel
theorem dX9_append_54 : decode cX9_append 54 = .ok (.ireturn, 1) := by decide +kernel
theorem dX9_store_0 : decode cX9_store 0 = .ok (.bipush 24, 2) := by decide +kernel
theorem dX9_store_2 : decode cX9_store 2 = .ok (.istore_n 2, 1) := by decide +kernel
theorem dX9_store_3 : decode cX9_store 3 = .ok (.iload_n 2, 1) := by decide +kernel
theorem dX9_store_4 : decode cX9_store 4 = .ok (.ifCond .lt 51, 3) := by decide +kernel
theorem dX9_store_7 : decode cX9_store 7 = .ok (.aload_n 0, 1) := by decide +kernel
theorem dX9_store_8 : decode cX9_store 8 = .ok (.getfield 31, 3) := by decide +kernel
theorem dX9_store_11 : decode cX9_store 11 = .ok (.ifCond .lt 38, 3) := by decide +kernel
theorem dX9_store_14 : decode cX9_store 14 = .ok (.aload_n 0, 1) := by decide +kernel
theorem dX9_store_15 : decode cX9_store 15 = .ok (.getfield 31, 3) := by decide +kernel
theorem dX9_store_18 : decode cX9_store 18 = .ok (.aload_n 0, 1) := by decide +kernel
theorem dX9_store_19 : decode cX9_store 19 = .ok (.getfield 23, 3) := by decide +kernel
theorem dX9_store_22 : decode cX9_store 22 = .ok (.arraylength, 1) := by decide +kernel
theorem dX9_store_23 : decode cX9_store 23 = .ok (.if_icmp .ge 26, 3) := by decide +kernel
theorem dX9_store_26 : decode cX9_store 26 = .ok (.aload_n 0, 1) := by decide +kernel
theorem dX9_store_27 : decode cX9_store 27 = .ok (.getfield 23, 3) := by decide +kernel
theorem dX9_store_30 : decode cX9_store 30 = .ok (.aload_n 0, 1) := by decide +kernel
theorem dX9_store_31 : decode cX9_store 31 = .ok (.getfield 31, 3) := by decide +kernel
theorem dX9_store_34 : decode cX9_store 34 = .ok (.iload_n 1, 1) := by decide +kernel
theorem dX9_store_35 : decode cX9_store 35 = .ok (.iload_n 2, 1) := by decide +kernel
theorem dX9_store_36 : decode cX9_store 36 = .ok (.ishr, 1) := by decide +kernel
theorem dX9_store_37 : decode cX9_store 37 = .ok (.i2b, 1) := by decide +kernel
theorem dX9_store_38 : decode cX9_store 38 = .ok (.bastore, 1) := by decide +kernel
theorem dX9_store_39 : decode cX9_store 39 = .ok (.aload_n 0, 1) := by decide +kernel
theorem dX9_store_40 : decode cX9_store 40 = .ok (.dup, 1) := by decide +kernel
theorem dX9_store_41 : decode cX9_store 41 = .ok (.getfield 31, 3) := by decide +kernel
theorem dX9_store_44 : decode cX9_store 44 = .ok (.iconst 1, 1) := by decide +kernel
theorem dX9_store_45 : decode cX9_store 45 = .ok (.iadd, 1) := by decide +kernel
theorem dX9_store_46 : decode cX9_store 46 = .ok (.putfield 31, 3) := by decide +kernel
theorem dX9_store_49 : decode cX9_store 49 = .ok (.iinc 2 (-8), 3) := by decide +kernel
theorem dX9_store_52 : decode cX9_store 52 = .ok (.goto (-49), 3) := by decide +kernel
theorem dX9_store_55 : decode cX9_store 55 = .ok (.return_, 1) := by decide +kernel
theorem dX9_truncate_0 : decode cX9_truncate 0 = .ok (.iload_n 1, 1) := by decide +kernel
theorem dX9_truncate_1 : decode cX9_truncate 1 = .ok (.ifCond .lt 11, 3) := by decide +kernel
theorem dX9_truncate_4 : decode cX9_truncate 4 = .ok (.iload_n 1, 1) := by decide +kernel
theorem dX9_truncate_5 : decode cX9_truncate 5 = .ok (.aload_n 0, 1) := by decide +kernel
theorem dX9_truncate_6 : decode cX9_truncate 6 = .ok (.getfield 31, 3) := by decide +kernel
theorem dX9_truncate_9 : decode cX9_truncate 9 = .ok (.if_icmp .le 13, 3) := by decide +kernel
theorem dX9_truncate_12 : decode cX9_truncate 12 = .ok (.new 46, 3) := by decide +kernel
theorem dX9_truncate_15 : decode cX9_truncate 15 = .ok (.dup, 1) := by decide +kernel
theorem dX9_truncate_16 : decode cX9_truncate 16 = .ok (.ldc 48, 2) := by decide +kernel
theorem dX9_truncate_18 : decode cX9_truncate 18 = .ok (.invokespecial 50, 3) := by decide +kernel
theorem dX9_truncate_21 : decode cX9_truncate 21 = .ok (.athrow, 1) := by decide +kernel
theorem dX9_truncate_22 : decode cX9_truncate 22 = .ok (.aload_n 0, 1) := by decide +kernel
theorem dX9_truncate_23 : decode cX9_truncate 23 = .ok (.iload_n 1, 1) := by decide +kernel
theorem dX9_truncate_24 : decode cX9_truncate 24 = .ok (.putfield 31, 3) := by decide +kernel
theorem dX9_truncate_27 : decode cX9_truncate 27 = .ok (.iload_n 1, 1) := by decide +kernel
theorem dX9_truncate_28 : decode cX9_truncate 28 = .ok (.ireturn, 1) := by decide +kernel
theorem dX9_run_0 : decode cX9_run 0 = .ok (.aload_n 0, 1) := by decide +kernel
theorem dX9_run_1 : decode cX9_run 1 = .ok (.getfield 19, 3) := by decide +kernel
theorem dX9_run_4 : decode cX9_run 4 = .ok (.getfield 51, 3) := by decide +kernel
theorem dX9_run_7 : decode cX9_run 7 = .ok (.aload_n 0, 1) := by decide +kernel
theorem dX9_run_8 : decode cX9_run 8 = .ok (.getfield 23, 3) := by decide +kernel
theorem dX9_run_11 : decode cX9_run 11 = .ok (.aload_n 0, 1) := by decide +kernel
theorem dX9_run_12 : decode cX9_run 12 = .ok (.getfield 31, 3) := by decide +kernel
theorem dX9_run_15 : decode cX9_run 15 = .ok (.invokevirtual 55, 3) := by decide +kernel
theorem dX9_run_18 : decode cX9_run 18 = .ok (.istore_n 1, 1) := by decide +kernel
theorem dX9_run_19 : decode cX9_run 19 = .ok (.aload_n 0, 1) := by decide +kernel
theorem dX9_run_20 : decode cX9_run 20 = .ok (.iconst 0, 1) := by decide +kernel
theorem dX9_run_21 : decode cX9_run 21 = .ok (.putfield 31, 3) := by decide +kernel
theorem dX9_run_24 : decode cX9_run 24 = .ok (.iload_n 1, 1) := by decide +kernel
theorem dX9_run_25 : decode cX9_run 25 = .ok (.ifCond .ne 5, 3) := by decide +kernel
theorem dX9_run_28 : decode cX9_run 28 = .ok (.iconst (-1), 1) := by decide +kernel
theorem dX9_run_29 : decode cX9_run 29 = .ok (.ireturn, 1) := by decide +kernel
theorem dX9_run_30 : decode cX9_run 30 = .ok (.aload_n 0, 1) := by decide +kernel
theorem dX9_run_31 : decode cX9_run 31 = .ok (.getfield 19, 3) := by decide +kernel
theorem dX9_run_34 : decode cX9_run 34 = .ok (.invokevirtual 61, 3) := by decide +kernel
theorem dX9_run_37 : decode cX9_run 37 = .ok (.aload_n 0, 1) := by decide +kernel
theorem dX9_run_38 : decode cX9_run 38 = .ok (.getfield 19, 3) := by decide +kernel
theorem dX9_run_41 : decode cX9_run 41 = .ok (.aload_n 0, 1) := by decide +kernel
theorem dX9_run_42 : decode cX9_run 42 = .ok (.getfield 10, 3) := by decide +kernel
theorem dX9_run_45 : decode cX9_run 45 = .ok (.iconst 0, 1) := by decide +kernel
theorem dX9_run_46 : decode cX9_run 46 = .ok (.aload_n 0, 1) := by decide +kernel
theorem dX9_run_47 : decode cX9_run 47 = .ok (.getfield 19, 3) := by decide +kernel
theorem dX9_run_50 : decode cX9_run 50 = .ok (.getfield 51, 3) := by decide +kernel
theorem dX9_run_53 : decode cX9_run 53 = .ok (.getfield 63, 3) := by decide +kernel
theorem dX9_run_56 : decode cX9_run 56 = .ok (.iconst 1, 1) := by decide +kernel
theorem dX9_run_57 : decode cX9_run 57 = .ok (.iconst 0, 1) := by decide +kernel
theorem dX9_run_58 : decode cX9_run 58 = .ok (.invokevirtual 66, 3) := by decide +kernel
theorem dX9_run_61 : decode cX9_run 61 = .ok (.pop, 1) := by decide +kernel
theorem dX9_run_62 : decode cX9_run 62 = .ok (.aload_n 0, 1) := by decide +kernel
theorem dX9_run_63 : decode cX9_run 63 = .ok (.getfield 19, 3) := by decide +kernel
theorem dX9_run_66 : decode cX9_run 66 = .ok (.getfield 70, 3) := by decide +kernel
theorem dX9_run_69 : decode cX9_run 69 = .ok (.ireturn, 1) := by decide +kernel
theorem dX9_errorCode_0 : decode cX9_errorCode 0 = .ok (.aload_n 0, 1) := by decide +kernel
theorem dX9_errorCode_1 : decode cX9_errorCode 1 = .ok (.getfield 19, 3) := by decide +kernel
theorem dX9_errorCode_4 : decode cX9_errorCode 4 = .ok (.getfield 51, 3) := by decide +kernel
theorem dX9_errorCode_7 : decode cX9_errorCode 7 = .ok (.getfield 73, 3) := by decide +kernel
theorem dX9_errorCode_10 : decode cX9_errorCode 10 = .ok (.ireturn, 1) := by decide +kernel
theorem dX9_errorPosition_0 : decode cX9_errorPosition 0 = .ok (.aload_n 0, 1) := by decide +kernel
theorem dX9_errorPosition_1 : decode cX9_errorPosition 1 = .ok (.getfield 19, 3) := by decide +kernel
theorem dX9_errorPosition_4 : decode cX9_errorPosition 4 = .ok (.getfield 51, 3) := by decide +kernel
theorem dX9_errorPosition_7 : decode cX9_errorPosition 7 = .ok (.getfield 76, 3) := by decide +kernel
theorem dX9_errorPosition_10 : decode cX9_errorPosition 10 = .ok (.ireturn, 1) := by decide +kernel
theorem dX9_failure_0 : decode cX9_failure 0 = .ok (.aload_n 0, 1) := by decide +kernel
theorem dX9_failure_1 : decode cX9_failure 1 = .ok (.getfield 19, 3) := by decide +kernel
theorem dX9_failure_4 : decode cX9_failure 4 = .ok (.getfield 79, 3) := by decide +kernel
theorem dX9_failure_7 : decode cX9_failure 7 = .ok (.ireturn, 1) := by decide +kernel
theorem dX9_failurePosition_0 : decode cX9_failurePosition 0 = .ok (.aload_n 0, 1) := by decide +kernel
theorem dX9_failurePosition_1 : decode cX9_failurePosition 1 = .ok (.getfield 19, 3) := by decide +kernel
theorem dX9_failurePosition_4 : decode cX9_failurePosition 4 = .ok (.getfield 82, 3) := by decide +kernel
theorem dX9_failurePosition_7 : decode cX9_failurePosition 7 = .ok (.ireturn, 1) := by decide +kernel
theorem dX9_configure_0 : decode cX9_configure 0 = .ok (.iload_n 1, 1) := by decide +kernel
theorem dX9_configure_1 : decode cX9_configure 1 = .ok (.bipush 40, 2) := by decide +kernel
theorem dX9_configure_3 : decode cX9_configure 3 = .ok (.sipush 400, 3) := by decide +kernel
theorem dX9_configure_6 : decode cX9_configure 6 = .ok (.invokestatic 85, 3) := by decide +kernel
theorem dX9_configure_9 : decode cX9_configure 9 = .ok (.ifCond .eq 25, 3) := by decide +kernel
theorem dX9_configure_12 : decode cX9_configure 12 = .ok (.iload_n 2, 1) := by decide +kernel
theorem dX9_configure_13 : decode cX9_configure 13 = .ok (.bipush 40, 2) := by decide +kernel
theorem dX9_configure_15 : decode cX9_configure 15 = .ok (.sipush 9999, 3) := by decide +kernel
theorem dX9_configure_18 : decode cX9_configure 18 = .ok (.invokestatic 85, 3) := by decide +kernel
theorem dX9_configure_21 : decode cX9_configure 21 = .ok (.ifCond .eq 13, 3) := by decide +kernel
theorem dX9_configure_24 : decode cX9_configure 24 = .ok (.iload_n 3, 1) := by decide +kernel
theorem dX9_configure_25 : decode cX9_configure 25 = .ok (.iconst 0, 1) := by decide +kernel
theorem dX9_configure_26 : decode cX9_configure 26 = .ok (.bipush 100, 2) := by decide +kernel
theorem dX9_configure_28 : decode cX9_configure 28 = .ok (.invokestatic 85, 3) := by decide +kernel
theorem dX9_configure_31 : decode cX9_configure 31 = .ok (.ifCond .ne 13, 3) := by decide +kernel
theorem dX9_configure_34 : decode cX9_configure 34 = .ok (.new 46, 3) := by decide +kernel
theorem dX9_configure_37 : decode cX9_configure 37 = .ok (.dup, 1) := by decide +kernel
theorem dX9_configure_38 : decode cX9_configure 38 = .ok (.ldc 89, 2) := by decide +kernel
theorem dX9_configure_40 : decode cX9_configure 40 = .ok (.invokespecial 50, 3) := by decide +kernel
theorem dX9_configure_43 : decode cX9_configure 43 = .ok (.athrow, 1) := by decide +kernel
theorem dX9_configure_44 : decode cX9_configure 44 = .ok (.aload_n 0, 1) := by decide +kernel
theorem dX9_configure_45 : decode cX9_configure 45 = .ok (.getfield 10, 3) := by decide +kernel
theorem dX9_configure_48 : decode cX9_configure 48 = .ok (.getfield 91, 3) := by decide +kernel
theorem dX9_configure_51 : decode cX9_configure 51 = .ok (.getfield 95, 3) := by decide +kernel
theorem dX9_configure_54 : decode cX9_configure 54 = .ok (.aload_n 0, 1) := by decide +kernel
theorem dX9_configure_55 : decode cX9_configure 55 = .ok (.getfield 10, 3) := by decide +kernel
theorem dX9_configure_58 : decode cX9_configure 58 = .ok (.getfield 100, 3) := by decide +kernel
theorem dX9_configure_61 : decode cX9_configure 61 = .ok (.invokevirtual 104, 3) := by decide +kernel
theorem dX9_configure_64 : decode cX9_configure 64 = .ok (.isub, 1) := by decide +kernel
theorem dX9_configure_65 : decode cX9_configure 65 = .ok (.istore 4, 2) := by decide +kernel
theorem dX9_configure_67 : decode cX9_configure 67 = .ok (.aload_n 0, 1) := by decide +kernel
theorem dX9_configure_68 : decode cX9_configure 68 = .ok (.getfield 10, 3) := by decide +kernel
theorem dX9_configure_71 : decode cX9_configure 71 = .ok (.iload_n 1, 1) := by decide +kernel
theorem dX9_configure_72 : decode cX9_configure 72 = .ok (.iload_n 2, 1) := by decide +kernel
theorem dX9_configure_73 : decode cX9_configure 73 = .ok (.iload_n 3, 1) := by decide +kernel
theorem dX9_configure_74 : decode cX9_configure 74 = .ok (.invokevirtual 27, 3) := by decide +kernel
theorem dX9_configure_77 : decode cX9_configure 77 = .ok (.iload 4, 2) := by decide +kernel
theorem dX9_configure_79 : decode cX9_configure 79 = .ok (.ireturn, 1) := by decide +kernel
theorem dX9_begin_0 : decode cX9_begin 0 = .ok (.aload_n 0, 1) := by decide +kernel
theorem dX9_begin_1 : decode cX9_begin 1 = .ok (.sipush 256, 3) := by decide +kernel
theorem dX9_begin_4 : decode cX9_begin 4 = .ok (.iconst 0, 1) := by decide +kernel
theorem dX9_begin_5 : decode cX9_begin 5 = .ok (.iconst 0, 1) := by decide +kernel
theorem dX9_begin_6 : decode cX9_begin 6 = .ok (.iconst 0, 1) := by decide +kernel
theorem dX9_begin_7 : decode cX9_begin 7 = .ok (.iconst (-1), 1) := by decide +kernel
theorem dX9_begin_8 : decode cX9_begin 8 = .ok (.invokevirtual 110, 3) := by decide +kernel
theorem dX9_begin_11 : decode cX9_begin 11 = .ok (.ireturn, 1) := by decide +kernel
theorem dX9_commit_0 : decode cX9_commit 0 = .ok (.aload_n 0, 1) := by decide +kernel
theorem dX9_commit_1 : decode cX9_commit 1 = .ok (.sipush 257, 3) := by decide +kernel
theorem dX9_commit_4 : decode cX9_commit 4 = .ok (.iload_n 1, 1) := by decide +kernel
theorem dX9_commit_5 : decode cX9_commit 5 = .ok (.iconst 0, 1) := by decide +kernel
theorem dX9_commit_6 : decode cX9_commit 6 = .ok (.iconst 0, 1) := by decide +kernel
theorem dX9_commit_7 : decode cX9_commit 7 = .ok (.iconst (-1), 1) := by decide +kernel
theorem dX9_commit_8 : decode cX9_commit 8 = .ok (.invokevirtual 110, 3) := by decide +kernel
theorem dX9_commit_11 : decode cX9_commit 11 = .ok (.ireturn, 1) := by decide +kernel
theorem dX9_abort_0 : decode cX9_abort 0 = .ok (.aload_n 0, 1) := by decide +kernel
theorem dX9_abort_1 : decode cX9_abort 1 = .ok (.sipush 258, 3) := by decide +kernel
theorem dX9_abort_4 : decode cX9_abort 4 = .ok (.iload_n 1, 1) := by decide +kernel
theorem dX9_abort_5 : decode cX9_abort 5 = .ok (.iconst 0, 1) := by decide +kernel
theorem dX9_abort_6 : decode cX9_abort 6 = .ok (.iconst 0, 1) := by decide +kernel
theorem dX9_abort_7 : decode cX9_abort 7 = .ok (.iconst (-1), 1) := by decide +kernel
theorem dX9_abort_8 : decode cX9_abort 8 = .ok (.invokevirtual 110, 3) := by decide +kernel
theorem dX9_abort_11 : decode cX9_abort 11 = .ok (.ireturn, 1) := by decide +kernel
theorem dX9_write_0 : decode cX9_write 0 = .ok (.aload_n 0, 1) := by decide +kernel
theorem dX9_write_1 : decode cX9_write 1 = .ok (.sipush 259, 3) := by decide +kernel
theorem dX9_write_4 : decode cX9_write 4 = .ok (.iload_n 1, 1) := by decide +kernel
theorem dX9_write_5 : decode cX9_write 5 = .ok (.iload_n 2, 1) := by decide +kernel
theorem dX9_write_6 : decode cX9_write 6 = .ok (.iload_n 3, 1) := by decide +kernel
theorem dX9_write_7 : decode cX9_write 7 = .ok (.iload 4, 2) := by decide +kernel
theorem dX9_write_9 : decode cX9_write 9 = .ok (.invokevirtual 110, 3) := by decide +kernel
theorem dX9_write_12 : decode cX9_write 12 = .ok (.ireturn, 1) := by decide +kernel
theorem dX9_remove_0 : decode cX9_remove 0 = .ok (.aload_n 0, 1) := by decide +kernel
theorem dX9_remove_1 : decode cX9_remove 1 = .ok (.sipush 260, 3) := by decide +kernel
theorem dX9_remove_4 : decode cX9_remove 4 = .ok (.iload_n 1, 1) := by decide +kernel
theorem dX9_remove_5 : decode cX9_remove 5 = .ok (.iconst 0, 1) := by decide +kernel
theorem dX9_remove_6 : decode cX9_remove 6 = .ok (.iconst 0, 1) := by decide +kernel
theorem dX9_remove_7 : decode cX9_remove 7 = .ok (.iload_n 2, 1) := by decide +kernel
theorem dX9_remove_8 : decode cX9_remove 8 = .ok (.invokevirtual 110, 3) := by decide +kernel
theorem dX9_remove_11 : decode cX9_remove 11 = .ok (.ireturn, 1) := by decide +kernel
theorem dX9_copy_0 : decode cX9_copy 0 = .ok (.aload_n 0, 1) := by decide +kernel
theorem dX9_copy_1 : decode cX9_copy 1 = .ok (.sipush 261, 3) := by decide +kernel
theorem dX9_copy_4 : decode cX9_copy 4 = .ok (.iload_n 1, 1) := by decide +kernel
theorem dX9_copy_5 : decode cX9_copy 5 = .ok (.iload_n 2, 1) := by decide +kernel
theorem dX9_copy_6 : decode cX9_copy 6 = .ok (.iconst 0, 1) := by decide +kernel
theorem dX9_copy_7 : decode cX9_copy 7 = .ok (.iload_n 3, 1) := by decide +kernel
theorem dX9_copy_8 : decode cX9_copy 8 = .ok (.invokevirtual 110, 3) := by decide +kernel
theorem dX9_copy_11 : decode cX9_copy 11 = .ok (.ireturn, 1) := by decide +kernel
theorem dX9_send_0 : decode cX9_send 0 = .ok (.aload_n 0, 1) := by decide +kernel
theorem dX9_send_1 : decode cX9_send 1 = .ok (.sipush 262, 3) := by decide +kernel
theorem dX9_send_4 : decode cX9_send 4 = .ok (.iload_n 1, 1) := by decide +kernel
theorem dX9_send_5 : decode cX9_send 5 = .ok (.iload_n 2, 1) := by decide +kernel
theorem dX9_send_6 : decode cX9_send 6 = .ok (.iload_n 3, 1) := by decide +kernel
theorem dX9_send_7 : decode cX9_send 7 = .ok (.iload 4, 2) := by decide +kernel
theorem dX9_send_9 : decode cX9_send 9 = .ok (.invokevirtual 110, 3) := by decide +kernel
theorem dX9_send_12 : decode cX9_send 12 = .ok (.ireturn, 1) := by decide +kernel
theorem dX9_join_0 : decode cX9_join 0 = .ok (.aload_n 0, 1) := by decide +kernel
theorem dX9_join_1 : decode cX9_join 1 = .ok (.sipush 263, 3) := by decide +kernel
theorem dX9_join_4 : decode cX9_join 4 = .ok (.iload_n 1, 1) := by decide +kernel
theorem dX9_join_5 : decode cX9_join 5 = .ok (.iconst 0, 1) := by decide +kernel
theorem dX9_join_6 : decode cX9_join 6 = .ok (.iconst 0, 1) := by decide +kernel
theorem dX9_join_7 : decode cX9_join 7 = .ok (.iconst (-1), 1) := by decide +kernel
theorem dX9_join_8 : decode cX9_join 8 = .ok (.invokevirtual 110, 3) := by decide +kernel
theorem dX9_join_11 : decode cX9_join 11 = .ok (.ireturn, 1) := by decide +kernel
theorem dX9_read_0 : decode cX9_read 0 = .ok (.aload_n 0, 1) := by decide +kernel
theorem dX9_read_1 : decode cX9_read 1 = .ok (.sipush 264, 3) := by decide +kernel
theorem dX9_read_4 : decode cX9_read 4 = .ok (.iload_n 1, 1) := by decide +kernel
theorem dX9_read_5 : decode cX9_read 5 = .ok (.iload_n 2, 1) := by decide +kernel
theorem dX9_read_6 : decode cX9_read 6 = .ok (.iconst 0, 1) := by decide +kernel
theorem dX9_read_7 : decode cX9_read 7 = .ok (.iconst (-1), 1) := by decide +kernel
theorem dX9_read_8 : decode cX9_read 8 = .ok (.invokevirtual 110, 3) := by decide +kernel
theorem dX9_read_11 : decode cX9_read 11 = .ok (.ireturn, 1) := by decide +kernel
theorem dX9_message_0 : decode cX9_message 0 = .ok (.iload_n 1, 1) := by decide +kernel
theorem dX9_message_1 : decode cX9_message 1 = .ok (.ifCond .lt 18, 3) := by decide +kernel
theorem dX9_message_4 : decode cX9_message 4 = .ok (.iload_n 1, 1) := by decide +kernel
theorem dX9_message_5 : decode cX9_message 5 = .ok (.aload_n 0, 1) := by decide +kernel
theorem dX9_message_6 : decode cX9_message 6 = .ok (.getfield 10, 3) := by decide +kernel
theorem dX9_message_9 : decode cX9_message 9 = .ok (.getfield 114, 3) := by decide +kernel
theorem dX9_message_12 : decode cX9_message 12 = .ok (.if_icmp .ge 7, 3) := by decide +kernel
theorem dX9_message_15 : decode cX9_message 15 = .ok (.iconst 1, 1) := by decide +kernel
theorem dX9_message_16 : decode cX9_message 16 = .ok (.goto 4, 3) := by decide +kernel
theorem dX9_message_19 : decode cX9_message 19 = .ok (.iconst 0, 1) := by decide +kernel
theorem dX9_message_20 : decode cX9_message 20 = .ok (.invokestatic 117, 3) := by decide +kernel
theorem dX9_message_23 : decode cX9_message 23 = .ok (.iload_n 2, 1) := by decide +kernel
theorem dX9_message_24 : decode cX9_message 24 = .ok (.iconst 0, 1) := by decide +kernel
theorem dX9_message_25 : decode cX9_message 25 = .ok (.iconst 2, 1) := by decide +kernel
theorem dX9_message_26 : decode cX9_message 26 = .ok (.invokestatic 85, 3) := by decide +kernel
theorem dX9_message_29 : decode cX9_message 29 = .ok (.invokestatic 121, 3) := by decide +kernel
theorem dX9_message_32 : decode cX9_message 32 = .ok (.aload_n 0, 1) := by decide +kernel
theorem dX9_message_33 : decode cX9_message 33 = .ok (.getfield 10, 3) := by decide +kernel
theorem dX9_message_36 : decode cX9_message 36 = .ok (.iload_n 1, 1) := by decide +kernel
theorem dX9_message_37 : decode cX9_message 37 = .ok (.iload_n 2, 1) := by decide +kernel
theorem dX9_message_38 : decode cX9_message 38 = .ok (.invokevirtual 124, 3) := by decide +kernel
theorem dX9_message_41 : decode cX9_message 41 = .ok (.ireturn, 1) := by decide +kernel
theorem dX9_flush_0 : decode cX9_flush 0 = .ok (.aload_n 0, 1) := by decide +kernel
theorem dX9_flush_1 : decode cX9_flush 1 = .ok (.sipush 265, 3) := by decide +kernel
theorem dX9_flush_4 : decode cX9_flush 4 = .ok (.iconst 0, 1) := by decide +kernel
theorem dX9_flush_5 : decode cX9_flush 5 = .ok (.iconst 0, 1) := by decide +kernel
theorem dX9_flush_6 : decode cX9_flush 6 = .ok (.iconst 0, 1) := by decide +kernel
theorem dX9_flush_7 : decode cX9_flush 7 = .ok (.iconst (-1), 1) := by decide +kernel
theorem dX9_flush_8 : decode cX9_flush 8 = .ok (.invokevirtual 110, 3) := by decide +kernel
theorem dX9_flush_11 : decode cX9_flush 11 = .ok (.ireturn, 1) := by decide +kernel
theorem dX9_checkpoint_0 : decode cX9_checkpoint 0 = .ok (.aload_n 0, 1) := by decide +kernel
theorem dX9_checkpoint_1 : decode cX9_checkpoint 1 = .ok (.sipush 266, 3) := by decide +kernel
theorem dX9_checkpoint_4 : decode cX9_checkpoint 4 = .ok (.iconst 0, 1) := by decide +kernel
theorem dX9_checkpoint_5 : decode cX9_checkpoint 5 = .ok (.iconst 0, 1) := by decide +kernel
theorem dX9_checkpoint_6 : decode cX9_checkpoint 6 = .ok (.iconst 0, 1) := by decide +kernel
theorem dX9_checkpoint_7 : decode cX9_checkpoint 7 = .ok (.iconst (-1), 1) := by decide +kernel
theorem dX9_checkpoint_8 : decode cX9_checkpoint 8 = .ok (.invokevirtual 110, 3) := by decide +kernel
theorem dX9_checkpoint_11 : decode cX9_checkpoint 11 = .ok (.ireturn, 1) := by decide +kernel
theorem dX9_damage_0 : decode cX9_damage 0 = .ok (.aload_n 0, 1) := by decide +kernel
theorem dX9_damage_1 : decode cX9_damage 1 = .ok (.getfield 10, 3) := by decide +kernel
theorem dX9_damage_4 : decode cX9_damage 4 = .ok (.iload_n 1, 1) := by decide +kernel
theorem dX9_damage_5 : decode cX9_damage 5 = .ok (.invokevirtual 128, 3) := by decide +kernel
theorem dX9_damage_8 : decode cX9_damage 8 = .ok (.invokestatic 117, 3) := by decide +kernel
theorem dX9_damage_11 : decode cX9_damage 11 = .ok (.iload_n 1, 1) := by decide +kernel
theorem dX9_damage_12 : decode cX9_damage 12 = .ok (.aload_n 0, 1) := by decide +kernel
theorem dX9_damage_13 : decode cX9_damage 13 = .ok (.getfield 10, 3) := by decide +kernel
theorem dX9_damage_16 : decode cX9_damage 16 = .ok (.getfield 91, 3) := by decide +kernel
theorem dX9_damage_19 : decode cX9_damage 19 = .ok (.getfield 132, 3) := by decide +kernel
theorem dX9_damage_22 : decode cX9_damage 22 = .ok (.if_icmp .ge 13, 3) := by decide +kernel
theorem dX9_damage_25 : decode cX9_damage 25 = .ok (.new 35, 3) := by decide +kernel
theorem dX9_damage_28 : decode cX9_damage 28 = .ok (.dup, 1) := by decide +kernel
theorem dX9_damage_29 : decode cX9_damage 29 = .ok (.ldc 135, 2) := by decide +kernel
theorem dX9_damage_31 : decode cX9_damage 31 = .ok (.invokespecial 39, 3) := by decide +kernel
theorem dX9_damage_34 : decode cX9_damage 34 = .ok (.athrow, 1) := by decide +kernel
theorem dX9_damage_35 : decode cX9_damage 35 = .ok (.aload_n 0, 1) := by decide +kernel
theorem dX9_damage_36 : decode cX9_damage 36 = .ok (.getfield 10, 3) := by decide +kernel
theorem dX9_damage_39 : decode cX9_damage 39 = .ok (.getfield 91, 3) := by decide +kernel
theorem dX9_damage_42 : decode cX9_damage 42 = .ok (.getfield 137, 3) := by decide +kernel
theorem dX9_damage_45 : decode cX9_damage 45 = .ok (.iload_n 1, 1) := by decide +kernel
theorem dX9_damage_46 : decode cX9_damage 46 = .ok (.iconst 1, 1) := by decide +kernel
theorem dX9_damage_47 : decode cX9_damage 47 = .ok (.invokevirtual 141, 3) := by decide +kernel
theorem dX9_damage_50 : decode cX9_damage 50 = .ok (.aload_n 0, 1) := by decide +kernel
theorem dX9_damage_51 : decode cX9_damage 51 = .ok (.getfield 10, 3) := by decide +kernel
theorem dX9_damage_54 : decode cX9_damage 54 = .ok (.getfield 91, 3) := by decide +kernel
theorem dX9_damage_57 : decode cX9_damage 57 = .ok (.invokevirtual 147, 3) := by decide +kernel
theorem dX9_damage_60 : decode cX9_damage 60 = .ok (.ireturn, 1) := by decide +kernel
theorem dX9_crash_0 : decode cX9_crash 0 = .ok (.iload_n 1, 1) := by decide +kernel
theorem dX9_crash_1 : decode cX9_crash 1 = .ok (.aload_n 0, 1) := by decide +kernel
theorem dX9_crash_2 : decode cX9_crash 2 = .ok (.getfield 10, 3) := by decide +kernel
theorem dX9_crash_5 : decode cX9_crash 5 = .ok (.getfield 91, 3) := by decide +kernel
theorem dX9_crash_8 : decode cX9_crash 8 = .ok (.getfield 132, 3) := by decide +kernel
theorem dX9_crash_11 : decode cX9_crash 11 = .ok (.aload_n 0, 1) := by decide +kernel
theorem dX9_crash_12 : decode cX9_crash 12 = .ok (.getfield 10, 3) := by decide +kernel
theorem dX9_crash_15 : decode cX9_crash 15 = .ok (.getfield 91, 3) := by decide +kernel
theorem dX9_crash_18 : decode cX9_crash 18 = .ok (.getfield 95, 3) := by decide +kernel
theorem dX9_crash_21 : decode cX9_crash 21 = .ok (.invokestatic 85, 3) := by decide +kernel
theorem dX9_crash_24 : decode cX9_crash 24 = .ok (.invokestatic 121, 3) := by decide +kernel
theorem dX9_crash_27 : decode cX9_crash 27 = .ok (.aload_n 0, 1) := by decide +kernel
theorem dX9_crash_28 : decode cX9_crash 28 = .ok (.getfield 10, 3) := by decide +kernel
theorem dX9_crash_31 : decode cX9_crash 31 = .ok (.iload_n 1, 1) := by decide +kernel
theorem dX9_crash_32 : decode cX9_crash 32 = .ok (.invokevirtual 150, 3) := by decide +kernel
theorem dX9_crash_35 : decode cX9_crash 35 = .ok (.ireturn, 1) := by decide +kernel
theorem dX9_state_0 : decode cX9_state 0 = .ok (.iload_n 1, 1) := by decide +kernel
theorem dX9_state_1 : decode cX9_state 1 = .ok (.iconst 0, 1) := by decide +kernel
theorem dX9_state_2 : decode cX9_state 2 = .ok (.bipush 10, 2) := by decide +kernel
theorem dX9_state_4 : decode cX9_state 4 = .ok (.invokestatic 85, 3) := by decide +kernel
theorem dX9_state_7 : decode cX9_state 7 = .ok (.invokestatic 121, 3) := by decide +kernel
theorem dX9_state_10 : decode cX9_state 10 = .ok (.aload_n 0, 1) := by decide +kernel
theorem dX9_state_11 : decode cX9_state 11 = .ok (.getfield 10, 3) := by decide +kernel
theorem dX9_state_14 : decode cX9_state 14 = .ok (.iload_n 1, 1) := by decide +kernel
theorem dX9_state_15 : decode cX9_state 15 = .ok (.invokevirtual 154, 3) := by decide +kernel
theorem dX9_state_18 : decode cX9_state 18 = .ok (.ireturn, 1) := by decide +kernel
theorem dX9_record_0 : decode cX9_record 0 = .ok (.aload_n 0, 1) := by decide +kernel
theorem dX9_record_1 : decode cX9_record 1 = .ok (.getfield 10, 3) := by decide +kernel
theorem dX9_record_4 : decode cX9_record 4 = .ok (.iload_n 1, 1) := by decide +kernel
theorem dX9_record_5 : decode cX9_record 5 = .ok (.invokevirtual 128, 3) := by decide +kernel
theorem dX9_record_8 : decode cX9_record 8 = .ok (.invokestatic 117, 3) := by decide +kernel
theorem dX9_record_11 : decode cX9_record 11 = .ok (.iload_n 2, 1) := by decide +kernel
theorem dX9_record_12 : decode cX9_record 12 = .ok (.iconst 0, 1) := by decide +kernel
theorem dX9_record_13 : decode cX9_record 13 = .ok (.bipush 9, 2) := by decide +kernel
theorem dX9_record_15 : decode cX9_record 15 = .ok (.invokestatic 85, 3) := by decide +kernel
theorem dX9_record_18 : decode cX9_record 18 = .ok (.invokestatic 121, 3) := by decide +kernel
theorem dX9_record_21 : decode cX9_record 21 = .ok (.aload_n 0, 1) := by decide +kernel
theorem dX9_record_22 : decode cX9_record 22 = .ok (.getfield 10, 3) := by decide +kernel
theorem dX9_record_25 : decode cX9_record 25 = .ok (.getfield 91, 3) := by decide +kernel
theorem dX9_record_28 : decode cX9_record 28 = .ok (.iload_n 1, 1) := by decide +kernel
theorem dX9_record_29 : decode cX9_record 29 = .ok (.iload_n 2, 1) := by decide +kernel
theorem dX9_record_30 : decode cX9_record 30 = .ok (.invokevirtual 157, 3) := by decide +kernel
theorem dX9_record_33 : decode cX9_record 33 = .ok (.ireturn, 1) := by decide +kernel
theorem dX9_segments_0 : decode cX9_segments 0 = .ok (.aload_n 0, 1) := by decide +kernel
theorem dX9_segments_1 : decode cX9_segments 1 = .ok (.getfield 10, 3) := by decide +kernel
theorem dX9_segments_4 : decode cX9_segments 4 = .ok (.getfield 100, 3) := by decide +kernel
theorem dX9_segments_7 : decode cX9_segments 7 = .ok (.invokevirtual 160, 3) := by decide +kernel
theorem dX9_segments_10 : decode cX9_segments 10 = .ok (.ireturn, 1) := by decide +kernel
theorem dX9_segment_0 : decode cX9_segment 0 = .ok (.iload_n 1, 1) := by decide +kernel
theorem dX9_segment_1 : decode cX9_segment 1 = .ok (.ifCond .lt 21, 3) := by decide +kernel
theorem dX9_segment_4 : decode cX9_segment 4 = .ok (.iload_n 1, 1) := by decide +kernel
theorem dX9_segment_5 : decode cX9_segment 5 = .ok (.aload_n 0, 1) := by decide +kernel
theorem dX9_segment_6 : decode cX9_segment 6 = .ok (.getfield 10, 3) := by decide +kernel
theorem dX9_segment_9 : decode cX9_segment 9 = .ok (.getfield 100, 3) := by decide +kernel
theorem dX9_segment_12 : decode cX9_segment 12 = .ok (.invokevirtual 160, 3) := by decide +kernel
theorem dX9_segment_15 : decode cX9_segment 15 = .ok (.if_icmp .ge 7, 3) := by decide +kernel
theorem dX9_segment_18 : decode cX9_segment 18 = .ok (.iconst 1, 1) := by decide +kernel
theorem dX9_segment_19 : decode cX9_segment 19 = .ok (.goto 4, 3) := by decide +kernel
theorem dX9_segment_22 : decode cX9_segment 22 = .ok (.iconst 0, 1) := by decide +kernel
theorem dX9_segment_23 : decode cX9_segment 23 = .ok (.invokestatic 117, 3) := by decide +kernel
theorem dX9_segment_26 : decode cX9_segment 26 = .ok (.iload_n 2, 1) := by decide +kernel
theorem dX9_segment_27 : decode cX9_segment 27 = .ok (.iconst 0, 1) := by decide +kernel
theorem dX9_segment_28 : decode cX9_segment 28 = .ok (.iconst 4, 1) := by decide +kernel
theorem dX9_segment_29 : decode cX9_segment 29 = .ok (.invokestatic 85, 3) := by decide +kernel
theorem dX9_segment_32 : decode cX9_segment 32 = .ok (.invokestatic 121, 3) := by decide +kernel
theorem dX9_segment_35 : decode cX9_segment 35 = .ok (.aload_n 0, 1) := by decide +kernel
theorem dX9_segment_36 : decode cX9_segment 36 = .ok (.getfield 10, 3) := by decide +kernel
theorem dX9_segment_39 : decode cX9_segment 39 = .ok (.getfield 100, 3) := by decide +kernel
theorem dX9_segment_42 : decode cX9_segment 42 = .ok (.iload_n 1, 1) := by decide +kernel
theorem dX9_segment_43 : decode cX9_segment 43 = .ok (.iload_n 2, 1) := by decide +kernel
theorem dX9_segment_44 : decode cX9_segment 44 = .ok (.aload_n 0, 1) := by decide +kernel
theorem dX9_segment_45 : decode cX9_segment 45 = .ok (.getfield 10, 3) := by decide +kernel
theorem dX9_segment_48 : decode cX9_segment 48 = .ok (.getfield 91, 3) := by decide +kernel
theorem dX9_segment_51 : decode cX9_segment 51 = .ok (.getfield 95, 3) := by decide +kernel
theorem dX9_segment_54 : decode cX9_segment 54 = .ok (.invokevirtual 162, 3) := by decide +kernel
theorem dX9_segment_57 : decode cX9_segment 57 = .ok (.ireturn, 1) := by decide +kernel
theorem dX9_fill_0 : decode cX9_fill 0 = .ok (.iload_n 1, 1) := by decide +kernel
theorem dX9_fill_1 : decode cX9_fill 1 = .ok (.ifCond .lt 21, 3) := by decide +kernel
theorem dX9_fill_4 : decode cX9_fill 4 = .ok (.iload_n 1, 1) := by decide +kernel
theorem dX9_fill_5 : decode cX9_fill 5 = .ok (.aload_n 0, 1) := by decide +kernel
theorem dX9_fill_6 : decode cX9_fill 6 = .ok (.getfield 10, 3) := by decide +kernel
theorem dX9_fill_9 : decode cX9_fill 9 = .ok (.getfield 100, 3) := by decide +kernel
theorem dX9_fill_12 : decode cX9_fill 12 = .ok (.invokevirtual 160, 3) := by decide +kernel
theorem dX9_fill_15 : decode cX9_fill 15 = .ok (.if_icmp .ge 7, 3) := by decide +kernel
theorem dX9_fill_18 : decode cX9_fill 18 = .ok (.iconst 1, 1) := by decide +kernel
theorem dX9_fill_19 : decode cX9_fill 19 = .ok (.goto 4, 3) := by decide +kernel
theorem dX9_fill_22 : decode cX9_fill 22 = .ok (.iconst 0, 1) := by decide +kernel
theorem dX9_fill_23 : decode cX9_fill 23 = .ok (.invokestatic 117, 3) := by decide +kernel
theorem dX9_fill_26 : decode cX9_fill 26 = .ok (.aload_n 0, 1) := by decide +kernel
theorem dX9_fill_27 : decode cX9_fill 27 = .ok (.getfield 10, 3) := by decide +kernel
theorem dX9_fill_30 : decode cX9_fill 30 = .ok (.getfield 100, 3) := by decide +kernel
theorem dX9_fill_33 : decode cX9_fill 33 = .ok (.iload_n 1, 1) := by decide +kernel
theorem dX9_fill_34 : decode cX9_fill 34 = .ok (.invokevirtual 165, 3) := by decide +kernel
theorem dX9_fill_37 : decode cX9_fill 37 = .ok (.freturn, 1) := by decide +kernel
theorem dX9_order_0 : decode cX9_order 0 = .ok (.aload_n 0, 1) := by decide +kernel
theorem dX9_order_1 : decode cX9_order 1 = .ok (.getfield 10, 3) := by decide +kernel
theorem dX9_order_4 : decode cX9_order 4 = .ok (.iload_n 1, 1) := by decide +kernel
theorem dX9_order_5 : decode cX9_order 5 = .ok (.invokevirtual 169, 3) := by decide +kernel
theorem dX9_order_8 : decode cX9_order 8 = .ok (.invokestatic 121, 3) := by decide +kernel
theorem dX9_order_11 : decode cX9_order 11 = .ok (.aload_n 0, 1) := by decide +kernel
theorem dX9_order_12 : decode cX9_order 12 = .ok (.getfield 10, 3) := by decide +kernel
theorem dX9_order_15 : decode cX9_order 15 = .ok (.iload_n 1, 1) := by decide +kernel
theorem dX9_order_16 : decode cX9_order 16 = .ok (.iload_n 2, 1) := by decide +kernel
theorem dX9_order_17 : decode cX9_order 17 = .ok (.invokevirtual 172, 3) := by decide +kernel
theorem dX9_order_20 : decode cX9_order 20 = .ok (.invokestatic 175, 3) := by decide +kernel
theorem dX9_order_23 : decode cX9_order 23 = .ok (.ireturn, 1) := by decide +kernel
theorem dX9_transaction_0 : decode cX9_transaction 0 = .ok (.iload_n 1, 1) := by decide +kernel
theorem dX9_transaction_1 : decode cX9_transaction 1 = .ok (.iconst 0, 1) := by decide +kernel
theorem dX9_transaction_2 : decode cX9_transaction 2 = .ok (.iconst 3, 1) := by decide +kernel
theorem dX9_transaction_3 : decode cX9_transaction 3 = .ok (.invokestatic 85, 3) := by decide +kernel
theorem dX9_transaction_6 : decode cX9_transaction 6 = .ok (.invokestatic 117, 3) := by decide +kernel
theorem dX9_transaction_9 : decode cX9_transaction 9 = .ok (.iload_n 2, 1) := by decide +kernel
theorem dX9_transaction_10 : decode cX9_transaction 10 = .ok (.iconst 0, 1) := by decide +kernel
theorem dX9_transaction_11 : decode cX9_transaction 11 = .ok (.iconst 2, 1) := by decide +kernel
theorem dX9_transaction_12 : decode cX9_transaction 12 = .ok (.invokestatic 85, 3) := by decide +kernel
theorem dX9_transaction_15 : decode cX9_transaction 15 = .ok (.invokestatic 121, 3) := by decide +kernel
theorem dX9_transaction_18 : decode cX9_transaction 18 = .ok (.aload_n 0, 1) := by decide +kernel
theorem dX9_transaction_19 : decode cX9_transaction 19 = .ok (.getfield 10, 3) := by decide +kernel
theorem dX9_transaction_22 : decode cX9_transaction 22 = .ok (.iload_n 1, 1) := by decide +kernel
theorem dX9_transaction_23 : decode cX9_transaction 23 = .ok (.iload_n 2, 1) := by decide +kernel
theorem dX9_transaction_24 : decode cX9_transaction 24 = .ok (.invokevirtual 178, 3) := by decide +kernel
theorem dX9_transaction_27 : decode cX9_transaction 27 = .ok (.ireturn, 1) := by decide +kernel
theorem dX9_block_0 : decode cX9_block 0 = .ok (.iload_n 1, 1) := by decide +kernel
theorem dX9_block_1 : decode cX9_block 1 = .ok (.iconst 0, 1) := by decide +kernel
theorem dX9_block_2 : decode cX9_block 2 = .ok (.bipush 7, 2) := by decide +kernel
theorem dX9_block_4 : decode cX9_block 4 = .ok (.invokestatic 85, 3) := by decide +kernel
theorem dX9_block_7 : decode cX9_block 7 = .ok (.ifCond .eq 16, 3) := by decide +kernel
theorem dX9_block_10 : decode cX9_block 10 = .ok (.iload_n 2, 1) := by decide +kernel
theorem dX9_block_11 : decode cX9_block 11 = .ok (.iconst 0, 1) := by decide +kernel
theorem dX9_block_12 : decode cX9_block 12 = .ok (.iconst 3, 1) := by decide +kernel
theorem dX9_block_13 : decode cX9_block 13 = .ok (.invokestatic 85, 3) := by decide +kernel
theorem dX9_block_16 : decode cX9_block 16 = .ok (.ifCond .eq 7, 3) := by decide +kernel
theorem dX9_block_19 : decode cX9_block 19 = .ok (.iconst 1, 1) := by decide +kernel
theorem dX9_block_20 : decode cX9_block 20 = .ok (.goto 4, 3) := by decide +kernel
theorem dX9_block_23 : decode cX9_block 23 = .ok (.iconst 0, 1) := by decide +kernel
theorem dX9_block_24 : decode cX9_block 24 = .ok (.invokestatic 117, 3) := by decide +kernel
theorem dX9_block_27 : decode cX9_block 27 = .ok (.aload_n 0, 1) := by decide +kernel
theorem dX9_block_28 : decode cX9_block 28 = .ok (.getfield 10, 3) := by decide +kernel
theorem dX9_block_31 : decode cX9_block 31 = .ok (.getfield 181, 3) := by decide +kernel
theorem dX9_block_34 : decode cX9_block 34 = .ok (.iload_n 1, 1) := by decide +kernel
theorem dX9_block_35 : decode cX9_block 35 = .ok (.iload_n 2, 1) := by decide +kernel
theorem dX9_block_36 : decode cX9_block 36 = .ok (.invokevirtual 185, 3) := by decide +kernel
theorem dX9_block_39 : decode cX9_block 39 = .ok (.ireturn, 1) := by decide +kernel
theorem dX9_blockAt_0 : decode cX9_blockAt 0 = .ok (.iload_n 2, 1) := by decide +kernel
theorem dX9_blockAt_1 : decode cX9_blockAt 1 = .ok (.iconst 0, 1) := by decide +kernel
theorem dX9_blockAt_2 : decode cX9_blockAt 2 = .ok (.bipush 7, 2) := by decide +kernel
theorem dX9_blockAt_4 : decode cX9_blockAt 4 = .ok (.invokestatic 85, 3) := by decide +kernel
theorem dX9_blockAt_7 : decode cX9_blockAt 7 = .ok (.ifCond .eq 16, 3) := by decide +kernel
theorem dX9_blockAt_10 : decode cX9_blockAt 10 = .ok (.iload_n 3, 1) := by decide +kernel
theorem dX9_blockAt_11 : decode cX9_blockAt 11 = .ok (.iconst 0, 1) := by decide +kernel
theorem dX9_blockAt_12 : decode cX9_blockAt 12 = .ok (.iconst 3, 1) := by decide +kernel
theorem dX9_blockAt_13 : decode cX9_blockAt 13 = .ok (.invokestatic 85, 3) := by decide +kernel
theorem dX9_blockAt_16 : decode cX9_blockAt 16 = .ok (.ifCond .eq 7, 3) := by decide +kernel
theorem dX9_blockAt_19 : decode cX9_blockAt 19 = .ok (.iconst 1, 1) := by decide +kernel
theorem dX9_blockAt_20 : decode cX9_blockAt 20 = .ok (.goto 4, 3) := by decide +kernel
theorem dX9_blockAt_23 : decode cX9_blockAt 23 = .ok (.iconst 0, 1) := by decide +kernel
theorem dX9_blockAt_24 : decode cX9_blockAt 24 = .ok (.invokestatic 117, 3) := by decide +kernel
theorem dX9_blockAt_27 : decode cX9_blockAt 27 = .ok (.aload_n 0, 1) := by decide +kernel
theorem dX9_blockAt_28 : decode cX9_blockAt 28 = .ok (.getfield 10, 3) := by decide +kernel
theorem dX9_blockAt_31 : decode cX9_blockAt 31 = .ok (.iload_n 1, 1) := by decide +kernel
theorem dX9_blockAt_32 : decode cX9_blockAt 32 = .ok (.invokevirtual 169, 3) := by decide +kernel
theorem dX9_blockAt_35 : decode cX9_blockAt 35 = .ok (.invokestatic 121, 3) := by decide +kernel
theorem dX9_blockAt_38 : decode cX9_blockAt 38 = .ok (.aload_n 0, 1) := by decide +kernel
theorem dX9_blockAt_39 : decode cX9_blockAt 39 = .ok (.getfield 10, 3) := by decide +kernel
theorem dX9_blockAt_42 : decode cX9_blockAt 42 = .ok (.aload_n 0, 1) := by decide +kernel
theorem dX9_blockAt_43 : decode cX9_blockAt 43 = .ok (.getfield 10, 3) := by decide +kernel
theorem dX9_blockAt_46 : decode cX9_blockAt 46 = .ok (.getfield 188, 3) := by decide +kernel
theorem dX9_blockAt_49 : decode cX9_blockAt 49 = .ok (.iload_n 1, 1) := by decide +kernel
theorem dX9_blockAt_50 : decode cX9_blockAt 50 = .ok (.invokevirtual 191, 3) := by decide +kernel
theorem dX9_blockAt_53 : decode cX9_blockAt 53 = .ok (.aload_n 0, 1) := by decide +kernel
theorem dX9_blockAt_54 : decode cX9_blockAt 54 = .ok (.getfield 10, 3) := by decide +kernel
theorem dX9_blockAt_57 : decode cX9_blockAt 57 = .ok (.getfield 188, 3) := by decide +kernel
theorem dX9_blockAt_60 : decode cX9_blockAt 60 = .ok (.iload_n 2, 1) := by decide +kernel
theorem dX9_blockAt_61 : decode cX9_blockAt 61 = .ok (.iload_n 3, 1) := by decide +kernel
theorem dX9_blockAt_62 : decode cX9_blockAt 62 = .ok (.invokevirtual 185, 3) := by decide +kernel
theorem dX9_blockAt_65 : decode cX9_blockAt 65 = .ok (.ireturn, 1) := by decide +kernel
theorem dX9_visibleAt_0 : decode cX9_visibleAt 0 = .ok (.iload_n 2, 1) := by decide +kernel
theorem dX9_visibleAt_1 : decode cX9_visibleAt 1 = .ok (.iconst 0, 1) := by decide +kernel
theorem dX9_visibleAt_2 : decode cX9_visibleAt 2 = .ok (.iconst 3, 1) := by decide +kernel
theorem dX9_visibleAt_3 : decode cX9_visibleAt 3 = .ok (.invokestatic 85, 3) := by decide +kernel
theorem dX9_visibleAt_6 : decode cX9_visibleAt 6 = .ok (.invokestatic 117, 3) := by decide +kernel
theorem dX9_visibleAt_9 : decode cX9_visibleAt 9 = .ok (.aload_n 0, 1) := by decide +kernel
theorem dX9_visibleAt_10 : decode cX9_visibleAt 10 = .ok (.getfield 10, 3) := by decide +kernel
theorem dX9_visibleAt_13 : decode cX9_visibleAt 13 = .ok (.iload_n 1, 1) := by decide +kernel
theorem dX9_visibleAt_14 : decode cX9_visibleAt 14 = .ok (.invokevirtual 169, 3) := by decide +kernel
theorem dX9_visibleAt_17 : decode cX9_visibleAt 17 = .ok (.invokestatic 121, 3) := by decide +kernel
theorem dX9_visibleAt_20 : decode cX9_visibleAt 20 = .ok (.aload_n 0, 1) := by decide +kernel
theorem dX9_visibleAt_21 : decode cX9_visibleAt 21 = .ok (.getfield 10, 3) := by decide +kernel
theorem dX9_visibleAt_24 : decode cX9_visibleAt 24 = .ok (.getfield 195, 3) := by decide +kernel
theorem dX9_visibleAt_27 : decode cX9_visibleAt 27 = .ok (.iload_n 2, 1) := by decide +kernel
theorem dX9_visibleAt_28 : decode cX9_visibleAt 28 = .ok (.iload_n 1, 1) := by decide +kernel
theorem dX9_visibleAt_29 : decode cX9_visibleAt 29 = .ok (.aload_n 0, 1) := by decide +kernel
theorem dX9_visibleAt_30 : decode cX9_visibleAt 30 = .ok (.getfield 10, 3) := by decide +kernel
theorem dX9_visibleAt_33 : decode cX9_visibleAt 33 = .ok (.getfield 91, 3) := by decide +kernel
theorem dX9_visibleAt_36 : decode cX9_visibleAt 36 = .ok (.invokevirtual 199, 3) := by decide +kernel
theorem dX9_visibleAt_39 : decode cX9_visibleAt 39 = .ok (.ireturn, 1) := by decide +kernel
theorem dX9_positionAt_0 : decode cX9_positionAt 0 = .ok (.aload_n 0, 1) := by decide +kernel
theorem dX9_positionAt_1 : decode cX9_positionAt 1 = .ok (.getfield 10, 3) := by decide +kernel
theorem dX9_positionAt_4 : decode cX9_positionAt 4 = .ok (.getfield 195, 3) := by decide +kernel
theorem dX9_positionAt_7 : decode cX9_positionAt 7 = .ok (.iload_n 2, 1) := by decide +kernel
theorem dX9_positionAt_8 : decode cX9_positionAt 8 = .ok (.invokevirtual 205, 3) := by decide +kernel
theorem dX9_positionAt_11 : decode cX9_positionAt 11 = .ok (.invokestatic 117, 3) := by decide +kernel
theorem dX9_positionAt_14 : decode cX9_positionAt 14 = .ok (.aload_n 0, 1) := by decide +kernel
theorem dX9_positionAt_15 : decode cX9_positionAt 15 = .ok (.getfield 10, 3) := by decide +kernel
theorem dX9_positionAt_18 : decode cX9_positionAt 18 = .ok (.iload_n 1, 1) := by decide +kernel
theorem dX9_positionAt_19 : decode cX9_positionAt 19 = .ok (.invokevirtual 169, 3) := by decide +kernel
theorem dX9_positionAt_22 : decode cX9_positionAt 22 = .ok (.invokestatic 121, 3) := by decide +kernel
theorem dX9_positionAt_25 : decode cX9_positionAt 25 = .ok (.aload_n 0, 1) := by decide +kernel
theorem dX9_positionAt_26 : decode cX9_positionAt 26 = .ok (.getfield 10, 3) := by decide +kernel
theorem dX9_positionAt_29 : decode cX9_positionAt 29 = .ok (.iload_n 1, 1) := by decide +kernel
theorem dX9_positionAt_30 : decode cX9_positionAt 30 = .ok (.iload_n 2, 1) := by decide +kernel
theorem dX9_positionAt_31 : decode cX9_positionAt 31 = .ok (.invokevirtual 208, 3) := by decide +kernel
theorem dX9_positionAt_34 : decode cX9_positionAt 34 = .ok (.ireturn, 1) := by decide +kernel
theorem dX9_visible_0 : decode cX9_visible 0 = .ok (.iload_n 1, 1) := by decide +kernel
theorem dX9_visible_1 : decode cX9_visible 1 = .ok (.iconst 0, 1) := by decide +kernel
theorem dX9_visible_2 : decode cX9_visible 2 = .ok (.iconst 3, 1) := by decide +kernel
theorem dX9_visible_3 : decode cX9_visible 3 = .ok (.invokestatic 85, 3) := by decide +kernel
theorem dX9_visible_6 : decode cX9_visible 6 = .ok (.invokestatic 117, 3) := by decide +kernel
theorem dX9_visible_9 : decode cX9_visible 9 = .ok (.aload_n 0, 1) := by decide +kernel
theorem dX9_visible_10 : decode cX9_visible 10 = .ok (.getfield 10, 3) := by decide +kernel
theorem dX9_visible_13 : decode cX9_visible 13 = .ok (.getfield 195, 3) := by decide +kernel
theorem dX9_visible_16 : decode cX9_visible 16 = .ok (.iload_n 1, 1) := by decide +kernel
theorem dX9_visible_17 : decode cX9_visible 17 = .ok (.iload_n 2, 1) := by decide +kernel
theorem dX9_visible_18 : decode cX9_visible 18 = .ok (.invokevirtual 211, 3) := by decide +kernel
theorem dX9_visible_21 : decode cX9_visible 21 = .ok (.istore_n 3, 1) := by decide +kernel
theorem dX9_visible_22 : decode cX9_visible 22 = .ok (.aload_n 0, 1) := by decide +kernel
theorem dX9_visible_23 : decode cX9_visible 23 = .ok (.getfield 10, 3) := by decide +kernel
theorem dX9_visible_26 : decode cX9_visible 26 = .ok (.iload_n 3, 1) := by decide +kernel
theorem dX9_visible_27 : decode cX9_visible 27 = .ok (.invokevirtual 128, 3) := by decide +kernel
theorem dX9_visible_30 : decode cX9_visible 30 = .ok (.ifCond .eq 7, 3) := by decide +kernel
theorem dX9_visible_33 : decode cX9_visible 33 = .ok (.iload_n 3, 1) := by decide +kernel
theorem dX9_visible_34 : decode cX9_visible 34 = .ok (.goto 4, 3) := by decide +kernel
theorem dX9_visible_37 : decode cX9_visible 37 = .ok (.iconst (-1), 1) := by decide +kernel
theorem dX9_visible_38 : decode cX9_visible 38 = .ok (.invokestatic 175, 3) := by decide +kernel
theorem dX9_visible_41 : decode cX9_visible 41 = .ok (.ireturn, 1) := by decide +kernel
theorem dX9_consumer_0 : decode cX9_consumer 0 = .ok (.aload_n 0, 1) := by decide +kernel
theorem dX9_consumer_1 : decode cX9_consumer 1 = .ok (.getfield 10, 3) := by decide +kernel
theorem dX9_consumer_4 : decode cX9_consumer 4 = .ok (.getfield 195, 3) := by decide +kernel
theorem dX9_consumer_7 : decode cX9_consumer 7 = .ok (.iload_n 1, 1) := by decide +kernel
theorem dX9_consumer_8 : decode cX9_consumer 8 = .ok (.invokevirtual 205, 3) := by decide +kernel
theorem dX9_consumer_11 : decode cX9_consumer 11 = .ok (.invokestatic 117, 3) := by decide +kernel
theorem dX9_consumer_14 : decode cX9_consumer 14 = .ok (.iload_n 2, 1) := by decide +kernel
theorem dX9_consumer_15 : decode cX9_consumer 15 = .ok (.iconst 0, 1) := by decide +kernel
theorem dX9_consumer_16 : decode cX9_consumer 16 = .ok (.iconst 5, 1) := by decide +kernel
theorem dX9_consumer_17 : decode cX9_consumer 17 = .ok (.invokestatic 85, 3) := by decide +kernel
theorem dX9_consumer_20 : decode cX9_consumer 20 = .ok (.invokestatic 121, 3) := by decide +kernel
theorem dX9_consumer_23 : decode cX9_consumer 23 = .ok (.aload_n 0, 1) := by decide +kernel
theorem dX9_consumer_24 : decode cX9_consumer 24 = .ok (.getfield 10, 3) := by decide +kernel
theorem dX9_consumer_27 : decode cX9_consumer 27 = .ok (.getfield 195, 3) := by decide +kernel
theorem dX9_consumer_30 : decode cX9_consumer 30 = .ok (.iload_n 1, 1) := by decide +kernel
theorem dX9_consumer_31 : decode cX9_consumer 31 = .ok (.iload_n 2, 1) := by decide +kernel
theorem dX9_consumer_32 : decode cX9_consumer 32 = .ok (.aload_n 0, 1) := by decide +kernel
theorem dX9_consumer_33 : decode cX9_consumer 33 = .ok (.getfield 10, 3) := by decide +kernel
theorem dX9_consumer_36 : decode cX9_consumer 36 = .ok (.getfield 91, 3) := by decide +kernel
theorem dX9_consumer_39 : decode cX9_consumer 39 = .ok (.invokevirtual 214, 3) := by decide +kernel
theorem dX9_consumer_42 : decode cX9_consumer 42 = .ok (.ireturn, 1) := by decide +kernel
theorem dX9_lag_0 : decode cX9_lag 0 = .ok (.aload_n 0, 1) := by decide +kernel
theorem dX9_lag_1 : decode cX9_lag 1 = .ok (.getfield 10, 3) := by decide +kernel
theorem dX9_lag_4 : decode cX9_lag 4 = .ok (.getfield 195, 3) := by decide +kernel
theorem dX9_lag_7 : decode cX9_lag 7 = .ok (.iload_n 1, 1) := by decide +kernel
theorem dX9_lag_8 : decode cX9_lag 8 = .ok (.invokevirtual 205, 3) := by decide +kernel
theorem dX9_lag_11 : decode cX9_lag 11 = .ok (.invokestatic 117, 3) := by decide +kernel
theorem dX9_lag_14 : decode cX9_lag 14 = .ok (.aload_n 0, 1) := by decide +kernel
theorem dX9_lag_15 : decode cX9_lag 15 = .ok (.getfield 10, 3) := by decide +kernel
theorem dX9_lag_18 : decode cX9_lag 18 = .ok (.getfield 195, 3) := by decide +kernel
theorem dX9_lag_21 : decode cX9_lag 21 = .ok (.iload_n 1, 1) := by decide +kernel
theorem dX9_lag_22 : decode cX9_lag 22 = .ok (.invokevirtual 216, 3) := by decide +kernel
theorem dX9_lag_25 : decode cX9_lag 25 = .ok (.freturn, 1) := by decide +kernel
theorem dX9_holder_0 : decode cX9_holder 0 = .ok (.aload_n 0, 1) := by decide +kernel
theorem dX9_holder_1 : decode cX9_holder 1 = .ok (.getfield 10, 3) := by decide +kernel
theorem dX9_holder_4 : decode cX9_holder 4 = .ok (.invokevirtual 219, 3) := by decide +kernel
theorem dX9_holder_7 : decode cX9_holder 7 = .ok (.ireturn, 1) := by decide +kernel
theorem dX9_slowest_0 : decode cX9_slowest 0 = .ok (.aload_n 0, 1) := by decide +kernel
theorem dX9_slowest_1 : decode cX9_slowest 1 = .ok (.getfield 10, 3) := by decide +kernel
theorem dX9_slowest_4 : decode cX9_slowest 4 = .ok (.getfield 195, 3) := by decide +kernel
theorem dX9_slowest_7 : decode cX9_slowest 7 = .ok (.aload_n 0, 1) := by decide +kernel
theorem dX9_slowest_8 : decode cX9_slowest 8 = .ok (.getfield 10, 3) := by decide +kernel
theorem dX9_slowest_11 : decode cX9_slowest 11 = .ok (.getfield 91, 3) := by decide +kernel
theorem dX9_slowest_14 : decode cX9_slowest 14 = .ok (.getfield 95, 3) := by decide +kernel
theorem dX9_slowest_17 : decode cX9_slowest 17 = .ok (.invokevirtual 222, 3) := by decide +kernel
theorem dX9_slowest_20 : decode cX9_slowest 20 = .ok (.invokestatic 175, 3) := by decide +kernel
theorem dX9_slowest_23 : decode cX9_slowest 23 = .ok (.ireturn, 1) := by decide +kernel
theorem dX9_wouldFree_0 : decode cX9_wouldFree 0 = .ok (.aload_n 0, 1) := by decide +kernel
theorem dX9_wouldFree_1 : decode cX9_wouldFree 1 = .ok (.getfield 10, 3) := by decide +kernel
theorem dX9_wouldFree_4 : decode cX9_wouldFree 4 = .ok (.getfield 195, 3) := by decide +kernel
theorem dX9_wouldFree_7 : decode cX9_wouldFree 7 = .ok (.iload_n 1, 1) := by decide +kernel
theorem dX9_wouldFree_8 : decode cX9_wouldFree 8 = .ok (.invokevirtual 205, 3) := by decide +kernel
theorem dX9_wouldFree_11 : decode cX9_wouldFree 11 = .ok (.invokestatic 117, 3) := by decide +kernel
theorem dX9_wouldFree_14 : decode cX9_wouldFree 14 = .ok (.aload_n 0, 1) := by decide +kernel
theorem dX9_wouldFree_15 : decode cX9_wouldFree 15 = .ok (.getfield 10, 3) := by decide +kernel
theorem dX9_wouldFree_18 : decode cX9_wouldFree 18 = .ok (.getfield 100, 3) := by decide +kernel
theorem dX9_wouldFree_21 : decode cX9_wouldFree 21 = .ok (.aload_n 0, 1) := by decide +kernel
theorem dX9_wouldFree_22 : decode cX9_wouldFree 22 = .ok (.getfield 10, 3) := by decide +kernel
theorem dX9_wouldFree_25 : decode cX9_wouldFree 25 = .ok (.iload_n 1, 1) := by decide +kernel
theorem dX9_wouldFree_26 : decode cX9_wouldFree 26 = .ok (.invokevirtual 225, 3) := by decide +kernel
theorem dX9_wouldFree_29 : decode cX9_wouldFree 29 = .ok (.invokevirtual 228, 3) := by decide +kernel
theorem dX9_wouldFree_32 : decode cX9_wouldFree 32 = .ok (.ireturn, 1) := by decide +kernel
theorem dX9_operate_0 : decode cX9_operate 0 = .ok (.aload_n 0, 1) := by decide +kernel
theorem dX9_operate_1 : decode cX9_operate 1 = .ok (.getfield 10, 3) := by decide +kernel
theorem dX9_operate_4 : decode cX9_operate 4 = .ok (.iload_n 1, 1) := by decide +kernel
theorem dX9_operate_5 : decode cX9_operate 5 = .ok (.iload_n 2, 1) := by decide +kernel
theorem dX9_operate_6 : decode cX9_operate 6 = .ok (.iload_n 3, 1) := by decide +kernel
theorem dX9_operate_7 : decode cX9_operate 7 = .ok (.iload 4, 2) := by decide +kernel
theorem dX9_operate_9 : decode cX9_operate 9 = .ok (.iload 5, 2) := by decide +kernel
theorem dX9_operate_11 : decode cX9_operate 11 = .ok (.invokevirtual 231, 3) := by decide +kernel
theorem dX9_operate_14 : decode cX9_operate 14 = .ok (.istore 6, 2) := by decide +kernel
theorem dX9_operate_16 : decode cX9_operate 16 = .ok (.iload 6, 2) := by decide +kernel
theorem dX9_operate_18 : decode cX9_operate 18 = .ok (.iconst 1, 1) := by decide +kernel
theorem dX9_operate_19 : decode cX9_operate 19 = .ok (.if_icmp .eq 7, 3) := by decide +kernel
theorem dX9_operate_22 : decode cX9_operate 22 = .ok (.iconst 1, 1) := by decide +kernel
theorem dX9_operate_23 : decode cX9_operate 23 = .ok (.goto 4, 3) := by decide +kernel
theorem dX9_operate_26 : decode cX9_operate 26 = .ok (.iconst 0, 1) := by decide +kernel
theorem dX9_operate_27 : decode cX9_operate 27 = .ok (.invokestatic 117, 3) := by decide +kernel
theorem dX9_operate_30 : decode cX9_operate 30 = .ok (.iload 6, 2) := by decide +kernel
theorem dX9_operate_32 : decode cX9_operate 32 = .ok (.iconst 2, 1) := by decide +kernel
theorem dX9_operate_33 : decode cX9_operate 33 = .ok (.if_icmp .eq 7, 3) := by decide +kernel
theorem dX9_operate_36 : decode cX9_operate 36 = .ok (.iconst 1, 1) := by decide +kernel
theorem dX9_operate_37 : decode cX9_operate 37 = .ok (.goto 4, 3) := by decide +kernel
theorem dX9_operate_40 : decode cX9_operate 40 = .ok (.iconst 0, 1) := by decide +kernel
theorem dX9_operate_41 : decode cX9_operate 41 = .ok (.invokestatic 121, 3) := by decide +kernel
theorem dX9_operate_44 : decode cX9_operate 44 = .ok (.iload 6, 2) := by decide +kernel
theorem dX9_operate_46 : decode cX9_operate 46 = .ok (.ifCond .eq 13, 3) := by decide +kernel
theorem dX9_operate_49 : decode cX9_operate 49 = .ok (.new 35, 3) := by decide +kernel
theorem dX9_operate_52 : decode cX9_operate 52 = .ok (.dup, 1) := by decide +kernel
theorem dX9_operate_53 : decode cX9_operate 53 = .ok (.ldc 234, 2) := by decide +kernel
theorem dX9_operate_55 : decode cX9_operate 55 = .ok (.invokespecial 39, 3) := by decide +kernel
theorem dX9_operate_58 : decode cX9_operate 58 = .ok (.athrow, 1) := by decide +kernel
theorem dX9_operate_59 : decode cX9_operate 59 = .ok (.aload_n 0, 1) := by decide +kernel
theorem dX9_operate_60 : decode cX9_operate 60 = .ok (.getfield 10, 3) := by decide +kernel
theorem dX9_operate_63 : decode cX9_operate 63 = .ok (.iload_n 1, 1) := by decide +kernel
theorem dX9_operate_64 : decode cX9_operate 64 = .ok (.iload_n 2, 1) := by decide +kernel
theorem dX9_operate_65 : decode cX9_operate 65 = .ok (.iload_n 3, 1) := by decide +kernel
theorem dX9_operate_66 : decode cX9_operate 66 = .ok (.iload 4, 2) := by decide +kernel
theorem dX9_operate_68 : decode cX9_operate 68 = .ok (.iload 5, 2) := by decide +kernel
theorem dX9_operate_70 : decode cX9_operate 70 = .ok (.invokevirtual 236, 3) := by decide +kernel
theorem dX9_operate_73 : decode cX9_operate 73 = .ok (.ireturn, 1) := by decide +kernel
theorem dX9_requireIndex_0 : decode cX9_requireIndex 0 = .ok (.iload_n 0, 1) := by decide +kernel
theorem dX9_requireIndex_1 : decode cX9_requireIndex 1 = .ok (.ifCond .ne 13, 3) := by decide +kernel
theorem dX9_requireIndex_4 : decode cX9_requireIndex 4 = .ok (.new 239, 3) := by decide +kernel
theorem dX9_requireIndex_7 : decode cX9_requireIndex 7 = .ok (.dup, 1) := by decide +kernel
theorem dX9_requireIndex_8 : decode cX9_requireIndex 8 = .ok (.ldc 241, 2) := by decide +kernel
theorem dX9_requireIndex_10 : decode cX9_requireIndex 10 = .ok (.invokespecial 243, 3) := by decide +kernel
theorem dX9_requireIndex_13 : decode cX9_requireIndex 13 = .ok (.athrow, 1) := by decide +kernel
theorem dX9_requireIndex_14 : decode cX9_requireIndex 14 = .ok (.return_, 1) := by decide +kernel
theorem dX9_requireArgument_0 : decode cX9_requireArgument 0 = .ok (.iload_n 0, 1) := by decide +kernel
theorem dX9_requireArgument_1 : decode cX9_requireArgument 1 = .ok (.ifCond .ne 13, 3) := by decide +kernel
theorem dX9_requireArgument_4 : decode cX9_requireArgument 4 = .ok (.new 46, 3) := by decide +kernel
theorem dX9_requireArgument_7 : decode cX9_requireArgument 7 = .ok (.dup, 1) := by decide +kernel
theorem dX9_requireArgument_8 : decode cX9_requireArgument 8 = .ok (.ldc 244, 2) := by decide +kernel
theorem dX9_requireArgument_10 : decode cX9_requireArgument 10 = .ok (.invokespecial 50, 3) := by decide +kernel
theorem dX9_requireArgument_13 : decode cX9_requireArgument 13 = .ok (.athrow, 1) := by decide +kernel
theorem dX9_requireArgument_14 : decode cX9_requireArgument 14 = .ok (.return_, 1) := by decide +kernel
theorem dX9_requireElement_0 : decode cX9_requireElement 0 = .ok (.iload_n 0, 1) := by decide +kernel
theorem dX9_requireElement_1 : decode cX9_requireElement 1 = .ok (.iconst (-1), 1) := by decide +kernel
theorem dX9_requireElement_2 : decode cX9_requireElement 2 = .ok (.if_icmp .ne 13, 3) := by decide +kernel
theorem dX9_requireElement_5 : decode cX9_requireElement 5 = .ok (.new 246, 3) := by decide +kernel
theorem dX9_requireElement_8 : decode cX9_requireElement 8 = .ok (.dup, 1) := by decide +kernel
theorem dX9_requireElement_9 : decode cX9_requireElement 9 = .ok (.ldc 248, 2) := by decide +kernel
theorem dX9_requireElement_11 : decode cX9_requireElement 11 = .ok (.invokespecial 250, 3) := by decide +kernel
theorem dX9_requireElement_14 : decode cX9_requireElement 14 = .ok (.athrow, 1) := by decide +kernel
theorem dX9_requireElement_15 : decode cX9_requireElement 15 = .ok (.iload_n 0, 1) := by decide +kernel
theorem dX9_requireElement_16 : decode cX9_requireElement 16 = .ok (.ireturn, 1) := by decide +kernel
theorem dX9_within_0 : decode cX9_within 0 = .ok (.iload_n 0, 1) := by decide +kernel
theorem dX9_within_1 : decode cX9_within 1 = .ok (.iload_n 1, 1) := by decide +kernel
theorem dX9_within_2 : decode cX9_within 2 = .ok (.if_icmp .lt 12, 3) := by decide +kernel
theorem dX9_within_5 : decode cX9_within 5 = .ok (.iload_n 0, 1) := by decide +kernel
theorem dX9_within_6 : decode cX9_within 6 = .ok (.iload_n 2, 1) := by decide +kernel
theorem dX9_within_7 : decode cX9_within 7 = .ok (.if_icmp .gt 7, 3) := by decide +kernel
theorem dX9_within_10 : decode cX9_within 10 = .ok (.iconst 1, 1) := by decide +kernel
theorem dX9_within_11 : decode cX9_within 11 = .ok (.goto 4, 3) := by decide +kernel
theorem dX9_within_14 : decode cX9_within 14 = .ok (.iconst 0, 1) := by decide +kernel
theorem dX9_within_15 : decode cX9_within 15 = .ok (.ireturn, 1) := by decide +kernel
theorem dX10_thrown_0 : decode cX10_thrown 0 = .ok (.aload_n 0, 1) := by decide +kernel
theorem dX10_thrown_1 : decode cX10_thrown 1 = .ok (.getfield 1, 3) := by decide +kernel
theorem dX10_thrown_4 : decode cX10_thrown 4 = .ok (.ireturn, 1) := by decide +kernel
theorem dX10_inRange_0 : decode cX10_inRange 0 = .ok (.iload_n 0, 1) := by decide +kernel
theorem dX10_inRange_1 : decode cX10_inRange 1 = .ok (.iload_n 1, 1) := by decide +kernel
theorem dX10_inRange_2 : decode cX10_inRange 2 = .ok (.if_icmp .lt 12, 3) := by decide +kernel
theorem dX10_inRange_5 : decode cX10_inRange 5 = .ok (.iload_n 0, 1) := by decide +kernel
theorem dX10_inRange_6 : decode cX10_inRange 6 = .ok (.iload_n 2, 1) := by decide +kernel
theorem dX10_inRange_7 : decode cX10_inRange 7 = .ok (.if_icmp .gt 7, 3) := by decide +kernel
theorem dX10_inRange_10 : decode cX10_inRange 10 = .ok (.iconst 1, 1) := by decide +kernel
theorem dX10_inRange_11 : decode cX10_inRange 11 = .ok (.goto 4, 3) := by decide +kernel
theorem dX10_inRange_14 : decode cX10_inRange 14 = .ok (.iconst 0, 1) := by decide +kernel
theorem dX10_inRange_15 : decode cX10_inRange 15 = .ok (.ireturn, 1) := by decide +kernel
theorem dX10_fails_0 : decode cX10_fails 0 = .ok (.aload_n 0, 1) := by decide +kernel
theorem dX10_fails_1 : decode cX10_fails 1 = .ok (.iload_n 1, 1) := by decide +kernel
theorem dX10_fails_2 : decode cX10_fails 2 = .ok (.ifCond .eq 7, 3) := by decide +kernel
theorem dX10_fails_5 : decode cX10_fails 5 = .ok (.iconst 1, 1) := by decide +kernel
theorem dX10_fails_6 : decode cX10_fails 6 = .ok (.goto 20, 3) := by decide +kernel
theorem dX10_fails_9 : decode cX10_fails 9 = .ok (.iload_n 2, 1) := by decide +kernel
theorem dX10_fails_10 : decode cX10_fails 10 = .ok (.ifCond .eq 7, 3) := by decide +kernel
theorem dX10_fails_13 : decode cX10_fails 13 = .ok (.iconst 2, 1) := by decide +kernel
theorem dX10_fails_14 : decode cX10_fails 14 = .ok (.goto 12, 3) := by decide +kernel
theorem dX10_fails_17 : decode cX10_fails 17 = .ok (.iload_n 3, 1) := by decide +kernel
theorem dX10_fails_18 : decode cX10_fails 18 = .ok (.ifCond .eq 7, 3) := by decide +kernel
theorem dX10_fails_21 : decode cX10_fails 21 = .ok (.iconst 3, 1) := by decide +kernel
theorem dX10_fails_22 : decode cX10_fails 22 = .ok (.goto 4, 3) := by decide +kernel
theorem dX10_fails_25 : decode cX10_fails 25 = .ok (.iconst 0, 1) := by decide +kernel
theorem dX10_fails_26 : decode cX10_fails 26 = .ok (.putfield 1, 3) := by decide +kernel
theorem dX10_fails_29 : decode cX10_fails 29 = .ok (.aload_n 0, 1) := by decide +kernel
theorem dX10_fails_30 : decode cX10_fails 30 = .ok (.getfield 1, 3) := by decide +kernel
theorem dX10_fails_33 : decode cX10_fails 33 = .ok (.ifCond .le 7, 3) := by decide +kernel
theorem dX10_fails_36 : decode cX10_fails 36 = .ok (.iconst 1, 1) := by decide +kernel
theorem dX10_fails_37 : decode cX10_fails 37 = .ok (.goto 4, 3) := by decide +kernel
theorem dX10_fails_40 : decode cX10_fails 40 = .ok (.iconst 0, 1) := by decide +kernel
theorem dX10_fails_41 : decode cX10_fails 41 = .ok (.ireturn, 1) := by decide +kernel
theorem dX10_lesser_0 : decode cX10_lesser 0 = .ok (.iload_n 0, 1) := by decide +kernel
theorem dX10_lesser_1 : decode cX10_lesser 1 = .ok (.iload_n 1, 1) := by decide +kernel
theorem dX10_lesser_2 : decode cX10_lesser 2 = .ok (.if_icmp .ge 7, 3) := by decide +kernel
theorem dX10_lesser_5 : decode cX10_lesser 5 = .ok (.iload_n 0, 1) := by decide +kernel
theorem dX10_lesser_6 : decode cX10_lesser 6 = .ok (.goto 4, 3) := by decide +kernel
theorem dX10_lesser_9 : decode cX10_lesser 9 = .ok (.iload_n 1, 1) := by decide +kernel
theorem dX10_lesser_10 : decode cX10_lesser 10 = .ok (.ireturn, 1) := by decide +kernel
theorem dX10_appendWord_0 : decode cX10_appendWord 0 = .ok (.bipush 24, 2) := by decide +kernel
theorem dX10_appendWord_2 : decode cX10_appendWord 2 = .ok (.istore_n 2, 1) := by decide +kernel
theorem dX10_appendWord_3 : decode cX10_appendWord 3 = .ok (.iload_n 2, 1) := by decide +kernel
theorem dX10_appendWord_4 : decode cX10_appendWord 4 = .ok (.ifCond .lt 35, 3) := by decide +kernel
theorem dX10_appendWord_7 : decode cX10_appendWord 7 = .ok (.aload_n 0, 1) := by decide +kernel
theorem dX10_appendWord_8 : decode cX10_appendWord 8 = .ok (.getfield 7, 3) := by decide +kernel
theorem dX10_appendWord_11 : decode cX10_appendWord 11 = .ok (.aload_n 0, 1) := by decide +kernel
theorem dX10_appendWord_12 : decode cX10_appendWord 12 = .ok (.getfield 11, 3) := by decide +kernel
theorem dX10_appendWord_15 : decode cX10_appendWord 15 = .ok (.iload_n 1, 1) := by decide +kernel
theorem dX10_appendWord_16 : decode cX10_appendWord 16 = .ok (.iload_n 2, 1) := by decide +kernel
theorem dX10_appendWord_17 : decode cX10_appendWord 17 = .ok (.ishr, 1) := by decide +kernel
theorem dX10_appendWord_18 : decode cX10_appendWord 18 = .ok (.sipush 255, 3) := by decide +kernel
theorem dX10_appendWord_21 : decode cX10_appendWord 21 = .ok (.iand, 1) := by decide +kernel
theorem dX10_appendWord_22 : decode cX10_appendWord 22 = .ok (.iastore, 1) := by decide +kernel
theorem dX10_appendWord_23 : decode cX10_appendWord 23 = .ok (.aload_n 0, 1) := by decide +kernel
theorem dX10_appendWord_24 : decode cX10_appendWord 24 = .ok (.dup, 1) := by decide +kernel
theorem dX10_appendWord_25 : decode cX10_appendWord 25 = .ok (.getfield 11, 3) := by decide +kernel
theorem dX10_appendWord_28 : decode cX10_appendWord 28 = .ok (.iconst 1, 1) := by decide +kernel
theorem dX10_appendWord_29 : decode cX10_appendWord 29 = .ok (.iadd, 1) := by decide +kernel
theorem dX10_appendWord_30 : decode cX10_appendWord 30 = .ok (.putfield 11, 3) := by decide +kernel
theorem dX10_appendWord_33 : decode cX10_appendWord 33 = .ok (.iinc 2 (-8), 3) := by decide +kernel
theorem dX10_appendWord_36 : decode cX10_appendWord 36 = .ok (.goto (-33), 3) := by decide +kernel
theorem dX10_appendWord_39 : decode cX10_appendWord 39 = .ok (.return_, 1) := by decide +kernel
theorem dX10_append_0 : decode cX10_append 0 = .ok (.aload_n 0, 1) := by decide +kernel
theorem dX10_append_1 : decode cX10_append 1 = .ok (.aload_n 0, 1) := by decide +kernel
theorem dX10_append_2 : decode cX10_append 2 = .ok (.getfield 11, 3) := by decide +kernel
theorem dX10_append_5 : decode cX10_append 5 = .ok (.bipush 20, 2) := by decide +kernel
theorem dX10_append_7 : decode cX10_append 7 = .ok (.iadd, 1) := by decide +kernel
theorem dX10_append_8 : decode cX10_append 8 = .ok (.sipush 900, 3) := by decide +kernel
theorem dX10_append_11 : decode cX10_append 11 = .ok (.if_icmp .le 7, 3) := by decide +kernel
theorem dX10_append_14 : decode cX10_append 14 = .ok (.iconst 1, 1) := by decide +kernel
theorem dX10_append_15 : decode cX10_append 15 = .ok (.goto 4, 3) := by decide +kernel
theorem dX10_append_18 : decode cX10_append 18 = .ok (.iconst 0, 1) := by decide +kernel
theorem dX10_append_19 : decode cX10_append 19 = .ok (.iconst 0, 1) := by decide +kernel
theorem dX10_append_20 : decode cX10_append 20 = .ok (.iconst 0, 1) := by decide +kernel
theorem dX10_append_21 : decode cX10_append 21 = .ok (.invokevirtual 14, 3) := by decide +kernel
theorem dX10_append_24 : decode cX10_append 24 = .ok (.ifCond .eq 5, 3) := by decide +kernel
theorem dX10_append_27 : decode cX10_append 27 = .ok (.iconst 0, 1) := by decide +kernel
theorem dX10_append_28 : decode cX10_append 28 = .ok (.ireturn, 1) := by decide +kernel
theorem dX10_append_29 : decode cX10_append 29 = .ok (.aload_n 0, 1) := by decide +kernel
theorem dX10_append_30 : decode cX10_append 30 = .ok (.iload_n 1, 1) := by decide +kernel
theorem dX10_append_31 : decode cX10_append 31 = .ok (.invokevirtual 18, 3) := by decide +kernel
theorem dX10_append_34 : decode cX10_append 34 = .ok (.aload_n 0, 1) := by decide +kernel
theorem dX10_append_35 : decode cX10_append 35 = .ok (.iload_n 2, 1) := by decide +kernel
theorem dX10_append_36 : decode cX10_append 36 = .ok (.invokevirtual 18, 3) := by decide +kernel
theorem dX10_append_39 : decode cX10_append 39 = .ok (.aload_n 0, 1) := by decide +kernel
theorem dX10_append_40 : decode cX10_append 40 = .ok (.iload_n 3, 1) := by decide +kernel
theorem dX10_append_41 : decode cX10_append 41 = .ok (.invokevirtual 18, 3) := by decide +kernel
theorem dX10_append_44 : decode cX10_append 44 = .ok (.aload_n 0, 1) := by decide +kernel
theorem dX10_append_45 : decode cX10_append 45 = .ok (.iload 4, 2) := by decide +kernel
theorem dX10_append_47 : decode cX10_append 47 = .ok (.invokevirtual 18, 3) := by decide +kernel
theorem dX10_append_50 : decode cX10_append 50 = .ok (.aload_n 0, 1) := by decide +kernel
theorem dX10_append_51 : decode cX10_append 51 = .ok (.iload 5, 2) := by decide +kernel
theorem dX10_append_53 : decode cX10_append 53 = .ok (.invokevirtual 18, 3) := by decide +kernel
theorem dX10_append_56 : decode cX10_append 56 = .ok (.aload_n 0, 1) := by decide +kernel
theorem dX10_append_57 : decode cX10_append 57 = .ok (.getfield 11, 3) := by decide +kernel
theorem dX10_append_60 : decode cX10_append 60 = .ok (.ireturn, 1) := by decide +kernel
theorem dX10_truncate_0 : decode cX10_truncate 0 = .ok (.aload_n 0, 1) := by decide +kernel
theorem dX10_truncate_1 : decode cX10_truncate 1 = .ok (.iload_n 1, 1) := by decide +kernel
theorem dX10_truncate_2 : decode cX10_truncate 2 = .ok (.iconst 0, 1) := by decide +kernel
theorem dX10_truncate_3 : decode cX10_truncate 3 = .ok (.aload_n 0, 1) := by decide +kernel
theorem dX10_truncate_4 : decode cX10_truncate 4 = .ok (.getfield 11, 3) := by decide +kernel
theorem dX10_truncate_7 : decode cX10_truncate 7 = .ok (.invokestatic 22, 3) := by decide +kernel
theorem dX10_truncate_10 : decode cX10_truncate 10 = .ok (.ifCond .ne 7, 3) := by decide +kernel
theorem dX10_truncate_13 : decode cX10_truncate 13 = .ok (.iconst 1, 1) := by decide +kernel
theorem dX10_truncate_14 : decode cX10_truncate 14 = .ok (.goto 4, 3) := by decide +kernel
theorem dX10_truncate_17 : decode cX10_truncate 17 = .ok (.iconst 0, 1) := by decide +kernel
theorem dX10_truncate_18 : decode cX10_truncate 18 = .ok (.iconst 0, 1) := by decide +kernel
theorem dX10_truncate_19 : decode cX10_truncate 19 = .ok (.iconst 0, 1) := by decide +kernel
theorem dX10_truncate_20 : decode cX10_truncate 20 = .ok (.invokevirtual 14, 3) := by decide +kernel
theorem dX10_truncate_23 : decode cX10_truncate 23 = .ok (.ifCond .eq 5, 3) := by decide +kernel
theorem dX10_truncate_26 : decode cX10_truncate 26 = .ok (.iconst 0, 1) := by decide +kernel
theorem dX10_truncate_27 : decode cX10_truncate 27 = .ok (.ireturn, 1) := by decide +kernel
theorem dX10_truncate_28 : decode cX10_truncate 28 = .ok (.aload_n 0, 1) := by decide +kernel
theorem dX10_truncate_29 : decode cX10_truncate 29 = .ok (.iload_n 1, 1) := by decide +kernel
theorem dX10_truncate_30 : decode cX10_truncate 30 = .ok (.putfield 11, 3) := by decide +kernel
theorem dX10_truncate_33 : decode cX10_truncate 33 = .ok (.iload_n 1, 1) := by decide +kernel
theorem dX10_truncate_34 : decode cX10_truncate 34 = .ok (.ireturn, 1) := by decide +kernel
theorem dX10_init_0 : decode cX10_init 0 = .ok (.aload_n 0, 1) := by decide +kernel
theorem dX10_init_1 : decode cX10_init 1 = .ok (.invokespecial 26, 3) := by decide +kernel
theorem dX10_init_4 : decode cX10_init 4 = .ok (.aload_n 0, 1) := by decide +kernel
theorem dX10_init_5 : decode cX10_init 5 = .ok (.iconst 0, 1) := by decide +kernel
theorem dX10_init_6 : decode cX10_init 6 = .ok (.putfield 1, 3) := by decide +kernel
theorem dX10_init_9 : decode cX10_init 9 = .ok (.aload_n 0, 1) := by decide +kernel
theorem dX10_init_10 : decode cX10_init 10 = .ok (.sipush 900, 3) := by decide +kernel
theorem dX10_init_13 : decode cX10_init 13 = .ok (.newarray .int, 2) := by decide +kernel
theorem dX10_init_15 : decode cX10_init 15 = .ok (.putfield 7, 3) := by decide +kernel
theorem dX10_init_18 : decode cX10_init 18 = .ok (.aload_n 0, 1) := by decide +kernel
theorem dX10_init_19 : decode cX10_init 19 = .ok (.iconst 0, 1) := by decide +kernel
theorem dX10_init_20 : decode cX10_init 20 = .ok (.putfield 11, 3) := by decide +kernel
theorem dX10_init_23 : decode cX10_init 23 = .ok (.aload_n 0, 1) := by decide +kernel
theorem dX10_init_24 : decode cX10_init 24 = .ok (.bipush 100, 2) := by decide +kernel
theorem dX10_init_26 : decode cX10_init 26 = .ok (.putfield 32, 3) := by decide +kernel
theorem dX10_init_29 : decode cX10_init 29 = .ok (.aload_n 0, 1) := by decide +kernel
theorem dX10_init_30 : decode cX10_init 30 = .ok (.sipush 300, 3) := by decide +kernel
theorem dX10_init_33 : decode cX10_init 33 = .ok (.putfield 35, 3) := by decide +kernel
theorem dX10_init_36 : decode cX10_init 36 = .ok (.aload_n 0, 1) := by decide +kernel
theorem dX10_init_37 : decode cX10_init 37 = .ok (.bipush 20, 2) := by decide +kernel
theorem dX10_init_39 : decode cX10_init 39 = .ok (.putfield 38, 3) := by decide +kernel
theorem dX10_init_42 : decode cX10_init 42 = .ok (.aload_n 0, 1) := by decide +kernel
theorem dX10_init_43 : decode cX10_init 43 = .ok (.sipush 400, 3) := by decide +kernel
theorem dX10_init_46 : decode cX10_init 46 = .ok (.newarray .int, 2) := by decide +kernel
theorem dX10_init_48 : decode cX10_init 48 = .ok (.putfield 41, 3) := by decide +kernel
theorem dX10_init_51 : decode cX10_init 51 = .ok (.aload_n 0, 1) := by decide +kernel
theorem dX10_init_52 : decode cX10_init 52 = .ok (.sipush 400, 3) := by decide +kernel
theorem dX10_init_55 : decode cX10_init 55 = .ok (.newarray .int, 2) := by decide +kernel
theorem dX10_init_57 : decode cX10_init 57 = .ok (.putfield 44, 3) := by decide +kernel
theorem dX10_init_60 : decode cX10_init 60 = .ok (.aload_n 0, 1) := by decide +kernel
theorem dX10_init_61 : decode cX10_init 61 = .ok (.sipush 400, 3) := by decide +kernel
theorem dX10_init_64 : decode cX10_init 64 = .ok (.newarray .int, 2) := by decide +kernel
theorem dX10_init_66 : decode cX10_init 66 = .ok (.putfield 47, 3) := by decide +kernel
theorem dX10_init_69 : decode cX10_init 69 = .ok (.aload_n 0, 1) := by decide +kernel
theorem dX10_init_70 : decode cX10_init 70 = .ok (.sipush 400, 3) := by decide +kernel
theorem dX10_init_73 : decode cX10_init 73 = .ok (.newarray .int, 2) := by decide +kernel
theorem dX10_init_75 : decode cX10_init 75 = .ok (.putfield 50, 3) := by decide +kernel
theorem dX10_init_78 : decode cX10_init 78 = .ok (.aload_n 0, 1) := by decide +kernel
theorem dX10_init_79 : decode cX10_init 79 = .ok (.sipush 400, 3) := by decide +kernel
theorem dX10_init_82 : decode cX10_init 82 = .ok (.newarray .int, 2) := by decide +kernel
theorem dX10_init_84 : decode cX10_init 84 = .ok (.putfield 53, 3) := by decide +kernel
theorem dX10_init_87 : decode cX10_init 87 = .ok (.aload_n 0, 1) := by decide +kernel
theorem dX10_init_88 : decode cX10_init 88 = .ok (.sipush 400, 3) := by decide +kernel
theorem dX10_init_91 : decode cX10_init 91 = .ok (.newarray .int, 2) := by decide +kernel
theorem dX10_init_93 : decode cX10_init 93 = .ok (.putfield 56, 3) := by decide +kernel
theorem dX10_init_96 : decode cX10_init 96 = .ok (.aload_n 0, 1) := by decide +kernel
theorem dX10_init_97 : decode cX10_init 97 = .ok (.sipush 400, 3) := by decide +kernel
theorem dX10_init_100 : decode cX10_init 100 = .ok (.newarray .int, 2) := by decide +kernel
theorem dX10_init_102 : decode cX10_init 102 = .ok (.putfield 59, 3) := by decide +kernel
theorem dX10_init_105 : decode cX10_init 105 = .ok (.aload_n 0, 1) := by decide +kernel
theorem dX10_init_106 : decode cX10_init 106 = .ok (.sipush 400, 3) := by decide +kernel
theorem dX10_init_109 : decode cX10_init 109 = .ok (.newarray .int, 2) := by decide +kernel
theorem dX10_init_111 : decode cX10_init 111 = .ok (.putfield 62, 3) := by decide +kernel
theorem dX10_init_114 : decode cX10_init 114 = .ok (.aload_n 0, 1) := by decide +kernel
theorem dX10_init_115 : decode cX10_init 115 = .ok (.sipush 400, 3) := by decide +kernel
theorem dX10_init_118 : decode cX10_init 118 = .ok (.newarray .boolean, 2) := by decide +kernel
theorem dX10_init_120 : decode cX10_init 120 = .ok (.putfield 65, 3) := by decide +kernel
theorem dX10_init_123 : decode cX10_init 123 = .ok (.aload_n 0, 1) := by decide +kernel
theorem dX10_init_124 : decode cX10_init 124 = .ok (.iconst 0, 1) := by decide +kernel
theorem dX10_init_125 : decode cX10_init 125 = .ok (.putfield 69, 3) := by decide +kernel
theorem dX10_init_128 : decode cX10_init 128 = .ok (.aload_n 0, 1) := by decide +kernel
theorem dX10_init_129 : decode cX10_init 129 = .ok (.iconst 0, 1) := by decide +kernel
theorem dX10_init_130 : decode cX10_init 130 = .ok (.putfield 72, 3) := by decide +kernel
theorem dX10_init_133 : decode cX10_init 133 = .ok (.aload_n 0, 1) := by decide +kernel
theorem dX10_init_134 : decode cX10_init 134 = .ok (.sipush 401, 3) := by decide +kernel
theorem dX10_init_137 : decode cX10_init 137 = .ok (.newarray .int, 2) := by decide +kernel
theorem dX10_init_139 : decode cX10_init 139 = .ok (.putfield 75, 3) := by decide +kernel
theorem dX10_init_142 : decode cX10_init 142 = .ok (.aload_n 0, 1) := by decide +kernel
theorem dX10_init_143 : decode cX10_init 143 = .ok (.sipush 401, 3) := by decide +kernel
theorem dX10_init_146 : decode cX10_init 146 = .ok (.newarray .int, 2) := by decide +kernel
theorem dX10_init_148 : decode cX10_init 148 = .ok (.putfield 78, 3) := by decide +kernel
theorem dX10_init_151 : decode cX10_init 151 = .ok (.aload_n 0, 1) := by decide +kernel
theorem dX10_init_152 : decode cX10_init 152 = .ok (.iconst 1, 1) := by decide +kernel
theorem dX10_init_153 : decode cX10_init 153 = .ok (.putfield 81, 3) := by decide +kernel
theorem dX10_init_156 : decode cX10_init 156 = .ok (.aload_n 0, 1) := by decide +kernel
theorem dX10_init_157 : decode cX10_init 157 = .ok (.iconst 0, 1) := by decide +kernel
theorem dX10_init_158 : decode cX10_init 158 = .ok (.putfield 84, 3) := by decide +kernel
theorem dX10_init_161 : decode cX10_init 161 = .ok (.aload_n 0, 1) := by decide +kernel
theorem dX10_init_162 : decode cX10_init 162 = .ok (.iconst 4, 1) := by decide +kernel
theorem dX10_init_163 : decode cX10_init 163 = .ok (.newarray .int, 2) := by decide +kernel
theorem dX10_init_165 : decode cX10_init 165 = .ok (.dup, 1) := by decide +kernel
theorem dX10_init_166 : decode cX10_init 166 = .ok (.iconst 0, 1) := by decide +kernel
theorem dX10_init_167 : decode cX10_init 167 = .ok (.iconst (-1), 1) := by decide +kernel
theorem dX10_init_168 : decode cX10_init 168 = .ok (.iastore, 1) := by decide +kernel
theorem dX10_init_169 : decode cX10_init 169 = .ok (.dup, 1) := by decide +kernel
theorem dX10_init_170 : decode cX10_init 170 = .ok (.iconst 1, 1) := by decide +kernel
theorem dX10_init_171 : decode cX10_init 171 = .ok (.iconst (-1), 1) := by decide +kernel
theorem dX10_init_172 : decode cX10_init 172 = .ok (.iastore, 1) := by decide +kernel
theorem dX10_init_173 : decode cX10_init 173 = .ok (.dup, 1) := by decide +kernel
theorem dX10_init_174 : decode cX10_init 174 = .ok (.iconst 2, 1) := by decide +kernel
theorem dX10_init_175 : decode cX10_init 175 = .ok (.iconst (-1), 1) := by decide +kernel
theorem dX10_init_176 : decode cX10_init 176 = .ok (.iastore, 1) := by decide +kernel
theorem dX10_init_177 : decode cX10_init 177 = .ok (.dup, 1) := by decide +kernel
theorem dX10_init_178 : decode cX10_init 178 = .ok (.iconst 3, 1) := by decide +kernel
theorem dX10_init_179 : decode cX10_init 179 = .ok (.iconst (-1), 1) := by decide +kernel
theorem dX10_init_180 : decode cX10_init 180 = .ok (.iastore, 1) := by decide +kernel
theorem dX10_init_181 : decode cX10_init 181 = .ok (.putfield 87, 3) := by decide +kernel
theorem dX10_init_184 : decode cX10_init 184 = .ok (.aload_n 0, 1) := by decide +kernel
theorem dX10_init_185 : decode cX10_init 185 = .ok (.sipush 1600, 3) := by decide +kernel
theorem dX10_init_188 : decode cX10_init 188 = .ok (.newarray .int, 2) := by decide +kernel
theorem dX10_init_190 : decode cX10_init 190 = .ok (.putfield 90, 3) := by decide +kernel
theorem dX10_init_193 : decode cX10_init 193 = .ok (.aload_n 0, 1) := by decide +kernel
theorem dX10_init_194 : decode cX10_init 194 = .ok (.iconst 4, 1) := by decide +kernel
theorem dX10_init_195 : decode cX10_init 195 = .ok (.newarray .int, 2) := by decide +kernel
theorem dX10_init_197 : decode cX10_init 197 = .ok (.putfield 93, 3) := by decide +kernel
theorem dX10_init_200 : decode cX10_init 200 = .ok (.aload_n 0, 1) := by decide +kernel
theorem dX10_init_201 : decode cX10_init 201 = .ok (.bipush 6, 2) := by decide +kernel
theorem dX10_init_203 : decode cX10_init 203 = .ok (.newarray .int, 2) := by decide +kernel
theorem dX10_init_205 : decode cX10_init 205 = .ok (.putfield 96, 3) := by decide +kernel
theorem dX10_init_208 : decode cX10_init 208 = .ok (.aload_n 0, 1) := by decide +kernel
theorem dX10_init_209 : decode cX10_init 209 = .ok (.bipush 6, 2) := by decide +kernel
theorem dX10_init_211 : decode cX10_init 211 = .ok (.newarray .int, 2) := by decide +kernel
theorem dX10_init_213 : decode cX10_init 213 = .ok (.putfield 99, 3) := by decide +kernel
theorem dX10_init_216 : decode cX10_init 216 = .ok (.aload_n 0, 1) := by decide +kernel
theorem dX10_init_217 : decode cX10_init 217 = .ok (.sipush 2400, 3) := by decide +kernel
theorem dX10_init_220 : decode cX10_init 220 = .ok (.newarray .boolean, 2) := by decide +kernel
theorem dX10_init_222 : decode cX10_init 222 = .ok (.putfield 102, 3) := by decide +kernel
theorem dX10_init_225 : decode cX10_init 225 = .ok (.aload_n 0, 1) := by decide +kernel
theorem dX10_init_226 : decode cX10_init 226 = .ok (.iconst 0, 1) := by decide +kernel
theorem dX10_init_227 : decode cX10_init 227 = .ok (.putfield 105, 3) := by decide +kernel
theorem dX10_init_230 : decode cX10_init 230 = .ok (.aload_n 0, 1) := by decide +kernel
theorem dX10_init_231 : decode cX10_init 231 = .ok (.iconst 0, 1) := by decide +kernel
theorem dX10_init_232 : decode cX10_init 232 = .ok (.putfield 108, 3) := by decide +kernel
theorem dX10_init_235 : decode cX10_init 235 = .ok (.aload_n 0, 1) := by decide +kernel
theorem dX10_init_236 : decode cX10_init 236 = .ok (.iconst 0, 1) := by decide +kernel
theorem dX10_init_237 : decode cX10_init 237 = .ok (.putfield 111, 3) := by decide +kernel
theorem dX10_init_240 : decode cX10_init 240 = .ok (.aload_n 0, 1) := by decide +kernel
theorem dX10_init_241 : decode cX10_init 241 = .ok (.bipush 32, 2) := by decide +kernel
theorem dX10_init_243 : decode cX10_init 243 = .ok (.newarray .int, 2) := by decide +kernel
theorem dX10_init_245 : decode cX10_init 245 = .ok (.putfield 115, 3) := by decide +kernel
theorem dX10_init_248 : decode cX10_init 248 = .ok (.aload_n 0, 1) := by decide +kernel
theorem dX10_init_249 : decode cX10_init 249 = .ok (.bipush 8, 2) := by decide +kernel
theorem dX10_init_251 : decode cX10_init 251 = .ok (.newarray .boolean, 2) := by decide +kernel
theorem dX10_init_253 : decode cX10_init 253 = .ok (.putfield 118, 3) := by decide +kernel
theorem dX10_init_256 : decode cX10_init 256 = .ok (.aload_n 0, 1) := by decide +kernel
theorem dX10_init_257 : decode cX10_init 257 = .ok (.bipush 6, 2) := by decide +kernel
theorem dX10_init_259 : decode cX10_init 259 = .ok (.newarray .int, 2) := by decide +kernel
theorem dX10_init_261 : decode cX10_init 261 = .ok (.putfield 121, 3) := by decide +kernel
theorem dX10_init_264 : decode cX10_init 264 = .ok (.aload_n 0, 1) := by decide +kernel
theorem dX10_init_265 : decode cX10_init 265 = .ok (.sipush 150, 3) := by decide +kernel
theorem dX10_init_268 : decode cX10_init 268 = .ok (.newarray .int, 2) := by decide +kernel
theorem dX10_init_270 : decode cX10_init 270 = .ok (.putfield 124, 3) := by decide +kernel
theorem dX10_init_273 : decode cX10_init 273 = .ok (.aload_n 0, 1) := by decide +kernel
theorem dX10_init_274 : decode cX10_init 274 = .ok (.iconst 0, 1) := by decide +kernel
theorem dX10_init_275 : decode cX10_init 275 = .ok (.putfield 127, 3) := by decide +kernel
theorem dX10_init_278 : decode cX10_init 278 = .ok (.aload_n 0, 1) := by decide +kernel
theorem dX10_init_279 : decode cX10_init 279 = .ok (.bipush 32, 2) := by decide +kernel
theorem dX10_init_281 : decode cX10_init 281 = .ok (.newarray .int, 2) := by decide +kernel
theorem dX10_init_283 : decode cX10_init 283 = .ok (.putfield 130, 3) := by decide +kernel
theorem dX10_init_286 : decode cX10_init 286 = .ok (.aload_n 0, 1) := by decide +kernel
theorem dX10_init_287 : decode cX10_init 287 = .ok (.bipush 8, 2) := by decide +kernel
theorem dX10_init_289 : decode cX10_init 289 = .ok (.newarray .boolean, 2) := by decide +kernel
theorem dX10_init_291 : decode cX10_init 291 = .ok (.putfield 133, 3) := by decide +kernel
theorem dX10_init_294 : decode cX10_init 294 = .ok (.aload_n 0, 1) := by decide +kernel
theorem dX10_init_295 : decode cX10_init 295 = .ok (.bipush 18, 2) := by decide +kernel
theorem dX10_init_297 : decode cX10_init 297 = .ok (.newarray .long, 2) := by decide +kernel
theorem dX10_init_299 : decode cX10_init 299 = .ok (.dup, 1) := by decide +kernel
theorem dX10_init_300 : decode cX10_init 300 = .ok (.iconst 0, 1) := by decide +kernel
theorem dX10_init_301 : decode cX10_init 301 = .ok (.ldc2_w 136, 3) := by decide +kernel
theorem dX10_init_304 : decode cX10_init 304 = .ok (.lastore, 1) := by decide +kernel
theorem dX10_init_305 : decode cX10_init 305 = .ok (.dup, 1) := by decide +kernel
theorem dX10_init_306 : decode cX10_init 306 = .ok (.iconst 1, 1) := by decide +kernel
theorem dX10_init_307 : decode cX10_init 307 = .ok (.ldc2_w 138, 3) := by decide +kernel
theorem dX10_init_310 : decode cX10_init 310 = .ok (.lastore, 1) := by decide +kernel
theorem dX10_init_311 : decode cX10_init 311 = .ok (.dup, 1) := by decide +kernel
theorem dX10_init_312 : decode cX10_init 312 = .ok (.iconst 2, 1) := by decide +kernel
theorem dX10_init_313 : decode cX10_init 313 = .ok (.ldc2_w 140, 3) := by decide +kernel
theorem dX10_init_316 : decode cX10_init 316 = .ok (.lastore, 1) := by decide +kernel
theorem dX10_init_317 : decode cX10_init 317 = .ok (.dup, 1) := by decide +kernel
theorem dX10_init_318 : decode cX10_init 318 = .ok (.iconst 3, 1) := by decide +kernel
theorem dX10_init_319 : decode cX10_init 319 = .ok (.ldc2_w 142, 3) := by decide +kernel
theorem dX10_init_322 : decode cX10_init 322 = .ok (.lastore, 1) := by decide +kernel
theorem dX10_init_323 : decode cX10_init 323 = .ok (.dup, 1) := by decide +kernel
theorem dX10_init_324 : decode cX10_init 324 = .ok (.iconst 4, 1) := by decide +kernel
theorem dX10_init_325 : decode cX10_init 325 = .ok (.ldc2_w 144, 3) := by decide +kernel
theorem dX10_init_328 : decode cX10_init 328 = .ok (.lastore, 1) := by decide +kernel
theorem dX10_init_329 : decode cX10_init 329 = .ok (.dup, 1) := by decide +kernel
theorem dX10_init_330 : decode cX10_init 330 = .ok (.iconst 5, 1) := by decide +kernel
theorem dX10_init_331 : decode cX10_init 331 = .ok (.ldc2_w 146, 3) := by decide +kernel
theorem dX10_init_334 : decode cX10_init 334 = .ok (.lastore, 1) := by decide +kernel
theorem dX10_init_335 : decode cX10_init 335 = .ok (.dup, 1) := by decide +kernel
theorem dX10_init_336 : decode cX10_init 336 = .ok (.bipush 6, 2) := by decide +kernel
theorem dX10_init_338 : decode cX10_init 338 = .ok (.ldc2_w 148, 3) := by decide +kernel
theorem dX10_init_341 : decode cX10_init 341 = .ok (.lastore, 1) := by decide +kernel
theorem dX10_init_342 : decode cX10_init 342 = .ok (.dup, 1) := by decide +kernel
theorem dX10_init_343 : decode cX10_init 343 = .ok (.bipush 7, 2) := by decide +kernel
theorem dX10_init_345 : decode cX10_init 345 = .ok (.ldc2_w 150, 3) := by decide +kernel
theorem dX10_init_348 : decode cX10_init 348 = .ok (.lastore, 1) := by decide +kernel
theorem dX10_init_349 : decode cX10_init 349 = .ok (.dup, 1) := by decide +kernel
theorem dX10_init_350 : decode cX10_init 350 = .ok (.bipush 8, 2) := by decide +kernel
theorem dX10_init_352 : decode cX10_init 352 = .ok (.ldc2_w 152, 3) := by decide +kernel
theorem dX10_init_355 : decode cX10_init 355 = .ok (.lastore, 1) := by decide +kernel
theorem dX10_init_356 : decode cX10_init 356 = .ok (.dup, 1) := by decide +kernel
theorem dX10_init_357 : decode cX10_init 357 = .ok (.bipush 9, 2) := by decide +kernel
theorem dX10_init_359 : decode cX10_init 359 = .ok (.ldc2_w 154, 3) := by decide +kernel
theorem dX10_init_362 : decode cX10_init 362 = .ok (.lastore, 1) := by decide +kernel
theorem dX10_init_363 : decode cX10_init 363 = .ok (.dup, 1) := by decide +kernel
theorem dX10_init_364 : decode cX10_init 364 = .ok (.bipush 10, 2) := by decide +kernel
theorem dX10_init_366 : decode cX10_init 366 = .ok (.ldc2_w 156, 3) := by decide +kernel
theorem dX10_init_369 : decode cX10_init 369 = .ok (.lastore, 1) := by decide +kernel
theorem dX10_init_370 : decode cX10_init 370 = .ok (.dup, 1) := by decide +kernel
theorem dX10_init_371 : decode cX10_init 371 = .ok (.bipush 11, 2) := by decide +kernel
theorem dX10_init_373 : decode cX10_init 373 = .ok (.ldc2_w 158, 3) := by decide +kernel
theorem dX10_init_376 : decode cX10_init 376 = .ok (.lastore, 1) := by decide +kernel
theorem dX10_init_377 : decode cX10_init 377 = .ok (.dup, 1) := by decide +kernel
theorem dX10_init_378 : decode cX10_init 378 = .ok (.bipush 12, 2) := by decide +kernel
theorem dX10_init_380 : decode cX10_init 380 = .ok (.ldc2_w 160, 3) := by decide +kernel
theorem dX10_init_383 : decode cX10_init 383 = .ok (.lastore, 1) := by decide +kernel
theorem dX10_init_384 : decode cX10_init 384 = .ok (.dup, 1) := by decide +kernel
theorem dX10_init_385 : decode cX10_init 385 = .ok (.bipush 13, 2) := by decide +kernel
theorem dX10_init_387 : decode cX10_init 387 = .ok (.ldc2_w 162, 3) := by decide +kernel
theorem dX10_init_390 : decode cX10_init 390 = .ok (.lastore, 1) := by decide +kernel
theorem dX10_init_391 : decode cX10_init 391 = .ok (.dup, 1) := by decide +kernel
theorem dX10_init_392 : decode cX10_init 392 = .ok (.bipush 14, 2) := by decide +kernel
theorem dX10_init_394 : decode cX10_init 394 = .ok (.ldc2_w 164, 3) := by decide +kernel
theorem dX10_init_397 : decode cX10_init 397 = .ok (.lastore, 1) := by decide +kernel
theorem dX10_init_398 : decode cX10_init 398 = .ok (.dup, 1) := by decide +kernel
theorem dX10_init_399 : decode cX10_init 399 = .ok (.bipush 15, 2) := by decide +kernel
theorem dX10_init_401 : decode cX10_init 401 = .ok (.ldc2_w 166, 3) := by decide +kernel
theorem dX10_init_404 : decode cX10_init 404 = .ok (.lastore, 1) := by decide +kernel
theorem dX10_init_405 : decode cX10_init 405 = .ok (.dup, 1) := by decide +kernel
theorem dX10_init_406 : decode cX10_init 406 = .ok (.bipush 16, 2) := by decide +kernel
theorem dX10_init_408 : decode cX10_init 408 = .ok (.ldc2_w 168, 3) := by decide +kernel
theorem dX10_init_411 : decode cX10_init 411 = .ok (.lastore, 1) := by decide +kernel
theorem dX10_init_412 : decode cX10_init 412 = .ok (.dup, 1) := by decide +kernel
theorem dX10_init_413 : decode cX10_init 413 = .ok (.bipush 17, 2) := by decide +kernel
theorem dX10_init_415 : decode cX10_init 415 = .ok (.ldc2_w 170, 3) := by decide +kernel
theorem dX10_init_418 : decode cX10_init 418 = .ok (.lastore, 1) := by decide +kernel
theorem dX10_init_419 : decode cX10_init 419 = .ok (.putfield 172, 3) := by decide +kernel
theorem dX10_init_422 : decode cX10_init 422 = .ok (.aload_n 0, 1) := by decide +kernel
theorem dX10_init_423 : decode cX10_init 423 = .ok (.iconst 0, 1) := by decide +kernel
theorem dX10_init_424 : decode cX10_init 424 = .ok (.putfield 176, 3) := by decide +kernel
theorem dX10_init_427 : decode cX10_init 427 = .ok (.aload_n 0, 1) := by decide +kernel
theorem dX10_init_428 : decode cX10_init 428 = .ok (.iconst 0, 1) := by decide +kernel
theorem dX10_init_429 : decode cX10_init 429 = .ok (.putfield 179, 3) := by decide +kernel
theorem dX10_init_432 : decode cX10_init 432 = .ok (.aload_n 0, 1) := by decide +kernel
theorem dX10_init_433 : decode cX10_init 433 = .ok (.iconst 0, 1) := by decide +kernel
theorem dX10_init_434 : decode cX10_init 434 = .ok (.putfield 182, 3) := by decide +kernel
theorem dX10_init_437 : decode cX10_init 437 = .ok (.aload_n 0, 1) := by decide +kernel
theorem dX10_init_438 : decode cX10_init 438 = .ok (.iconst 0, 1) := by decide +kernel
theorem dX10_init_439 : decode cX10_init 439 = .ok (.putfield 185, 3) := by decide +kernel
theorem dX10_init_442 : decode cX10_init 442 = .ok (.aload_n 0, 1) := by decide +kernel
theorem dX10_init_443 : decode cX10_init 443 = .ok (.iconst 0, 1) := by decide +kernel
theorem dX10_init_444 : decode cX10_init 444 = .ok (.putfield 188, 3) := by decide +kernel
theorem dX10_init_447 : decode cX10_init 447 = .ok (.aload_n 0, 1) := by decide +kernel
theorem dX10_init_448 : decode cX10_init 448 = .ok (.iconst 0, 1) := by decide +kernel
theorem dX10_init_449 : decode cX10_init 449 = .ok (.putfield 191, 3) := by decide +kernel
theorem dX10_init_452 : decode cX10_init 452 = .ok (.aload_n 0, 1) := by decide +kernel
theorem dX10_init_453 : decode cX10_init 453 = .ok (.iconst (-1), 1) := by decide +kernel
theorem dX10_init_454 : decode cX10_init 454 = .ok (.putfield 194, 3) := by decide +kernel
theorem dX10_init_457 : decode cX10_init 457 = .ok (.aload_n 0, 1) := by decide +kernel
theorem dX10_init_458 : decode cX10_init 458 = .ok (.iconst 0, 1) := by decide +kernel
theorem dX10_init_459 : decode cX10_init 459 = .ok (.putfield 197, 3) := by decide +kernel
theorem dX10_init_462 : decode cX10_init 462 = .ok (.aload_n 0, 1) := by decide +kernel
theorem dX10_init_463 : decode cX10_init 463 = .ok (.iconst (-1), 1) := by decide +kernel
theorem dX10_init_464 : decode cX10_init 464 = .ok (.putfield 200, 3) := by decide +kernel
theorem dX10_init_467 : decode cX10_init 467 = .ok (.aload_n 0, 1) := by decide +kernel
theorem dX10_init_468 : decode cX10_init 468 = .ok (.bipush 61, 2) := by decide +kernel
theorem dX10_init_470 : decode cX10_init 470 = .ok (.newarray .int, 2) := by decide +kernel
theorem dX10_init_472 : decode cX10_init 472 = .ok (.putfield 203, 3) := by decide +kernel
theorem dX10_init_475 : decode cX10_init 475 = .ok (.aload_n 0, 1) := by decide +kernel
theorem dX10_init_476 : decode cX10_init 476 = .ok (.bipush 61, 2) := by decide +kernel
theorem dX10_init_478 : decode cX10_init 478 = .ok (.newarray .int, 2) := by decide +kernel
theorem dX10_init_480 : decode cX10_init 480 = .ok (.putfield 206, 3) := by decide +kernel
theorem dX10_init_483 : decode cX10_init 483 = .ok (.aload_n 0, 1) := by decide +kernel
theorem dX10_init_484 : decode cX10_init 484 = .ok (.sipush 244, 3) := by decide +kernel
theorem dX10_init_487 : decode cX10_init 487 = .ok (.newarray .int, 2) := by decide +kernel
theorem dX10_init_489 : decode cX10_init 489 = .ok (.putfield 209, 3) := by decide +kernel
theorem dX10_init_492 : decode cX10_init 492 = .ok (.aload_n 0, 1) := by decide +kernel
theorem dX10_init_493 : decode cX10_init 493 = .ok (.bipush 61, 2) := by decide +kernel
theorem dX10_init_495 : decode cX10_init 495 = .ok (.newarray .int, 2) := by decide +kernel
theorem dX10_init_497 : decode cX10_init 497 = .ok (.putfield 212, 3) := by decide +kernel
theorem dX10_init_500 : decode cX10_init 500 = .ok (.aload_n 0, 1) := by decide +kernel
theorem dX10_init_501 : decode cX10_init 501 = .ok (.iconst 0, 1) := by decide +kernel
theorem dX10_init_502 : decode cX10_init 502 = .ok (.putfield 215, 3) := by decide +kernel
theorem dX10_init_505 : decode cX10_init 505 = .ok (.aload_n 0, 1) := by decide +kernel
theorem dX10_init_506 : decode cX10_init 506 = .ok (.sipush 500, 3) := by decide +kernel
theorem dX10_init_509 : decode cX10_init 509 = .ok (.newarray .int, 2) := by decide +kernel
theorem dX10_init_511 : decode cX10_init 511 = .ok (.putfield 218, 3) := by decide +kernel
theorem dX10_init_514 : decode cX10_init 514 = .ok (.aload_n 0, 1) := by decide +kernel
theorem dX10_init_515 : decode cX10_init 515 = .ok (.sipush 500, 3) := by decide +kernel
theorem dX10_init_518 : decode cX10_init 518 = .ok (.newarray .int, 2) := by decide +kernel
theorem dX10_init_520 : decode cX10_init 520 = .ok (.putfield 221, 3) := by decide +kernel
theorem dX10_init_523 : decode cX10_init 523 = .ok (.aload_n 0, 1) := by decide +kernel
theorem dX10_init_524 : decode cX10_init 524 = .ok (.sipush 500, 3) := by decide +kernel
theorem dX10_init_527 : decode cX10_init 527 = .ok (.newarray .int, 2) := by decide +kernel
theorem dX10_init_529 : decode cX10_init 529 = .ok (.putfield 224, 3) := by decide +kernel
theorem dX10_init_532 : decode cX10_init 532 = .ok (.aload_n 0, 1) := by decide +kernel
theorem dX10_init_533 : decode cX10_init 533 = .ok (.iconst 0, 1) := by decide +kernel
theorem dX10_init_534 : decode cX10_init 534 = .ok (.putfield 227, 3) := by decide +kernel
theorem dX10_init_537 : decode cX10_init 537 = .ok (.aload_n 0, 1) := by decide +kernel
theorem dX10_init_538 : decode cX10_init 538 = .ok (.iconst 5, 1) := by decide +kernel
theorem dX10_init_539 : decode cX10_init 539 = .ok (.newarray .int, 2) := by decide +kernel
theorem dX10_init_541 : decode cX10_init 541 = .ok (.putfield 230, 3) := by decide +kernel
theorem dX10_init_544 : decode cX10_init 544 = .ok (.aload_n 0, 1) := by decide +kernel
theorem dX10_init_545 : decode cX10_init 545 = .ok (.iconst 0, 1) := by decide +kernel
theorem dX10_init_546 : decode cX10_init 546 = .ok (.putfield 233, 3) := by decide +kernel
theorem dX10_init_549 : decode cX10_init 549 = .ok (.aload_n 0, 1) := by decide +kernel
theorem dX10_init_550 : decode cX10_init 550 = .ok (.bipush 6, 2) := by decide +kernel
theorem dX10_init_552 : decode cX10_init 552 = .ok (.newarray .int, 2) := by decide +kernel
theorem dX10_init_554 : decode cX10_init 554 = .ok (.putfield 236, 3) := by decide +kernel
theorem dX10_init_557 : decode cX10_init 557 = .ok (.aload_n 0, 1) := by decide +kernel
theorem dX10_init_558 : decode cX10_init 558 = .ok (.bipush 6, 2) := by decide +kernel
theorem dX10_init_560 : decode cX10_init 560 = .ok (.newarray .int, 2) := by decide +kernel
theorem dX10_init_562 : decode cX10_init 562 = .ok (.putfield 239, 3) := by decide +kernel
theorem dX10_init_565 : decode cX10_init 565 = .ok (.aload_n 0, 1) := by decide +kernel
theorem dX10_init_566 : decode cX10_init 566 = .ok (.iconst 0, 1) := by decide +kernel
theorem dX10_init_567 : decode cX10_init 567 = .ok (.putfield 242, 3) := by decide +kernel
theorem dX10_init_570 : decode cX10_init 570 = .ok (.aload_n 0, 1) := by decide +kernel
theorem dX10_init_571 : decode cX10_init 571 = .ok (.iconst 0, 1) := by decide +kernel
theorem dX10_init_572 : decode cX10_init 572 = .ok (.putfield 245, 3) := by decide +kernel
theorem dX10_init_575 : decode cX10_init 575 = .ok (.aload_n 0, 1) := by decide +kernel
theorem dX10_init_576 : decode cX10_init 576 = .ok (.iconst (-1), 1) := by decide +kernel
theorem dX10_init_577 : decode cX10_init 577 = .ok (.putfield 248, 3) := by decide +kernel
theorem dX10_init_580 : decode cX10_init 580 = .ok (.return_, 1) := by decide +kernel
theorem dX10_first_0 : decode cX10_first 0 = .ok (.aload_n 0, 1) := by decide +kernel
theorem dX10_first_1 : decode cX10_first 1 = .ok (.getfield 78, 3) := by decide +kernel
theorem dX10_first_4 : decode cX10_first 4 = .ok (.iconst 0, 1) := by decide +kernel
theorem dX10_first_5 : decode cX10_first 5 = .ok (.iaload, 1) := by decide +kernel
theorem dX10_first_6 : decode cX10_first 6 = .ok (.ireturn, 1) := by decide +kernel
theorem dX10_endOf_0 : decode cX10_endOf 0 = .ok (.iload_n 1, 1) := by decide +kernel
theorem dX10_endOf_1 : decode cX10_endOf 1 = .ok (.iconst 1, 1) := by decide +kernel
theorem dX10_endOf_2 : decode cX10_endOf 2 = .ok (.iadd, 1) := by decide +kernel
theorem dX10_endOf_3 : decode cX10_endOf 3 = .ok (.aload_n 0, 1) := by decide +kernel
theorem dX10_endOf_4 : decode cX10_endOf 4 = .ok (.getfield 81, 3) := by decide +kernel
theorem dX10_endOf_7 : decode cX10_endOf 7 = .ok (.if_icmp .ge 14, 3) := by decide +kernel
theorem dX10_endOf_10 : decode cX10_endOf 10 = .ok (.aload_n 0, 1) := by decide +kernel
theorem dX10_endOf_11 : decode cX10_endOf 11 = .ok (.getfield 78, 3) := by decide +kernel
theorem dX10_endOf_14 : decode cX10_endOf 14 = .ok (.iload_n 1, 1) := by decide +kernel
theorem dX10_endOf_15 : decode cX10_endOf 15 = .ok (.iconst 1, 1) := by decide +kernel
theorem dX10_endOf_16 : decode cX10_endOf 16 = .ok (.iadd, 1) := by decide +kernel
theorem dX10_endOf_17 : decode cX10_endOf 17 = .ok (.iaload, 1) := by decide +kernel
theorem dX10_endOf_18 : decode cX10_endOf 18 = .ok (.goto 7, 3) := by decide +kernel
theorem dX10_endOf_21 : decode cX10_endOf 21 = .ok (.aload_n 0, 1) := by decide +kernel
theorem dX10_endOf_22 : decode cX10_endOf 22 = .ok (.getfield 69, 3) := by decide +kernel
theorem dX10_endOf_25 : decode cX10_endOf 25 = .ok (.ireturn, 1) := by decide +kernel
theorem dX10_bytesOf_0 : decode cX10_bytesOf 0 = .ok (.iconst 0, 1) := by decide +kernel
theorem dX10_bytesOf_1 : decode cX10_bytesOf 1 = .ok (.istore_n 2, 1) := by decide +kernel
theorem dX10_bytesOf_2 : decode cX10_bytesOf 2 = .ok (.aload_n 0, 1) := by decide +kernel
theorem dX10_bytesOf_3 : decode cX10_bytesOf 3 = .ok (.getfield 78, 3) := by decide +kernel
theorem dX10_bytesOf_6 : decode cX10_bytesOf 6 = .ok (.iload_n 1, 1) := by decide +kernel
theorem dX10_bytesOf_7 : decode cX10_bytesOf 7 = .ok (.iaload, 1) := by decide +kernel
theorem dX10_bytesOf_8 : decode cX10_bytesOf 8 = .ok (.istore_n 3, 1) := by decide +kernel
theorem dX10_bytesOf_9 : decode cX10_bytesOf 9 = .ok (.iload_n 3, 1) := by decide +kernel
theorem dX10_bytesOf_10 : decode cX10_bytesOf 10 = .ok (.aload_n 0, 1) := by decide +kernel
theorem dX10_bytesOf_11 : decode cX10_bytesOf 11 = .ok (.iload_n 1, 1) := by decide +kernel
theorem dX10_bytesOf_12 : decode cX10_bytesOf 12 = .ok (.invokevirtual 251, 3) := by decide +kernel
theorem dX10_bytesOf_15 : decode cX10_bytesOf 15 = .ok (.if_icmp .ge 18, 3) := by decide +kernel
theorem dX10_bytesOf_18 : decode cX10_bytesOf 18 = .ok (.iload_n 2, 1) := by decide +kernel
theorem dX10_bytesOf_19 : decode cX10_bytesOf 19 = .ok (.aload_n 0, 1) := by decide +kernel
theorem dX10_bytesOf_20 : decode cX10_bytesOf 20 = .ok (.getfield 56, 3) := by decide +kernel
theorem dX10_bytesOf_23 : decode cX10_bytesOf 23 = .ok (.iload_n 3, 1) := by decide +kernel
theorem dX10_bytesOf_24 : decode cX10_bytesOf 24 = .ok (.iaload, 1) := by decide +kernel
theorem dX10_bytesOf_25 : decode cX10_bytesOf 25 = .ok (.iadd, 1) := by decide +kernel
theorem dX10_bytesOf_26 : decode cX10_bytesOf 26 = .ok (.istore_n 2, 1) := by decide +kernel
theorem dX10_bytesOf_27 : decode cX10_bytesOf 27 = .ok (.iinc 3 1, 3) := by decide +kernel
theorem dX10_bytesOf_30 : decode cX10_bytesOf 30 = .ok (.goto (-21), 3) := by decide +kernel
theorem dX10_bytesOf_33 : decode cX10_bytesOf 33 = .ok (.iload_n 2, 1) := by decide +kernel
theorem dX10_bytesOf_34 : decode cX10_bytesOf 34 = .ok (.ireturn, 1) := by decide +kernel
theorem dX10_bytes_0 : decode cX10_bytes 0 = .ok (.iconst 0, 1) := by decide +kernel
theorem dX10_bytes_1 : decode cX10_bytes 1 = .ok (.istore_n 1, 1) := by decide +kernel
theorem dX10_bytes_2 : decode cX10_bytes 2 = .ok (.aload_n 0, 1) := by decide +kernel
theorem dX10_bytes_3 : decode cX10_bytes 3 = .ok (.invokevirtual 255, 3) := by decide +kernel
theorem dX10_bytes_6 : decode cX10_bytes 6 = .ok (.istore_n 2, 1) := by decide +kernel
theorem dX10_bytes_7 : decode cX10_bytes 7 = .ok (.iload_n 2, 1) := by decide +kernel
theorem dX10_bytes_8 : decode cX10_bytes 8 = .ok (.aload_n 0, 1) := by decide +kernel
theorem dX10_bytes_9 : decode cX10_bytes 9 = .ok (.getfield 69, 3) := by decide +kernel
theorem dX10_bytes_12 : decode cX10_bytes 12 = .ok (.if_icmp .ge 18, 3) := by decide +kernel
theorem dX10_bytes_15 : decode cX10_bytes 15 = .ok (.iload_n 1, 1) := by decide +kernel
theorem dX10_bytes_16 : decode cX10_bytes 16 = .ok (.aload_n 0, 1) := by decide +kernel
theorem dX10_bytes_17 : decode cX10_bytes 17 = .ok (.getfield 56, 3) := by decide +kernel
theorem dX10_bytes_20 : decode cX10_bytes 20 = .ok (.iload_n 2, 1) := by decide +kernel
theorem dX10_bytes_21 : decode cX10_bytes 21 = .ok (.iaload, 1) := by decide +kernel
theorem dX10_bytes_22 : decode cX10_bytes 22 = .ok (.iadd, 1) := by decide +kernel
theorem dX10_bytes_23 : decode cX10_bytes 23 = .ok (.istore_n 1, 1) := by decide +kernel
theorem dX10_bytes_24 : decode cX10_bytes 24 = .ok (.iinc 2 1, 3) := by decide +kernel
theorem dX10_bytes_27 : decode cX10_bytes 27 = .ok (.goto (-20), 3) := by decide +kernel
theorem dX10_bytes_30 : decode cX10_bytes 30 = .ok (.iload_n 1, 1) := by decide +kernel
theorem dX10_bytes_31 : decode cX10_bytes 31 = .ok (.ireturn, 1) := by decide +kernel
theorem dX10_sizeOf_0 : decode cX10_sizeOf 0 = .ok (.iload_n 0, 1) := by decide +kernel
theorem dX10_sizeOf_1 : decode cX10_sizeOf 1 = .ok (.tableswitch 59 3 8 #[39, 42, 45, 48, 53, 56], 39) := by decide +kernel
theorem dX10_sizeOf_40 : decode cX10_sizeOf 40 = .ok (.bipush 12, 2) := by decide +kernel
theorem dX10_sizeOf_42 : decode cX10_sizeOf 42 = .ok (.ireturn, 1) := by decide +kernel
theorem dX10_sizeOf_43 : decode cX10_sizeOf 43 = .ok (.bipush 6, 2) := by decide +kernel
theorem dX10_sizeOf_45 : decode cX10_sizeOf 45 = .ok (.ireturn, 1) := by decide +kernel
theorem dX10_sizeOf_46 : decode cX10_sizeOf 46 = .ok (.bipush 8, 2) := by decide +kernel
theorem dX10_sizeOf_48 : decode cX10_sizeOf 48 = .ok (.ireturn, 1) := by decide +kernel
theorem dX10_sizeOf_49 : decode cX10_sizeOf 49 = .ok (.bipush 10, 2) := by decide +kernel
theorem dX10_sizeOf_51 : decode cX10_sizeOf 51 = .ok (.iload_n 1, 1) := by decide +kernel
theorem dX10_sizeOf_52 : decode cX10_sizeOf 52 = .ok (.iadd, 1) := by decide +kernel
theorem dX10_sizeOf_53 : decode cX10_sizeOf 53 = .ok (.ireturn, 1) := by decide +kernel
theorem dX10_sizeOf_54 : decode cX10_sizeOf 54 = .ok (.bipush 8, 2) := by decide +kernel
theorem dX10_sizeOf_56 : decode cX10_sizeOf 56 = .ok (.ireturn, 1) := by decide +kernel
theorem dX10_sizeOf_57 : decode cX10_sizeOf 57 = .ok (.bipush 6, 2) := by decide +kernel
theorem dX10_sizeOf_59 : decode cX10_sizeOf 59 = .ok (.ireturn, 1) := by decide +kernel
theorem dX10_sizeOf_60 : decode cX10_sizeOf 60 = .ok (.iconst 4, 1) := by decide +kernel
theorem dX10_sizeOf_61 : decode cX10_sizeOf 61 = .ok (.ireturn, 1) := by decide +kernel
theorem dX10_record0_0 : decode cX10_record0 0 = .ok (.iload_n 1, 1) := by decide +kernel
theorem dX10_record0_1 : decode cX10_record0 1 = .ok (.iload 5, 2) := by decide +kernel
theorem dX10_record0_3 : decode cX10_record0 3 = .ok (.invokestatic 259, 3) := by decide +kernel
theorem dX10_record0_6 : decode cX10_record0 6 = .ok (.istore 6, 2) := by decide +kernel
theorem dX10_record0_8 : decode cX10_record0 8 = .ok (.aload_n 0, 1) := by decide +kernel
theorem dX10_record0_9 : decode cX10_record0 9 = .ok (.getfield 81, 3) := by decide +kernel
theorem dX10_record0_12 : decode cX10_record0 12 = .ok (.iconst 1, 1) := by decide +kernel
theorem dX10_record0_13 : decode cX10_record0 13 = .ok (.isub, 1) := by decide +kernel
theorem dX10_record0_14 : decode cX10_record0 14 = .ok (.istore 7, 2) := by decide +kernel
theorem dX10_record0_16 : decode cX10_record0 16 = .ok (.aload_n 0, 1) := by decide +kernel
theorem dX10_record0_17 : decode cX10_record0 17 = .ok (.iload 7, 2) := by decide +kernel
theorem dX10_record0_19 : decode cX10_record0 19 = .ok (.invokevirtual 263, 3) := by decide +kernel
theorem dX10_record0_22 : decode cX10_record0 22 = .ok (.iload 6, 2) := by decide +kernel
theorem dX10_record0_24 : decode cX10_record0 24 = .ok (.iadd, 1) := by decide +kernel
theorem dX10_record0_25 : decode cX10_record0 25 = .ok (.aload_n 0, 1) := by decide +kernel
theorem dX10_record0_26 : decode cX10_record0 26 = .ok (.getfield 32, 3) := by decide +kernel
theorem dX10_record0_29 : decode cX10_record0 29 = .ok (.if_icmp .le 44, 3) := by decide +kernel
theorem dX10_record0_32 : decode cX10_record0 32 = .ok (.aload_n 0, 1) := by decide +kernel
theorem dX10_record0_33 : decode cX10_record0 33 = .ok (.getfield 75, 3) := by decide +kernel
theorem dX10_record0_36 : decode cX10_record0 36 = .ok (.aload_n 0, 1) := by decide +kernel
theorem dX10_record0_37 : decode cX10_record0 37 = .ok (.getfield 81, 3) := by decide +kernel
theorem dX10_record0_40 : decode cX10_record0 40 = .ok (.aload_n 0, 1) := by decide +kernel
theorem dX10_record0_41 : decode cX10_record0 41 = .ok (.getfield 75, 3) := by decide +kernel
theorem dX10_record0_44 : decode cX10_record0 44 = .ok (.iload 7, 2) := by decide +kernel
theorem dX10_record0_46 : decode cX10_record0 46 = .ok (.iaload, 1) := by decide +kernel
theorem dX10_record0_47 : decode cX10_record0 47 = .ok (.iconst 1, 1) := by decide +kernel
theorem dX10_record0_48 : decode cX10_record0 48 = .ok (.iadd, 1) := by decide +kernel
theorem dX10_record0_49 : decode cX10_record0 49 = .ok (.iastore, 1) := by decide +kernel
theorem dX10_record0_50 : decode cX10_record0 50 = .ok (.aload_n 0, 1) := by decide +kernel
theorem dX10_record0_51 : decode cX10_record0 51 = .ok (.getfield 78, 3) := by decide +kernel
theorem dX10_record0_54 : decode cX10_record0 54 = .ok (.aload_n 0, 1) := by decide +kernel
theorem dX10_record0_55 : decode cX10_record0 55 = .ok (.getfield 81, 3) := by decide +kernel
theorem dX10_record0_58 : decode cX10_record0 58 = .ok (.aload_n 0, 1) := by decide +kernel
theorem dX10_record0_59 : decode cX10_record0 59 = .ok (.getfield 69, 3) := by decide +kernel
theorem dX10_record0_62 : decode cX10_record0 62 = .ok (.iastore, 1) := by decide +kernel
theorem dX10_record0_63 : decode cX10_record0 63 = .ok (.aload_n 0, 1) := by decide +kernel
theorem dX10_record0_64 : decode cX10_record0 64 = .ok (.dup, 1) := by decide +kernel
theorem dX10_record0_65 : decode cX10_record0 65 = .ok (.getfield 81, 3) := by decide +kernel
theorem dX10_record0_68 : decode cX10_record0 68 = .ok (.iconst 1, 1) := by decide +kernel
theorem dX10_record0_69 : decode cX10_record0 69 = .ok (.iadd, 1) := by decide +kernel
theorem dX10_record0_70 : decode cX10_record0 70 = .ok (.putfield 81, 3) := by decide +kernel
theorem dX10_record0_73 : decode cX10_record0 73 = .ok (.aload_n 0, 1) := by decide +kernel
theorem dX10_record0_74 : decode cX10_record0 74 = .ok (.getfield 69, 3) := by decide +kernel
theorem dX10_record0_77 : decode cX10_record0 77 = .ok (.istore 8, 2) := by decide +kernel
theorem dX10_record0_79 : decode cX10_record0 79 = .ok (.aload_n 0, 1) := by decide +kernel
theorem dX10_record0_80 : decode cX10_record0 80 = .ok (.getfield 41, 3) := by decide +kernel
theorem dX10_record0_83 : decode cX10_record0 83 = .ok (.iload 8, 2) := by decide +kernel
theorem dX10_record0_85 : decode cX10_record0 85 = .ok (.iload_n 1, 1) := by decide +kernel
theorem dX10_record0_86 : decode cX10_record0 86 = .ok (.iastore, 1) := by decide +kernel
theorem dX10_record0_87 : decode cX10_record0 87 = .ok (.aload_n 0, 1) := by decide +kernel
theorem dX10_record0_88 : decode cX10_record0 88 = .ok (.getfield 44, 3) := by decide +kernel
theorem dX10_record0_91 : decode cX10_record0 91 = .ok (.iload 8, 2) := by decide +kernel
theorem dX10_record0_93 : decode cX10_record0 93 = .ok (.iload_n 2, 1) := by decide +kernel
theorem dX10_record0_94 : decode cX10_record0 94 = .ok (.iastore, 1) := by decide +kernel
theorem dX10_record0_95 : decode cX10_record0 95 = .ok (.aload_n 0, 1) := by decide +kernel
theorem dX10_record0_96 : decode cX10_record0 96 = .ok (.getfield 47, 3) := by decide +kernel
theorem dX10_record0_99 : decode cX10_record0 99 = .ok (.iload 8, 2) := by decide +kernel
theorem dX10_record0_101 : decode cX10_record0 101 = .ok (.iload_n 3, 1) := by decide +kernel
theorem dX10_record0_102 : decode cX10_record0 102 = .ok (.iastore, 1) := by decide +kernel
theorem dX10_record0_103 : decode cX10_record0 103 = .ok (.aload_n 0, 1) := by decide +kernel
theorem dX10_record0_104 : decode cX10_record0 104 = .ok (.getfield 50, 3) := by decide +kernel
theorem dX10_record0_107 : decode cX10_record0 107 = .ok (.iload 8, 2) := by decide +kernel
theorem dX10_record0_109 : decode cX10_record0 109 = .ok (.iload 4, 2) := by decide +kernel
theorem dX10_record0_111 : decode cX10_record0 111 = .ok (.iastore, 1) := by decide +kernel
theorem dX10_record0_112 : decode cX10_record0 112 = .ok (.aload_n 0, 1) := by decide +kernel
theorem dX10_record0_113 : decode cX10_record0 113 = .ok (.getfield 53, 3) := by decide +kernel
theorem dX10_record0_116 : decode cX10_record0 116 = .ok (.iload 8, 2) := by decide +kernel
theorem dX10_record0_118 : decode cX10_record0 118 = .ok (.iload 5, 2) := by decide +kernel
theorem dX10_record0_120 : decode cX10_record0 120 = .ok (.iastore, 1) := by decide +kernel
theorem dX10_record0_121 : decode cX10_record0 121 = .ok (.aload_n 0, 1) := by decide +kernel
theorem dX10_record0_122 : decode cX10_record0 122 = .ok (.getfield 56, 3) := by decide +kernel
theorem dX10_record0_125 : decode cX10_record0 125 = .ok (.iload 8, 2) := by decide +kernel
theorem dX10_record0_127 : decode cX10_record0 127 = .ok (.iload 6, 2) := by decide +kernel
theorem dX10_record0_129 : decode cX10_record0 129 = .ok (.iastore, 1) := by decide +kernel
theorem dX10_record0_130 : decode cX10_record0 130 = .ok (.aload_n 0, 1) := by decide +kernel
theorem dX10_record0_131 : decode cX10_record0 131 = .ok (.getfield 59, 3) := by decide +kernel
theorem dX10_record0_134 : decode cX10_record0 134 = .ok (.iload 8, 2) := by decide +kernel
theorem dX10_record0_136 : decode cX10_record0 136 = .ok (.iconst (-1), 1) := by decide +kernel
theorem dX10_record0_137 : decode cX10_record0 137 = .ok (.iastore, 1) := by decide +kernel
theorem dX10_record0_138 : decode cX10_record0 138 = .ok (.aload_n 0, 1) := by decide +kernel
theorem dX10_record0_139 : decode cX10_record0 139 = .ok (.getfield 62, 3) := by decide +kernel
theorem dX10_record0_142 : decode cX10_record0 142 = .ok (.iload 8, 2) := by decide +kernel
theorem dX10_record0_144 : decode cX10_record0 144 = .ok (.aload_n 0, 1) := by decide +kernel
theorem dX10_record0_145 : decode cX10_record0 145 = .ok (.getfield 75, 3) := by decide +kernel
theorem dX10_record0_148 : decode cX10_record0 148 = .ok (.aload_n 0, 1) := by decide +kernel
theorem dX10_record0_149 : decode cX10_record0 149 = .ok (.getfield 81, 3) := by decide +kernel
theorem dX10_record0_152 : decode cX10_record0 152 = .ok (.iconst 1, 1) := by decide +kernel
theorem dX10_record0_153 : decode cX10_record0 153 = .ok (.isub, 1) := by decide +kernel
theorem dX10_record0_154 : decode cX10_record0 154 = .ok (.iaload, 1) := by decide +kernel
theorem dX10_record0_155 : decode cX10_record0 155 = .ok (.iastore, 1) := by decide +kernel
theorem dX10_record0_156 : decode cX10_record0 156 = .ok (.aload_n 0, 1) := by decide +kernel
theorem dX10_record0_157 : decode cX10_record0 157 = .ok (.getfield 65, 3) := by decide +kernel
theorem dX10_record0_160 : decode cX10_record0 160 = .ok (.iload 8, 2) := by decide +kernel
theorem dX10_record0_162 : decode cX10_record0 162 = .ok (.iconst 0, 1) := by decide +kernel
theorem dX10_record0_163 : decode cX10_record0 163 = .ok (.bastore, 1) := by decide +kernel
theorem dX10_record0_164 : decode cX10_record0 164 = .ok (.aload_n 0, 1) := by decide +kernel
theorem dX10_record0_165 : decode cX10_record0 165 = .ok (.dup, 1) := by decide +kernel
theorem dX10_record0_166 : decode cX10_record0 166 = .ok (.getfield 69, 3) := by decide +kernel
theorem dX10_record0_169 : decode cX10_record0 169 = .ok (.iconst 1, 1) := by decide +kernel
theorem dX10_record0_170 : decode cX10_record0 170 = .ok (.iadd, 1) := by decide +kernel
theorem dX10_record0_171 : decode cX10_record0 171 = .ok (.putfield 69, 3) := by decide +kernel
theorem dX10_record0_174 : decode cX10_record0 174 = .ok (.iload 8, 2) := by decide +kernel
theorem dX10_record0_176 : decode cX10_record0 176 = .ok (.ireturn, 1) := by decide +kernel
theorem dX10_makeEffective_0 : decode cX10_makeEffective 0 = .ok (.aload_n 0, 1) := by decide +kernel
theorem dX10_makeEffective_1 : decode cX10_makeEffective 1 = .ok (.getfield 59, 3) := by decide +kernel
theorem dX10_makeEffective_4 : decode cX10_makeEffective 4 = .ok (.iload_n 1, 1) := by decide +kernel
theorem dX10_makeEffective_5 : decode cX10_makeEffective 5 = .ok (.iload_n 2, 1) := by decide +kernel
theorem dX10_makeEffective_6 : decode cX10_makeEffective 6 = .ok (.iastore, 1) := by decide +kernel
theorem dX10_makeEffective_7 : decode cX10_makeEffective 7 = .ok (.aload_n 0, 1) := by decide +kernel
theorem dX10_makeEffective_8 : decode cX10_makeEffective 8 = .ok (.getfield 41, 3) := by decide +kernel
theorem dX10_makeEffective_11 : decode cX10_makeEffective 11 = .ok (.iload_n 1, 1) := by decide +kernel
theorem dX10_makeEffective_12 : decode cX10_makeEffective 12 = .ok (.iaload, 1) := by decide +kernel
theorem dX10_makeEffective_13 : decode cX10_makeEffective 13 = .ok (.bipush 6, 2) := by decide +kernel
theorem dX10_makeEffective_15 : decode cX10_makeEffective 15 = .ok (.if_icmp .eq 4, 3) := by decide +kernel
theorem dX10_makeEffective_18 : decode cX10_makeEffective 18 = .ok (.return_, 1) := by decide +kernel
theorem dX10_makeEffective_19 : decode cX10_makeEffective 19 = .ok (.aload_n 0, 1) := by decide +kernel
theorem dX10_makeEffective_20 : decode cX10_makeEffective 20 = .ok (.getfield 47, 3) := by decide +kernel
theorem dX10_makeEffective_23 : decode cX10_makeEffective 23 = .ok (.iload_n 1, 1) := by decide +kernel
theorem dX10_makeEffective_24 : decode cX10_makeEffective 24 = .ok (.iaload, 1) := by decide +kernel
theorem dX10_makeEffective_25 : decode cX10_makeEffective 25 = .ok (.istore_n 3, 1) := by decide +kernel
theorem dX10_makeEffective_26 : decode cX10_makeEffective 26 = .ok (.aload_n 0, 1) := by decide +kernel
theorem dX10_makeEffective_27 : decode cX10_makeEffective 27 = .ok (.getfield 90, 3) := by decide +kernel
theorem dX10_makeEffective_30 : decode cX10_makeEffective 30 = .ok (.sipush 400, 3) := by decide +kernel
theorem dX10_makeEffective_33 : decode cX10_makeEffective 33 = .ok (.iload_n 3, 1) := by decide +kernel
theorem dX10_makeEffective_34 : decode cX10_makeEffective 34 = .ok (.imul, 1) := by decide +kernel
theorem dX10_makeEffective_35 : decode cX10_makeEffective 35 = .ok (.aload_n 0, 1) := by decide +kernel
theorem dX10_makeEffective_36 : decode cX10_makeEffective 36 = .ok (.getfield 93, 3) := by decide +kernel
theorem dX10_makeEffective_39 : decode cX10_makeEffective 39 = .ok (.iload_n 3, 1) := by decide +kernel
theorem dX10_makeEffective_40 : decode cX10_makeEffective 40 = .ok (.iaload, 1) := by decide +kernel
theorem dX10_makeEffective_41 : decode cX10_makeEffective 41 = .ok (.iadd, 1) := by decide +kernel
theorem dX10_makeEffective_42 : decode cX10_makeEffective 42 = .ok (.iload_n 1, 1) := by decide +kernel
theorem dX10_makeEffective_43 : decode cX10_makeEffective 43 = .ok (.iastore, 1) := by decide +kernel
theorem dX10_makeEffective_44 : decode cX10_makeEffective 44 = .ok (.aload_n 0, 1) := by decide +kernel
theorem dX10_makeEffective_45 : decode cX10_makeEffective 45 = .ok (.getfield 93, 3) := by decide +kernel
theorem dX10_makeEffective_48 : decode cX10_makeEffective 48 = .ok (.iload_n 3, 1) := by decide +kernel
theorem dX10_makeEffective_49 : decode cX10_makeEffective 49 = .ok (.dup2, 1) := by decide +kernel
theorem dX10_makeEffective_50 : decode cX10_makeEffective 50 = .ok (.iaload, 1) := by decide +kernel
theorem dX10_makeEffective_51 : decode cX10_makeEffective 51 = .ok (.iconst 1, 1) := by decide +kernel
theorem dX10_makeEffective_52 : decode cX10_makeEffective 52 = .ok (.iadd, 1) := by decide +kernel
theorem dX10_makeEffective_53 : decode cX10_makeEffective 53 = .ok (.iastore, 1) := by decide +kernel
theorem dX10_makeEffective_54 : decode cX10_makeEffective 54 = .ok (.return_, 1) := by decide +kernel
theorem dX10_effective_0 : decode cX10_effective 0 = .ok (.aload_n 0, 1) := by decide +kernel
theorem dX10_effective_1 : decode cX10_effective 1 = .ok (.iload_n 1, 1) := by decide +kernel
theorem dX10_effective_2 : decode cX10_effective 2 = .ok (.iload_n 2, 1) := by decide +kernel
theorem dX10_effective_3 : decode cX10_effective 3 = .ok (.iconst (-1), 1) := by decide +kernel
theorem dX10_effective_4 : decode cX10_effective 4 = .ok (.if_icmp .ne 7, 3) := by decide +kernel
theorem dX10_effective_7 : decode cX10_effective 7 = .ok (.iconst (-1), 1) := by decide +kernel
theorem dX10_effective_8 : decode cX10_effective 8 = .ok (.goto 9, 3) := by decide +kernel
theorem dX10_effective_11 : decode cX10_effective 11 = .ok (.aload_n 0, 1) := by decide +kernel
theorem dX10_effective_12 : decode cX10_effective 12 = .ok (.getfield 87, 3) := by decide +kernel
theorem dX10_effective_15 : decode cX10_effective 15 = .ok (.iload_n 2, 1) := by decide +kernel
theorem dX10_effective_16 : decode cX10_effective 16 = .ok (.iaload, 1) := by decide +kernel
theorem dX10_effective_17 : decode cX10_effective 17 = .ok (.iload_n 3, 1) := by decide +kernel
theorem dX10_effective_18 : decode cX10_effective 18 = .ok (.iload 4, 2) := by decide +kernel
theorem dX10_effective_20 : decode cX10_effective 20 = .ok (.iload 5, 2) := by decide +kernel
theorem dX10_effective_22 : decode cX10_effective 22 = .ok (.invokevirtual 266, 3) := by decide +kernel
theorem dX10_effective_25 : decode cX10_effective 25 = .ok (.istore 6, 2) := by decide +kernel
theorem dX10_effective_27 : decode cX10_effective 27 = .ok (.iload_n 2, 1) := by decide +kernel
theorem dX10_effective_28 : decode cX10_effective 28 = .ok (.iconst (-1), 1) := by decide +kernel
theorem dX10_effective_29 : decode cX10_effective 29 = .ok (.if_icmp .ne 11, 3) := by decide +kernel
theorem dX10_effective_32 : decode cX10_effective 32 = .ok (.aload_n 0, 1) := by decide +kernel
theorem dX10_effective_33 : decode cX10_effective 33 = .ok (.iload 6, 2) := by decide +kernel
theorem dX10_effective_35 : decode cX10_effective 35 = .ok (.iload 6, 2) := by decide +kernel
theorem dX10_effective_37 : decode cX10_effective 37 = .ok (.invokevirtual 270, 3) := by decide +kernel
theorem dX10_effective_40 : decode cX10_effective 40 = .ok (.iload 6, 2) := by decide +kernel
theorem dX10_effective_42 : decode cX10_effective 42 = .ok (.ireturn, 1) := by decide +kernel
theorem dX10_flushAll_0 : decode cX10_flushAll 0 = .ok (.aload_n 0, 1) := by decide +kernel
theorem dX10_flushAll_1 : decode cX10_flushAll 1 = .ok (.getfield 69, 3) := by decide +kernel
theorem dX10_flushAll_4 : decode cX10_flushAll 4 = .ok (.aload_n 0, 1) := by decide +kernel
theorem dX10_flushAll_5 : decode cX10_flushAll 5 = .ok (.getfield 72, 3) := by decide +kernel
theorem dX10_flushAll_8 : decode cX10_flushAll 8 = .ok (.isub, 1) := by decide +kernel
theorem dX10_flushAll_9 : decode cX10_flushAll 9 = .ok (.istore_n 1, 1) := by decide +kernel
theorem dX10_flushAll_10 : decode cX10_flushAll 10 = .ok (.aload_n 0, 1) := by decide +kernel
theorem dX10_flushAll_11 : decode cX10_flushAll 11 = .ok (.aload_n 0, 1) := by decide +kernel
theorem dX10_flushAll_12 : decode cX10_flushAll 12 = .ok (.getfield 69, 3) := by decide +kernel
theorem dX10_flushAll_15 : decode cX10_flushAll 15 = .ok (.putfield 72, 3) := by decide +kernel
theorem dX10_flushAll_18 : decode cX10_flushAll 18 = .ok (.aload_n 0, 1) := by decide +kernel
theorem dX10_flushAll_19 : decode cX10_flushAll 19 = .ok (.invokevirtual 255, 3) := by decide +kernel
theorem dX10_flushAll_22 : decode cX10_flushAll 22 = .ok (.istore_n 2, 1) := by decide +kernel
theorem dX10_flushAll_23 : decode cX10_flushAll 23 = .ok (.iload_n 2, 1) := by decide +kernel
theorem dX10_flushAll_24 : decode cX10_flushAll 24 = .ok (.aload_n 0, 1) := by decide +kernel
theorem dX10_flushAll_25 : decode cX10_flushAll 25 = .ok (.getfield 69, 3) := by decide +kernel
theorem dX10_flushAll_28 : decode cX10_flushAll 28 = .ok (.if_icmp .ge 16, 3) := by decide +kernel
theorem dX10_flushAll_31 : decode cX10_flushAll 31 = .ok (.aload_n 0, 1) := by decide +kernel
theorem dX10_flushAll_32 : decode cX10_flushAll 32 = .ok (.getfield 65, 3) := by decide +kernel
theorem dX10_flushAll_35 : decode cX10_flushAll 35 = .ok (.iload_n 2, 1) := by decide +kernel
theorem dX10_flushAll_36 : decode cX10_flushAll 36 = .ok (.iconst 0, 1) := by decide +kernel
theorem dX10_flushAll_37 : decode cX10_flushAll 37 = .ok (.bastore, 1) := by decide +kernel
theorem dX10_flushAll_38 : decode cX10_flushAll 38 = .ok (.iinc 2 1, 3) := by decide +kernel
theorem dX10_flushAll_41 : decode cX10_flushAll 41 = .ok (.goto (-18), 3) := by decide +kernel
theorem dX10_flushAll_44 : decode cX10_flushAll 44 = .ok (.iload_n 1, 1) := by decide +kernel
theorem dX10_flushAll_45 : decode cX10_flushAll 45 = .ok (.ireturn, 1) := by decide +kernel
theorem dX10_unreadOf_0 : decode cX10_unreadOf 0 = .ok (.aload_n 0, 1) := by decide +kernel
theorem dX10_unreadOf_1 : decode cX10_unreadOf 1 = .ok (.getfield 93, 3) := by decide +kernel
theorem dX10_unreadOf_4 : decode cX10_unreadOf 4 = .ok (.aload_n 0, 1) := by decide +kernel
theorem dX10_unreadOf_5 : decode cX10_unreadOf 5 = .ok (.getfield 96, 3) := by decide +kernel
theorem dX10_unreadOf_8 : decode cX10_unreadOf 8 = .ok (.iload_n 1, 1) := by decide +kernel
theorem dX10_unreadOf_9 : decode cX10_unreadOf 9 = .ok (.iaload, 1) := by decide +kernel
theorem dX10_unreadOf_10 : decode cX10_unreadOf 10 = .ok (.iaload, 1) := by decide +kernel
theorem dX10_unreadOf_11 : decode cX10_unreadOf 11 = .ok (.aload_n 0, 1) := by decide +kernel
theorem dX10_unreadOf_12 : decode cX10_unreadOf 12 = .ok (.getfield 99, 3) := by decide +kernel
theorem dX10_unreadOf_15 : decode cX10_unreadOf 15 = .ok (.iload_n 1, 1) := by decide +kernel
theorem dX10_unreadOf_16 : decode cX10_unreadOf 16 = .ok (.iaload, 1) := by decide +kernel
theorem dX10_unreadOf_17 : decode cX10_unreadOf 17 = .ok (.isub, 1) := by decide +kernel
theorem dX10_unreadOf_18 : decode cX10_unreadOf 18 = .ok (.ireturn, 1) := by decide +kernel
theorem dX10_isAside_0 : decode cX10_isAside 0 = .ok (.aload_n 0, 1) := by decide +kernel
theorem dX10_isAside_1 : decode cX10_isAside 1 = .ok (.getfield 102, 3) := by decide +kernel
theorem dX10_isAside_4 : decode cX10_isAside 4 = .ok (.sipush 400, 3) := by decide +kernel
theorem dX10_isAside_7 : decode cX10_isAside 7 = .ok (.iload_n 1, 1) := by decide +kernel
theorem dX10_isAside_8 : decode cX10_isAside 8 = .ok (.imul, 1) := by decide +kernel
theorem dX10_isAside_9 : decode cX10_isAside 9 = .ok (.iload_n 2, 1) := by decide +kernel
theorem dX10_isAside_10 : decode cX10_isAside 10 = .ok (.iadd, 1) := by decide +kernel
theorem dX10_isAside_11 : decode cX10_isAside 11 = .ok (.baload, 1) := by decide +kernel
theorem dX10_isAside_12 : decode cX10_isAside 12 = .ok (.ireturn, 1) := by decide +kernel
theorem dX10_spilledOf_0 : decode cX10_spilledOf 0 = .ok (.iconst 0, 1) := by decide +kernel
theorem dX10_spilledOf_1 : decode cX10_spilledOf 1 = .ok (.istore_n 2, 1) := by decide +kernel
theorem dX10_spilledOf_2 : decode cX10_spilledOf 2 = .ok (.iconst 0, 1) := by decide +kernel
theorem dX10_spilledOf_3 : decode cX10_spilledOf 3 = .ok (.istore_n 3, 1) := by decide +kernel
theorem dX10_spilledOf_4 : decode cX10_spilledOf 4 = .ok (.iload_n 3, 1) := by decide +kernel
theorem dX10_spilledOf_5 : decode cX10_spilledOf 5 = .ok (.sipush 400, 3) := by decide +kernel
theorem dX10_spilledOf_8 : decode cX10_spilledOf 8 = .ok (.if_icmp .ge 26, 3) := by decide +kernel
theorem dX10_spilledOf_11 : decode cX10_spilledOf 11 = .ok (.iload_n 2, 1) := by decide +kernel
theorem dX10_spilledOf_12 : decode cX10_spilledOf 12 = .ok (.aload_n 0, 1) := by decide +kernel
theorem dX10_spilledOf_13 : decode cX10_spilledOf 13 = .ok (.iload_n 1, 1) := by decide +kernel
theorem dX10_spilledOf_14 : decode cX10_spilledOf 14 = .ok (.iload_n 3, 1) := by decide +kernel
theorem dX10_spilledOf_15 : decode cX10_spilledOf 15 = .ok (.invokevirtual 274, 3) := by decide +kernel
theorem dX10_spilledOf_18 : decode cX10_spilledOf 18 = .ok (.ifCond .eq 7, 3) := by decide +kernel
theorem dX10_spilledOf_21 : decode cX10_spilledOf 21 = .ok (.iconst 1, 1) := by decide +kernel
theorem dX10_spilledOf_22 : decode cX10_spilledOf 22 = .ok (.goto 4, 3) := by decide +kernel
theorem dX10_spilledOf_25 : decode cX10_spilledOf 25 = .ok (.iconst 0, 1) := by decide +kernel
theorem dX10_spilledOf_26 : decode cX10_spilledOf 26 = .ok (.iadd, 1) := by decide +kernel
theorem dX10_spilledOf_27 : decode cX10_spilledOf 27 = .ok (.istore_n 2, 1) := by decide +kernel
theorem dX10_spilledOf_28 : decode cX10_spilledOf 28 = .ok (.iinc 3 1, 3) := by decide +kernel
theorem dX10_spilledOf_31 : decode cX10_spilledOf 31 = .ok (.goto (-27), 3) := by decide +kernel
theorem dX10_spilledOf_34 : decode cX10_spilledOf 34 = .ok (.iload_n 2, 1) := by decide +kernel
theorem dX10_spilledOf_35 : decode cX10_spilledOf 35 = .ok (.ireturn, 1) := by decide +kernel
theorem dX10_spilled_0 : decode cX10_spilled 0 = .ok (.iconst 0, 1) := by decide +kernel
theorem dX10_spilled_1 : decode cX10_spilled 1 = .ok (.istore_n 1, 1) := by decide +kernel
theorem dX10_spilled_2 : decode cX10_spilled 2 = .ok (.iconst 0, 1) := by decide +kernel
theorem dX10_spilled_3 : decode cX10_spilled 3 = .ok (.istore_n 2, 1) := by decide +kernel
theorem dX10_spilled_4 : decode cX10_spilled 4 = .ok (.iload_n 2, 1) := by decide +kernel
theorem dX10_spilled_5 : decode cX10_spilled 5 = .ok (.aload_n 0, 1) := by decide +kernel
theorem dX10_spilled_6 : decode cX10_spilled 6 = .ok (.getfield 105, 3) := by decide +kernel
theorem dX10_spilled_9 : decode cX10_spilled 9 = .ok (.if_icmp .ge 17, 3) := by decide +kernel
theorem dX10_spilled_12 : decode cX10_spilled 12 = .ok (.iload_n 1, 1) := by decide +kernel
theorem dX10_spilled_13 : decode cX10_spilled 13 = .ok (.aload_n 0, 1) := by decide +kernel
theorem dX10_spilled_14 : decode cX10_spilled 14 = .ok (.iload_n 2, 1) := by decide +kernel
theorem dX10_spilled_15 : decode cX10_spilled 15 = .ok (.invokevirtual 278, 3) := by decide +kernel
theorem dX10_spilled_18 : decode cX10_spilled 18 = .ok (.iadd, 1) := by decide +kernel
theorem dX10_spilled_19 : decode cX10_spilled 19 = .ok (.istore_n 1, 1) := by decide +kernel
theorem dX10_spilled_20 : decode cX10_spilled 20 = .ok (.iinc 2 1, 3) := by decide +kernel
theorem dX10_spilled_23 : decode cX10_spilled 23 = .ok (.goto (-19), 3) := by decide +kernel
theorem dX10_spilled_26 : decode cX10_spilled 26 = .ok (.iload_n 1, 1) := by decide +kernel
theorem dX10_spilled_27 : decode cX10_spilled 27 = .ok (.ireturn, 1) := by decide +kernel
theorem dX10_recordOf_0 : decode cX10_recordOf 0 = .ok (.aload_n 0, 1) := by decide +kernel
theorem dX10_recordOf_1 : decode cX10_recordOf 1 = .ok (.getfield 90, 3) := by decide +kernel
theorem dX10_recordOf_4 : decode cX10_recordOf 4 = .ok (.sipush 400, 3) := by decide +kernel
theorem dX10_recordOf_7 : decode cX10_recordOf 7 = .ok (.iload_n 1, 1) := by decide +kernel
theorem dX10_recordOf_8 : decode cX10_recordOf 8 = .ok (.imul, 1) := by decide +kernel
theorem dX10_recordOf_9 : decode cX10_recordOf 9 = .ok (.iload_n 2, 1) := by decide +kernel
theorem dX10_recordOf_10 : decode cX10_recordOf 10 = .ok (.iadd, 1) := by decide +kernel
theorem dX10_recordOf_11 : decode cX10_recordOf 11 = .ok (.iaload, 1) := by decide +kernel
theorem dX10_recordOf_12 : decode cX10_recordOf 12 = .ok (.ireturn, 1) := by decide +kernel
theorem dX10_holdOf_0 : decode cX10_holdOf 0 = .ok (.aload_n 0, 1) := by decide +kernel
theorem dX10_holdOf_1 : decode cX10_holdOf 1 = .ok (.getfield 69, 3) := by decide +kernel
theorem dX10_holdOf_4 : decode cX10_holdOf 4 = .ok (.istore_n 2, 1) := by decide +kernel
theorem dX10_holdOf_5 : decode cX10_holdOf 5 = .ok (.aload_n 0, 1) := by decide +kernel
theorem dX10_holdOf_6 : decode cX10_holdOf 6 = .ok (.getfield 96, 3) := by decide +kernel
theorem dX10_holdOf_9 : decode cX10_holdOf 9 = .ok (.iload_n 1, 1) := by decide +kernel
theorem dX10_holdOf_10 : decode cX10_holdOf 10 = .ok (.iaload, 1) := by decide +kernel
theorem dX10_holdOf_11 : decode cX10_holdOf 11 = .ok (.istore_n 3, 1) := by decide +kernel
theorem dX10_holdOf_12 : decode cX10_holdOf 12 = .ok (.aload_n 0, 1) := by decide +kernel
theorem dX10_holdOf_13 : decode cX10_holdOf 13 = .ok (.getfield 99, 3) := by decide +kernel
theorem dX10_holdOf_16 : decode cX10_holdOf 16 = .ok (.iload_n 1, 1) := by decide +kernel
theorem dX10_holdOf_17 : decode cX10_holdOf 17 = .ok (.iaload, 1) := by decide +kernel
theorem dX10_holdOf_18 : decode cX10_holdOf 18 = .ok (.istore 4, 2) := by decide +kernel
theorem dX10_holdOf_20 : decode cX10_holdOf 20 = .ok (.iload 4, 2) := by decide +kernel
theorem dX10_holdOf_22 : decode cX10_holdOf 22 = .ok (.aload_n 0, 1) := by decide +kernel
theorem dX10_holdOf_23 : decode cX10_holdOf 23 = .ok (.getfield 93, 3) := by decide +kernel
theorem dX10_holdOf_26 : decode cX10_holdOf 26 = .ok (.iload_n 3, 1) := by decide +kernel
theorem dX10_holdOf_27 : decode cX10_holdOf 27 = .ok (.iaload, 1) := by decide +kernel
theorem dX10_holdOf_28 : decode cX10_holdOf 28 = .ok (.if_icmp .ge 31, 3) := by decide +kernel
theorem dX10_holdOf_31 : decode cX10_holdOf 31 = .ok (.aload_n 0, 1) := by decide +kernel
theorem dX10_holdOf_32 : decode cX10_holdOf 32 = .ok (.iload_n 1, 1) := by decide +kernel
theorem dX10_holdOf_33 : decode cX10_holdOf 33 = .ok (.iload 4, 2) := by decide +kernel
theorem dX10_holdOf_35 : decode cX10_holdOf 35 = .ok (.invokevirtual 274, 3) := by decide +kernel
theorem dX10_holdOf_38 : decode cX10_holdOf 38 = .ok (.ifCond .ne 15, 3) := by decide +kernel
theorem dX10_holdOf_41 : decode cX10_holdOf 41 = .ok (.iload_n 2, 1) := by decide +kernel
theorem dX10_holdOf_42 : decode cX10_holdOf 42 = .ok (.aload_n 0, 1) := by decide +kernel
theorem dX10_holdOf_43 : decode cX10_holdOf 43 = .ok (.iload_n 3, 1) := by decide +kernel
theorem dX10_holdOf_44 : decode cX10_holdOf 44 = .ok (.iload 4, 2) := by decide +kernel
theorem dX10_holdOf_46 : decode cX10_holdOf 46 = .ok (.invokevirtual 281, 3) := by decide +kernel
theorem dX10_holdOf_49 : decode cX10_holdOf 49 = .ok (.invokestatic 284, 3) := by decide +kernel
theorem dX10_holdOf_52 : decode cX10_holdOf 52 = .ok (.istore_n 2, 1) := by decide +kernel
theorem dX10_holdOf_53 : decode cX10_holdOf 53 = .ok (.iinc 4 1, 3) := by decide +kernel
theorem dX10_holdOf_56 : decode cX10_holdOf 56 = .ok (.goto (-36), 3) := by decide +kernel
theorem dX10_holdOf_59 : decode cX10_holdOf 59 = .ok (.iload_n 2, 1) := by decide +kernel
theorem dX10_holdOf_60 : decode cX10_holdOf 60 = .ok (.ireturn, 1) := by decide +kernel
theorem dX10_transactionHold_0 : decode cX10_transactionHold 0 = .ok (.sipush 401, 3) := by decide +kernel
theorem dX10_transactionHold_3 : decode cX10_transactionHold 3 = .ok (.istore_n 1, 1) := by decide +kernel
theorem dX10_transactionHold_4 : decode cX10_transactionHold 4 = .ok (.iconst 0, 1) := by decide +kernel
theorem dX10_transactionHold_5 : decode cX10_transactionHold 5 = .ok (.istore_n 2, 1) := by decide +kernel
theorem dX10_transactionHold_6 : decode cX10_transactionHold 6 = .ok (.iload_n 2, 1) := by decide +kernel
theorem dX10_transactionHold_7 : decode cX10_transactionHold 7 = .ok (.iconst 4, 1) := by decide +kernel
theorem dX10_transactionHold_8 : decode cX10_transactionHold 8 = .ok (.if_icmp .ge 30, 3) := by decide +kernel
theorem dX10_transactionHold_11 : decode cX10_transactionHold 11 = .ok (.aload_n 0, 1) := by decide +kernel
theorem dX10_transactionHold_12 : decode cX10_transactionHold 12 = .ok (.getfield 87, 3) := by decide +kernel
theorem dX10_transactionHold_15 : decode cX10_transactionHold 15 = .ok (.iload_n 2, 1) := by decide +kernel
theorem dX10_transactionHold_16 : decode cX10_transactionHold 16 = .ok (.iaload, 1) := by decide +kernel
theorem dX10_transactionHold_17 : decode cX10_transactionHold 17 = .ok (.iconst (-1), 1) := by decide +kernel
theorem dX10_transactionHold_18 : decode cX10_transactionHold 18 = .ok (.if_icmp .eq 14, 3) := by decide +kernel
theorem dX10_transactionHold_21 : decode cX10_transactionHold 21 = .ok (.iload_n 1, 1) := by decide +kernel
theorem dX10_transactionHold_22 : decode cX10_transactionHold 22 = .ok (.aload_n 0, 1) := by decide +kernel
theorem dX10_transactionHold_23 : decode cX10_transactionHold 23 = .ok (.getfield 87, 3) := by decide +kernel
theorem dX10_transactionHold_26 : decode cX10_transactionHold 26 = .ok (.iload_n 2, 1) := by decide +kernel
theorem dX10_transactionHold_27 : decode cX10_transactionHold 27 = .ok (.iaload, 1) := by decide +kernel
theorem dX10_transactionHold_28 : decode cX10_transactionHold 28 = .ok (.invokestatic 284, 3) := by decide +kernel
theorem dX10_transactionHold_31 : decode cX10_transactionHold 31 = .ok (.istore_n 1, 1) := by decide +kernel
theorem dX10_transactionHold_32 : decode cX10_transactionHold 32 = .ok (.iinc 2 1, 3) := by decide +kernel
theorem dX10_transactionHold_35 : decode cX10_transactionHold 35 = .ok (.goto (-29), 3) := by decide +kernel
theorem dX10_transactionHold_38 : decode cX10_transactionHold 38 = .ok (.iload_n 1, 1) := by decide +kernel
theorem dX10_transactionHold_39 : decode cX10_transactionHold 39 = .ok (.ireturn, 1) := by decide +kernel
theorem dX10_effectHold_0 : decode cX10_effectHold 0 = .ok (.aload_n 0, 1) := by decide +kernel
theorem dX10_effectHold_1 : decode cX10_effectHold 1 = .ok (.invokevirtual 255, 3) := by decide +kernel
theorem dX10_effectHold_4 : decode cX10_effectHold 4 = .ok (.istore_n 1, 1) := by decide +kernel
theorem dX10_effectHold_5 : decode cX10_effectHold 5 = .ok (.iload_n 1, 1) := by decide +kernel
theorem dX10_effectHold_6 : decode cX10_effectHold 6 = .ok (.aload_n 0, 1) := by decide +kernel
theorem dX10_effectHold_7 : decode cX10_effectHold 7 = .ok (.getfield 69, 3) := by decide +kernel
theorem dX10_effectHold_10 : decode cX10_effectHold 10 = .ok (.if_icmp .ge 69, 3) := by decide +kernel
theorem dX10_effectHold_13 : decode cX10_effectHold 13 = .ok (.aload_n 0, 1) := by decide +kernel
theorem dX10_effectHold_14 : decode cX10_effectHold 14 = .ok (.getfield 41, 3) := by decide +kernel
theorem dX10_effectHold_17 : decode cX10_effectHold 17 = .ok (.iload_n 1, 1) := by decide +kernel
theorem dX10_effectHold_18 : decode cX10_effectHold 18 = .ok (.iaload, 1) := by decide +kernel
theorem dX10_effectHold_19 : decode cX10_effectHold 19 = .ok (.iconst 3, 1) := by decide +kernel
theorem dX10_effectHold_20 : decode cX10_effectHold 20 = .ok (.iconst 5, 1) := by decide +kernel
theorem dX10_effectHold_21 : decode cX10_effectHold 21 = .ok (.invokestatic 22, 3) := by decide +kernel
theorem dX10_effectHold_24 : decode cX10_effectHold 24 = .ok (.ifCond .ne 14, 3) := by decide +kernel
theorem dX10_effectHold_27 : decode cX10_effectHold 27 = .ok (.aload_n 0, 1) := by decide +kernel
theorem dX10_effectHold_28 : decode cX10_effectHold 28 = .ok (.getfield 41, 3) := by decide +kernel
theorem dX10_effectHold_31 : decode cX10_effectHold 31 = .ok (.iload_n 1, 1) := by decide +kernel
theorem dX10_effectHold_32 : decode cX10_effectHold 32 = .ok (.iaload, 1) := by decide +kernel
theorem dX10_effectHold_33 : decode cX10_effectHold 33 = .ok (.bipush 7, 2) := by decide +kernel
theorem dX10_effectHold_35 : decode cX10_effectHold 35 = .ok (.if_icmp .ne 7, 3) := by decide +kernel
theorem dX10_effectHold_38 : decode cX10_effectHold 38 = .ok (.iconst 1, 1) := by decide +kernel
theorem dX10_effectHold_39 : decode cX10_effectHold 39 = .ok (.goto 4, 3) := by decide +kernel
theorem dX10_effectHold_42 : decode cX10_effectHold 42 = .ok (.iconst 0, 1) := by decide +kernel
theorem dX10_effectHold_43 : decode cX10_effectHold 43 = .ok (.istore_n 2, 1) := by decide +kernel
theorem dX10_effectHold_44 : decode cX10_effectHold 44 = .ok (.iload_n 2, 1) := by decide +kernel
theorem dX10_effectHold_45 : decode cX10_effectHold 45 = .ok (.ifCond .eq 28, 3) := by decide +kernel
theorem dX10_effectHold_48 : decode cX10_effectHold 48 = .ok (.aload_n 0, 1) := by decide +kernel
theorem dX10_effectHold_49 : decode cX10_effectHold 49 = .ok (.getfield 59, 3) := by decide +kernel
theorem dX10_effectHold_52 : decode cX10_effectHold 52 = .ok (.iload_n 1, 1) := by decide +kernel
theorem dX10_effectHold_53 : decode cX10_effectHold 53 = .ok (.iaload, 1) := by decide +kernel
theorem dX10_effectHold_54 : decode cX10_effectHold 54 = .ok (.iconst (-1), 1) := by decide +kernel
theorem dX10_effectHold_55 : decode cX10_effectHold 55 = .ok (.if_icmp .eq 18, 3) := by decide +kernel
theorem dX10_effectHold_58 : decode cX10_effectHold 58 = .ok (.aload_n 0, 1) := by decide +kernel
theorem dX10_effectHold_59 : decode cX10_effectHold 59 = .ok (.getfield 59, 3) := by decide +kernel
theorem dX10_effectHold_62 : decode cX10_effectHold 62 = .ok (.iload_n 1, 1) := by decide +kernel
theorem dX10_effectHold_63 : decode cX10_effectHold 63 = .ok (.iaload, 1) := by decide +kernel
theorem dX10_effectHold_64 : decode cX10_effectHold 64 = .ok (.aload_n 0, 1) := by decide +kernel
theorem dX10_effectHold_65 : decode cX10_effectHold 65 = .ok (.getfield 108, 3) := by decide +kernel
theorem dX10_effectHold_68 : decode cX10_effectHold 68 = .ok (.if_icmp .lt 5, 3) := by decide +kernel
theorem dX10_effectHold_71 : decode cX10_effectHold 71 = .ok (.iload_n 1, 1) := by decide +kernel
theorem dX10_effectHold_72 : decode cX10_effectHold 72 = .ok (.ireturn, 1) := by decide +kernel
theorem dX10_effectHold_73 : decode cX10_effectHold 73 = .ok (.iinc 1 1, 3) := by decide +kernel
theorem dX10_effectHold_76 : decode cX10_effectHold 76 = .ok (.goto (-71), 3) := by decide +kernel
theorem dX10_effectHold_79 : decode cX10_effectHold 79 = .ok (.aload_n 0, 1) := by decide +kernel
theorem dX10_effectHold_80 : decode cX10_effectHold 80 = .ok (.getfield 69, 3) := by decide +kernel
theorem dX10_effectHold_83 : decode cX10_effectHold 83 = .ok (.ireturn, 1) := by decide +kernel
theorem dX10_consumerHold_0 : decode cX10_consumerHold 0 = .ok (.aload_n 0, 1) := by decide +kernel
theorem dX10_consumerHold_1 : decode cX10_consumerHold 1 = .ok (.getfield 69, 3) := by decide +kernel
theorem dX10_consumerHold_4 : decode cX10_consumerHold 4 = .ok (.istore_n 2, 1) := by decide +kernel
theorem dX10_consumerHold_5 : decode cX10_consumerHold 5 = .ok (.iconst 0, 1) := by decide +kernel
theorem dX10_consumerHold_6 : decode cX10_consumerHold 6 = .ok (.istore_n 3, 1) := by decide +kernel
theorem dX10_consumerHold_7 : decode cX10_consumerHold 7 = .ok (.iload_n 3, 1) := by decide +kernel
theorem dX10_consumerHold_8 : decode cX10_consumerHold 8 = .ok (.aload_n 0, 1) := by decide +kernel
theorem dX10_consumerHold_9 : decode cX10_consumerHold 9 = .ok (.getfield 105, 3) := by decide +kernel
theorem dX10_consumerHold_12 : decode cX10_consumerHold 12 = .ok (.if_icmp .ge 24, 3) := by decide +kernel
theorem dX10_consumerHold_15 : decode cX10_consumerHold 15 = .ok (.iload_n 3, 1) := by decide +kernel
theorem dX10_consumerHold_16 : decode cX10_consumerHold 16 = .ok (.iload_n 1, 1) := by decide +kernel
theorem dX10_consumerHold_17 : decode cX10_consumerHold 17 = .ok (.if_icmp .eq 13, 3) := by decide +kernel
theorem dX10_consumerHold_20 : decode cX10_consumerHold 20 = .ok (.iload_n 2, 1) := by decide +kernel
theorem dX10_consumerHold_21 : decode cX10_consumerHold 21 = .ok (.aload_n 0, 1) := by decide +kernel
theorem dX10_consumerHold_22 : decode cX10_consumerHold 22 = .ok (.iload_n 3, 1) := by decide +kernel
theorem dX10_consumerHold_23 : decode cX10_consumerHold 23 = .ok (.invokevirtual 287, 3) := by decide +kernel
theorem dX10_consumerHold_26 : decode cX10_consumerHold 26 = .ok (.invokestatic 284, 3) := by decide +kernel
theorem dX10_consumerHold_29 : decode cX10_consumerHold 29 = .ok (.istore_n 2, 1) := by decide +kernel
theorem dX10_consumerHold_30 : decode cX10_consumerHold 30 = .ok (.iinc 3 1, 3) := by decide +kernel
theorem dX10_consumerHold_33 : decode cX10_consumerHold 33 = .ok (.goto (-26), 3) := by decide +kernel
theorem dX10_consumerHold_36 : decode cX10_consumerHold 36 = .ok (.iload_n 2, 1) := by decide +kernel
theorem dX10_consumerHold_37 : decode cX10_consumerHold 37 = .ok (.ireturn, 1) := by decide +kernel
theorem dX10_holdWithout_0 : decode cX10_holdWithout 0 = .ok (.aload_n 0, 1) := by decide +kernel
theorem dX10_holdWithout_1 : decode cX10_holdWithout 1 = .ok (.getfield 72, 3) := by decide +kernel
theorem dX10_holdWithout_4 : decode cX10_holdWithout 4 = .ok (.aload_n 0, 1) := by decide +kernel
theorem dX10_holdWithout_5 : decode cX10_holdWithout 5 = .ok (.invokevirtual 290, 3) := by decide +kernel
theorem dX10_holdWithout_8 : decode cX10_holdWithout 8 = .ok (.invokestatic 284, 3) := by decide +kernel
theorem dX10_holdWithout_11 : decode cX10_holdWithout 11 = .ok (.aload_n 0, 1) := by decide +kernel
theorem dX10_holdWithout_12 : decode cX10_holdWithout 12 = .ok (.invokevirtual 293, 3) := by decide +kernel
theorem dX10_holdWithout_15 : decode cX10_holdWithout 15 = .ok (.aload_n 0, 1) := by decide +kernel
theorem dX10_holdWithout_16 : decode cX10_holdWithout 16 = .ok (.iload_n 1, 1) := by decide +kernel
theorem dX10_holdWithout_17 : decode cX10_holdWithout 17 = .ok (.invokevirtual 296, 3) := by decide +kernel
theorem dX10_holdWithout_20 : decode cX10_holdWithout 20 = .ok (.invokestatic 284, 3) := by decide +kernel
theorem dX10_holdWithout_23 : decode cX10_holdWithout 23 = .ok (.invokestatic 284, 3) := by decide +kernel
theorem dX10_holdWithout_26 : decode cX10_holdWithout 26 = .ok (.ireturn, 1) := by decide +kernel
theorem dX10_hold_0 : decode cX10_hold 0 = .ok (.aload_n 0, 1) := by decide +kernel
theorem dX10_hold_1 : decode cX10_hold 1 = .ok (.iconst (-1), 1) := by decide +kernel
theorem dX10_hold_2 : decode cX10_hold 2 = .ok (.invokevirtual 299, 3) := by decide +kernel
theorem dX10_hold_5 : decode cX10_hold 5 = .ok (.ireturn, 1) := by decide +kernel
theorem dX10_freeSegments_0 : decode cX10_freeSegments 0 = .ok (.iconst 0, 1) := by decide +kernel
theorem dX10_freeSegments_1 : decode cX10_freeSegments 1 = .ok (.istore_n 2, 1) := by decide +kernel
theorem dX10_freeSegments_2 : decode cX10_freeSegments 2 = .ok (.iload_n 2, 1) := by decide +kernel
theorem dX10_freeSegments_3 : decode cX10_freeSegments 3 = .ok (.aload_n 0, 1) := by decide +kernel
theorem dX10_freeSegments_4 : decode cX10_freeSegments 4 = .ok (.getfield 81, 3) := by decide +kernel
theorem dX10_freeSegments_7 : decode cX10_freeSegments 7 = .ok (.iconst 1, 1) := by decide +kernel
theorem dX10_freeSegments_8 : decode cX10_freeSegments 8 = .ok (.isub, 1) := by decide +kernel
theorem dX10_freeSegments_9 : decode cX10_freeSegments 9 = .ok (.if_icmp .ge 21, 3) := by decide +kernel
theorem dX10_freeSegments_12 : decode cX10_freeSegments 12 = .ok (.aload_n 0, 1) := by decide +kernel
theorem dX10_freeSegments_13 : decode cX10_freeSegments 13 = .ok (.getfield 78, 3) := by decide +kernel
theorem dX10_freeSegments_16 : decode cX10_freeSegments 16 = .ok (.iload_n 2, 1) := by decide +kernel
theorem dX10_freeSegments_17 : decode cX10_freeSegments 17 = .ok (.iconst 1, 1) := by decide +kernel
theorem dX10_freeSegments_18 : decode cX10_freeSegments 18 = .ok (.iadd, 1) := by decide +kernel
theorem dX10_freeSegments_19 : decode cX10_freeSegments 19 = .ok (.iaload, 1) := by decide +kernel
theorem dX10_freeSegments_20 : decode cX10_freeSegments 20 = .ok (.iload_n 1, 1) := by decide +kernel
theorem dX10_freeSegments_21 : decode cX10_freeSegments 21 = .ok (.if_icmp .gt 9, 3) := by decide +kernel
theorem dX10_freeSegments_24 : decode cX10_freeSegments 24 = .ok (.iinc 2 1, 3) := by decide +kernel
theorem dX10_freeSegments_27 : decode cX10_freeSegments 27 = .ok (.goto (-25), 3) := by decide +kernel
theorem dX10_freeSegments_30 : decode cX10_freeSegments 30 = .ok (.iload_n 2, 1) := by decide +kernel
theorem dX10_freeSegments_31 : decode cX10_freeSegments 31 = .ok (.ireturn, 1) := by decide +kernel
theorem dX10_trim_0 : decode cX10_trim 0 = .ok (.aload_n 0, 1) := by decide +kernel
theorem dX10_trim_1 : decode cX10_trim 1 = .ok (.aload_n 0, 1) := by decide +kernel
theorem dX10_trim_2 : decode cX10_trim 2 = .ok (.invokevirtual 302, 3) := by decide +kernel
theorem dX10_trim_5 : decode cX10_trim 5 = .ok (.invokevirtual 305, 3) := by decide +kernel
theorem dX10_trim_8 : decode cX10_trim 8 = .ok (.istore_n 1, 1) := by decide +kernel
theorem dX10_trim_9 : decode cX10_trim 9 = .ok (.iload_n 1, 1) := by decide +kernel
theorem dX10_trim_10 : decode cX10_trim 10 = .ok (.ifCond .ne 4, 3) := by decide +kernel
theorem dX10_trim_13 : decode cX10_trim 13 = .ok (.return_, 1) := by decide +kernel
theorem dX10_trim_14 : decode cX10_trim 14 = .ok (.aload_n 0, 1) := by decide +kernel
theorem dX10_trim_15 : decode cX10_trim 15 = .ok (.dup, 1) := by decide +kernel
theorem dX10_trim_16 : decode cX10_trim 16 = .ok (.getfield 84, 3) := by decide +kernel
theorem dX10_trim_19 : decode cX10_trim 19 = .ok (.iload_n 1, 1) := by decide +kernel
theorem dX10_trim_20 : decode cX10_trim 20 = .ok (.iadd, 1) := by decide +kernel
theorem dX10_trim_21 : decode cX10_trim 21 = .ok (.putfield 84, 3) := by decide +kernel
theorem dX10_trim_24 : decode cX10_trim 24 = .ok (.aload_n 0, 1) := by decide +kernel
theorem dX10_trim_25 : decode cX10_trim 25 = .ok (.dup, 1) := by decide +kernel
theorem dX10_trim_26 : decode cX10_trim 26 = .ok (.getfield 81, 3) := by decide +kernel
theorem dX10_trim_29 : decode cX10_trim 29 = .ok (.iload_n 1, 1) := by decide +kernel
theorem dX10_trim_30 : decode cX10_trim 30 = .ok (.isub, 1) := by decide +kernel
theorem dX10_trim_31 : decode cX10_trim 31 = .ok (.putfield 81, 3) := by decide +kernel
theorem dX10_trim_34 : decode cX10_trim 34 = .ok (.iconst 0, 1) := by decide +kernel
theorem dX10_trim_35 : decode cX10_trim 35 = .ok (.istore_n 2, 1) := by decide +kernel
theorem dX10_trim_36 : decode cX10_trim 36 = .ok (.iload_n 2, 1) := by decide +kernel
theorem dX10_trim_37 : decode cX10_trim 37 = .ok (.aload_n 0, 1) := by decide +kernel
theorem dX10_trim_38 : decode cX10_trim 38 = .ok (.getfield 81, 3) := by decide +kernel
theorem dX10_trim_41 : decode cX10_trim 41 = .ok (.if_icmp .ge 37, 3) := by decide +kernel
theorem dX10_trim_44 : decode cX10_trim 44 = .ok (.aload_n 0, 1) := by decide +kernel
theorem dX10_trim_45 : decode cX10_trim 45 = .ok (.getfield 75, 3) := by decide +kernel
theorem dX10_trim_48 : decode cX10_trim 48 = .ok (.iload_n 2, 1) := by decide +kernel
theorem dX10_trim_49 : decode cX10_trim 49 = .ok (.aload_n 0, 1) := by decide +kernel
theorem dX10_trim_50 : decode cX10_trim 50 = .ok (.getfield 75, 3) := by decide +kernel
theorem dX10_trim_53 : decode cX10_trim 53 = .ok (.iload_n 2, 1) := by decide +kernel
theorem dX10_trim_54 : decode cX10_trim 54 = .ok (.iload_n 1, 1) := by decide +kernel
theorem dX10_trim_55 : decode cX10_trim 55 = .ok (.iadd, 1) := by decide +kernel
theorem dX10_trim_56 : decode cX10_trim 56 = .ok (.iaload, 1) := by decide +kernel
theorem dX10_trim_57 : decode cX10_trim 57 = .ok (.iastore, 1) := by decide +kernel
theorem dX10_trim_58 : decode cX10_trim 58 = .ok (.aload_n 0, 1) := by decide +kernel
theorem dX10_trim_59 : decode cX10_trim 59 = .ok (.getfield 78, 3) := by decide +kernel
theorem dX10_trim_62 : decode cX10_trim 62 = .ok (.iload_n 2, 1) := by decide +kernel
theorem dX10_trim_63 : decode cX10_trim 63 = .ok (.aload_n 0, 1) := by decide +kernel
theorem dX10_trim_64 : decode cX10_trim 64 = .ok (.getfield 78, 3) := by decide +kernel
theorem dX10_trim_67 : decode cX10_trim 67 = .ok (.iload_n 2, 1) := by decide +kernel
theorem dX10_trim_68 : decode cX10_trim 68 = .ok (.iload_n 1, 1) := by decide +kernel
theorem dX10_trim_69 : decode cX10_trim 69 = .ok (.iadd, 1) := by decide +kernel
theorem dX10_trim_70 : decode cX10_trim 70 = .ok (.iaload, 1) := by decide +kernel
theorem dX10_trim_71 : decode cX10_trim 71 = .ok (.iastore, 1) := by decide +kernel
theorem dX10_trim_72 : decode cX10_trim 72 = .ok (.iinc 2 1, 3) := by decide +kernel
theorem dX10_trim_75 : decode cX10_trim 75 = .ok (.goto (-39), 3) := by decide +kernel
theorem dX10_trim_78 : decode cX10_trim 78 = .ok (.return_, 1) := by decide +kernel
theorem dX10_asideOf_0 : decode cX10_asideOf 0 = .ok (.iconst 0, 1) := by decide +kernel
theorem dX10_asideOf_1 : decode cX10_asideOf 1 = .ok (.istore_n 2, 1) := by decide +kernel
theorem dX10_asideOf_2 : decode cX10_asideOf 2 = .ok (.aload_n 0, 1) := by decide +kernel
theorem dX10_asideOf_3 : decode cX10_asideOf 3 = .ok (.getfield 99, 3) := by decide +kernel
theorem dX10_asideOf_6 : decode cX10_asideOf 6 = .ok (.iload_n 1, 1) := by decide +kernel
theorem dX10_asideOf_7 : decode cX10_asideOf 7 = .ok (.iaload, 1) := by decide +kernel
theorem dX10_asideOf_8 : decode cX10_asideOf 8 = .ok (.istore_n 3, 1) := by decide +kernel
theorem dX10_asideOf_9 : decode cX10_asideOf 9 = .ok (.iload_n 3, 1) := by decide +kernel
theorem dX10_asideOf_10 : decode cX10_asideOf 10 = .ok (.aload_n 0, 1) := by decide +kernel
theorem dX10_asideOf_11 : decode cX10_asideOf 11 = .ok (.getfield 93, 3) := by decide +kernel
theorem dX10_asideOf_14 : decode cX10_asideOf 14 = .ok (.aload_n 0, 1) := by decide +kernel
theorem dX10_asideOf_15 : decode cX10_asideOf 15 = .ok (.getfield 96, 3) := by decide +kernel
theorem dX10_asideOf_18 : decode cX10_asideOf 18 = .ok (.iload_n 1, 1) := by decide +kernel
theorem dX10_asideOf_19 : decode cX10_asideOf 19 = .ok (.iaload, 1) := by decide +kernel
theorem dX10_asideOf_20 : decode cX10_asideOf 20 = .ok (.iaload, 1) := by decide +kernel
theorem dX10_asideOf_21 : decode cX10_asideOf 21 = .ok (.if_icmp .ge 26, 3) := by decide +kernel
theorem dX10_asideOf_24 : decode cX10_asideOf 24 = .ok (.iload_n 2, 1) := by decide +kernel
theorem dX10_asideOf_25 : decode cX10_asideOf 25 = .ok (.aload_n 0, 1) := by decide +kernel
theorem dX10_asideOf_26 : decode cX10_asideOf 26 = .ok (.iload_n 1, 1) := by decide +kernel
theorem dX10_asideOf_27 : decode cX10_asideOf 27 = .ok (.iload_n 3, 1) := by decide +kernel
theorem dX10_asideOf_28 : decode cX10_asideOf 28 = .ok (.invokevirtual 274, 3) := by decide +kernel
theorem dX10_asideOf_31 : decode cX10_asideOf 31 = .ok (.ifCond .eq 7, 3) := by decide +kernel
theorem dX10_asideOf_34 : decode cX10_asideOf 34 = .ok (.iconst 0, 1) := by decide +kernel
theorem dX10_asideOf_35 : decode cX10_asideOf 35 = .ok (.goto 4, 3) := by decide +kernel
theorem dX10_asideOf_38 : decode cX10_asideOf 38 = .ok (.iconst 1, 1) := by decide +kernel
theorem dX10_asideOf_39 : decode cX10_asideOf 39 = .ok (.iadd, 1) := by decide +kernel
theorem dX10_asideOf_40 : decode cX10_asideOf 40 = .ok (.istore_n 2, 1) := by decide +kernel
theorem dX10_asideOf_41 : decode cX10_asideOf 41 = .ok (.iinc 3 1, 3) := by decide +kernel
theorem dX10_asideOf_44 : decode cX10_asideOf 44 = .ok (.goto (-35), 3) := by decide +kernel
theorem dX10_asideOf_47 : decode cX10_asideOf 47 = .ok (.iload_n 2, 1) := by decide +kernel
theorem dX10_asideOf_48 : decode cX10_asideOf 48 = .ok (.ireturn, 1) := by decide +kernel
theorem dX10_lagging_0 : decode cX10_lagging 0 = .ok (.iconst (-1), 1) := by decide +kernel
theorem dX10_lagging_1 : decode cX10_lagging 1 = .ok (.istore_n 1, 1) := by decide +kernel
theorem dX10_lagging_2 : decode cX10_lagging 2 = .ok (.iconst 0, 1) := by decide +kernel
theorem dX10_lagging_3 : decode cX10_lagging 3 = .ok (.istore_n 2, 1) := by decide +kernel
theorem dX10_lagging_4 : decode cX10_lagging 4 = .ok (.iload_n 2, 1) := by decide +kernel
theorem dX10_lagging_5 : decode cX10_lagging 5 = .ok (.aload_n 0, 1) := by decide +kernel
theorem dX10_lagging_6 : decode cX10_lagging 6 = .ok (.getfield 105, 3) := by decide +kernel
theorem dX10_lagging_9 : decode cX10_lagging 9 = .ok (.if_icmp .ge 37, 3) := by decide +kernel
theorem dX10_lagging_12 : decode cX10_lagging 12 = .ok (.aload_n 0, 1) := by decide +kernel
theorem dX10_lagging_13 : decode cX10_lagging 13 = .ok (.iload_n 2, 1) := by decide +kernel
theorem dX10_lagging_14 : decode cX10_lagging 14 = .ok (.invokevirtual 308, 3) := by decide +kernel
theorem dX10_lagging_17 : decode cX10_lagging 17 = .ok (.ifCond .le 23, 3) := by decide +kernel
theorem dX10_lagging_20 : decode cX10_lagging 20 = .ok (.iload_n 1, 1) := by decide +kernel
theorem dX10_lagging_21 : decode cX10_lagging 21 = .ok (.iconst (-1), 1) := by decide +kernel
theorem dX10_lagging_22 : decode cX10_lagging 22 = .ok (.if_icmp .eq 16, 3) := by decide +kernel
theorem dX10_lagging_25 : decode cX10_lagging 25 = .ok (.aload_n 0, 1) := by decide +kernel
theorem dX10_lagging_26 : decode cX10_lagging 26 = .ok (.iload_n 2, 1) := by decide +kernel
theorem dX10_lagging_27 : decode cX10_lagging 27 = .ok (.invokevirtual 287, 3) := by decide +kernel
theorem dX10_lagging_30 : decode cX10_lagging 30 = .ok (.aload_n 0, 1) := by decide +kernel
theorem dX10_lagging_31 : decode cX10_lagging 31 = .ok (.iload_n 1, 1) := by decide +kernel
theorem dX10_lagging_32 : decode cX10_lagging 32 = .ok (.invokevirtual 287, 3) := by decide +kernel
theorem dX10_lagging_35 : decode cX10_lagging 35 = .ok (.if_icmp .ge 5, 3) := by decide +kernel
theorem dX10_lagging_38 : decode cX10_lagging 38 = .ok (.iload_n 2, 1) := by decide +kernel
theorem dX10_lagging_39 : decode cX10_lagging 39 = .ok (.istore_n 1, 1) := by decide +kernel
theorem dX10_lagging_40 : decode cX10_lagging 40 = .ok (.iinc 2 1, 3) := by decide +kernel
theorem dX10_lagging_43 : decode cX10_lagging 43 = .ok (.goto (-39), 3) := by decide +kernel
theorem dX10_lagging_46 : decode cX10_lagging 46 = .ok (.iload_n 1, 1) := by decide +kernel
theorem dX10_lagging_47 : decode cX10_lagging 47 = .ok (.ireturn, 1) := by decide +kernel
theorem dX10_settle_0 : decode cX10_settle 0 = .ok (.aload_n 0, 1) := by decide +kernel
theorem dX10_settle_1 : decode cX10_settle 1 = .ok (.invokevirtual 311, 3) := by decide +kernel
theorem dX10_settle_4 : decode cX10_settle 4 = .ok (.aload_n 0, 1) := by decide +kernel
theorem dX10_settle_5 : decode cX10_settle 5 = .ok (.invokevirtual 314, 3) := by decide +kernel
theorem dX10_settle_8 : decode cX10_settle 8 = .ok (.aload_n 0, 1) := by decide +kernel
theorem dX10_settle_9 : decode cX10_settle 9 = .ok (.getfield 35, 3) := by decide +kernel
theorem dX10_settle_12 : decode cX10_settle 12 = .ok (.if_icmp .le 10, 3) := by decide +kernel
theorem dX10_settle_15 : decode cX10_settle 15 = .ok (.aload_n 0, 1) := by decide +kernel
theorem dX10_settle_16 : decode cX10_settle 16 = .ok (.invokevirtual 317, 3) := by decide +kernel
theorem dX10_settle_19 : decode cX10_settle 19 = .ok (.goto 4, 3) := by decide +kernel
theorem dX10_settle_22 : decode cX10_settle 22 = .ok (.iconst (-1), 1) := by decide +kernel
theorem dX10_settle_23 : decode cX10_settle 23 = .ok (.istore_n 1, 1) := by decide +kernel
theorem dX10_settle_24 : decode cX10_settle 24 = .ok (.iload_n 1, 1) := by decide +kernel
theorem dX10_settle_25 : decode cX10_settle 25 = .ok (.iconst (-1), 1) := by decide +kernel
theorem dX10_settle_26 : decode cX10_settle 26 = .ok (.if_icmp .eq 88, 3) := by decide +kernel
theorem dX10_settle_29 : decode cX10_settle 29 = .ok (.aload_n 0, 1) := by decide +kernel
theorem dX10_settle_30 : decode cX10_settle 30 = .ok (.invokevirtual 320, 3) := by decide +kernel
theorem dX10_settle_33 : decode cX10_settle 33 = .ok (.aload_n 0, 1) := by decide +kernel
theorem dX10_settle_34 : decode cX10_settle 34 = .ok (.iload_n 1, 1) := by decide +kernel
theorem dX10_settle_35 : decode cX10_settle 35 = .ok (.invokevirtual 308, 3) := by decide +kernel
theorem dX10_settle_38 : decode cX10_settle 38 = .ok (.iadd, 1) := by decide +kernel
theorem dX10_settle_39 : decode cX10_settle 39 = .ok (.aload_n 0, 1) := by decide +kernel
theorem dX10_settle_40 : decode cX10_settle 40 = .ok (.getfield 38, 3) := by decide +kernel
theorem dX10_settle_43 : decode cX10_settle 43 = .ok (.if_icmp .gt 71, 3) := by decide +kernel
theorem dX10_settle_46 : decode cX10_settle 46 = .ok (.aload_n 0, 1) := by decide +kernel
theorem dX10_settle_47 : decode cX10_settle 47 = .ok (.getfield 99, 3) := by decide +kernel
theorem dX10_settle_50 : decode cX10_settle 50 = .ok (.iload_n 1, 1) := by decide +kernel
theorem dX10_settle_51 : decode cX10_settle 51 = .ok (.iaload, 1) := by decide +kernel
theorem dX10_settle_52 : decode cX10_settle 52 = .ok (.istore_n 2, 1) := by decide +kernel
theorem dX10_settle_53 : decode cX10_settle 53 = .ok (.iload_n 2, 1) := by decide +kernel
theorem dX10_settle_54 : decode cX10_settle 54 = .ok (.aload_n 0, 1) := by decide +kernel
theorem dX10_settle_55 : decode cX10_settle 55 = .ok (.getfield 93, 3) := by decide +kernel
theorem dX10_settle_58 : decode cX10_settle 58 = .ok (.aload_n 0, 1) := by decide +kernel
theorem dX10_settle_59 : decode cX10_settle 59 = .ok (.getfield 96, 3) := by decide +kernel
theorem dX10_settle_62 : decode cX10_settle 62 = .ok (.iload_n 1, 1) := by decide +kernel
theorem dX10_settle_63 : decode cX10_settle 63 = .ok (.iaload, 1) := by decide +kernel
theorem dX10_settle_64 : decode cX10_settle 64 = .ok (.iaload, 1) := by decide +kernel
theorem dX10_settle_65 : decode cX10_settle 65 = .ok (.if_icmp .ge 22, 3) := by decide +kernel
theorem dX10_settle_68 : decode cX10_settle 68 = .ok (.aload_n 0, 1) := by decide +kernel
theorem dX10_settle_69 : decode cX10_settle 69 = .ok (.getfield 102, 3) := by decide +kernel
theorem dX10_settle_72 : decode cX10_settle 72 = .ok (.sipush 400, 3) := by decide +kernel
theorem dX10_settle_75 : decode cX10_settle 75 = .ok (.iload_n 1, 1) := by decide +kernel
theorem dX10_settle_76 : decode cX10_settle 76 = .ok (.imul, 1) := by decide +kernel
theorem dX10_settle_77 : decode cX10_settle 77 = .ok (.iload_n 2, 1) := by decide +kernel
theorem dX10_settle_78 : decode cX10_settle 78 = .ok (.iadd, 1) := by decide +kernel
theorem dX10_settle_79 : decode cX10_settle 79 = .ok (.iconst 1, 1) := by decide +kernel
theorem dX10_settle_80 : decode cX10_settle 80 = .ok (.bastore, 1) := by decide +kernel
theorem dX10_settle_81 : decode cX10_settle 81 = .ok (.iinc 2 1, 3) := by decide +kernel
theorem dX10_settle_84 : decode cX10_settle 84 = .ok (.goto (-31), 3) := by decide +kernel
theorem dX10_settle_87 : decode cX10_settle 87 = .ok (.aload_n 0, 1) := by decide +kernel
theorem dX10_settle_88 : decode cX10_settle 88 = .ok (.invokevirtual 311, 3) := by decide +kernel
theorem dX10_settle_91 : decode cX10_settle 91 = .ok (.aload_n 0, 1) := by decide +kernel
theorem dX10_settle_92 : decode cX10_settle 92 = .ok (.invokevirtual 314, 3) := by decide +kernel
theorem dX10_settle_95 : decode cX10_settle 95 = .ok (.aload_n 0, 1) := by decide +kernel
theorem dX10_settle_96 : decode cX10_settle 96 = .ok (.getfield 35, 3) := by decide +kernel
theorem dX10_settle_99 : decode cX10_settle 99 = .ok (.if_icmp .le 10, 3) := by decide +kernel
theorem dX10_settle_102 : decode cX10_settle 102 = .ok (.aload_n 0, 1) := by decide +kernel
theorem dX10_settle_103 : decode cX10_settle 103 = .ok (.invokevirtual 317, 3) := by decide +kernel
theorem dX10_settle_106 : decode cX10_settle 106 = .ok (.goto 4, 3) := by decide +kernel
theorem dX10_settle_109 : decode cX10_settle 109 = .ok (.iconst (-1), 1) := by decide +kernel
theorem dX10_settle_110 : decode cX10_settle 110 = .ok (.istore_n 1, 1) := by decide +kernel
theorem dX10_settle_111 : decode cX10_settle 111 = .ok (.goto (-87), 3) := by decide +kernel
theorem dX10_settle_114 : decode cX10_settle 114 = .ok (.return_, 1) := by decide +kernel
theorem dX10_isFull_0 : decode cX10_isFull 0 = .ok (.aload_n 0, 1) := by decide +kernel
theorem dX10_isFull_1 : decode cX10_isFull 1 = .ok (.getfield 69, 3) := by decide +kernel
theorem dX10_isFull_4 : decode cX10_isFull 4 = .ok (.sipush 400, 3) := by decide +kernel
theorem dX10_isFull_7 : decode cX10_isFull 7 = .ok (.if_icmp .ne 7, 3) := by decide +kernel
