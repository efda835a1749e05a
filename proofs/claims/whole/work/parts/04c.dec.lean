theorem dX10_isFull_10 : decode cX10_isFull 10 = .ok (.iconst 1, 1) := by decide +kernel
theorem dX10_isFull_11 : decode cX10_isFull 11 = .ok (.goto 4, 3) := by decide +kernel
theorem dX10_isFull_14 : decode cX10_isFull 14 = .ok (.iconst 0, 1) := by decide +kernel
theorem dX10_isFull_15 : decode cX10_isFull 15 = .ok (.ireturn, 1) := by decide +kernel
theorem dX10_configure_0 : decode cX10_configure 0 = .ok (.aload_n 0, 1) := by decide +kernel
theorem dX10_configure_1 : decode cX10_configure 1 = .ok (.iload_n 1, 1) := by decide +kernel
theorem dX10_configure_2 : decode cX10_configure 2 = .ok (.bipush 40, 2) := by decide +kernel
theorem dX10_configure_4 : decode cX10_configure 4 = .ok (.sipush 400, 3) := by decide +kernel
theorem dX10_configure_7 : decode cX10_configure 7 = .ok (.invokestatic 22, 3) := by decide +kernel
theorem dX10_configure_10 : decode cX10_configure 10 = .ok (.ifCond .eq 25, 3) := by decide +kernel
theorem dX10_configure_13 : decode cX10_configure 13 = .ok (.iload_n 2, 1) := by decide +kernel
theorem dX10_configure_14 : decode cX10_configure 14 = .ok (.bipush 40, 2) := by decide +kernel
theorem dX10_configure_16 : decode cX10_configure 16 = .ok (.sipush 9999, 3) := by decide +kernel
theorem dX10_configure_19 : decode cX10_configure 19 = .ok (.invokestatic 22, 3) := by decide +kernel
theorem dX10_configure_22 : decode cX10_configure 22 = .ok (.ifCond .eq 13, 3) := by decide +kernel
theorem dX10_configure_25 : decode cX10_configure 25 = .ok (.iload_n 3, 1) := by decide +kernel
theorem dX10_configure_26 : decode cX10_configure 26 = .ok (.iconst 0, 1) := by decide +kernel
theorem dX10_configure_27 : decode cX10_configure 27 = .ok (.bipush 100, 2) := by decide +kernel
theorem dX10_configure_29 : decode cX10_configure 29 = .ok (.invokestatic 22, 3) := by decide +kernel
theorem dX10_configure_32 : decode cX10_configure 32 = .ok (.ifCond .ne 7, 3) := by decide +kernel
theorem dX10_configure_35 : decode cX10_configure 35 = .ok (.iconst 1, 1) := by decide +kernel
theorem dX10_configure_36 : decode cX10_configure 36 = .ok (.goto 4, 3) := by decide +kernel
theorem dX10_configure_39 : decode cX10_configure 39 = .ok (.iconst 0, 1) := by decide +kernel
theorem dX10_configure_40 : decode cX10_configure 40 = .ok (.iconst 0, 1) := by decide +kernel
theorem dX10_configure_41 : decode cX10_configure 41 = .ok (.iconst 0, 1) := by decide +kernel
theorem dX10_configure_42 : decode cX10_configure 42 = .ok (.invokevirtual 14, 3) := by decide +kernel
theorem dX10_configure_45 : decode cX10_configure 45 = .ok (.ifCond .eq 5, 3) := by decide +kernel
theorem dX10_configure_48 : decode cX10_configure 48 = .ok (.iconst 0, 1) := by decide +kernel
theorem dX10_configure_49 : decode cX10_configure 49 = .ok (.ireturn, 1) := by decide +kernel
theorem dX10_configure_50 : decode cX10_configure 50 = .ok (.aload_n 0, 1) := by decide +kernel
theorem dX10_configure_51 : decode cX10_configure 51 = .ok (.getfield 69, 3) := by decide +kernel
theorem dX10_configure_54 : decode cX10_configure 54 = .ok (.aload_n 0, 1) := by decide +kernel
theorem dX10_configure_55 : decode cX10_configure 55 = .ok (.invokevirtual 255, 3) := by decide +kernel
theorem dX10_configure_58 : decode cX10_configure 58 = .ok (.isub, 1) := by decide +kernel
theorem dX10_configure_59 : decode cX10_configure 59 = .ok (.istore 4, 2) := by decide +kernel
theorem dX10_configure_61 : decode cX10_configure 61 = .ok (.aload_n 0, 1) := by decide +kernel
theorem dX10_configure_62 : decode cX10_configure 62 = .ok (.iload_n 1, 1) := by decide +kernel
theorem dX10_configure_63 : decode cX10_configure 63 = .ok (.putfield 32, 3) := by decide +kernel
theorem dX10_configure_66 : decode cX10_configure 66 = .ok (.aload_n 0, 1) := by decide +kernel
theorem dX10_configure_67 : decode cX10_configure 67 = .ok (.iload_n 2, 1) := by decide +kernel
theorem dX10_configure_68 : decode cX10_configure 68 = .ok (.putfield 35, 3) := by decide +kernel
theorem dX10_configure_71 : decode cX10_configure 71 = .ok (.aload_n 0, 1) := by decide +kernel
theorem dX10_configure_72 : decode cX10_configure 72 = .ok (.iload_n 3, 1) := by decide +kernel
theorem dX10_configure_73 : decode cX10_configure 73 = .ok (.putfield 38, 3) := by decide +kernel
theorem dX10_configure_76 : decode cX10_configure 76 = .ok (.aload_n 0, 1) := by decide +kernel
theorem dX10_configure_77 : decode cX10_configure 77 = .ok (.iconst 0, 1) := by decide +kernel
theorem dX10_configure_78 : decode cX10_configure 78 = .ok (.putfield 69, 3) := by decide +kernel
theorem dX10_configure_81 : decode cX10_configure 81 = .ok (.aload_n 0, 1) := by decide +kernel
theorem dX10_configure_82 : decode cX10_configure 82 = .ok (.iconst 0, 1) := by decide +kernel
theorem dX10_configure_83 : decode cX10_configure 83 = .ok (.putfield 72, 3) := by decide +kernel
theorem dX10_configure_86 : decode cX10_configure 86 = .ok (.aload_n 0, 1) := by decide +kernel
theorem dX10_configure_87 : decode cX10_configure 87 = .ok (.iconst 1, 1) := by decide +kernel
theorem dX10_configure_88 : decode cX10_configure 88 = .ok (.putfield 81, 3) := by decide +kernel
theorem dX10_configure_91 : decode cX10_configure 91 = .ok (.aload_n 0, 1) := by decide +kernel
theorem dX10_configure_92 : decode cX10_configure 92 = .ok (.getfield 75, 3) := by decide +kernel
theorem dX10_configure_95 : decode cX10_configure 95 = .ok (.iconst 0, 1) := by decide +kernel
theorem dX10_configure_96 : decode cX10_configure 96 = .ok (.iconst 0, 1) := by decide +kernel
theorem dX10_configure_97 : decode cX10_configure 97 = .ok (.iastore, 1) := by decide +kernel
theorem dX10_configure_98 : decode cX10_configure 98 = .ok (.aload_n 0, 1) := by decide +kernel
theorem dX10_configure_99 : decode cX10_configure 99 = .ok (.getfield 78, 3) := by decide +kernel
theorem dX10_configure_102 : decode cX10_configure 102 = .ok (.iconst 0, 1) := by decide +kernel
theorem dX10_configure_103 : decode cX10_configure 103 = .ok (.iconst 0, 1) := by decide +kernel
theorem dX10_configure_104 : decode cX10_configure 104 = .ok (.iastore, 1) := by decide +kernel
theorem dX10_configure_105 : decode cX10_configure 105 = .ok (.aload_n 0, 1) := by decide +kernel
theorem dX10_configure_106 : decode cX10_configure 106 = .ok (.iconst 0, 1) := by decide +kernel
theorem dX10_configure_107 : decode cX10_configure 107 = .ok (.putfield 84, 3) := by decide +kernel
theorem dX10_configure_110 : decode cX10_configure 110 = .ok (.iconst 0, 1) := by decide +kernel
theorem dX10_configure_111 : decode cX10_configure 111 = .ok (.istore 5, 2) := by decide +kernel
theorem dX10_configure_113 : decode cX10_configure 113 = .ok (.iload 5, 2) := by decide +kernel
theorem dX10_configure_115 : decode cX10_configure 115 = .ok (.iconst 4, 1) := by decide +kernel
theorem dX10_configure_116 : decode cX10_configure 116 = .ok (.if_icmp .ge 17, 3) := by decide +kernel
theorem dX10_configure_119 : decode cX10_configure 119 = .ok (.aload_n 0, 1) := by decide +kernel
theorem dX10_configure_120 : decode cX10_configure 120 = .ok (.getfield 87, 3) := by decide +kernel
theorem dX10_configure_123 : decode cX10_configure 123 = .ok (.iload 5, 2) := by decide +kernel
theorem dX10_configure_125 : decode cX10_configure 125 = .ok (.iconst (-1), 1) := by decide +kernel
theorem dX10_configure_126 : decode cX10_configure 126 = .ok (.iastore, 1) := by decide +kernel
theorem dX10_configure_127 : decode cX10_configure 127 = .ok (.iinc 5 1, 3) := by decide +kernel
theorem dX10_configure_130 : decode cX10_configure 130 = .ok (.goto (-17), 3) := by decide +kernel
theorem dX10_configure_133 : decode cX10_configure 133 = .ok (.iconst 0, 1) := by decide +kernel
theorem dX10_configure_134 : decode cX10_configure 134 = .ok (.istore 5, 2) := by decide +kernel
theorem dX10_configure_136 : decode cX10_configure 136 = .ok (.iload 5, 2) := by decide +kernel
theorem dX10_configure_138 : decode cX10_configure 138 = .ok (.iconst 4, 1) := by decide +kernel
theorem dX10_configure_139 : decode cX10_configure 139 = .ok (.if_icmp .ge 17, 3) := by decide +kernel
theorem dX10_configure_142 : decode cX10_configure 142 = .ok (.aload_n 0, 1) := by decide +kernel
theorem dX10_configure_143 : decode cX10_configure 143 = .ok (.getfield 93, 3) := by decide +kernel
theorem dX10_configure_146 : decode cX10_configure 146 = .ok (.iload 5, 2) := by decide +kernel
theorem dX10_configure_148 : decode cX10_configure 148 = .ok (.iconst 0, 1) := by decide +kernel
theorem dX10_configure_149 : decode cX10_configure 149 = .ok (.iastore, 1) := by decide +kernel
theorem dX10_configure_150 : decode cX10_configure 150 = .ok (.iinc 5 1, 3) := by decide +kernel
theorem dX10_configure_153 : decode cX10_configure 153 = .ok (.goto (-17), 3) := by decide +kernel
theorem dX10_configure_156 : decode cX10_configure 156 = .ok (.iconst 0, 1) := by decide +kernel
theorem dX10_configure_157 : decode cX10_configure 157 = .ok (.istore 5, 2) := by decide +kernel
theorem dX10_configure_159 : decode cX10_configure 159 = .ok (.iload 5, 2) := by decide +kernel
theorem dX10_configure_161 : decode cX10_configure 161 = .ok (.sipush 2400, 3) := by decide +kernel
theorem dX10_configure_164 : decode cX10_configure 164 = .ok (.if_icmp .ge 17, 3) := by decide +kernel
theorem dX10_configure_167 : decode cX10_configure 167 = .ok (.aload_n 0, 1) := by decide +kernel
theorem dX10_configure_168 : decode cX10_configure 168 = .ok (.getfield 102, 3) := by decide +kernel
theorem dX10_configure_171 : decode cX10_configure 171 = .ok (.iload 5, 2) := by decide +kernel
theorem dX10_configure_173 : decode cX10_configure 173 = .ok (.iconst 0, 1) := by decide +kernel
theorem dX10_configure_174 : decode cX10_configure 174 = .ok (.bastore, 1) := by decide +kernel
theorem dX10_configure_175 : decode cX10_configure 175 = .ok (.iinc 5 1, 3) := by decide +kernel
theorem dX10_configure_178 : decode cX10_configure 178 = .ok (.goto (-19), 3) := by decide +kernel
theorem dX10_configure_181 : decode cX10_configure 181 = .ok (.aload_n 0, 1) := by decide +kernel
theorem dX10_configure_182 : decode cX10_configure 182 = .ok (.iconst 0, 1) := by decide +kernel
theorem dX10_configure_183 : decode cX10_configure 183 = .ok (.putfield 105, 3) := by decide +kernel
theorem dX10_configure_186 : decode cX10_configure 186 = .ok (.aload_n 0, 1) := by decide +kernel
theorem dX10_configure_187 : decode cX10_configure 187 = .ok (.iconst 0, 1) := by decide +kernel
theorem dX10_configure_188 : decode cX10_configure 188 = .ok (.putfield 108, 3) := by decide +kernel
theorem dX10_configure_191 : decode cX10_configure 191 = .ok (.aload_n 0, 1) := by decide +kernel
theorem dX10_configure_192 : decode cX10_configure 192 = .ok (.iconst 0, 1) := by decide +kernel
theorem dX10_configure_193 : decode cX10_configure 193 = .ok (.putfield 111, 3) := by decide +kernel
theorem dX10_configure_196 : decode cX10_configure 196 = .ok (.aload_n 0, 1) := by decide +kernel
theorem dX10_configure_197 : decode cX10_configure 197 = .ok (.iconst 0, 1) := by decide +kernel
theorem dX10_configure_198 : decode cX10_configure 198 = .ok (.putfield 127, 3) := by decide +kernel
theorem dX10_configure_201 : decode cX10_configure 201 = .ok (.iload 4, 2) := by decide +kernel
theorem dX10_configure_203 : decode cX10_configure 203 = .ok (.ireturn, 1) := by decide +kernel
theorem dX10_beginTx_0 : decode cX10_beginTx 0 = .ok (.iconst 0, 1) := by decide +kernel
theorem dX10_beginTx_1 : decode cX10_beginTx 1 = .ok (.istore_n 1, 1) := by decide +kernel
theorem dX10_beginTx_2 : decode cX10_beginTx 2 = .ok (.iload_n 1, 1) := by decide +kernel
theorem dX10_beginTx_3 : decode cX10_beginTx 3 = .ok (.iconst 4, 1) := by decide +kernel
theorem dX10_beginTx_4 : decode cX10_beginTx 4 = .ok (.if_icmp .ge 19, 3) := by decide +kernel
theorem dX10_beginTx_7 : decode cX10_beginTx 7 = .ok (.aload_n 0, 1) := by decide +kernel
theorem dX10_beginTx_8 : decode cX10_beginTx 8 = .ok (.getfield 87, 3) := by decide +kernel
theorem dX10_beginTx_11 : decode cX10_beginTx 11 = .ok (.iload_n 1, 1) := by decide +kernel
theorem dX10_beginTx_12 : decode cX10_beginTx 12 = .ok (.iaload, 1) := by decide +kernel
theorem dX10_beginTx_13 : decode cX10_beginTx 13 = .ok (.iconst (-1), 1) := by decide +kernel
theorem dX10_beginTx_14 : decode cX10_beginTx 14 = .ok (.if_icmp .eq 9, 3) := by decide +kernel
theorem dX10_beginTx_17 : decode cX10_beginTx 17 = .ok (.iinc 1 1, 3) := by decide +kernel
theorem dX10_beginTx_20 : decode cX10_beginTx 20 = .ok (.goto (-18), 3) := by decide +kernel
theorem dX10_beginTx_23 : decode cX10_beginTx 23 = .ok (.aload_n 0, 1) := by decide +kernel
theorem dX10_beginTx_24 : decode cX10_beginTx 24 = .ok (.iload_n 1, 1) := by decide +kernel
theorem dX10_beginTx_25 : decode cX10_beginTx 25 = .ok (.iconst 4, 1) := by decide +kernel
theorem dX10_beginTx_26 : decode cX10_beginTx 26 = .ok (.if_icmp .eq 10, 3) := by decide +kernel
theorem dX10_beginTx_29 : decode cX10_beginTx 29 = .ok (.aload_n 0, 1) := by decide +kernel
theorem dX10_beginTx_30 : decode cX10_beginTx 30 = .ok (.invokevirtual 323, 3) := by decide +kernel
theorem dX10_beginTx_33 : decode cX10_beginTx 33 = .ok (.ifCond .eq 7, 3) := by decide +kernel
theorem dX10_beginTx_36 : decode cX10_beginTx 36 = .ok (.iconst 1, 1) := by decide +kernel
theorem dX10_beginTx_37 : decode cX10_beginTx 37 = .ok (.goto 4, 3) := by decide +kernel
theorem dX10_beginTx_40 : decode cX10_beginTx 40 = .ok (.iconst 0, 1) := by decide +kernel
theorem dX10_beginTx_41 : decode cX10_beginTx 41 = .ok (.iconst 0, 1) := by decide +kernel
theorem dX10_beginTx_42 : decode cX10_beginTx 42 = .ok (.iconst 0, 1) := by decide +kernel
theorem dX10_beginTx_43 : decode cX10_beginTx 43 = .ok (.invokevirtual 14, 3) := by decide +kernel
theorem dX10_beginTx_46 : decode cX10_beginTx 46 = .ok (.ifCond .eq 5, 3) := by decide +kernel
theorem dX10_beginTx_49 : decode cX10_beginTx 49 = .ok (.iconst 0, 1) := by decide +kernel
theorem dX10_beginTx_50 : decode cX10_beginTx 50 = .ok (.ireturn, 1) := by decide +kernel
theorem dX10_beginTx_51 : decode cX10_beginTx 51 = .ok (.aload_n 0, 1) := by decide +kernel
theorem dX10_beginTx_52 : decode cX10_beginTx 52 = .ok (.getfield 87, 3) := by decide +kernel
theorem dX10_beginTx_55 : decode cX10_beginTx 55 = .ok (.iload_n 1, 1) := by decide +kernel
theorem dX10_beginTx_56 : decode cX10_beginTx 56 = .ok (.aload_n 0, 1) := by decide +kernel
theorem dX10_beginTx_57 : decode cX10_beginTx 57 = .ok (.getfield 69, 3) := by decide +kernel
theorem dX10_beginTx_60 : decode cX10_beginTx 60 = .ok (.iastore, 1) := by decide +kernel
theorem dX10_beginTx_61 : decode cX10_beginTx 61 = .ok (.aload_n 0, 1) := by decide +kernel
theorem dX10_beginTx_62 : decode cX10_beginTx 62 = .ok (.iconst 0, 1) := by decide +kernel
theorem dX10_beginTx_63 : decode cX10_beginTx 63 = .ok (.aload_n 0, 1) := by decide +kernel
theorem dX10_beginTx_64 : decode cX10_beginTx 64 = .ok (.getfield 69, 3) := by decide +kernel
theorem dX10_beginTx_67 : decode cX10_beginTx 67 = .ok (.iload_n 1, 1) := by decide +kernel
theorem dX10_beginTx_68 : decode cX10_beginTx 68 = .ok (.iconst 0, 1) := by decide +kernel
theorem dX10_beginTx_69 : decode cX10_beginTx 69 = .ok (.iconst 0, 1) := by decide +kernel
theorem dX10_beginTx_70 : decode cX10_beginTx 70 = .ok (.invokevirtual 266, 3) := by decide +kernel
theorem dX10_beginTx_73 : decode cX10_beginTx 73 = .ok (.pop, 1) := by decide +kernel
theorem dX10_beginTx_74 : decode cX10_beginTx 74 = .ok (.aload_n 0, 1) := by decide +kernel
theorem dX10_beginTx_75 : decode cX10_beginTx 75 = .ok (.invokevirtual 327, 3) := by decide +kernel
theorem dX10_beginTx_78 : decode cX10_beginTx 78 = .ok (.iload_n 1, 1) := by decide +kernel
theorem dX10_beginTx_79 : decode cX10_beginTx 79 = .ok (.ireturn, 1) := by decide +kernel
theorem dX10_begin_0 : decode cX10_begin 0 = .ok (.aload_n 0, 1) := by decide +kernel
theorem dX10_begin_1 : decode cX10_begin 1 = .ok (.invokevirtual 330, 3) := by decide +kernel
theorem dX10_begin_4 : decode cX10_begin 4 = .ok (.ireturn, 1) := by decide +kernel
theorem dX10_isOpen_0 : decode cX10_isOpen 0 = .ok (.aload_n 0, 1) := by decide +kernel
theorem dX10_isOpen_1 : decode cX10_isOpen 1 = .ok (.getfield 87, 3) := by decide +kernel
theorem dX10_isOpen_4 : decode cX10_isOpen 4 = .ok (.iload_n 1, 1) := by decide +kernel
theorem dX10_isOpen_5 : decode cX10_isOpen 5 = .ok (.iaload, 1) := by decide +kernel
theorem dX10_isOpen_6 : decode cX10_isOpen 6 = .ok (.iconst (-1), 1) := by decide +kernel
theorem dX10_isOpen_7 : decode cX10_isOpen 7 = .ok (.if_icmp .eq 7, 3) := by decide +kernel
theorem dX10_isOpen_10 : decode cX10_isOpen 10 = .ok (.iconst 1, 1) := by decide +kernel
theorem dX10_isOpen_11 : decode cX10_isOpen 11 = .ok (.goto 4, 3) := by decide +kernel
theorem dX10_isOpen_14 : decode cX10_isOpen 14 = .ok (.iconst 0, 1) := by decide +kernel
theorem dX10_isOpen_15 : decode cX10_isOpen 15 = .ok (.ireturn, 1) := by decide +kernel
theorem dX10_isOf_0 : decode cX10_isOf 0 = .ok (.aload_n 0, 1) := by decide +kernel
theorem dX10_isOf_1 : decode cX10_isOf 1 = .ok (.getfield 44, 3) := by decide +kernel
theorem dX10_isOf_4 : decode cX10_isOf 4 = .ok (.iload_n 1, 1) := by decide +kernel
theorem dX10_isOf_5 : decode cX10_isOf 5 = .ok (.iaload, 1) := by decide +kernel
theorem dX10_isOf_6 : decode cX10_isOf 6 = .ok (.iload_n 2, 1) := by decide +kernel
theorem dX10_isOf_7 : decode cX10_isOf 7 = .ok (.if_icmp .ne 22, 3) := by decide +kernel
theorem dX10_isOf_10 : decode cX10_isOf 10 = .ok (.aload_n 0, 1) := by decide +kernel
theorem dX10_isOf_11 : decode cX10_isOf 11 = .ok (.getfield 41, 3) := by decide +kernel
theorem dX10_isOf_14 : decode cX10_isOf 14 = .ok (.iload_n 1, 1) := by decide +kernel
theorem dX10_isOf_15 : decode cX10_isOf 15 = .ok (.iaload, 1) := by decide +kernel
theorem dX10_isOf_16 : decode cX10_isOf 16 = .ok (.iconst 3, 1) := by decide +kernel
theorem dX10_isOf_17 : decode cX10_isOf 17 = .ok (.bipush 6, 2) := by decide +kernel
theorem dX10_isOf_19 : decode cX10_isOf 19 = .ok (.invokestatic 22, 3) := by decide +kernel
theorem dX10_isOf_22 : decode cX10_isOf 22 = .ok (.ifCond .eq 7, 3) := by decide +kernel
theorem dX10_isOf_25 : decode cX10_isOf 25 = .ok (.iconst 1, 1) := by decide +kernel
theorem dX10_isOf_26 : decode cX10_isOf 26 = .ok (.goto 4, 3) := by decide +kernel
theorem dX10_isOf_29 : decode cX10_isOf 29 = .ok (.iconst 0, 1) := by decide +kernel
theorem dX10_isOf_30 : decode cX10_isOf 30 = .ok (.ireturn, 1) := by decide +kernel
theorem dX10_recordsOf_0 : decode cX10_recordsOf 0 = .ok (.iconst 0, 1) := by decide +kernel
theorem dX10_recordsOf_1 : decode cX10_recordsOf 1 = .ok (.istore_n 2, 1) := by decide +kernel
theorem dX10_recordsOf_2 : decode cX10_recordsOf 2 = .ok (.aload_n 0, 1) := by decide +kernel
theorem dX10_recordsOf_3 : decode cX10_recordsOf 3 = .ok (.getfield 87, 3) := by decide +kernel
theorem dX10_recordsOf_6 : decode cX10_recordsOf 6 = .ok (.iload_n 1, 1) := by decide +kernel
theorem dX10_recordsOf_7 : decode cX10_recordsOf 7 = .ok (.iaload, 1) := by decide +kernel
theorem dX10_recordsOf_8 : decode cX10_recordsOf 8 = .ok (.istore_n 3, 1) := by decide +kernel
theorem dX10_recordsOf_9 : decode cX10_recordsOf 9 = .ok (.iload_n 3, 1) := by decide +kernel
theorem dX10_recordsOf_10 : decode cX10_recordsOf 10 = .ok (.aload_n 0, 1) := by decide +kernel
theorem dX10_recordsOf_11 : decode cX10_recordsOf 11 = .ok (.getfield 69, 3) := by decide +kernel
theorem dX10_recordsOf_14 : decode cX10_recordsOf 14 = .ok (.if_icmp .ge 31, 3) := by decide +kernel
theorem dX10_recordsOf_17 : decode cX10_recordsOf 17 = .ok (.iload_n 2, 1) := by decide +kernel
theorem dX10_recordsOf_18 : decode cX10_recordsOf 18 = .ok (.aload_n 0, 1) := by decide +kernel
theorem dX10_recordsOf_19 : decode cX10_recordsOf 19 = .ok (.iload_n 3, 1) := by decide +kernel
theorem dX10_recordsOf_20 : decode cX10_recordsOf 20 = .ok (.aload_n 0, 1) := by decide +kernel
theorem dX10_recordsOf_21 : decode cX10_recordsOf 21 = .ok (.getfield 87, 3) := by decide +kernel
theorem dX10_recordsOf_24 : decode cX10_recordsOf 24 = .ok (.iload_n 1, 1) := by decide +kernel
theorem dX10_recordsOf_25 : decode cX10_recordsOf 25 = .ok (.iaload, 1) := by decide +kernel
theorem dX10_recordsOf_26 : decode cX10_recordsOf 26 = .ok (.invokevirtual 333, 3) := by decide +kernel
theorem dX10_recordsOf_29 : decode cX10_recordsOf 29 = .ok (.ifCond .eq 7, 3) := by decide +kernel
theorem dX10_recordsOf_32 : decode cX10_recordsOf 32 = .ok (.iconst 1, 1) := by decide +kernel
theorem dX10_recordsOf_33 : decode cX10_recordsOf 33 = .ok (.goto 4, 3) := by decide +kernel
theorem dX10_recordsOf_36 : decode cX10_recordsOf 36 = .ok (.iconst 0, 1) := by decide +kernel
theorem dX10_recordsOf_37 : decode cX10_recordsOf 37 = .ok (.iadd, 1) := by decide +kernel
theorem dX10_recordsOf_38 : decode cX10_recordsOf 38 = .ok (.istore_n 2, 1) := by decide +kernel
theorem dX10_recordsOf_39 : decode cX10_recordsOf 39 = .ok (.iinc 3 1, 3) := by decide +kernel
theorem dX10_recordsOf_42 : decode cX10_recordsOf 42 = .ok (.goto (-33), 3) := by decide +kernel
theorem dX10_recordsOf_45 : decode cX10_recordsOf 45 = .ok (.iload_n 2, 1) := by decide +kernel
theorem dX10_recordsOf_46 : decode cX10_recordsOf 46 = .ok (.ireturn, 1) := by decide +kernel
theorem dX10_endTx_0 : decode cX10_endTx 0 = .ok (.iload_n 1, 1) := by decide +kernel
theorem dX10_endTx_1 : decode cX10_endTx 1 = .ok (.iconst 0, 1) := by decide +kernel
theorem dX10_endTx_2 : decode cX10_endTx 2 = .ok (.iconst 3, 1) := by decide +kernel
theorem dX10_endTx_3 : decode cX10_endTx 3 = .ok (.invokestatic 22, 3) := by decide +kernel
theorem dX10_endTx_6 : decode cX10_endTx 6 = .ok (.istore_n 3, 1) := by decide +kernel
theorem dX10_endTx_7 : decode cX10_endTx 7 = .ok (.aload_n 0, 1) := by decide +kernel
theorem dX10_endTx_8 : decode cX10_endTx 8 = .ok (.iload_n 3, 1) := by decide +kernel
theorem dX10_endTx_9 : decode cX10_endTx 9 = .ok (.ifCond .ne 7, 3) := by decide +kernel
theorem dX10_endTx_12 : decode cX10_endTx 12 = .ok (.iconst 1, 1) := by decide +kernel
theorem dX10_endTx_13 : decode cX10_endTx 13 = .ok (.goto 4, 3) := by decide +kernel
theorem dX10_endTx_16 : decode cX10_endTx 16 = .ok (.iconst 0, 1) := by decide +kernel
theorem dX10_endTx_17 : decode cX10_endTx 17 = .ok (.iload_n 3, 1) := by decide +kernel
theorem dX10_endTx_18 : decode cX10_endTx 18 = .ok (.ifCond .eq 22, 3) := by decide +kernel
theorem dX10_endTx_21 : decode cX10_endTx 21 = .ok (.aload_n 0, 1) := by decide +kernel
theorem dX10_endTx_22 : decode cX10_endTx 22 = .ok (.iload_n 1, 1) := by decide +kernel
theorem dX10_endTx_23 : decode cX10_endTx 23 = .ok (.invokevirtual 336, 3) := by decide +kernel
theorem dX10_endTx_26 : decode cX10_endTx 26 = .ok (.ifCond .eq 10, 3) := by decide +kernel
theorem dX10_endTx_29 : decode cX10_endTx 29 = .ok (.aload_n 0, 1) := by decide +kernel
theorem dX10_endTx_30 : decode cX10_endTx 30 = .ok (.invokevirtual 323, 3) := by decide +kernel
theorem dX10_endTx_33 : decode cX10_endTx 33 = .ok (.ifCond .eq 7, 3) := by decide +kernel
theorem dX10_endTx_36 : decode cX10_endTx 36 = .ok (.iconst 1, 1) := by decide +kernel
theorem dX10_endTx_37 : decode cX10_endTx 37 = .ok (.goto 4, 3) := by decide +kernel
theorem dX10_endTx_40 : decode cX10_endTx 40 = .ok (.iconst 0, 1) := by decide +kernel
theorem dX10_endTx_41 : decode cX10_endTx 41 = .ok (.iconst 0, 1) := by decide +kernel
theorem dX10_endTx_42 : decode cX10_endTx 42 = .ok (.invokevirtual 14, 3) := by decide +kernel
theorem dX10_endTx_45 : decode cX10_endTx 45 = .ok (.ifCond .eq 5, 3) := by decide +kernel
theorem dX10_endTx_48 : decode cX10_endTx 48 = .ok (.iconst 0, 1) := by decide +kernel
theorem dX10_endTx_49 : decode cX10_endTx 49 = .ok (.ireturn, 1) := by decide +kernel
theorem dX10_endTx_50 : decode cX10_endTx 50 = .ok (.aload_n 0, 1) := by decide +kernel
theorem dX10_endTx_51 : decode cX10_endTx 51 = .ok (.getfield 87, 3) := by decide +kernel
theorem dX10_endTx_54 : decode cX10_endTx 54 = .ok (.iload_n 1, 1) := by decide +kernel
theorem dX10_endTx_55 : decode cX10_endTx 55 = .ok (.iaload, 1) := by decide +kernel
theorem dX10_endTx_56 : decode cX10_endTx 56 = .ok (.istore 4, 2) := by decide +kernel
theorem dX10_endTx_58 : decode cX10_endTx 58 = .ok (.aload_n 0, 1) := by decide +kernel
theorem dX10_endTx_59 : decode cX10_endTx 59 = .ok (.iload_n 1, 1) := by decide +kernel
theorem dX10_endTx_60 : decode cX10_endTx 60 = .ok (.invokevirtual 340, 3) := by decide +kernel
theorem dX10_endTx_63 : decode cX10_endTx 63 = .ok (.istore 5, 2) := by decide +kernel
theorem dX10_endTx_65 : decode cX10_endTx 65 = .ok (.aload_n 0, 1) := by decide +kernel
theorem dX10_endTx_66 : decode cX10_endTx 66 = .ok (.iload_n 2, 1) := by decide +kernel
theorem dX10_endTx_67 : decode cX10_endTx 67 = .ok (.iload 4, 2) := by decide +kernel
theorem dX10_endTx_69 : decode cX10_endTx 69 = .ok (.iload_n 1, 1) := by decide +kernel
theorem dX10_endTx_70 : decode cX10_endTx 70 = .ok (.iconst 0, 1) := by decide +kernel
theorem dX10_endTx_71 : decode cX10_endTx 71 = .ok (.iconst 0, 1) := by decide +kernel
theorem dX10_endTx_72 : decode cX10_endTx 72 = .ok (.invokevirtual 266, 3) := by decide +kernel
theorem dX10_endTx_75 : decode cX10_endTx 75 = .ok (.istore 6, 2) := by decide +kernel
theorem dX10_endTx_77 : decode cX10_endTx 77 = .ok (.iload 4, 2) := by decide +kernel
theorem dX10_endTx_79 : decode cX10_endTx 79 = .ok (.istore 7, 2) := by decide +kernel
theorem dX10_endTx_81 : decode cX10_endTx 81 = .ok (.iload 7, 2) := by decide +kernel
theorem dX10_endTx_83 : decode cX10_endTx 83 = .ok (.iload 6, 2) := by decide +kernel
theorem dX10_endTx_85 : decode cX10_endTx 85 = .ok (.if_icmp .ge 33, 3) := by decide +kernel
theorem dX10_endTx_88 : decode cX10_endTx 88 = .ok (.iload_n 2, 1) := by decide +kernel
theorem dX10_endTx_89 : decode cX10_endTx 89 = .ok (.iconst 1, 1) := by decide +kernel
theorem dX10_endTx_90 : decode cX10_endTx 90 = .ok (.if_icmp .ne 28, 3) := by decide +kernel
theorem dX10_endTx_93 : decode cX10_endTx 93 = .ok (.aload_n 0, 1) := by decide +kernel
theorem dX10_endTx_94 : decode cX10_endTx 94 = .ok (.iload 7, 2) := by decide +kernel
theorem dX10_endTx_96 : decode cX10_endTx 96 = .ok (.iload 4, 2) := by decide +kernel
theorem dX10_endTx_98 : decode cX10_endTx 98 = .ok (.invokevirtual 333, 3) := by decide +kernel
theorem dX10_endTx_101 : decode cX10_endTx 101 = .ok (.ifCond .eq 11, 3) := by decide +kernel
theorem dX10_endTx_104 : decode cX10_endTx 104 = .ok (.aload_n 0, 1) := by decide +kernel
theorem dX10_endTx_105 : decode cX10_endTx 105 = .ok (.iload 7, 2) := by decide +kernel
theorem dX10_endTx_107 : decode cX10_endTx 107 = .ok (.iload 6, 2) := by decide +kernel
theorem dX10_endTx_109 : decode cX10_endTx 109 = .ok (.invokevirtual 270, 3) := by decide +kernel
theorem dX10_endTx_112 : decode cX10_endTx 112 = .ok (.iinc 7 1, 3) := by decide +kernel
theorem dX10_endTx_115 : decode cX10_endTx 115 = .ok (.goto (-34), 3) := by decide +kernel
theorem dX10_endTx_118 : decode cX10_endTx 118 = .ok (.aload_n 0, 1) := by decide +kernel
theorem dX10_endTx_119 : decode cX10_endTx 119 = .ok (.getfield 87, 3) := by decide +kernel
theorem dX10_endTx_122 : decode cX10_endTx 122 = .ok (.iload_n 1, 1) := by decide +kernel
theorem dX10_endTx_123 : decode cX10_endTx 123 = .ok (.iconst (-1), 1) := by decide +kernel
theorem dX10_endTx_124 : decode cX10_endTx 124 = .ok (.iastore, 1) := by decide +kernel
theorem dX10_endTx_125 : decode cX10_endTx 125 = .ok (.aload_n 0, 1) := by decide +kernel
theorem dX10_endTx_126 : decode cX10_endTx 126 = .ok (.invokevirtual 327, 3) := by decide +kernel
theorem dX10_endTx_129 : decode cX10_endTx 129 = .ok (.iload 5, 2) := by decide +kernel
theorem dX10_endTx_131 : decode cX10_endTx 131 = .ok (.ireturn, 1) := by decide +kernel
theorem dX10_commit_0 : decode cX10_commit 0 = .ok (.aload_n 0, 1) := by decide +kernel
theorem dX10_commit_1 : decode cX10_commit 1 = .ok (.iload_n 1, 1) := by decide +kernel
theorem dX10_commit_2 : decode cX10_commit 2 = .ok (.iconst 1, 1) := by decide +kernel
theorem dX10_commit_3 : decode cX10_commit 3 = .ok (.invokevirtual 343, 3) := by decide +kernel
theorem dX10_commit_6 : decode cX10_commit 6 = .ok (.ireturn, 1) := by decide +kernel
theorem dX10_abort_0 : decode cX10_abort 0 = .ok (.aload_n 0, 1) := by decide +kernel
theorem dX10_abort_1 : decode cX10_abort 1 = .ok (.iload_n 1, 1) := by decide +kernel
theorem dX10_abort_2 : decode cX10_abort 2 = .ok (.iconst 2, 1) := by decide +kernel
theorem dX10_abort_3 : decode cX10_abort 3 = .ok (.invokevirtual 343, 3) := by decide +kernel
theorem dX10_abort_6 : decode cX10_abort 6 = .ok (.ireturn, 1) := by decide +kernel
theorem dX10_isTx_0 : decode cX10_isTx 0 = .ok (.iload_n 1, 1) := by decide +kernel
theorem dX10_isTx_1 : decode cX10_isTx 1 = .ok (.iconst (-1), 1) := by decide +kernel
theorem dX10_isTx_2 : decode cX10_isTx 2 = .ok (.iconst 3, 1) := by decide +kernel
theorem dX10_isTx_3 : decode cX10_isTx 3 = .ok (.invokestatic 22, 3) := by decide +kernel
theorem dX10_isTx_6 : decode cX10_isTx 6 = .ok (.ireturn, 1) := by decide +kernel
theorem dX10_isFile_0 : decode cX10_isFile 0 = .ok (.iload_n 0, 1) := by decide +kernel
theorem dX10_isFile_1 : decode cX10_isFile 1 = .ok (.iconst 0, 1) := by decide +kernel
theorem dX10_isFile_2 : decode cX10_isFile 2 = .ok (.bipush 7, 2) := by decide +kernel
theorem dX10_isFile_4 : decode cX10_isFile 4 = .ok (.invokestatic 22, 3) := by decide +kernel
theorem dX10_isFile_7 : decode cX10_isFile 7 = .ok (.ireturn, 1) := by decide +kernel
theorem dX10_cannot_0 : decode cX10_cannot 0 = .ok (.aload_n 0, 1) := by decide +kernel
theorem dX10_cannot_1 : decode cX10_cannot 1 = .ok (.invokevirtual 323, 3) := by decide +kernel
theorem dX10_cannot_4 : decode cX10_cannot 4 = .ok (.ifCond .ne 20, 3) := by decide +kernel
theorem dX10_cannot_7 : decode cX10_cannot 7 = .ok (.iload_n 1, 1) := by decide +kernel
theorem dX10_cannot_8 : decode cX10_cannot 8 = .ok (.iconst 0, 1) := by decide +kernel
theorem dX10_cannot_9 : decode cX10_cannot 9 = .ok (.iconst 3, 1) := by decide +kernel
theorem dX10_cannot_10 : decode cX10_cannot 10 = .ok (.invokestatic 22, 3) := by decide +kernel
theorem dX10_cannot_13 : decode cX10_cannot 13 = .ok (.ifCond .eq 15, 3) := by decide +kernel
theorem dX10_cannot_16 : decode cX10_cannot 16 = .ok (.aload_n 0, 1) := by decide +kernel
theorem dX10_cannot_17 : decode cX10_cannot 17 = .ok (.iload_n 1, 1) := by decide +kernel
theorem dX10_cannot_18 : decode cX10_cannot 18 = .ok (.invokevirtual 336, 3) := by decide +kernel
theorem dX10_cannot_21 : decode cX10_cannot 21 = .ok (.ifCond .ne 7, 3) := by decide +kernel
theorem dX10_cannot_24 : decode cX10_cannot 24 = .ok (.iconst 1, 1) := by decide +kernel
theorem dX10_cannot_25 : decode cX10_cannot 25 = .ok (.goto 4, 3) := by decide +kernel
theorem dX10_cannot_28 : decode cX10_cannot 28 = .ok (.iconst 0, 1) := by decide +kernel
theorem dX10_cannot_29 : decode cX10_cannot 29 = .ok (.ireturn, 1) := by decide +kernel
theorem dX10_write_0 : decode cX10_write 0 = .ok (.iload_n 1, 1) := by decide +kernel
theorem dX10_write_1 : decode cX10_write 1 = .ok (.invokestatic 346, 3) := by decide +kernel
theorem dX10_write_4 : decode cX10_write 4 = .ok (.ifCond .eq 25, 3) := by decide +kernel
theorem dX10_write_7 : decode cX10_write 7 = .ok (.iload_n 2, 1) := by decide +kernel
theorem dX10_write_8 : decode cX10_write 8 = .ok (.iconst 0, 1) := by decide +kernel
theorem dX10_write_9 : decode cX10_write 9 = .ok (.iconst 3, 1) := by decide +kernel
theorem dX10_write_10 : decode cX10_write 10 = .ok (.invokestatic 22, 3) := by decide +kernel
theorem dX10_write_13 : decode cX10_write 13 = .ok (.ifCond .eq 16, 3) := by decide +kernel
theorem dX10_write_16 : decode cX10_write 16 = .ok (.aload_n 0, 1) := by decide +kernel
theorem dX10_write_17 : decode cX10_write 17 = .ok (.iload 4, 2) := by decide +kernel
theorem dX10_write_19 : decode cX10_write 19 = .ok (.invokevirtual 349, 3) := by decide +kernel
theorem dX10_write_22 : decode cX10_write 22 = .ok (.ifCond .eq 7, 3) := by decide +kernel
theorem dX10_write_25 : decode cX10_write 25 = .ok (.iconst 1, 1) := by decide +kernel
theorem dX10_write_26 : decode cX10_write 26 = .ok (.goto 4, 3) := by decide +kernel
theorem dX10_write_29 : decode cX10_write 29 = .ok (.iconst 0, 1) := by decide +kernel
theorem dX10_write_30 : decode cX10_write 30 = .ok (.istore 5, 2) := by decide +kernel
theorem dX10_write_32 : decode cX10_write 32 = .ok (.aload_n 0, 1) := by decide +kernel
theorem dX10_write_33 : decode cX10_write 33 = .ok (.iload 5, 2) := by decide +kernel
theorem dX10_write_35 : decode cX10_write 35 = .ok (.ifCond .ne 7, 3) := by decide +kernel
theorem dX10_write_38 : decode cX10_write 38 = .ok (.iconst 1, 1) := by decide +kernel
theorem dX10_write_39 : decode cX10_write 39 = .ok (.goto 4, 3) := by decide +kernel
theorem dX10_write_42 : decode cX10_write 42 = .ok (.iconst 0, 1) := by decide +kernel
theorem dX10_write_43 : decode cX10_write 43 = .ok (.iload_n 3, 1) := by decide +kernel
theorem dX10_write_44 : decode cX10_write 44 = .ok (.iconst 0, 1) := by decide +kernel
theorem dX10_write_45 : decode cX10_write 45 = .ok (.sipush 9999, 3) := by decide +kernel
theorem dX10_write_48 : decode cX10_write 48 = .ok (.invokestatic 22, 3) := by decide +kernel
theorem dX10_write_51 : decode cX10_write 51 = .ok (.ifCond .ne 7, 3) := by decide +kernel
theorem dX10_write_54 : decode cX10_write 54 = .ok (.iconst 1, 1) := by decide +kernel
theorem dX10_write_55 : decode cX10_write 55 = .ok (.goto 4, 3) := by decide +kernel
theorem dX10_write_58 : decode cX10_write 58 = .ok (.iconst 0, 1) := by decide +kernel
theorem dX10_write_59 : decode cX10_write 59 = .ok (.aload_n 0, 1) := by decide +kernel
theorem dX10_write_60 : decode cX10_write 60 = .ok (.iload 4, 2) := by decide +kernel
theorem dX10_write_62 : decode cX10_write 62 = .ok (.invokevirtual 352, 3) := by decide +kernel
theorem dX10_write_65 : decode cX10_write 65 = .ok (.invokevirtual 14, 3) := by decide +kernel
theorem dX10_write_68 : decode cX10_write 68 = .ok (.ifCond .eq 5, 3) := by decide +kernel
theorem dX10_write_71 : decode cX10_write 71 = .ok (.iconst 0, 1) := by decide +kernel
theorem dX10_write_72 : decode cX10_write 72 = .ok (.ireturn, 1) := by decide +kernel
theorem dX10_write_73 : decode cX10_write 73 = .ok (.aload_n 0, 1) := by decide +kernel
theorem dX10_write_74 : decode cX10_write 74 = .ok (.iconst 3, 1) := by decide +kernel
theorem dX10_write_75 : decode cX10_write 75 = .ok (.iload 4, 2) := by decide +kernel
theorem dX10_write_77 : decode cX10_write 77 = .ok (.iload_n 1, 1) := by decide +kernel
theorem dX10_write_78 : decode cX10_write 78 = .ok (.iload_n 2, 1) := by decide +kernel
theorem dX10_write_79 : decode cX10_write 79 = .ok (.iload_n 3, 1) := by decide +kernel
theorem dX10_write_80 : decode cX10_write 80 = .ok (.invokevirtual 355, 3) := by decide +kernel
theorem dX10_write_83 : decode cX10_write 83 = .ok (.istore 6, 2) := by decide +kernel
theorem dX10_write_85 : decode cX10_write 85 = .ok (.aload_n 0, 1) := by decide +kernel
theorem dX10_write_86 : decode cX10_write 86 = .ok (.invokevirtual 327, 3) := by decide +kernel
theorem dX10_write_89 : decode cX10_write 89 = .ok (.iload 6, 2) := by decide +kernel
theorem dX10_write_91 : decode cX10_write 91 = .ok (.ireturn, 1) := by decide +kernel
theorem dX10_remove_0 : decode cX10_remove 0 = .ok (.aload_n 0, 1) := by decide +kernel
theorem dX10_remove_1 : decode cX10_remove 1 = .ok (.iload_n 1, 1) := by decide +kernel
theorem dX10_remove_2 : decode cX10_remove 2 = .ok (.invokestatic 346, 3) := by decide +kernel
theorem dX10_remove_5 : decode cX10_remove 5 = .ok (.ifCond .eq 11, 3) := by decide +kernel
theorem dX10_remove_8 : decode cX10_remove 8 = .ok (.aload_n 0, 1) := by decide +kernel
theorem dX10_remove_9 : decode cX10_remove 9 = .ok (.iload_n 2, 1) := by decide +kernel
theorem dX10_remove_10 : decode cX10_remove 10 = .ok (.invokevirtual 349, 3) := by decide +kernel
theorem dX10_remove_13 : decode cX10_remove 13 = .ok (.ifCond .ne 7, 3) := by decide +kernel
theorem dX10_remove_16 : decode cX10_remove 16 = .ok (.iconst 1, 1) := by decide +kernel
theorem dX10_remove_17 : decode cX10_remove 17 = .ok (.goto 4, 3) := by decide +kernel
theorem dX10_remove_20 : decode cX10_remove 20 = .ok (.iconst 0, 1) := by decide +kernel
theorem dX10_remove_21 : decode cX10_remove 21 = .ok (.aload_n 0, 1) := by decide +kernel
theorem dX10_remove_22 : decode cX10_remove 22 = .ok (.iload_n 2, 1) := by decide +kernel
theorem dX10_remove_23 : decode cX10_remove 23 = .ok (.invokevirtual 352, 3) := by decide +kernel
theorem dX10_remove_26 : decode cX10_remove 26 = .ok (.iconst 0, 1) := by decide +kernel
theorem dX10_remove_27 : decode cX10_remove 27 = .ok (.invokevirtual 14, 3) := by decide +kernel
theorem dX10_remove_30 : decode cX10_remove 30 = .ok (.ifCond .eq 5, 3) := by decide +kernel
theorem dX10_remove_33 : decode cX10_remove 33 = .ok (.iconst 0, 1) := by decide +kernel
theorem dX10_remove_34 : decode cX10_remove 34 = .ok (.ireturn, 1) := by decide +kernel
theorem dX10_remove_35 : decode cX10_remove 35 = .ok (.aload_n 0, 1) := by decide +kernel
theorem dX10_remove_36 : decode cX10_remove 36 = .ok (.iconst 4, 1) := by decide +kernel
theorem dX10_remove_37 : decode cX10_remove 37 = .ok (.iload_n 2, 1) := by decide +kernel
theorem dX10_remove_38 : decode cX10_remove 38 = .ok (.iload_n 1, 1) := by decide +kernel
theorem dX10_remove_39 : decode cX10_remove 39 = .ok (.iconst 0, 1) := by decide +kernel
theorem dX10_remove_40 : decode cX10_remove 40 = .ok (.iconst 0, 1) := by decide +kernel
theorem dX10_remove_41 : decode cX10_remove 41 = .ok (.invokevirtual 355, 3) := by decide +kernel
theorem dX10_remove_44 : decode cX10_remove 44 = .ok (.istore_n 3, 1) := by decide +kernel
theorem dX10_remove_45 : decode cX10_remove 45 = .ok (.aload_n 0, 1) := by decide +kernel
theorem dX10_remove_46 : decode cX10_remove 46 = .ok (.invokevirtual 327, 3) := by decide +kernel
theorem dX10_remove_49 : decode cX10_remove 49 = .ok (.iload_n 3, 1) := by decide +kernel
theorem dX10_remove_50 : decode cX10_remove 50 = .ok (.ireturn, 1) := by decide +kernel
theorem dX10_copy_0 : decode cX10_copy 0 = .ok (.aload_n 0, 1) := by decide +kernel
theorem dX10_copy_1 : decode cX10_copy 1 = .ok (.iload_n 1, 1) := by decide +kernel
theorem dX10_copy_2 : decode cX10_copy 2 = .ok (.invokestatic 346, 3) := by decide +kernel
theorem dX10_copy_5 : decode cX10_copy 5 = .ok (.ifCond .eq 18, 3) := by decide +kernel
theorem dX10_copy_8 : decode cX10_copy 8 = .ok (.iload_n 2, 1) := by decide +kernel
theorem dX10_copy_9 : decode cX10_copy 9 = .ok (.invokestatic 346, 3) := by decide +kernel
theorem dX10_copy_12 : decode cX10_copy 12 = .ok (.ifCond .eq 11, 3) := by decide +kernel
theorem dX10_copy_15 : decode cX10_copy 15 = .ok (.aload_n 0, 1) := by decide +kernel
theorem dX10_copy_16 : decode cX10_copy 16 = .ok (.iload_n 3, 1) := by decide +kernel
theorem dX10_copy_17 : decode cX10_copy 17 = .ok (.invokevirtual 349, 3) := by decide +kernel
theorem dX10_copy_20 : decode cX10_copy 20 = .ok (.ifCond .ne 7, 3) := by decide +kernel
theorem dX10_copy_23 : decode cX10_copy 23 = .ok (.iconst 1, 1) := by decide +kernel
theorem dX10_copy_24 : decode cX10_copy 24 = .ok (.goto 4, 3) := by decide +kernel
theorem dX10_copy_27 : decode cX10_copy 27 = .ok (.iconst 0, 1) := by decide +kernel
theorem dX10_copy_28 : decode cX10_copy 28 = .ok (.iload_n 1, 1) := by decide +kernel
theorem dX10_copy_29 : decode cX10_copy 29 = .ok (.iload_n 2, 1) := by decide +kernel
theorem dX10_copy_30 : decode cX10_copy 30 = .ok (.if_icmp .ne 7, 3) := by decide +kernel
theorem dX10_copy_33 : decode cX10_copy 33 = .ok (.iconst 1, 1) := by decide +kernel
theorem dX10_copy_34 : decode cX10_copy 34 = .ok (.goto 4, 3) := by decide +kernel
theorem dX10_copy_37 : decode cX10_copy 37 = .ok (.iconst 0, 1) := by decide +kernel
theorem dX10_copy_38 : decode cX10_copy 38 = .ok (.aload_n 0, 1) := by decide +kernel
theorem dX10_copy_39 : decode cX10_copy 39 = .ok (.iload_n 3, 1) := by decide +kernel
theorem dX10_copy_40 : decode cX10_copy 40 = .ok (.invokevirtual 352, 3) := by decide +kernel
theorem dX10_copy_43 : decode cX10_copy 43 = .ok (.invokevirtual 14, 3) := by decide +kernel
theorem dX10_copy_46 : decode cX10_copy 46 = .ok (.ifCond .eq 5, 3) := by decide +kernel
theorem dX10_copy_49 : decode cX10_copy 49 = .ok (.iconst 0, 1) := by decide +kernel
theorem dX10_copy_50 : decode cX10_copy 50 = .ok (.ireturn, 1) := by decide +kernel
theorem dX10_copy_51 : decode cX10_copy 51 = .ok (.aload_n 0, 1) := by decide +kernel
theorem dX10_copy_52 : decode cX10_copy 52 = .ok (.iconst 5, 1) := by decide +kernel
theorem dX10_copy_53 : decode cX10_copy 53 = .ok (.iload_n 3, 1) := by decide +kernel
theorem dX10_copy_54 : decode cX10_copy 54 = .ok (.iload_n 1, 1) := by decide +kernel
theorem dX10_copy_55 : decode cX10_copy 55 = .ok (.iload_n 2, 1) := by decide +kernel
theorem dX10_copy_56 : decode cX10_copy 56 = .ok (.iconst 0, 1) := by decide +kernel
theorem dX10_copy_57 : decode cX10_copy 57 = .ok (.invokevirtual 355, 3) := by decide +kernel
theorem dX10_copy_60 : decode cX10_copy 60 = .ok (.istore 4, 2) := by decide +kernel
theorem dX10_copy_62 : decode cX10_copy 62 = .ok (.aload_n 0, 1) := by decide +kernel
theorem dX10_copy_63 : decode cX10_copy 63 = .ok (.invokevirtual 327, 3) := by decide +kernel
theorem dX10_copy_66 : decode cX10_copy 66 = .ok (.iload 4, 2) := by decide +kernel
theorem dX10_copy_68 : decode cX10_copy 68 = .ok (.ireturn, 1) := by decide +kernel
theorem dX10_isTopic_0 : decode cX10_isTopic 0 = .ok (.iload_n 0, 1) := by decide +kernel
theorem dX10_isTopic_1 : decode cX10_isTopic 1 = .ok (.iconst 0, 1) := by decide +kernel
theorem dX10_isTopic_2 : decode cX10_isTopic 2 = .ok (.iconst 3, 1) := by decide +kernel
theorem dX10_isTopic_3 : decode cX10_isTopic 3 = .ok (.invokestatic 22, 3) := by decide +kernel
theorem dX10_isTopic_6 : decode cX10_isTopic 6 = .ok (.ireturn, 1) := by decide +kernel
theorem dX10_send_0 : decode cX10_send 0 = .ok (.aload_n 0, 1) := by decide +kernel
theorem dX10_send_1 : decode cX10_send 1 = .ok (.iload_n 1, 1) := by decide +kernel
theorem dX10_send_2 : decode cX10_send 2 = .ok (.invokestatic 358, 3) := by decide +kernel
theorem dX10_send_5 : decode cX10_send 5 = .ok (.ifCond .eq 12, 3) := by decide +kernel
theorem dX10_send_8 : decode cX10_send 8 = .ok (.aload_n 0, 1) := by decide +kernel
theorem dX10_send_9 : decode cX10_send 9 = .ok (.iload 4, 2) := by decide +kernel
theorem dX10_send_11 : decode cX10_send 11 = .ok (.invokevirtual 349, 3) := by decide +kernel
theorem dX10_send_14 : decode cX10_send 14 = .ok (.ifCond .ne 7, 3) := by decide +kernel
theorem dX10_send_17 : decode cX10_send 17 = .ok (.iconst 1, 1) := by decide +kernel
theorem dX10_send_18 : decode cX10_send 18 = .ok (.goto 4, 3) := by decide +kernel
theorem dX10_send_21 : decode cX10_send 21 = .ok (.iconst 0, 1) := by decide +kernel
theorem dX10_send_22 : decode cX10_send 22 = .ok (.iload_n 2, 1) := by decide +kernel
theorem dX10_send_23 : decode cX10_send 23 = .ok (.iconst 0, 1) := by decide +kernel
theorem dX10_send_24 : decode cX10_send 24 = .ok (.sipush 9999, 3) := by decide +kernel
theorem dX10_send_27 : decode cX10_send 27 = .ok (.invokestatic 22, 3) := by decide +kernel
theorem dX10_send_30 : decode cX10_send 30 = .ok (.ifCond .eq 13, 3) := by decide +kernel
theorem dX10_send_33 : decode cX10_send 33 = .ok (.iload_n 3, 1) := by decide +kernel
theorem dX10_send_34 : decode cX10_send 34 = .ok (.iconst 0, 1) := by decide +kernel
theorem dX10_send_35 : decode cX10_send 35 = .ok (.bipush 20, 2) := by decide +kernel
theorem dX10_send_37 : decode cX10_send 37 = .ok (.invokestatic 22, 3) := by decide +kernel
theorem dX10_send_40 : decode cX10_send 40 = .ok (.ifCond .ne 7, 3) := by decide +kernel
theorem dX10_send_43 : decode cX10_send 43 = .ok (.iconst 1, 1) := by decide +kernel
theorem dX10_send_44 : decode cX10_send 44 = .ok (.goto 4, 3) := by decide +kernel
theorem dX10_send_47 : decode cX10_send 47 = .ok (.iconst 0, 1) := by decide +kernel
theorem dX10_send_48 : decode cX10_send 48 = .ok (.aload_n 0, 1) := by decide +kernel
theorem dX10_send_49 : decode cX10_send 49 = .ok (.iload 4, 2) := by decide +kernel
theorem dX10_send_51 : decode cX10_send 51 = .ok (.invokevirtual 352, 3) := by decide +kernel
theorem dX10_send_54 : decode cX10_send 54 = .ok (.invokevirtual 14, 3) := by decide +kernel
theorem dX10_send_57 : decode cX10_send 57 = .ok (.ifCond .eq 5, 3) := by decide +kernel
theorem dX10_send_60 : decode cX10_send 60 = .ok (.iconst 0, 1) := by decide +kernel
theorem dX10_send_61 : decode cX10_send 61 = .ok (.ireturn, 1) := by decide +kernel
theorem dX10_send_62 : decode cX10_send 62 = .ok (.aload_n 0, 1) := by decide +kernel
theorem dX10_send_63 : decode cX10_send 63 = .ok (.bipush 6, 2) := by decide +kernel
theorem dX10_send_65 : decode cX10_send 65 = .ok (.iload 4, 2) := by decide +kernel
theorem dX10_send_67 : decode cX10_send 67 = .ok (.iload_n 1, 1) := by decide +kernel
theorem dX10_send_68 : decode cX10_send 68 = .ok (.iload_n 2, 1) := by decide +kernel
theorem dX10_send_69 : decode cX10_send 69 = .ok (.iload_n 3, 1) := by decide +kernel
theorem dX10_send_70 : decode cX10_send 70 = .ok (.invokevirtual 355, 3) := by decide +kernel
theorem dX10_send_73 : decode cX10_send 73 = .ok (.istore 5, 2) := by decide +kernel
theorem dX10_send_75 : decode cX10_send 75 = .ok (.aload_n 0, 1) := by decide +kernel
theorem dX10_send_76 : decode cX10_send 76 = .ok (.invokevirtual 327, 3) := by decide +kernel
theorem dX10_send_79 : decode cX10_send 79 = .ok (.iload 5, 2) := by decide +kernel
theorem dX10_send_81 : decode cX10_send 81 = .ok (.ireturn, 1) := by decide +kernel
theorem dX10_join_0 : decode cX10_join 0 = .ok (.aload_n 0, 1) := by decide +kernel
theorem dX10_join_1 : decode cX10_join 1 = .ok (.iload_n 1, 1) := by decide +kernel
theorem dX10_join_2 : decode cX10_join 2 = .ok (.invokestatic 358, 3) := by decide +kernel
theorem dX10_join_5 : decode cX10_join 5 = .ok (.ifCond .ne 7, 3) := by decide +kernel
theorem dX10_join_8 : decode cX10_join 8 = .ok (.iconst 1, 1) := by decide +kernel
theorem dX10_join_9 : decode cX10_join 9 = .ok (.goto 4, 3) := by decide +kernel
theorem dX10_join_12 : decode cX10_join 12 = .ok (.iconst 0, 1) := by decide +kernel
theorem dX10_join_13 : decode cX10_join 13 = .ok (.aload_n 0, 1) := by decide +kernel
theorem dX10_join_14 : decode cX10_join 14 = .ok (.getfield 105, 3) := by decide +kernel
theorem dX10_join_17 : decode cX10_join 17 = .ok (.bipush 6, 2) := by decide +kernel
theorem dX10_join_19 : decode cX10_join 19 = .ok (.if_icmp .eq 10, 3) := by decide +kernel
theorem dX10_join_22 : decode cX10_join 22 = .ok (.aload_n 0, 1) := by decide +kernel
theorem dX10_join_23 : decode cX10_join 23 = .ok (.invokevirtual 323, 3) := by decide +kernel
theorem dX10_join_26 : decode cX10_join 26 = .ok (.ifCond .eq 7, 3) := by decide +kernel
theorem dX10_join_29 : decode cX10_join 29 = .ok (.iconst 1, 1) := by decide +kernel
theorem dX10_join_30 : decode cX10_join 30 = .ok (.goto 4, 3) := by decide +kernel
theorem dX10_join_33 : decode cX10_join 33 = .ok (.iconst 0, 1) := by decide +kernel
theorem dX10_join_34 : decode cX10_join 34 = .ok (.iconst 0, 1) := by decide +kernel
theorem dX10_join_35 : decode cX10_join 35 = .ok (.invokevirtual 14, 3) := by decide +kernel
theorem dX10_join_38 : decode cX10_join 38 = .ok (.ifCond .eq 5, 3) := by decide +kernel
theorem dX10_join_41 : decode cX10_join 41 = .ok (.iconst 0, 1) := by decide +kernel
theorem dX10_join_42 : decode cX10_join 42 = .ok (.ireturn, 1) := by decide +kernel
theorem dX10_join_43 : decode cX10_join 43 = .ok (.aload_n 0, 1) := by decide +kernel
theorem dX10_join_44 : decode cX10_join 44 = .ok (.getfield 105, 3) := by decide +kernel
theorem dX10_join_47 : decode cX10_join 47 = .ok (.istore_n 2, 1) := by decide +kernel
theorem dX10_join_48 : decode cX10_join 48 = .ok (.aload_n 0, 1) := by decide +kernel
theorem dX10_join_49 : decode cX10_join 49 = .ok (.dup, 1) := by decide +kernel
theorem dX10_join_50 : decode cX10_join 50 = .ok (.getfield 105, 3) := by decide +kernel
theorem dX10_join_53 : decode cX10_join 53 = .ok (.iconst 1, 1) := by decide +kernel
theorem dX10_join_54 : decode cX10_join 54 = .ok (.iadd, 1) := by decide +kernel
theorem dX10_join_55 : decode cX10_join 55 = .ok (.putfield 105, 3) := by decide +kernel
theorem dX10_join_58 : decode cX10_join 58 = .ok (.aload_n 0, 1) := by decide +kernel
theorem dX10_join_59 : decode cX10_join 59 = .ok (.getfield 96, 3) := by decide +kernel
theorem dX10_join_62 : decode cX10_join 62 = .ok (.iload_n 2, 1) := by decide +kernel
theorem dX10_join_63 : decode cX10_join 63 = .ok (.iload_n 1, 1) := by decide +kernel
theorem dX10_join_64 : decode cX10_join 64 = .ok (.iastore, 1) := by decide +kernel
theorem dX10_join_65 : decode cX10_join 65 = .ok (.aload_n 0, 1) := by decide +kernel
theorem dX10_join_66 : decode cX10_join 66 = .ok (.getfield 99, 3) := by decide +kernel
theorem dX10_join_69 : decode cX10_join 69 = .ok (.iload_n 2, 1) := by decide +kernel
theorem dX10_join_70 : decode cX10_join 70 = .ok (.aload_n 0, 1) := by decide +kernel
theorem dX10_join_71 : decode cX10_join 71 = .ok (.getfield 93, 3) := by decide +kernel
theorem dX10_join_74 : decode cX10_join 74 = .ok (.iload_n 1, 1) := by decide +kernel
theorem dX10_join_75 : decode cX10_join 75 = .ok (.iaload, 1) := by decide +kernel
theorem dX10_join_76 : decode cX10_join 76 = .ok (.iastore, 1) := by decide +kernel
theorem dX10_join_77 : decode cX10_join 77 = .ok (.aload_n 0, 1) := by decide +kernel
theorem dX10_join_78 : decode cX10_join 78 = .ok (.getfield 121, 3) := by decide +kernel
theorem dX10_join_81 : decode cX10_join 81 = .ok (.iload_n 2, 1) := by decide +kernel
theorem dX10_join_82 : decode cX10_join 82 = .ok (.iconst (-1), 1) := by decide +kernel
theorem dX10_join_83 : decode cX10_join 83 = .ok (.iastore, 1) := by decide +kernel
theorem dX10_join_84 : decode cX10_join 84 = .ok (.aload_n 0, 1) := by decide +kernel
theorem dX10_join_85 : decode cX10_join 85 = .ok (.bipush 7, 2) := by decide +kernel
theorem dX10_join_87 : decode cX10_join 87 = .ok (.iconst (-1), 1) := by decide +kernel
theorem dX10_join_88 : decode cX10_join 88 = .ok (.iload_n 2, 1) := by decide +kernel
theorem dX10_join_89 : decode cX10_join 89 = .ok (.aload_n 0, 1) := by decide +kernel
theorem dX10_join_90 : decode cX10_join 90 = .ok (.getfield 99, 3) := by decide +kernel
theorem dX10_join_93 : decode cX10_join 93 = .ok (.iload_n 2, 1) := by decide +kernel
theorem dX10_join_94 : decode cX10_join 94 = .ok (.iaload, 1) := by decide +kernel
theorem dX10_join_95 : decode cX10_join 95 = .ok (.iload_n 1, 1) := by decide +kernel
theorem dX10_join_96 : decode cX10_join 96 = .ok (.invokevirtual 355, 3) := by decide +kernel
theorem dX10_join_99 : decode cX10_join 99 = .ok (.pop, 1) := by decide +kernel
theorem dX10_join_100 : decode cX10_join 100 = .ok (.aload_n 0, 1) := by decide +kernel
theorem dX10_join_101 : decode cX10_join 101 = .ok (.invokevirtual 361, 3) := by decide +kernel
theorem dX10_join_104 : decode cX10_join 104 = .ok (.pop, 1) := by decide +kernel
theorem dX10_join_105 : decode cX10_join 105 = .ok (.aload_n 0, 1) := by decide +kernel
theorem dX10_join_106 : decode cX10_join 106 = .ok (.invokevirtual 327, 3) := by decide +kernel
theorem dX10_join_109 : decode cX10_join 109 = .ok (.iload_n 2, 1) := by decide +kernel
theorem dX10_join_110 : decode cX10_join 110 = .ok (.ireturn, 1) := by decide +kernel
theorem dX10_isConsumer_0 : decode cX10_isConsumer 0 = .ok (.iload_n 1, 1) := by decide +kernel
theorem dX10_isConsumer_1 : decode cX10_isConsumer 1 = .ok (.iconst 0, 1) := by decide +kernel
theorem dX10_isConsumer_2 : decode cX10_isConsumer 2 = .ok (.aload_n 0, 1) := by decide +kernel
theorem dX10_isConsumer_3 : decode cX10_isConsumer 3 = .ok (.getfield 105, 3) := by decide +kernel
theorem dX10_isConsumer_6 : decode cX10_isConsumer 6 = .ok (.iconst 1, 1) := by decide +kernel
theorem dX10_isConsumer_7 : decode cX10_isConsumer 7 = .ok (.isub, 1) := by decide +kernel
theorem dX10_isConsumer_8 : decode cX10_isConsumer 8 = .ok (.invokestatic 22, 3) := by decide +kernel
theorem dX10_isConsumer_11 : decode cX10_isConsumer 11 = .ok (.ireturn, 1) := by decide +kernel
theorem dX10_read_0 : decode cX10_read 0 = .ok (.aload_n 0, 1) := by decide +kernel
theorem dX10_read_1 : decode cX10_read 1 = .ok (.aload_n 0, 1) := by decide +kernel
theorem dX10_read_2 : decode cX10_read 2 = .ok (.iload_n 1, 1) := by decide +kernel
theorem dX10_read_3 : decode cX10_read 3 = .ok (.invokevirtual 364, 3) := by decide +kernel
theorem dX10_read_6 : decode cX10_read 6 = .ok (.ifCond .ne 7, 3) := by decide +kernel
theorem dX10_read_9 : decode cX10_read 9 = .ok (.iconst 1, 1) := by decide +kernel
theorem dX10_read_10 : decode cX10_read 10 = .ok (.goto 4, 3) := by decide +kernel
theorem dX10_read_13 : decode cX10_read 13 = .ok (.iconst 0, 1) := by decide +kernel
theorem dX10_read_14 : decode cX10_read 14 = .ok (.iload_n 2, 1) := by decide +kernel
theorem dX10_read_15 : decode cX10_read 15 = .ok (.iconst 1, 1) := by decide +kernel
theorem dX10_read_16 : decode cX10_read 16 = .ok (.bipush 50, 2) := by decide +kernel
theorem dX10_read_18 : decode cX10_read 18 = .ok (.invokestatic 22, 3) := by decide +kernel
theorem dX10_read_21 : decode cX10_read 21 = .ok (.ifCond .ne 7, 3) := by decide +kernel
theorem dX10_read_24 : decode cX10_read 24 = .ok (.iconst 1, 1) := by decide +kernel
theorem dX10_read_25 : decode cX10_read 25 = .ok (.goto 4, 3) := by decide +kernel
theorem dX10_read_28 : decode cX10_read 28 = .ok (.iconst 0, 1) := by decide +kernel
theorem dX10_read_29 : decode cX10_read 29 = .ok (.aload_n 0, 1) := by decide +kernel
theorem dX10_read_30 : decode cX10_read 30 = .ok (.invokevirtual 323, 3) := by decide +kernel
theorem dX10_read_33 : decode cX10_read 33 = .ok (.invokevirtual 14, 3) := by decide +kernel
theorem dX10_read_36 : decode cX10_read 36 = .ok (.ifCond .eq 5, 3) := by decide +kernel
theorem dX10_read_39 : decode cX10_read 39 = .ok (.iconst 0, 1) := by decide +kernel
theorem dX10_read_40 : decode cX10_read 40 = .ok (.ireturn, 1) := by decide +kernel
theorem dX10_read_41 : decode cX10_read 41 = .ok (.aload_n 0, 1) := by decide +kernel
theorem dX10_read_42 : decode cX10_read 42 = .ok (.getfield 96, 3) := by decide +kernel
theorem dX10_read_45 : decode cX10_read 45 = .ok (.iload_n 1, 1) := by decide +kernel
theorem dX10_read_46 : decode cX10_read 46 = .ok (.iaload, 1) := by decide +kernel
theorem dX10_read_47 : decode cX10_read 47 = .ok (.istore_n 3, 1) := by decide +kernel
theorem dX10_read_48 : decode cX10_read 48 = .ok (.iload_n 2, 1) := by decide +kernel
theorem dX10_read_49 : decode cX10_read 49 = .ok (.aload_n 0, 1) := by decide +kernel
theorem dX10_read_50 : decode cX10_read 50 = .ok (.iload_n 1, 1) := by decide +kernel
theorem dX10_read_51 : decode cX10_read 51 = .ok (.invokevirtual 367, 3) := by decide +kernel
theorem dX10_read_54 : decode cX10_read 54 = .ok (.invokestatic 284, 3) := by decide +kernel
theorem dX10_read_57 : decode cX10_read 57 = .ok (.istore 4, 2) := by decide +kernel
theorem dX10_read_59 : decode cX10_read 59 = .ok (.aload_n 0, 1) := by decide +kernel
theorem dX10_read_60 : decode cX10_read 60 = .ok (.iload 4, 2) := by decide +kernel
theorem dX10_read_62 : decode cX10_read 62 = .ok (.putfield 127, 3) := by decide +kernel
theorem dX10_read_65 : decode cX10_read 65 = .ok (.iconst 0, 1) := by decide +kernel
theorem dX10_read_66 : decode cX10_read 66 = .ok (.istore 5, 2) := by decide +kernel
theorem dX10_read_68 : decode cX10_read 68 = .ok (.iload 5, 2) := by decide +kernel
theorem dX10_read_70 : decode cX10_read 70 = .ok (.iload 4, 2) := by decide +kernel
theorem dX10_read_72 : decode cX10_read 72 = .ok (.if_icmp .ge 90, 3) := by decide +kernel
theorem dX10_read_75 : decode cX10_read 75 = .ok (.aload_n 0, 1) := by decide +kernel
theorem dX10_read_76 : decode cX10_read 76 = .ok (.getfield 99, 3) := by decide +kernel
theorem dX10_read_79 : decode cX10_read 79 = .ok (.iload_n 1, 1) := by decide +kernel
theorem dX10_read_80 : decode cX10_read 80 = .ok (.iaload, 1) := by decide +kernel
theorem dX10_read_81 : decode cX10_read 81 = .ok (.iload 5, 2) := by decide +kernel
theorem dX10_read_83 : decode cX10_read 83 = .ok (.iadd, 1) := by decide +kernel
theorem dX10_read_84 : decode cX10_read 84 = .ok (.istore 6, 2) := by decide +kernel
theorem dX10_read_86 : decode cX10_read 86 = .ok (.aload_n 0, 1) := by decide +kernel
theorem dX10_read_87 : decode cX10_read 87 = .ok (.iload_n 3, 1) := by decide +kernel
theorem dX10_read_88 : decode cX10_read 88 = .ok (.iload 6, 2) := by decide +kernel
theorem dX10_read_90 : decode cX10_read 90 = .ok (.invokevirtual 281, 3) := by decide +kernel
theorem dX10_read_93 : decode cX10_read 93 = .ok (.istore 7, 2) := by decide +kernel
theorem dX10_read_95 : decode cX10_read 95 = .ok (.aload_n 0, 1) := by decide +kernel
theorem dX10_read_96 : decode cX10_read 96 = .ok (.getfield 124, 3) := by decide +kernel
theorem dX10_read_99 : decode cX10_read 99 = .ok (.iconst 3, 1) := by decide +kernel
theorem dX10_read_100 : decode cX10_read 100 = .ok (.iload 5, 2) := by decide +kernel
theorem dX10_read_102 : decode cX10_read 102 = .ok (.imul, 1) := by decide +kernel
theorem dX10_read_103 : decode cX10_read 103 = .ok (.iload 7, 2) := by decide +kernel
theorem dX10_read_105 : decode cX10_read 105 = .ok (.iastore, 1) := by decide +kernel
theorem dX10_read_106 : decode cX10_read 106 = .ok (.aload_n 0, 1) := by decide +kernel
theorem dX10_read_107 : decode cX10_read 107 = .ok (.getfield 124, 3) := by decide +kernel
theorem dX10_read_110 : decode cX10_read 110 = .ok (.iconst 3, 1) := by decide +kernel
theorem dX10_read_111 : decode cX10_read 111 = .ok (.iload 5, 2) := by decide +kernel
theorem dX10_read_113 : decode cX10_read 113 = .ok (.imul, 1) := by decide +kernel
theorem dX10_read_114 : decode cX10_read 114 = .ok (.iconst 1, 1) := by decide +kernel
theorem dX10_read_115 : decode cX10_read 115 = .ok (.iadd, 1) := by decide +kernel
theorem dX10_read_116 : decode cX10_read 116 = .ok (.aload_n 0, 1) := by decide +kernel
theorem dX10_read_117 : decode cX10_read 117 = .ok (.getfield 50, 3) := by decide +kernel
theorem dX10_read_120 : decode cX10_read 120 = .ok (.iload 7, 2) := by decide +kernel
theorem dX10_read_122 : decode cX10_read 122 = .ok (.iaload, 1) := by decide +kernel
theorem dX10_read_123 : decode cX10_read 123 = .ok (.iastore, 1) := by decide +kernel
theorem dX10_read_124 : decode cX10_read 124 = .ok (.aload_n 0, 1) := by decide +kernel
theorem dX10_read_125 : decode cX10_read 125 = .ok (.getfield 124, 3) := by decide +kernel
theorem dX10_read_128 : decode cX10_read 128 = .ok (.iconst 3, 1) := by decide +kernel
theorem dX10_read_129 : decode cX10_read 129 = .ok (.iload 5, 2) := by decide +kernel
theorem dX10_read_131 : decode cX10_read 131 = .ok (.imul, 1) := by decide +kernel
theorem dX10_read_132 : decode cX10_read 132 = .ok (.iconst 2, 1) := by decide +kernel
theorem dX10_read_133 : decode cX10_read 133 = .ok (.iadd, 1) := by decide +kernel
theorem dX10_read_134 : decode cX10_read 134 = .ok (.aload_n 0, 1) := by decide +kernel
theorem dX10_read_135 : decode cX10_read 135 = .ok (.getfield 53, 3) := by decide +kernel
theorem dX10_read_138 : decode cX10_read 138 = .ok (.iload 7, 2) := by decide +kernel
theorem dX10_read_140 : decode cX10_read 140 = .ok (.iaload, 1) := by decide +kernel
theorem dX10_read_141 : decode cX10_read 141 = .ok (.iastore, 1) := by decide +kernel
theorem dX10_read_142 : decode cX10_read 142 = .ok (.aload_n 0, 1) := by decide +kernel
theorem dX10_read_143 : decode cX10_read 143 = .ok (.getfield 102, 3) := by decide +kernel
theorem dX10_read_146 : decode cX10_read 146 = .ok (.sipush 400, 3) := by decide +kernel
theorem dX10_read_149 : decode cX10_read 149 = .ok (.iload_n 1, 1) := by decide +kernel
theorem dX10_read_150 : decode cX10_read 150 = .ok (.imul, 1) := by decide +kernel
theorem dX10_read_151 : decode cX10_read 151 = .ok (.iload 6, 2) := by decide +kernel
theorem dX10_read_153 : decode cX10_read 153 = .ok (.iadd, 1) := by decide +kernel
theorem dX10_read_154 : decode cX10_read 154 = .ok (.iconst 0, 1) := by decide +kernel
theorem dX10_read_155 : decode cX10_read 155 = .ok (.bastore, 1) := by decide +kernel
theorem dX10_read_156 : decode cX10_read 156 = .ok (.iinc 5 1, 3) := by decide +kernel
theorem dX10_read_159 : decode cX10_read 159 = .ok (.goto (-91), 3) := by decide +kernel
theorem dX10_read_162 : decode cX10_read 162 = .ok (.iload 4, 2) := by decide +kernel
theorem dX10_read_164 : decode cX10_read 164 = .ok (.ifCond .le 35, 3) := by decide +kernel
theorem dX10_read_167 : decode cX10_read 167 = .ok (.aload_n 0, 1) := by decide +kernel
theorem dX10_read_168 : decode cX10_read 168 = .ok (.getfield 99, 3) := by decide +kernel
theorem dX10_read_171 : decode cX10_read 171 = .ok (.iload_n 1, 1) := by decide +kernel
theorem dX10_read_172 : decode cX10_read 172 = .ok (.dup2, 1) := by decide +kernel
theorem dX10_read_173 : decode cX10_read 173 = .ok (.iaload, 1) := by decide +kernel
theorem dX10_read_174 : decode cX10_read 174 = .ok (.iload 4, 2) := by decide +kernel
theorem dX10_read_176 : decode cX10_read 176 = .ok (.iadd, 1) := by decide +kernel
theorem dX10_read_177 : decode cX10_read 177 = .ok (.iastore, 1) := by decide +kernel
theorem dX10_read_178 : decode cX10_read 178 = .ok (.aload_n 0, 1) := by decide +kernel
theorem dX10_read_179 : decode cX10_read 179 = .ok (.bipush 7, 2) := by decide +kernel
theorem dX10_read_181 : decode cX10_read 181 = .ok (.iconst (-1), 1) := by decide +kernel
theorem dX10_read_182 : decode cX10_read 182 = .ok (.iload_n 1, 1) := by decide +kernel
theorem dX10_read_183 : decode cX10_read 183 = .ok (.aload_n 0, 1) := by decide +kernel
theorem dX10_read_184 : decode cX10_read 184 = .ok (.getfield 99, 3) := by decide +kernel
theorem dX10_read_187 : decode cX10_read 187 = .ok (.iload_n 1, 1) := by decide +kernel
theorem dX10_read_188 : decode cX10_read 188 = .ok (.iaload, 1) := by decide +kernel
theorem dX10_read_189 : decode cX10_read 189 = .ok (.iload_n 3, 1) := by decide +kernel
theorem dX10_read_190 : decode cX10_read 190 = .ok (.invokevirtual 355, 3) := by decide +kernel
theorem dX10_read_193 : decode cX10_read 193 = .ok (.pop, 1) := by decide +kernel
theorem dX10_read_194 : decode cX10_read 194 = .ok (.aload_n 0, 1) := by decide +kernel
theorem dX10_read_195 : decode cX10_read 195 = .ok (.invokevirtual 361, 3) := by decide +kernel
theorem dX10_read_198 : decode cX10_read 198 = .ok (.pop, 1) := by decide +kernel
theorem dX10_read_199 : decode cX10_read 199 = .ok (.aload_n 0, 1) := by decide +kernel
theorem dX10_read_200 : decode cX10_read 200 = .ok (.invokevirtual 327, 3) := by decide +kernel
theorem dX10_read_203 : decode cX10_read 203 = .ok (.iload 4, 2) := by decide +kernel
theorem dX10_read_205 : decode cX10_read 205 = .ok (.ireturn, 1) := by decide +kernel
theorem dX10_message_0 : decode cX10_message 0 = .ok (.aload_n 0, 1) := by decide +kernel
theorem dX10_message_1 : decode cX10_message 1 = .ok (.iload_n 1, 1) := by decide +kernel
theorem dX10_message_2 : decode cX10_message 2 = .ok (.iconst 0, 1) := by decide +kernel
theorem dX10_message_3 : decode cX10_message 3 = .ok (.aload_n 0, 1) := by decide +kernel
theorem dX10_message_4 : decode cX10_message 4 = .ok (.getfield 127, 3) := by decide +kernel
theorem dX10_message_7 : decode cX10_message 7 = .ok (.iconst 1, 1) := by decide +kernel
theorem dX10_message_8 : decode cX10_message 8 = .ok (.isub, 1) := by decide +kernel
theorem dX10_message_9 : decode cX10_message 9 = .ok (.invokestatic 22, 3) := by decide +kernel
theorem dX10_message_12 : decode cX10_message 12 = .ok (.ifCond .ne 7, 3) := by decide +kernel
theorem dX10_message_15 : decode cX10_message 15 = .ok (.iconst 1, 1) := by decide +kernel
theorem dX10_message_16 : decode cX10_message 16 = .ok (.goto 4, 3) := by decide +kernel
theorem dX10_message_19 : decode cX10_message 19 = .ok (.iconst 0, 1) := by decide +kernel
theorem dX10_message_20 : decode cX10_message 20 = .ok (.iload_n 2, 1) := by decide +kernel
theorem dX10_message_21 : decode cX10_message 21 = .ok (.iconst 0, 1) := by decide +kernel
theorem dX10_message_22 : decode cX10_message 22 = .ok (.iconst 2, 1) := by decide +kernel
theorem dX10_message_23 : decode cX10_message 23 = .ok (.invokestatic 22, 3) := by decide +kernel
theorem dX10_message_26 : decode cX10_message 26 = .ok (.ifCond .ne 7, 3) := by decide +kernel
theorem dX10_message_29 : decode cX10_message 29 = .ok (.iconst 1, 1) := by decide +kernel
theorem dX10_message_30 : decode cX10_message 30 = .ok (.goto 4, 3) := by decide +kernel
theorem dX10_message_33 : decode cX10_message 33 = .ok (.iconst 0, 1) := by decide +kernel
theorem dX10_message_34 : decode cX10_message 34 = .ok (.iconst 0, 1) := by decide +kernel
theorem dX10_message_35 : decode cX10_message 35 = .ok (.invokevirtual 14, 3) := by decide +kernel
theorem dX10_message_38 : decode cX10_message 38 = .ok (.ifCond .eq 5, 3) := by decide +kernel
theorem dX10_message_41 : decode cX10_message 41 = .ok (.iconst 0, 1) := by decide +kernel
theorem dX10_message_42 : decode cX10_message 42 = .ok (.ireturn, 1) := by decide +kernel
theorem dX10_message_43 : decode cX10_message 43 = .ok (.aload_n 0, 1) := by decide +kernel
theorem dX10_message_44 : decode cX10_message 44 = .ok (.getfield 124, 3) := by decide +kernel
theorem dX10_message_47 : decode cX10_message 47 = .ok (.iconst 3, 1) := by decide +kernel
theorem dX10_message_48 : decode cX10_message 48 = .ok (.iload_n 1, 1) := by decide +kernel
theorem dX10_message_49 : decode cX10_message 49 = .ok (.imul, 1) := by decide +kernel
theorem dX10_message_50 : decode cX10_message 50 = .ok (.iload_n 2, 1) := by decide +kernel
theorem dX10_message_51 : decode cX10_message 51 = .ok (.iadd, 1) := by decide +kernel
theorem dX10_message_52 : decode cX10_message 52 = .ok (.iaload, 1) := by decide +kernel
theorem dX10_message_53 : decode cX10_message 53 = .ok (.ireturn, 1) := by decide +kernel
theorem dX10_flush_0 : decode cX10_flush 0 = .ok (.aload_n 0, 1) := by decide +kernel
theorem dX10_flush_1 : decode cX10_flush 1 = .ok (.iconst 0, 1) := by decide +kernel
theorem dX10_flush_2 : decode cX10_flush 2 = .ok (.putfield 1, 3) := by decide +kernel
theorem dX10_flush_5 : decode cX10_flush 5 = .ok (.aload_n 0, 1) := by decide +kernel
theorem dX10_flush_6 : decode cX10_flush 6 = .ok (.invokevirtual 361, 3) := by decide +kernel
theorem dX10_flush_9 : decode cX10_flush 9 = .ok (.istore_n 1, 1) := by decide +kernel
theorem dX10_flush_10 : decode cX10_flush 10 = .ok (.aload_n 0, 1) := by decide +kernel
theorem dX10_flush_11 : decode cX10_flush 11 = .ok (.invokevirtual 327, 3) := by decide +kernel
theorem dX10_flush_14 : decode cX10_flush 14 = .ok (.iload_n 1, 1) := by decide +kernel
theorem dX10_flush_15 : decode cX10_flush 15 = .ok (.ireturn, 1) := by decide +kernel
theorem dX10_checkpoint_0 : decode cX10_checkpoint 0 = .ok (.aload_n 0, 1) := by decide +kernel
theorem dX10_checkpoint_1 : decode cX10_checkpoint 1 = .ok (.aload_n 0, 1) := by decide +kernel
theorem dX10_checkpoint_2 : decode cX10_checkpoint 2 = .ok (.invokevirtual 323, 3) := by decide +kernel
theorem dX10_checkpoint_5 : decode cX10_checkpoint 5 = .ok (.iconst 0, 1) := by decide +kernel
theorem dX10_checkpoint_6 : decode cX10_checkpoint 6 = .ok (.iconst 0, 1) := by decide +kernel
theorem dX10_checkpoint_7 : decode cX10_checkpoint 7 = .ok (.invokevirtual 14, 3) := by decide +kernel
theorem dX10_checkpoint_10 : decode cX10_checkpoint 10 = .ok (.ifCond .eq 5, 3) := by decide +kernel
theorem dX10_checkpoint_13 : decode cX10_checkpoint 13 = .ok (.iconst 0, 1) := by decide +kernel
theorem dX10_checkpoint_14 : decode cX10_checkpoint 14 = .ok (.ireturn, 1) := by decide +kernel
theorem dX10_checkpoint_15 : decode cX10_checkpoint 15 = .ok (.aload_n 0, 1) := by decide +kernel
theorem dX10_checkpoint_16 : decode cX10_checkpoint 16 = .ok (.aload_n 0, 1) := by decide +kernel
theorem dX10_checkpoint_17 : decode cX10_checkpoint 17 = .ok (.getfield 69, 3) := by decide +kernel
theorem dX10_checkpoint_20 : decode cX10_checkpoint 20 = .ok (.invokevirtual 370, 3) := by decide +kernel
theorem dX10_checkpoint_23 : decode cX10_checkpoint 23 = .ok (.aload_n 0, 1) := by decide +kernel
theorem dX10_checkpoint_24 : decode cX10_checkpoint 24 = .ok (.bipush 8, 2) := by decide +kernel
theorem dX10_checkpoint_26 : decode cX10_checkpoint 26 = .ok (.iconst (-1), 1) := by decide +kernel
theorem dX10_checkpoint_27 : decode cX10_checkpoint 27 = .ok (.iconst 0, 1) := by decide +kernel
theorem dX10_checkpoint_28 : decode cX10_checkpoint 28 = .ok (.iconst 0, 1) := by decide +kernel
theorem dX10_checkpoint_29 : decode cX10_checkpoint 29 = .ok (.iconst 0, 1) := by decide +kernel
theorem dX10_checkpoint_30 : decode cX10_checkpoint 30 = .ok (.invokevirtual 266, 3) := by decide +kernel
theorem dX10_checkpoint_33 : decode cX10_checkpoint 33 = .ok (.istore_n 1, 1) := by decide +kernel
theorem dX10_checkpoint_34 : decode cX10_checkpoint 34 = .ok (.iconst 0, 1) := by decide +kernel
theorem dX10_checkpoint_35 : decode cX10_checkpoint 35 = .ok (.istore_n 2, 1) := by decide +kernel
theorem dX10_checkpoint_36 : decode cX10_checkpoint 36 = .ok (.iload_n 2, 1) := by decide +kernel
theorem dX10_checkpoint_37 : decode cX10_checkpoint 37 = .ok (.bipush 32, 2) := by decide +kernel
theorem dX10_checkpoint_39 : decode cX10_checkpoint 39 = .ok (.if_icmp .ge 21, 3) := by decide +kernel
theorem dX10_checkpoint_42 : decode cX10_checkpoint 42 = .ok (.aload_n 0, 1) := by decide +kernel
theorem dX10_checkpoint_43 : decode cX10_checkpoint 43 = .ok (.getfield 115, 3) := by decide +kernel
theorem dX10_checkpoint_46 : decode cX10_checkpoint 46 = .ok (.iload_n 2, 1) := by decide +kernel
theorem dX10_checkpoint_47 : decode cX10_checkpoint 47 = .ok (.aload_n 0, 1) := by decide +kernel
theorem dX10_checkpoint_48 : decode cX10_checkpoint 48 = .ok (.getfield 130, 3) := by decide +kernel
theorem dX10_checkpoint_51 : decode cX10_checkpoint 51 = .ok (.iload_n 2, 1) := by decide +kernel
theorem dX10_checkpoint_52 : decode cX10_checkpoint 52 = .ok (.iaload, 1) := by decide +kernel
theorem dX10_checkpoint_53 : decode cX10_checkpoint 53 = .ok (.iastore, 1) := by decide +kernel
theorem dX10_checkpoint_54 : decode cX10_checkpoint 54 = .ok (.iinc 2 1, 3) := by decide +kernel
theorem dX10_checkpoint_57 : decode cX10_checkpoint 57 = .ok (.goto (-21), 3) := by decide +kernel
theorem dX10_checkpoint_60 : decode cX10_checkpoint 60 = .ok (.iconst 0, 1) := by decide +kernel
theorem dX10_checkpoint_61 : decode cX10_checkpoint 61 = .ok (.istore_n 2, 1) := by decide +kernel
theorem dX10_checkpoint_62 : decode cX10_checkpoint 62 = .ok (.iload_n 2, 1) := by decide +kernel
theorem dX10_checkpoint_63 : decode cX10_checkpoint 63 = .ok (.bipush 8, 2) := by decide +kernel
theorem dX10_checkpoint_65 : decode cX10_checkpoint 65 = .ok (.if_icmp .ge 21, 3) := by decide +kernel
theorem dX10_checkpoint_68 : decode cX10_checkpoint 68 = .ok (.aload_n 0, 1) := by decide +kernel
theorem dX10_checkpoint_69 : decode cX10_checkpoint 69 = .ok (.getfield 118, 3) := by decide +kernel
theorem dX10_checkpoint_72 : decode cX10_checkpoint 72 = .ok (.iload_n 2, 1) := by decide +kernel
theorem dX10_checkpoint_73 : decode cX10_checkpoint 73 = .ok (.aload_n 0, 1) := by decide +kernel
theorem dX10_checkpoint_74 : decode cX10_checkpoint 74 = .ok (.getfield 133, 3) := by decide +kernel
theorem dX10_checkpoint_77 : decode cX10_checkpoint 77 = .ok (.iload_n 2, 1) := by decide +kernel
theorem dX10_checkpoint_78 : decode cX10_checkpoint 78 = .ok (.baload, 1) := by decide +kernel
theorem dX10_checkpoint_79 : decode cX10_checkpoint 79 = .ok (.bastore, 1) := by decide +kernel
theorem dX10_checkpoint_80 : decode cX10_checkpoint 80 = .ok (.iinc 2 1, 3) := by decide +kernel
theorem dX10_checkpoint_83 : decode cX10_checkpoint 83 = .ok (.goto (-21), 3) := by decide +kernel
theorem dX10_checkpoint_86 : decode cX10_checkpoint 86 = .ok (.iconst 0, 1) := by decide +kernel
theorem dX10_checkpoint_87 : decode cX10_checkpoint 87 = .ok (.istore_n 2, 1) := by decide +kernel
theorem dX10_checkpoint_88 : decode cX10_checkpoint 88 = .ok (.iload_n 2, 1) := by decide +kernel
theorem dX10_checkpoint_89 : decode cX10_checkpoint 89 = .ok (.aload_n 0, 1) := by decide +kernel
theorem dX10_checkpoint_90 : decode cX10_checkpoint 90 = .ok (.getfield 105, 3) := by decide +kernel
theorem dX10_checkpoint_93 : decode cX10_checkpoint 93 = .ok (.if_icmp .ge 21, 3) := by decide +kernel
theorem dX10_checkpoint_96 : decode cX10_checkpoint 96 = .ok (.aload_n 0, 1) := by decide +kernel
theorem dX10_checkpoint_97 : decode cX10_checkpoint 97 = .ok (.getfield 121, 3) := by decide +kernel
theorem dX10_checkpoint_100 : decode cX10_checkpoint 100 = .ok (.iload_n 2, 1) := by decide +kernel
theorem dX10_checkpoint_101 : decode cX10_checkpoint 101 = .ok (.aload_n 0, 1) := by decide +kernel
theorem dX10_checkpoint_102 : decode cX10_checkpoint 102 = .ok (.getfield 99, 3) := by decide +kernel
theorem dX10_checkpoint_105 : decode cX10_checkpoint 105 = .ok (.iload_n 2, 1) := by decide +kernel
theorem dX10_checkpoint_106 : decode cX10_checkpoint 106 = .ok (.iaload, 1) := by decide +kernel
theorem dX10_checkpoint_107 : decode cX10_checkpoint 107 = .ok (.iastore, 1) := by decide +kernel
theorem dX10_checkpoint_108 : decode cX10_checkpoint 108 = .ok (.iinc 2 1, 3) := by decide +kernel
theorem dX10_checkpoint_111 : decode cX10_checkpoint 111 = .ok (.goto (-23), 3) := by decide +kernel
theorem dX10_checkpoint_114 : decode cX10_checkpoint 114 = .ok (.aload_n 0, 1) := by decide +kernel
theorem dX10_checkpoint_115 : decode cX10_checkpoint 115 = .ok (.iload_n 1, 1) := by decide +kernel
theorem dX10_checkpoint_116 : decode cX10_checkpoint 116 = .ok (.putfield 108, 3) := by decide +kernel
theorem dX10_checkpoint_119 : decode cX10_checkpoint 119 = .ok (.aload_n 0, 1) := by decide +kernel
theorem dX10_checkpoint_120 : decode cX10_checkpoint 120 = .ok (.iconst 1, 1) := by decide +kernel
theorem dX10_checkpoint_121 : decode cX10_checkpoint 121 = .ok (.putfield 111, 3) := by decide +kernel
theorem dX10_checkpoint_124 : decode cX10_checkpoint 124 = .ok (.aload_n 0, 1) := by decide +kernel
theorem dX10_checkpoint_125 : decode cX10_checkpoint 125 = .ok (.invokevirtual 361, 3) := by decide +kernel
theorem dX10_checkpoint_128 : decode cX10_checkpoint 128 = .ok (.pop, 1) := by decide +kernel
theorem dX10_checkpoint_129 : decode cX10_checkpoint 129 = .ok (.aload_n 0, 1) := by decide +kernel
theorem dX10_checkpoint_130 : decode cX10_checkpoint 130 = .ok (.invokevirtual 327, 3) := by decide +kernel
theorem dX10_checkpoint_133 : decode cX10_checkpoint 133 = .ok (.iload_n 1, 1) := by decide +kernel
theorem dX10_checkpoint_134 : decode cX10_checkpoint 134 = .ok (.ireturn, 1) := by decide +kernel
theorem dX10_isInLog_0 : decode cX10_isInLog 0 = .ok (.iload_n 1, 1) := by decide +kernel
theorem dX10_isInLog_1 : decode cX10_isInLog 1 = .ok (.aload_n 0, 1) := by decide +kernel
theorem dX10_isInLog_2 : decode cX10_isInLog 2 = .ok (.invokevirtual 255, 3) := by decide +kernel
theorem dX10_isInLog_5 : decode cX10_isInLog 5 = .ok (.aload_n 0, 1) := by decide +kernel
theorem dX10_isInLog_6 : decode cX10_isInLog 6 = .ok (.getfield 69, 3) := by decide +kernel
theorem dX10_isInLog_9 : decode cX10_isInLog 9 = .ok (.iconst 1, 1) := by decide +kernel
theorem dX10_isInLog_10 : decode cX10_isInLog 10 = .ok (.isub, 1) := by decide +kernel
theorem dX10_isInLog_11 : decode cX10_isInLog 11 = .ok (.invokestatic 22, 3) := by decide +kernel
theorem dX10_isInLog_14 : decode cX10_isInLog 14 = .ok (.ireturn, 1) := by decide +kernel
theorem dX10_damagedCount_0 : decode cX10_damagedCount 0 = .ok (.iconst 0, 1) := by decide +kernel
theorem dX10_damagedCount_1 : decode cX10_damagedCount 1 = .ok (.istore_n 1, 1) := by decide +kernel
theorem dX10_damagedCount_2 : decode cX10_damagedCount 2 = .ok (.aload_n 0, 1) := by decide +kernel
theorem dX10_damagedCount_3 : decode cX10_damagedCount 3 = .ok (.invokevirtual 255, 3) := by decide +kernel
theorem dX10_damagedCount_6 : decode cX10_damagedCount 6 = .ok (.istore_n 2, 1) := by decide +kernel
theorem dX10_damagedCount_7 : decode cX10_damagedCount 7 = .ok (.iload_n 2, 1) := by decide +kernel
theorem dX10_damagedCount_8 : decode cX10_damagedCount 8 = .ok (.aload_n 0, 1) := by decide +kernel
theorem dX10_damagedCount_9 : decode cX10_damagedCount 9 = .ok (.getfield 69, 3) := by decide +kernel
theorem dX10_damagedCount_12 : decode cX10_damagedCount 12 = .ok (.if_icmp .ge 26, 3) := by decide +kernel
theorem dX10_damagedCount_15 : decode cX10_damagedCount 15 = .ok (.iload_n 1, 1) := by decide +kernel
theorem dX10_damagedCount_16 : decode cX10_damagedCount 16 = .ok (.aload_n 0, 1) := by decide +kernel
theorem dX10_damagedCount_17 : decode cX10_damagedCount 17 = .ok (.getfield 65, 3) := by decide +kernel
theorem dX10_damagedCount_20 : decode cX10_damagedCount 20 = .ok (.iload_n 2, 1) := by decide +kernel
theorem dX10_damagedCount_21 : decode cX10_damagedCount 21 = .ok (.baload, 1) := by decide +kernel
theorem dX10_damagedCount_22 : decode cX10_damagedCount 22 = .ok (.ifCond .eq 7, 3) := by decide +kernel
theorem dX10_damagedCount_25 : decode cX10_damagedCount 25 = .ok (.iconst 1, 1) := by decide +kernel
theorem dX10_damagedCount_26 : decode cX10_damagedCount 26 = .ok (.goto 4, 3) := by decide +kernel
theorem dX10_damagedCount_29 : decode cX10_damagedCount 29 = .ok (.iconst 0, 1) := by decide +kernel
theorem dX10_damagedCount_30 : decode cX10_damagedCount 30 = .ok (.iadd, 1) := by decide +kernel
theorem dX10_damagedCount_31 : decode cX10_damagedCount 31 = .ok (.istore_n 1, 1) := by decide +kernel
theorem dX10_damagedCount_32 : decode cX10_damagedCount 32 = .ok (.iinc 2 1, 3) := by decide +kernel
theorem dX10_damagedCount_35 : decode cX10_damagedCount 35 = .ok (.goto (-28), 3) := by decide +kernel
theorem dX10_damagedCount_38 : decode cX10_damagedCount 38 = .ok (.iload_n 1, 1) := by decide +kernel
theorem dX10_damagedCount_39 : decode cX10_damagedCount 39 = .ok (.ireturn, 1) := by decide +kernel
theorem dX10_firstDamaged_0 : decode cX10_firstDamaged 0 = .ok (.aload_n 0, 1) := by decide +kernel
theorem dX10_firstDamaged_1 : decode cX10_firstDamaged 1 = .ok (.invokevirtual 255, 3) := by decide +kernel
theorem dX10_firstDamaged_4 : decode cX10_firstDamaged 4 = .ok (.istore_n 1, 1) := by decide +kernel
theorem dX10_firstDamaged_5 : decode cX10_firstDamaged 5 = .ok (.iload_n 1, 1) := by decide +kernel
theorem dX10_firstDamaged_6 : decode cX10_firstDamaged 6 = .ok (.aload_n 0, 1) := by decide +kernel
theorem dX10_firstDamaged_7 : decode cX10_firstDamaged 7 = .ok (.getfield 69, 3) := by decide +kernel
theorem dX10_firstDamaged_10 : decode cX10_firstDamaged 10 = .ok (.if_icmp .ge 20, 3) := by decide +kernel
theorem dX10_firstDamaged_13 : decode cX10_firstDamaged 13 = .ok (.aload_n 0, 1) := by decide +kernel
theorem dX10_firstDamaged_14 : decode cX10_firstDamaged 14 = .ok (.getfield 65, 3) := by decide +kernel
theorem dX10_firstDamaged_17 : decode cX10_firstDamaged 17 = .ok (.iload_n 1, 1) := by decide +kernel
theorem dX10_firstDamaged_18 : decode cX10_firstDamaged 18 = .ok (.baload, 1) := by decide +kernel
theorem dX10_firstDamaged_19 : decode cX10_firstDamaged 19 = .ok (.ifCond .eq 5, 3) := by decide +kernel
theorem dX10_firstDamaged_22 : decode cX10_firstDamaged 22 = .ok (.iload_n 1, 1) := by decide +kernel
theorem dX10_firstDamaged_23 : decode cX10_firstDamaged 23 = .ok (.ireturn, 1) := by decide +kernel
theorem dX10_firstDamaged_24 : decode cX10_firstDamaged 24 = .ok (.iinc 1 1, 3) := by decide +kernel
theorem dX10_firstDamaged_27 : decode cX10_firstDamaged 27 = .ok (.goto (-22), 3) := by decide +kernel
theorem dX10_firstDamaged_30 : decode cX10_firstDamaged 30 = .ok (.aload_n 0, 1) := by decide +kernel
theorem dX10_firstDamaged_31 : decode cX10_firstDamaged 31 = .ok (.getfield 69, 3) := by decide +kernel
theorem dX10_firstDamaged_34 : decode cX10_firstDamaged 34 = .ok (.ireturn, 1) := by decide +kernel
theorem dX10_damage_0 : decode cX10_damage 0 = .ok (.aload_n 0, 1) := by decide +kernel
theorem dX10_damage_1 : decode cX10_damage 1 = .ok (.iload_n 1, 1) := by decide +kernel
theorem dX10_damage_2 : decode cX10_damage 2 = .ok (.invokevirtual 373, 3) := by decide +kernel
theorem dX10_damage_5 : decode cX10_damage 5 = .ok (.istore_n 2, 1) := by decide +kernel
theorem dX10_damage_6 : decode cX10_damage 6 = .ok (.aload_n 0, 1) := by decide +kernel
theorem dX10_damage_7 : decode cX10_damage 7 = .ok (.iload_n 2, 1) := by decide +kernel
theorem dX10_damage_8 : decode cX10_damage 8 = .ok (.ifCond .ne 7, 3) := by decide +kernel
theorem dX10_damage_11 : decode cX10_damage 11 = .ok (.iconst 1, 1) := by decide +kernel
theorem dX10_damage_12 : decode cX10_damage 12 = .ok (.goto 4, 3) := by decide +kernel
theorem dX10_damage_15 : decode cX10_damage 15 = .ok (.iconst 0, 1) := by decide +kernel
theorem dX10_damage_16 : decode cX10_damage 16 = .ok (.iload_n 2, 1) := by decide +kernel
theorem dX10_damage_17 : decode cX10_damage 17 = .ok (.ifCond .eq 15, 3) := by decide +kernel
theorem dX10_damage_20 : decode cX10_damage 20 = .ok (.iload_n 1, 1) := by decide +kernel
theorem dX10_damage_21 : decode cX10_damage 21 = .ok (.aload_n 0, 1) := by decide +kernel
theorem dX10_damage_22 : decode cX10_damage 22 = .ok (.getfield 72, 3) := by decide +kernel
theorem dX10_damage_25 : decode cX10_damage 25 = .ok (.if_icmp .ge 7, 3) := by decide +kernel
theorem dX10_damage_28 : decode cX10_damage 28 = .ok (.iconst 1, 1) := by decide +kernel
theorem dX10_damage_29 : decode cX10_damage 29 = .ok (.goto 4, 3) := by decide +kernel
theorem dX10_damage_32 : decode cX10_damage 32 = .ok (.iconst 0, 1) := by decide +kernel
theorem dX10_damage_33 : decode cX10_damage 33 = .ok (.iconst 0, 1) := by decide +kernel
theorem dX10_damage_34 : decode cX10_damage 34 = .ok (.invokevirtual 14, 3) := by decide +kernel
theorem dX10_damage_37 : decode cX10_damage 37 = .ok (.ifCond .eq 5, 3) := by decide +kernel
theorem dX10_damage_40 : decode cX10_damage 40 = .ok (.iconst 0, 1) := by decide +kernel
theorem dX10_damage_41 : decode cX10_damage 41 = .ok (.ireturn, 1) := by decide +kernel
theorem dX10_damage_42 : decode cX10_damage 42 = .ok (.aload_n 0, 1) := by decide +kernel
theorem dX10_damage_43 : decode cX10_damage 43 = .ok (.getfield 65, 3) := by decide +kernel
theorem dX10_damage_46 : decode cX10_damage 46 = .ok (.iload_n 1, 1) := by decide +kernel
theorem dX10_damage_47 : decode cX10_damage 47 = .ok (.iconst 1, 1) := by decide +kernel
theorem dX10_damage_48 : decode cX10_damage 48 = .ok (.bastore, 1) := by decide +kernel
theorem dX10_damage_49 : decode cX10_damage 49 = .ok (.aload_n 0, 1) := by decide +kernel
theorem dX10_damage_50 : decode cX10_damage 50 = .ok (.invokevirtual 376, 3) := by decide +kernel
theorem dX10_damage_53 : decode cX10_damage 53 = .ok (.ireturn, 1) := by decide +kernel
theorem dX10_cutTopic_0 : decode cX10_cutTopic 0 = .ok (.iconst 0, 1) := by decide +kernel
theorem dX10_cutTopic_1 : decode cX10_cutTopic 1 = .ok (.istore_n 3, 1) := by decide +kernel
theorem dX10_cutTopic_2 : decode cX10_cutTopic 2 = .ok (.iload_n 3, 1) := by decide +kernel
theorem dX10_cutTopic_3 : decode cX10_cutTopic 3 = .ok (.aload_n 0, 1) := by decide +kernel
theorem dX10_cutTopic_4 : decode cX10_cutTopic 4 = .ok (.getfield 93, 3) := by decide +kernel
theorem dX10_cutTopic_7 : decode cX10_cutTopic 7 = .ok (.iload_n 1, 1) := by decide +kernel
theorem dX10_cutTopic_8 : decode cX10_cutTopic 8 = .ok (.iaload, 1) := by decide +kernel
theorem dX10_cutTopic_9 : decode cX10_cutTopic 9 = .ok (.if_icmp .ge 34, 3) := by decide +kernel
theorem dX10_cutTopic_12 : decode cX10_cutTopic 12 = .ok (.aload_n 0, 1) := by decide +kernel
theorem dX10_cutTopic_13 : decode cX10_cutTopic 13 = .ok (.iload_n 1, 1) := by decide +kernel
theorem dX10_cutTopic_14 : decode cX10_cutTopic 14 = .ok (.iload_n 3, 1) := by decide +kernel
theorem dX10_cutTopic_15 : decode cX10_cutTopic 15 = .ok (.invokevirtual 281, 3) := by decide +kernel
theorem dX10_cutTopic_18 : decode cX10_cutTopic 18 = .ok (.iload_n 2, 1) := by decide +kernel
theorem dX10_cutTopic_19 : decode cX10_cutTopic 19 = .ok (.if_icmp .ge 24, 3) := by decide +kernel
theorem dX10_cutTopic_22 : decode cX10_cutTopic 22 = .ok (.aload_n 0, 1) := by decide +kernel
theorem dX10_cutTopic_23 : decode cX10_cutTopic 23 = .ok (.getfield 59, 3) := by decide +kernel
theorem dX10_cutTopic_26 : decode cX10_cutTopic 26 = .ok (.aload_n 0, 1) := by decide +kernel
theorem dX10_cutTopic_27 : decode cX10_cutTopic 27 = .ok (.iload_n 1, 1) := by decide +kernel
theorem dX10_cutTopic_28 : decode cX10_cutTopic 28 = .ok (.iload_n 3, 1) := by decide +kernel
theorem dX10_cutTopic_29 : decode cX10_cutTopic 29 = .ok (.invokevirtual 281, 3) := by decide +kernel
theorem dX10_cutTopic_32 : decode cX10_cutTopic 32 = .ok (.iaload, 1) := by decide +kernel
theorem dX10_cutTopic_33 : decode cX10_cutTopic 33 = .ok (.iconst (-1), 1) := by decide +kernel
theorem dX10_cutTopic_34 : decode cX10_cutTopic 34 = .ok (.if_icmp .eq 9, 3) := by decide +kernel
theorem dX10_cutTopic_37 : decode cX10_cutTopic 37 = .ok (.iinc 3 1, 3) := by decide +kernel
theorem dX10_cutTopic_40 : decode cX10_cutTopic 40 = .ok (.goto (-38), 3) := by decide +kernel
theorem dX10_cutTopic_43 : decode cX10_cutTopic 43 = .ok (.aload_n 0, 1) := by decide +kernel
theorem dX10_cutTopic_44 : decode cX10_cutTopic 44 = .ok (.getfield 93, 3) := by decide +kernel
theorem dX10_cutTopic_47 : decode cX10_cutTopic 47 = .ok (.iload_n 1, 1) := by decide +kernel
theorem dX10_cutTopic_48 : decode cX10_cutTopic 48 = .ok (.iload_n 3, 1) := by decide +kernel
theorem dX10_cutTopic_49 : decode cX10_cutTopic 49 = .ok (.iastore, 1) := by decide +kernel
theorem dX10_cutTopic_50 : decode cX10_cutTopic 50 = .ok (.iconst 0, 1) := by decide +kernel
theorem dX10_cutTopic_51 : decode cX10_cutTopic 51 = .ok (.istore 4, 2) := by decide +kernel
theorem dX10_cutTopic_53 : decode cX10_cutTopic 53 = .ok (.iload 4, 2) := by decide +kernel
theorem dX10_cutTopic_55 : decode cX10_cutTopic 55 = .ok (.aload_n 0, 1) := by decide +kernel
theorem dX10_cutTopic_56 : decode cX10_cutTopic 56 = .ok (.getfield 105, 3) := by decide +kernel
theorem dX10_cutTopic_59 : decode cX10_cutTopic 59 = .ok (.if_icmp .ge 52, 3) := by decide +kernel
theorem dX10_cutTopic_62 : decode cX10_cutTopic 62 = .ok (.iload_n 3, 1) := by decide +kernel
theorem dX10_cutTopic_63 : decode cX10_cutTopic 63 = .ok (.istore 5, 2) := by decide +kernel
theorem dX10_cutTopic_65 : decode cX10_cutTopic 65 = .ok (.iload 5, 2) := by decide +kernel
theorem dX10_cutTopic_67 : decode cX10_cutTopic 67 = .ok (.sipush 400, 3) := by decide +kernel
theorem dX10_cutTopic_70 : decode cX10_cutTopic 70 = .ok (.if_icmp .ge 35, 3) := by decide +kernel
theorem dX10_cutTopic_73 : decode cX10_cutTopic 73 = .ok (.aload_n 0, 1) := by decide +kernel
theorem dX10_cutTopic_74 : decode cX10_cutTopic 74 = .ok (.getfield 96, 3) := by decide +kernel
theorem dX10_cutTopic_77 : decode cX10_cutTopic 77 = .ok (.iload 4, 2) := by decide +kernel
theorem dX10_cutTopic_79 : decode cX10_cutTopic 79 = .ok (.iaload, 1) := by decide +kernel
theorem dX10_cutTopic_80 : decode cX10_cutTopic 80 = .ok (.iload_n 1, 1) := by decide +kernel
theorem dX10_cutTopic_81 : decode cX10_cutTopic 81 = .ok (.if_icmp .ne 24, 3) := by decide +kernel
theorem dX10_cutTopic_84 : decode cX10_cutTopic 84 = .ok (.aload_n 0, 1) := by decide +kernel
theorem dX10_cutTopic_85 : decode cX10_cutTopic 85 = .ok (.getfield 102, 3) := by decide +kernel
theorem dX10_cutTopic_88 : decode cX10_cutTopic 88 = .ok (.sipush 400, 3) := by decide +kernel
theorem dX10_cutTopic_91 : decode cX10_cutTopic 91 = .ok (.iload 4, 2) := by decide +kernel
theorem dX10_cutTopic_93 : decode cX10_cutTopic 93 = .ok (.imul, 1) := by decide +kernel
theorem dX10_cutTopic_94 : decode cX10_cutTopic 94 = .ok (.iload 5, 2) := by decide +kernel
theorem dX10_cutTopic_96 : decode cX10_cutTopic 96 = .ok (.iadd, 1) := by decide +kernel
theorem dX10_cutTopic_97 : decode cX10_cutTopic 97 = .ok (.iconst 0, 1) := by decide +kernel
theorem dX10_cutTopic_98 : decode cX10_cutTopic 98 = .ok (.bastore, 1) := by decide +kernel
theorem dX10_cutTopic_99 : decode cX10_cutTopic 99 = .ok (.iinc 5 1, 3) := by decide +kernel
theorem dX10_cutTopic_102 : decode cX10_cutTopic 102 = .ok (.goto (-37), 3) := by decide +kernel
theorem dX10_cutTopic_105 : decode cX10_cutTopic 105 = .ok (.iinc 4 1, 3) := by decide +kernel
theorem dX10_cutTopic_108 : decode cX10_cutTopic 108 = .ok (.goto (-55), 3) := by decide +kernel
theorem dX10_cutTopic_111 : decode cX10_cutTopic 111 = .ok (.return_, 1) := by decide +kernel
theorem dX10_crash_0 : decode cX10_crash 0 = .ok (.aload_n 0, 1) := by decide +kernel
theorem dX10_crash_1 : decode cX10_crash 1 = .ok (.iload_n 1, 1) := by decide +kernel
theorem dX10_crash_2 : decode cX10_crash 2 = .ok (.aload_n 0, 1) := by decide +kernel
theorem dX10_crash_3 : decode cX10_crash 3 = .ok (.getfield 72, 3) := by decide +kernel
theorem dX10_crash_6 : decode cX10_crash 6 = .ok (.aload_n 0, 1) := by decide +kernel
theorem dX10_crash_7 : decode cX10_crash 7 = .ok (.getfield 69, 3) := by decide +kernel
theorem dX10_crash_10 : decode cX10_crash 10 = .ok (.invokestatic 22, 3) := by decide +kernel
theorem dX10_crash_13 : decode cX10_crash 13 = .ok (.ifCond .ne 7, 3) := by decide +kernel
theorem dX10_crash_16 : decode cX10_crash 16 = .ok (.iconst 1, 1) := by decide +kernel
theorem dX10_crash_17 : decode cX10_crash 17 = .ok (.goto 4, 3) := by decide +kernel
theorem dX10_crash_20 : decode cX10_crash 20 = .ok (.iconst 0, 1) := by decide +kernel
theorem dX10_crash_21 : decode cX10_crash 21 = .ok (.iconst 0, 1) := by decide +kernel
theorem dX10_crash_22 : decode cX10_crash 22 = .ok (.iconst 0, 1) := by decide +kernel
theorem dX10_crash_23 : decode cX10_crash 23 = .ok (.invokevirtual 14, 3) := by decide +kernel
theorem dX10_crash_26 : decode cX10_crash 26 = .ok (.ifCond .eq 5, 3) := by decide +kernel
theorem dX10_crash_29 : decode cX10_crash 29 = .ok (.iconst 0, 1) := by decide +kernel
theorem dX10_crash_30 : decode cX10_crash 30 = .ok (.ireturn, 1) := by decide +kernel
theorem dX10_crash_31 : decode cX10_crash 31 = .ok (.iload_n 1, 1) := by decide +kernel
theorem dX10_crash_32 : decode cX10_crash 32 = .ok (.aload_n 0, 1) := by decide +kernel
theorem dX10_crash_33 : decode cX10_crash 33 = .ok (.invokevirtual 379, 3) := by decide +kernel
theorem dX10_crash_36 : decode cX10_crash 36 = .ok (.invokestatic 284, 3) := by decide +kernel
theorem dX10_crash_39 : decode cX10_crash 39 = .ok (.istore_n 2, 1) := by decide +kernel
theorem dX10_crash_40 : decode cX10_crash 40 = .ok (.aload_n 0, 1) := by decide +kernel
theorem dX10_crash_41 : decode cX10_crash 41 = .ok (.getfield 69, 3) := by decide +kernel
theorem dX10_crash_44 : decode cX10_crash 44 = .ok (.iload_n 2, 1) := by decide +kernel
theorem dX10_crash_45 : decode cX10_crash 45 = .ok (.isub, 1) := by decide +kernel
theorem dX10_crash_46 : decode cX10_crash 46 = .ok (.istore_n 3, 1) := by decide +kernel
theorem dX10_crash_47 : decode cX10_crash 47 = .ok (.iconst 0, 1) := by decide +kernel
theorem dX10_crash_48 : decode cX10_crash 48 = .ok (.istore 4, 2) := by decide +kernel
theorem dX10_crash_50 : decode cX10_crash 50 = .ok (.iload 4, 2) := by decide +kernel
theorem dX10_crash_52 : decode cX10_crash 52 = .ok (.iload_n 2, 1) := by decide +kernel
theorem dX10_crash_53 : decode cX10_crash 53 = .ok (.if_icmp .ge 28, 3) := by decide +kernel
theorem dX10_crash_56 : decode cX10_crash 56 = .ok (.aload_n 0, 1) := by decide +kernel
theorem dX10_crash_57 : decode cX10_crash 57 = .ok (.getfield 59, 3) := by decide +kernel
theorem dX10_crash_60 : decode cX10_crash 60 = .ok (.iload 4, 2) := by decide +kernel
theorem dX10_crash_62 : decode cX10_crash 62 = .ok (.iaload, 1) := by decide +kernel
theorem dX10_crash_63 : decode cX10_crash 63 = .ok (.iload_n 2, 1) := by decide +kernel
theorem dX10_crash_64 : decode cX10_crash 64 = .ok (.if_icmp .lt 11, 3) := by decide +kernel
theorem dX10_crash_67 : decode cX10_crash 67 = .ok (.aload_n 0, 1) := by decide +kernel
theorem dX10_crash_68 : decode cX10_crash 68 = .ok (.getfield 59, 3) := by decide +kernel
theorem dX10_crash_71 : decode cX10_crash 71 = .ok (.iload 4, 2) := by decide +kernel
theorem dX10_crash_73 : decode cX10_crash 73 = .ok (.iconst (-1), 1) := by decide +kernel
theorem dX10_crash_74 : decode cX10_crash 74 = .ok (.iastore, 1) := by decide +kernel
theorem dX10_crash_75 : decode cX10_crash 75 = .ok (.iinc 4 1, 3) := by decide +kernel
theorem dX10_crash_78 : decode cX10_crash 78 = .ok (.goto (-28), 3) := by decide +kernel
theorem dX10_crash_81 : decode cX10_crash 81 = .ok (.iconst 0, 1) := by decide +kernel
theorem dX10_crash_82 : decode cX10_crash 82 = .ok (.istore 4, 2) := by decide +kernel
theorem dX10_crash_84 : decode cX10_crash 84 = .ok (.iload 4, 2) := by decide +kernel
theorem dX10_crash_86 : decode cX10_crash 86 = .ok (.iconst 4, 1) := by decide +kernel
theorem dX10_crash_87 : decode cX10_crash 87 = .ok (.if_icmp .ge 16, 3) := by decide +kernel
theorem dX10_crash_90 : decode cX10_crash 90 = .ok (.aload_n 0, 1) := by decide +kernel
theorem dX10_crash_91 : decode cX10_crash 91 = .ok (.iload 4, 2) := by decide +kernel
theorem dX10_crash_93 : decode cX10_crash 93 = .ok (.iload_n 2, 1) := by decide +kernel
theorem dX10_crash_94 : decode cX10_crash 94 = .ok (.invokevirtual 382, 3) := by decide +kernel
theorem dX10_crash_97 : decode cX10_crash 97 = .ok (.iinc 4 1, 3) := by decide +kernel
theorem dX10_crash_100 : decode cX10_crash 100 = .ok (.goto (-16), 3) := by decide +kernel
theorem dX10_crash_103 : decode cX10_crash 103 = .ok (.iconst 0, 1) := by decide +kernel
theorem dX10_crash_104 : decode cX10_crash 104 = .ok (.istore 4, 2) := by decide +kernel
theorem dX10_crash_106 : decode cX10_crash 106 = .ok (.iload 4, 2) := by decide +kernel
theorem dX10_crash_108 : decode cX10_crash 108 = .ok (.iconst 4, 1) := by decide +kernel
theorem dX10_crash_109 : decode cX10_crash 109 = .ok (.if_icmp .ge 17, 3) := by decide +kernel
theorem dX10_crash_112 : decode cX10_crash 112 = .ok (.aload_n 0, 1) := by decide +kernel
theorem dX10_crash_113 : decode cX10_crash 113 = .ok (.getfield 87, 3) := by decide +kernel
theorem dX10_crash_116 : decode cX10_crash 116 = .ok (.iload 4, 2) := by decide +kernel
theorem dX10_crash_118 : decode cX10_crash 118 = .ok (.iconst (-1), 1) := by decide +kernel
theorem dX10_crash_119 : decode cX10_crash 119 = .ok (.iastore, 1) := by decide +kernel
theorem dX10_crash_120 : decode cX10_crash 120 = .ok (.iinc 4 1, 3) := by decide +kernel
theorem dX10_crash_123 : decode cX10_crash 123 = .ok (.goto (-17), 3) := by decide +kernel
theorem dX10_crash_126 : decode cX10_crash 126 = .ok (.aload_n 0, 1) := by decide +kernel
theorem dX10_crash_127 : decode cX10_crash 127 = .ok (.iload_n 2, 1) := by decide +kernel
theorem dX10_crash_128 : decode cX10_crash 128 = .ok (.putfield 69, 3) := by decide +kernel
theorem dX10_crash_131 : decode cX10_crash 131 = .ok (.iconst (-1), 1) := by decide +kernel
theorem dX10_crash_132 : decode cX10_crash 132 = .ok (.istore 4, 2) := by decide +kernel
theorem dX10_crash_134 : decode cX10_crash 134 = .ok (.aload_n 0, 1) := by decide +kernel
theorem dX10_crash_135 : decode cX10_crash 135 = .ok (.getfield 81, 3) := by decide +kernel
theorem dX10_crash_138 : decode cX10_crash 138 = .ok (.ifCond .le 42, 3) := by decide +kernel
theorem dX10_crash_141 : decode cX10_crash 141 = .ok (.aload_n 0, 1) := by decide +kernel
theorem dX10_crash_142 : decode cX10_crash 142 = .ok (.getfield 78, 3) := by decide +kernel
theorem dX10_crash_145 : decode cX10_crash 145 = .ok (.aload_n 0, 1) := by decide +kernel
theorem dX10_crash_146 : decode cX10_crash 146 = .ok (.getfield 81, 3) := by decide +kernel
theorem dX10_crash_149 : decode cX10_crash 149 = .ok (.iconst 1, 1) := by decide +kernel
theorem dX10_crash_150 : decode cX10_crash 150 = .ok (.isub, 1) := by decide +kernel
theorem dX10_crash_151 : decode cX10_crash 151 = .ok (.iaload, 1) := by decide +kernel
theorem dX10_crash_152 : decode cX10_crash 152 = .ok (.iload_n 2, 1) := by decide +kernel
theorem dX10_crash_153 : decode cX10_crash 153 = .ok (.if_icmp .lt 27, 3) := by decide +kernel
theorem dX10_crash_156 : decode cX10_crash 156 = .ok (.aload_n 0, 1) := by decide +kernel
theorem dX10_crash_157 : decode cX10_crash 157 = .ok (.dup, 1) := by decide +kernel
theorem dX10_crash_158 : decode cX10_crash 158 = .ok (.getfield 81, 3) := by decide +kernel
theorem dX10_crash_161 : decode cX10_crash 161 = .ok (.iconst 1, 1) := by decide +kernel
theorem dX10_crash_162 : decode cX10_crash 162 = .ok (.isub, 1) := by decide +kernel
theorem dX10_crash_163 : decode cX10_crash 163 = .ok (.putfield 81, 3) := by decide +kernel
theorem dX10_crash_166 : decode cX10_crash 166 = .ok (.aload_n 0, 1) := by decide +kernel
theorem dX10_crash_167 : decode cX10_crash 167 = .ok (.getfield 75, 3) := by decide +kernel
theorem dX10_crash_170 : decode cX10_crash 170 = .ok (.aload_n 0, 1) := by decide +kernel
theorem dX10_crash_171 : decode cX10_crash 171 = .ok (.getfield 81, 3) := by decide +kernel
theorem dX10_crash_174 : decode cX10_crash 174 = .ok (.iaload, 1) := by decide +kernel
theorem dX10_crash_175 : decode cX10_crash 175 = .ok (.istore 4, 2) := by decide +kernel
theorem dX10_crash_177 : decode cX10_crash 177 = .ok (.goto (-43), 3) := by decide +kernel
theorem dX10_crash_180 : decode cX10_crash 180 = .ok (.aload_n 0, 1) := by decide +kernel
theorem dX10_crash_181 : decode cX10_crash 181 = .ok (.getfield 81, 3) := by decide +kernel
theorem dX10_crash_184 : decode cX10_crash 184 = .ok (.ifCond .ne 23, 3) := by decide +kernel
theorem dX10_crash_187 : decode cX10_crash 187 = .ok (.aload_n 0, 1) := by decide +kernel
theorem dX10_crash_188 : decode cX10_crash 188 = .ok (.getfield 75, 3) := by decide +kernel
theorem dX10_crash_191 : decode cX10_crash 191 = .ok (.iconst 0, 1) := by decide +kernel
theorem dX10_crash_192 : decode cX10_crash 192 = .ok (.iload 4, 2) := by decide +kernel
theorem dX10_crash_194 : decode cX10_crash 194 = .ok (.iastore, 1) := by decide +kernel
theorem dX10_crash_195 : decode cX10_crash 195 = .ok (.aload_n 0, 1) := by decide +kernel
theorem dX10_crash_196 : decode cX10_crash 196 = .ok (.getfield 78, 3) := by decide +kernel
theorem dX10_crash_199 : decode cX10_crash 199 = .ok (.iconst 0, 1) := by decide +kernel
theorem dX10_crash_200 : decode cX10_crash 200 = .ok (.iload_n 2, 1) := by decide +kernel
theorem dX10_crash_201 : decode cX10_crash 201 = .ok (.iastore, 1) := by decide +kernel
theorem dX10_crash_202 : decode cX10_crash 202 = .ok (.aload_n 0, 1) := by decide +kernel
theorem dX10_crash_203 : decode cX10_crash 203 = .ok (.iconst 1, 1) := by decide +kernel
theorem dX10_crash_204 : decode cX10_crash 204 = .ok (.putfield 81, 3) := by decide +kernel
theorem dX10_crash_207 : decode cX10_crash 207 = .ok (.iload_n 3, 1) := by decide +kernel
theorem dX10_crash_208 : decode cX10_crash 208 = .ok (.ireturn, 1) := by decide +kernel
theorem dX10_change_0 : decode cX10_change 0 = .ok (.aload_n 0, 1) := by decide +kernel
theorem dX10_change_1 : decode cX10_change 1 = .ok (.getfield 47, 3) := by decide +kernel
theorem dX10_change_4 : decode cX10_change 4 = .ok (.iload_n 1, 1) := by decide +kernel
theorem dX10_change_5 : decode cX10_change 5 = .ok (.iaload, 1) := by decide +kernel
theorem dX10_change_6 : decode cX10_change 6 = .ok (.istore_n 2, 1) := by decide +kernel
theorem dX10_change_7 : decode cX10_change 7 = .ok (.aload_n 0, 1) := by decide +kernel
theorem dX10_change_8 : decode cX10_change 8 = .ok (.getfield 41, 3) := by decide +kernel
theorem dX10_change_11 : decode cX10_change 11 = .ok (.iload_n 1, 1) := by decide +kernel
theorem dX10_change_12 : decode cX10_change 12 = .ok (.iaload, 1) := by decide +kernel
theorem dX10_change_13 : decode cX10_change 13 = .ok (.iconst 3, 1) := by decide +kernel
theorem dX10_change_14 : decode cX10_change 14 = .ok (.if_icmp .ne 67, 3) := by decide +kernel
theorem dX10_change_17 : decode cX10_change 17 = .ok (.iconst 0, 1) := by decide +kernel
theorem dX10_change_18 : decode cX10_change 18 = .ok (.istore_n 3, 1) := by decide +kernel
theorem dX10_change_19 : decode cX10_change 19 = .ok (.iload_n 3, 1) := by decide +kernel
theorem dX10_change_20 : decode cX10_change 20 = .ok (.iconst 4, 1) := by decide +kernel
theorem dX10_change_21 : decode cX10_change 21 = .ok (.if_icmp .ge 29, 3) := by decide +kernel
theorem dX10_change_24 : decode cX10_change 24 = .ok (.aload_n 0, 1) := by decide +kernel
theorem dX10_change_25 : decode cX10_change 25 = .ok (.getfield 133, 3) := by decide +kernel
theorem dX10_change_28 : decode cX10_change 28 = .ok (.iload_n 2, 1) := by decide +kernel
theorem dX10_change_29 : decode cX10_change 29 = .ok (.baload, 1) := by decide +kernel
theorem dX10_change_30 : decode cX10_change 30 = .ok (.ifCond .ne 20, 3) := by decide +kernel
theorem dX10_change_33 : decode cX10_change 33 = .ok (.aload_n 0, 1) := by decide +kernel
theorem dX10_change_34 : decode cX10_change 34 = .ok (.getfield 130, 3) := by decide +kernel
theorem dX10_change_37 : decode cX10_change 37 = .ok (.iconst 4, 1) := by decide +kernel
theorem dX10_change_38 : decode cX10_change 38 = .ok (.iload_n 2, 1) := by decide +kernel
theorem dX10_change_39 : decode cX10_change 39 = .ok (.imul, 1) := by decide +kernel
theorem dX10_change_40 : decode cX10_change 40 = .ok (.iload_n 3, 1) := by decide +kernel
theorem dX10_change_41 : decode cX10_change 41 = .ok (.iadd, 1) := by decide +kernel
theorem dX10_change_42 : decode cX10_change 42 = .ok (.iconst 0, 1) := by decide +kernel
theorem dX10_change_43 : decode cX10_change 43 = .ok (.iastore, 1) := by decide +kernel
theorem dX10_change_44 : decode cX10_change 44 = .ok (.iinc 3 1, 3) := by decide +kernel
theorem dX10_change_47 : decode cX10_change 47 = .ok (.goto (-28), 3) := by decide +kernel
theorem dX10_change_50 : decode cX10_change 50 = .ok (.aload_n 0, 1) := by decide +kernel
theorem dX10_change_51 : decode cX10_change 51 = .ok (.getfield 133, 3) := by decide +kernel
theorem dX10_change_54 : decode cX10_change 54 = .ok (.iload_n 2, 1) := by decide +kernel
theorem dX10_change_55 : decode cX10_change 55 = .ok (.iconst 1, 1) := by decide +kernel
theorem dX10_change_56 : decode cX10_change 56 = .ok (.bastore, 1) := by decide +kernel
theorem dX10_change_57 : decode cX10_change 57 = .ok (.aload_n 0, 1) := by decide +kernel
theorem dX10_change_58 : decode cX10_change 58 = .ok (.getfield 130, 3) := by decide +kernel
theorem dX10_change_61 : decode cX10_change 61 = .ok (.iconst 4, 1) := by decide +kernel
theorem dX10_change_62 : decode cX10_change 62 = .ok (.iload_n 2, 1) := by decide +kernel
theorem dX10_change_63 : decode cX10_change 63 = .ok (.imul, 1) := by decide +kernel
theorem dX10_change_64 : decode cX10_change 64 = .ok (.aload_n 0, 1) := by decide +kernel
theorem dX10_change_65 : decode cX10_change 65 = .ok (.getfield 50, 3) := by decide +kernel
theorem dX10_change_68 : decode cX10_change 68 = .ok (.iload_n 1, 1) := by decide +kernel
theorem dX10_change_69 : decode cX10_change 69 = .ok (.iaload, 1) := by decide +kernel
theorem dX10_change_70 : decode cX10_change 70 = .ok (.iadd, 1) := by decide +kernel
theorem dX10_change_71 : decode cX10_change 71 = .ok (.aload_n 0, 1) := by decide +kernel
theorem dX10_change_72 : decode cX10_change 72 = .ok (.getfield 53, 3) := by decide +kernel
theorem dX10_change_75 : decode cX10_change 75 = .ok (.iload_n 1, 1) := by decide +kernel
theorem dX10_change_76 : decode cX10_change 76 = .ok (.iaload, 1) := by decide +kernel
theorem dX10_change_77 : decode cX10_change 77 = .ok (.iastore, 1) := by decide +kernel
theorem dX10_change_78 : decode cX10_change 78 = .ok (.goto 88, 3) := by decide +kernel
theorem dX10_change_81 : decode cX10_change 81 = .ok (.aload_n 0, 1) := by decide +kernel
theorem dX10_change_82 : decode cX10_change 82 = .ok (.getfield 41, 3) := by decide +kernel
theorem dX10_change_85 : decode cX10_change 85 = .ok (.iload_n 1, 1) := by decide +kernel
theorem dX10_change_86 : decode cX10_change 86 = .ok (.iaload, 1) := by decide +kernel
theorem dX10_change_87 : decode cX10_change 87 = .ok (.iconst 4, 1) := by decide +kernel
theorem dX10_change_88 : decode cX10_change 88 = .ok (.if_icmp .ne 13, 3) := by decide +kernel
theorem dX10_change_91 : decode cX10_change 91 = .ok (.aload_n 0, 1) := by decide +kernel
theorem dX10_change_92 : decode cX10_change 92 = .ok (.getfield 133, 3) := by decide +kernel
theorem dX10_change_95 : decode cX10_change 95 = .ok (.iload_n 2, 1) := by decide +kernel
theorem dX10_change_96 : decode cX10_change 96 = .ok (.iconst 0, 1) := by decide +kernel
theorem dX10_change_97 : decode cX10_change 97 = .ok (.bastore, 1) := by decide +kernel
theorem dX10_change_98 : decode cX10_change 98 = .ok (.goto 68, 3) := by decide +kernel
theorem dX10_change_101 : decode cX10_change 101 = .ok (.aload_n 0, 1) := by decide +kernel
theorem dX10_change_102 : decode cX10_change 102 = .ok (.getfield 41, 3) := by decide +kernel
theorem dX10_change_105 : decode cX10_change 105 = .ok (.iload_n 1, 1) := by decide +kernel
theorem dX10_change_106 : decode cX10_change 106 = .ok (.iaload, 1) := by decide +kernel
theorem dX10_change_107 : decode cX10_change 107 = .ok (.iconst 5, 1) := by decide +kernel
theorem dX10_change_108 : decode cX10_change 108 = .ok (.if_icmp .ne 58, 3) := by decide +kernel
theorem dX10_change_111 : decode cX10_change 111 = .ok (.aload_n 0, 1) := by decide +kernel
theorem dX10_change_112 : decode cX10_change 112 = .ok (.getfield 133, 3) := by decide +kernel
theorem dX10_change_115 : decode cX10_change 115 = .ok (.aload_n 0, 1) := by decide +kernel
theorem dX10_change_116 : decode cX10_change 116 = .ok (.getfield 50, 3) := by decide +kernel
theorem dX10_change_119 : decode cX10_change 119 = .ok (.iload_n 1, 1) := by decide +kernel
theorem dX10_change_120 : decode cX10_change 120 = .ok (.iaload, 1) := by decide +kernel
theorem dX10_change_121 : decode cX10_change 121 = .ok (.aload_n 0, 1) := by decide +kernel
theorem dX10_change_122 : decode cX10_change 122 = .ok (.getfield 133, 3) := by decide +kernel
theorem dX10_change_125 : decode cX10_change 125 = .ok (.iload_n 2, 1) := by decide +kernel
theorem dX10_change_126 : decode cX10_change 126 = .ok (.baload, 1) := by decide +kernel
theorem dX10_change_127 : decode cX10_change 127 = .ok (.bastore, 1) := by decide +kernel
theorem dX10_change_128 : decode cX10_change 128 = .ok (.iconst 0, 1) := by decide +kernel
theorem dX10_change_129 : decode cX10_change 129 = .ok (.istore_n 3, 1) := by decide +kernel
theorem dX10_change_130 : decode cX10_change 130 = .ok (.iload_n 3, 1) := by decide +kernel
theorem dX10_change_131 : decode cX10_change 131 = .ok (.iconst 4, 1) := by decide +kernel
theorem dX10_change_132 : decode cX10_change 132 = .ok (.if_icmp .ge 34, 3) := by decide +kernel
theorem dX10_change_135 : decode cX10_change 135 = .ok (.aload_n 0, 1) := by decide +kernel
theorem dX10_change_136 : decode cX10_change 136 = .ok (.getfield 130, 3) := by decide +kernel
theorem dX10_change_139 : decode cX10_change 139 = .ok (.iconst 4, 1) := by decide +kernel
theorem dX10_change_140 : decode cX10_change 140 = .ok (.aload_n 0, 1) := by decide +kernel
theorem dX10_change_141 : decode cX10_change 141 = .ok (.getfield 50, 3) := by decide +kernel
theorem dX10_change_144 : decode cX10_change 144 = .ok (.iload_n 1, 1) := by decide +kernel
theorem dX10_change_145 : decode cX10_change 145 = .ok (.iaload, 1) := by decide +kernel
theorem dX10_change_146 : decode cX10_change 146 = .ok (.imul, 1) := by decide +kernel
theorem dX10_change_147 : decode cX10_change 147 = .ok (.iload_n 3, 1) := by decide +kernel
theorem dX10_change_148 : decode cX10_change 148 = .ok (.iadd, 1) := by decide +kernel
theorem dX10_change_149 : decode cX10_change 149 = .ok (.aload_n 0, 1) := by decide +kernel
theorem dX10_change_150 : decode cX10_change 150 = .ok (.getfield 130, 3) := by decide +kernel
theorem dX10_change_153 : decode cX10_change 153 = .ok (.iconst 4, 1) := by decide +kernel
theorem dX10_change_154 : decode cX10_change 154 = .ok (.iload_n 2, 1) := by decide +kernel
theorem dX10_change_155 : decode cX10_change 155 = .ok (.imul, 1) := by decide +kernel
theorem dX10_change_156 : decode cX10_change 156 = .ok (.iload_n 3, 1) := by decide +kernel
theorem dX10_change_157 : decode cX10_change 157 = .ok (.iadd, 1) := by decide +kernel
theorem dX10_change_158 : decode cX10_change 158 = .ok (.iaload, 1) := by decide +kernel
theorem dX10_change_159 : decode cX10_change 159 = .ok (.iastore, 1) := by decide +kernel
theorem dX10_change_160 : decode cX10_change 160 = .ok (.iinc 3 1, 3) := by decide +kernel
theorem dX10_change_163 : decode cX10_change 163 = .ok (.goto (-33), 3) := by decide +kernel
theorem dX10_change_166 : decode cX10_change 166 = .ok (.return_, 1) := by decide +kernel
theorem dX10_layView_0 : decode cX10_layView 0 = .ok (.iconst 0, 1) := by decide +kernel
theorem dX10_layView_1 : decode cX10_layView 1 = .ok (.istore_n 2, 1) := by decide +kernel
theorem dX10_layView_2 : decode cX10_layView 2 = .ok (.iload_n 2, 1) := by decide +kernel
theorem dX10_layView_3 : decode cX10_layView 3 = .ok (.bipush 8, 2) := by decide +kernel
theorem dX10_layView_5 : decode cX10_layView 5 = .ok (.if_icmp .ge 36, 3) := by decide +kernel
theorem dX10_layView_8 : decode cX10_layView 8 = .ok (.aload_n 0, 1) := by decide +kernel
theorem dX10_layView_9 : decode cX10_layView 9 = .ok (.getfield 133, 3) := by decide +kernel
theorem dX10_layView_12 : decode cX10_layView 12 = .ok (.iload_n 2, 1) := by decide +kernel
theorem dX10_layView_13 : decode cX10_layView 13 = .ok (.aload_n 0, 1) := by decide +kernel
theorem dX10_layView_14 : decode cX10_layView 14 = .ok (.getfield 111, 3) := by decide +kernel
theorem dX10_layView_17 : decode cX10_layView 17 = .ok (.ifCond .eq 16, 3) := by decide +kernel
theorem dX10_layView_20 : decode cX10_layView 20 = .ok (.aload_n 0, 1) := by decide +kernel
theorem dX10_layView_21 : decode cX10_layView 21 = .ok (.getfield 118, 3) := by decide +kernel
theorem dX10_layView_24 : decode cX10_layView 24 = .ok (.iload_n 2, 1) := by decide +kernel
theorem dX10_layView_25 : decode cX10_layView 25 = .ok (.baload, 1) := by decide +kernel
theorem dX10_layView_26 : decode cX10_layView 26 = .ok (.ifCond .eq 7, 3) := by decide +kernel
theorem dX10_layView_29 : decode cX10_layView 29 = .ok (.iconst 1, 1) := by decide +kernel
theorem dX10_layView_30 : decode cX10_layView 30 = .ok (.goto 4, 3) := by decide +kernel
theorem dX10_layView_33 : decode cX10_layView 33 = .ok (.iconst 0, 1) := by decide +kernel
theorem dX10_layView_34 : decode cX10_layView 34 = .ok (.bastore, 1) := by decide +kernel
theorem dX10_layView_35 : decode cX10_layView 35 = .ok (.iinc 2 1, 3) := by decide +kernel
theorem dX10_layView_38 : decode cX10_layView 38 = .ok (.goto (-36), 3) := by decide +kernel
theorem dX10_layView_41 : decode cX10_layView 41 = .ok (.iconst 0, 1) := by decide +kernel
theorem dX10_layView_42 : decode cX10_layView 42 = .ok (.istore_n 2, 1) := by decide +kernel
theorem dX10_layView_43 : decode cX10_layView 43 = .ok (.iload_n 2, 1) := by decide +kernel
theorem dX10_layView_44 : decode cX10_layView 44 = .ok (.bipush 32, 2) := by decide +kernel
theorem dX10_layView_46 : decode cX10_layView 46 = .ok (.if_icmp .ge 21, 3) := by decide +kernel
theorem dX10_layView_49 : decode cX10_layView 49 = .ok (.aload_n 0, 1) := by decide +kernel
theorem dX10_layView_50 : decode cX10_layView 50 = .ok (.getfield 130, 3) := by decide +kernel
theorem dX10_layView_53 : decode cX10_layView 53 = .ok (.iload_n 2, 1) := by decide +kernel
theorem dX10_layView_54 : decode cX10_layView 54 = .ok (.aload_n 0, 1) := by decide +kernel
theorem dX10_layView_55 : decode cX10_layView 55 = .ok (.getfield 115, 3) := by decide +kernel
theorem dX10_layView_58 : decode cX10_layView 58 = .ok (.iload_n 2, 1) := by decide +kernel
theorem dX10_layView_59 : decode cX10_layView 59 = .ok (.iaload, 1) := by decide +kernel
theorem dX10_layView_60 : decode cX10_layView 60 = .ok (.iastore, 1) := by decide +kernel
theorem dX10_layView_61 : decode cX10_layView 61 = .ok (.iinc 2 1, 3) := by decide +kernel
theorem dX10_layView_64 : decode cX10_layView 64 = .ok (.goto (-21), 3) := by decide +kernel
theorem dX10_layView_67 : decode cX10_layView 67 = .ok (.aload_n 0, 1) := by decide +kernel
theorem dX10_layView_68 : decode cX10_layView 68 = .ok (.getfield 108, 3) := by decide +kernel
theorem dX10_layView_71 : decode cX10_layView 71 = .ok (.istore_n 2, 1) := by decide +kernel
theorem dX10_layView_72 : decode cX10_layView 72 = .ok (.iload_n 2, 1) := by decide +kernel
theorem dX10_layView_73 : decode cX10_layView 73 = .ok (.iload_n 1, 1) := by decide +kernel
theorem dX10_layView_74 : decode cX10_layView 74 = .ok (.if_icmp .ge 40, 3) := by decide +kernel
theorem dX10_layView_77 : decode cX10_layView 77 = .ok (.aload_n 0, 1) := by decide +kernel
theorem dX10_layView_78 : decode cX10_layView 78 = .ok (.invokevirtual 255, 3) := by decide +kernel
theorem dX10_layView_81 : decode cX10_layView 81 = .ok (.istore_n 3, 1) := by decide +kernel
theorem dX10_layView_82 : decode cX10_layView 82 = .ok (.iload_n 3, 1) := by decide +kernel
theorem dX10_layView_83 : decode cX10_layView 83 = .ok (.iload_n 2, 1) := by decide +kernel
theorem dX10_layView_84 : decode cX10_layView 84 = .ok (.if_icmp .gt 24, 3) := by decide +kernel
theorem dX10_layView_87 : decode cX10_layView 87 = .ok (.aload_n 0, 1) := by decide +kernel
theorem dX10_layView_88 : decode cX10_layView 88 = .ok (.getfield 59, 3) := by decide +kernel
theorem dX10_layView_91 : decode cX10_layView 91 = .ok (.iload_n 3, 1) := by decide +kernel
theorem dX10_layView_92 : decode cX10_layView 92 = .ok (.iaload, 1) := by decide +kernel
theorem dX10_layView_93 : decode cX10_layView 93 = .ok (.iload_n 2, 1) := by decide +kernel
theorem dX10_layView_94 : decode cX10_layView 94 = .ok (.if_icmp .ne 8, 3) := by decide +kernel
theorem dX10_layView_97 : decode cX10_layView 97 = .ok (.aload_n 0, 1) := by decide +kernel
theorem dX10_layView_98 : decode cX10_layView 98 = .ok (.iload_n 3, 1) := by decide +kernel
theorem dX10_layView_99 : decode cX10_layView 99 = .ok (.invokevirtual 385, 3) := by decide +kernel
theorem dX10_layView_102 : decode cX10_layView 102 = .ok (.iinc 3 1, 3) := by decide +kernel
theorem dX10_layView_105 : decode cX10_layView 105 = .ok (.goto (-23), 3) := by decide +kernel
theorem dX10_layView_108 : decode cX10_layView 108 = .ok (.iinc 2 1, 3) := by decide +kernel
theorem dX10_layView_111 : decode cX10_layView 111 = .ok (.goto (-39), 3) := by decide +kernel
theorem dX10_layView_114 : decode cX10_layView 114 = .ok (.return_, 1) := by decide +kernel
theorem dX10_isPrefix_0 : decode cX10_isPrefix 0 = .ok (.iload_n 1, 1) := by decide +kernel
theorem dX10_isPrefix_1 : decode cX10_isPrefix 1 = .ok (.aload_n 0, 1) := by decide +kernel
theorem dX10_isPrefix_2 : decode cX10_isPrefix 2 = .ok (.getfield 108, 3) := by decide +kernel
theorem dX10_isPrefix_5 : decode cX10_isPrefix 5 = .ok (.aload_n 0, 1) := by decide +kernel
theorem dX10_isPrefix_6 : decode cX10_isPrefix 6 = .ok (.getfield 69, 3) := by decide +kernel
theorem dX10_isPrefix_9 : decode cX10_isPrefix 9 = .ok (.invokestatic 22, 3) := by decide +kernel
theorem dX10_isPrefix_12 : decode cX10_isPrefix 12 = .ok (.ireturn, 1) := by decide +kernel
theorem dX10_isBlock_0 : decode cX10_isBlock 0 = .ok (.iload_n 0, 1) := by decide +kernel
theorem dX10_isBlock_1 : decode cX10_isBlock 1 = .ok (.invokestatic 346, 3) := by decide +kernel
theorem dX10_isBlock_4 : decode cX10_isBlock 4 = .ok (.ifCond .eq 16, 3) := by decide +kernel
theorem dX10_isBlock_7 : decode cX10_isBlock 7 = .ok (.iload_n 1, 1) := by decide +kernel
theorem dX10_isBlock_8 : decode cX10_isBlock 8 = .ok (.iconst 0, 1) := by decide +kernel
theorem dX10_isBlock_9 : decode cX10_isBlock 9 = .ok (.iconst 3, 1) := by decide +kernel
theorem dX10_isBlock_10 : decode cX10_isBlock 10 = .ok (.invokestatic 22, 3) := by decide +kernel
theorem dX10_isBlock_13 : decode cX10_isBlock 13 = .ok (.ifCond .eq 7, 3) := by decide +kernel
theorem dX10_isBlock_16 : decode cX10_isBlock 16 = .ok (.iconst 1, 1) := by decide +kernel
theorem dX10_isBlock_17 : decode cX10_isBlock 17 = .ok (.goto 4, 3) := by decide +kernel
theorem dX10_isBlock_20 : decode cX10_isBlock 20 = .ok (.iconst 0, 1) := by decide +kernel
theorem dX10_isBlock_21 : decode cX10_isBlock 21 = .ok (.ireturn, 1) := by decide +kernel
theorem dX10_seen_0 : decode cX10_seen 0 = .ok (.aload_n 0, 1) := by decide +kernel
theorem dX10_seen_1 : decode cX10_seen 1 = .ok (.iload_n 1, 1) := by decide +kernel
theorem dX10_seen_2 : decode cX10_seen 2 = .ok (.invokevirtual 370, 3) := by decide +kernel
theorem dX10_seen_5 : decode cX10_seen 5 = .ok (.aload_n 0, 1) := by decide +kernel
theorem dX10_seen_6 : decode cX10_seen 6 = .ok (.getfield 133, 3) := by decide +kernel
theorem dX10_seen_9 : decode cX10_seen 9 = .ok (.iload_n 2, 1) := by decide +kernel
theorem dX10_seen_10 : decode cX10_seen 10 = .ok (.baload, 1) := by decide +kernel
theorem dX10_seen_11 : decode cX10_seen 11 = .ok (.ifCond .eq 16, 3) := by decide +kernel
theorem dX10_seen_14 : decode cX10_seen 14 = .ok (.aload_n 0, 1) := by decide +kernel
theorem dX10_seen_15 : decode cX10_seen 15 = .ok (.getfield 130, 3) := by decide +kernel
theorem dX10_seen_18 : decode cX10_seen 18 = .ok (.iconst 4, 1) := by decide +kernel
theorem dX10_seen_19 : decode cX10_seen 19 = .ok (.iload_n 2, 1) := by decide +kernel
theorem dX10_seen_20 : decode cX10_seen 20 = .ok (.imul, 1) := by decide +kernel
theorem dX10_seen_21 : decode cX10_seen 21 = .ok (.iload_n 3, 1) := by decide +kernel
theorem dX10_seen_22 : decode cX10_seen 22 = .ok (.iadd, 1) := by decide +kernel
theorem dX10_seen_23 : decode cX10_seen 23 = .ok (.iaload, 1) := by decide +kernel
theorem dX10_seen_24 : decode cX10_seen 24 = .ok (.goto 4, 3) := by decide +kernel
theorem dX10_seen_27 : decode cX10_seen 27 = .ok (.iconst (-1), 1) := by decide +kernel
theorem dX10_seen_28 : decode cX10_seen 28 = .ok (.ireturn, 1) := by decide +kernel
theorem dX10_block_0 : decode cX10_block 0 = .ok (.aload_n 0, 1) := by decide +kernel
theorem dX10_block_1 : decode cX10_block 1 = .ok (.iload_n 1, 1) := by decide +kernel
theorem dX10_block_2 : decode cX10_block 2 = .ok (.iload_n 2, 1) := by decide +kernel
theorem dX10_block_3 : decode cX10_block 3 = .ok (.invokestatic 388, 3) := by decide +kernel
theorem dX10_block_6 : decode cX10_block 6 = .ok (.ifCond .ne 7, 3) := by decide +kernel
theorem dX10_block_9 : decode cX10_block 9 = .ok (.iconst 1, 1) := by decide +kernel
theorem dX10_block_10 : decode cX10_block 10 = .ok (.goto 4, 3) := by decide +kernel
theorem dX10_block_13 : decode cX10_block 13 = .ok (.iconst 0, 1) := by decide +kernel
theorem dX10_block_14 : decode cX10_block 14 = .ok (.iconst 0, 1) := by decide +kernel
theorem dX10_block_15 : decode cX10_block 15 = .ok (.iconst 0, 1) := by decide +kernel
theorem dX10_block_16 : decode cX10_block 16 = .ok (.invokevirtual 14, 3) := by decide +kernel
theorem dX10_block_19 : decode cX10_block 19 = .ok (.ifCond .eq 7, 3) := by decide +kernel
theorem dX10_block_22 : decode cX10_block 22 = .ok (.iconst 0, 1) := by decide +kernel
theorem dX10_block_23 : decode cX10_block 23 = .ok (.goto 13, 3) := by decide +kernel
theorem dX10_block_26 : decode cX10_block 26 = .ok (.aload_n 0, 1) := by decide +kernel
theorem dX10_block_27 : decode cX10_block 27 = .ok (.aload_n 0, 1) := by decide +kernel
theorem dX10_block_28 : decode cX10_block 28 = .ok (.getfield 69, 3) := by decide +kernel
theorem dX10_block_31 : decode cX10_block 31 = .ok (.iload_n 1, 1) := by decide +kernel
theorem dX10_block_32 : decode cX10_block 32 = .ok (.iload_n 2, 1) := by decide +kernel
theorem dX10_block_33 : decode cX10_block 33 = .ok (.invokevirtual 391, 3) := by decide +kernel
theorem dX10_block_36 : decode cX10_block 36 = .ok (.ireturn, 1) := by decide +kernel
theorem dX10_blockAt_0 : decode cX10_blockAt 0 = .ok (.aload_n 0, 1) := by decide +kernel
theorem dX10_blockAt_1 : decode cX10_blockAt 1 = .ok (.iload_n 2, 1) := by decide +kernel
theorem dX10_blockAt_2 : decode cX10_blockAt 2 = .ok (.iload_n 3, 1) := by decide +kernel
theorem dX10_blockAt_3 : decode cX10_blockAt 3 = .ok (.invokestatic 388, 3) := by decide +kernel
theorem dX10_blockAt_6 : decode cX10_blockAt 6 = .ok (.ifCond .ne 7, 3) := by decide +kernel
theorem dX10_blockAt_9 : decode cX10_blockAt 9 = .ok (.iconst 1, 1) := by decide +kernel
theorem dX10_blockAt_10 : decode cX10_blockAt 10 = .ok (.goto 4, 3) := by decide +kernel
theorem dX10_blockAt_13 : decode cX10_blockAt 13 = .ok (.iconst 0, 1) := by decide +kernel
theorem dX10_blockAt_14 : decode cX10_blockAt 14 = .ok (.aload_n 0, 1) := by decide +kernel
theorem dX10_blockAt_15 : decode cX10_blockAt 15 = .ok (.iload_n 1, 1) := by decide +kernel
theorem dX10_blockAt_16 : decode cX10_blockAt 16 = .ok (.invokevirtual 395, 3) := by decide +kernel
theorem dX10_blockAt_19 : decode cX10_blockAt 19 = .ok (.ifCond .ne 7, 3) := by decide +kernel
theorem dX10_blockAt_22 : decode cX10_blockAt 22 = .ok (.iconst 1, 1) := by decide +kernel
theorem dX10_blockAt_23 : decode cX10_blockAt 23 = .ok (.goto 4, 3) := by decide +kernel
theorem dX10_blockAt_26 : decode cX10_blockAt 26 = .ok (.iconst 0, 1) := by decide +kernel
theorem dX10_blockAt_27 : decode cX10_blockAt 27 = .ok (.iconst 0, 1) := by decide +kernel
theorem dX10_blockAt_28 : decode cX10_blockAt 28 = .ok (.invokevirtual 14, 3) := by decide +kernel
theorem dX10_blockAt_31 : decode cX10_blockAt 31 = .ok (.ifCond .eq 7, 3) := by decide +kernel
theorem dX10_blockAt_34 : decode cX10_blockAt 34 = .ok (.iconst 0, 1) := by decide +kernel
theorem dX10_blockAt_35 : decode cX10_blockAt 35 = .ok (.goto 10, 3) := by decide +kernel
theorem dX10_blockAt_38 : decode cX10_blockAt 38 = .ok (.aload_n 0, 1) := by decide +kernel
theorem dX10_blockAt_39 : decode cX10_blockAt 39 = .ok (.iload_n 1, 1) := by decide +kernel
theorem dX10_blockAt_40 : decode cX10_blockAt 40 = .ok (.iload_n 2, 1) := by decide +kernel
theorem dX10_blockAt_41 : decode cX10_blockAt 41 = .ok (.iload_n 3, 1) := by decide +kernel
theorem dX10_blockAt_42 : decode cX10_blockAt 42 = .ok (.invokevirtual 391, 3) := by decide +kernel
theorem dX10_blockAt_45 : decode cX10_blockAt 45 = .ok (.ireturn, 1) := by decide +kernel
theorem dX10_visibleAt_0 : decode cX10_visibleAt 0 = .ok (.aload_n 0, 1) := by decide +kernel
theorem dX10_visibleAt_1 : decode cX10_visibleAt 1 = .ok (.iload_n 2, 1) := by decide +kernel
theorem dX10_visibleAt_2 : decode cX10_visibleAt 2 = .ok (.invokestatic 358, 3) := by decide +kernel
theorem dX10_visibleAt_5 : decode cX10_visibleAt 5 = .ok (.ifCond .ne 7, 3) := by decide +kernel
theorem dX10_visibleAt_8 : decode cX10_visibleAt 8 = .ok (.iconst 1, 1) := by decide +kernel
theorem dX10_visibleAt_9 : decode cX10_visibleAt 9 = .ok (.goto 4, 3) := by decide +kernel
theorem dX10_visibleAt_12 : decode cX10_visibleAt 12 = .ok (.iconst 0, 1) := by decide +kernel
theorem dX10_visibleAt_13 : decode cX10_visibleAt 13 = .ok (.aload_n 0, 1) := by decide +kernel
theorem dX10_visibleAt_14 : decode cX10_visibleAt 14 = .ok (.iload_n 1, 1) := by decide +kernel
theorem dX10_visibleAt_15 : decode cX10_visibleAt 15 = .ok (.invokevirtual 395, 3) := by decide +kernel
theorem dX10_visibleAt_18 : decode cX10_visibleAt 18 = .ok (.ifCond .ne 7, 3) := by decide +kernel
theorem dX10_visibleAt_21 : decode cX10_visibleAt 21 = .ok (.iconst 1, 1) := by decide +kernel
theorem dX10_visibleAt_22 : decode cX10_visibleAt 22 = .ok (.goto 4, 3) := by decide +kernel
theorem dX10_visibleAt_25 : decode cX10_visibleAt 25 = .ok (.iconst 0, 1) := by decide +kernel
theorem dX10_visibleAt_26 : decode cX10_visibleAt 26 = .ok (.iconst 0, 1) := by decide +kernel
theorem dX10_visibleAt_27 : decode cX10_visibleAt 27 = .ok (.invokevirtual 14, 3) := by decide +kernel
theorem dX10_visibleAt_30 : decode cX10_visibleAt 30 = .ok (.ifCond .eq 5, 3) := by decide +kernel
theorem dX10_visibleAt_33 : decode cX10_visibleAt 33 = .ok (.iconst 0, 1) := by decide +kernel
theorem dX10_visibleAt_34 : decode cX10_visibleAt 34 = .ok (.ireturn, 1) := by decide +kernel
theorem dX10_visibleAt_35 : decode cX10_visibleAt 35 = .ok (.iconst 0, 1) := by decide +kernel
theorem dX10_visibleAt_36 : decode cX10_visibleAt 36 = .ok (.istore_n 3, 1) := by decide +kernel
theorem dX10_visibleAt_37 : decode cX10_visibleAt 37 = .ok (.iconst 0, 1) := by decide +kernel
theorem dX10_visibleAt_38 : decode cX10_visibleAt 38 = .ok (.istore 4, 2) := by decide +kernel
theorem dX10_visibleAt_40 : decode cX10_visibleAt 40 = .ok (.iload 4, 2) := by decide +kernel
theorem dX10_visibleAt_42 : decode cX10_visibleAt 42 = .ok (.aload_n 0, 1) := by decide +kernel
theorem dX10_visibleAt_43 : decode cX10_visibleAt 43 = .ok (.getfield 93, 3) := by decide +kernel
theorem dX10_visibleAt_46 : decode cX10_visibleAt 46 = .ok (.iload_n 2, 1) := by decide +kernel
theorem dX10_visibleAt_47 : decode cX10_visibleAt 47 = .ok (.iaload, 1) := by decide +kernel
theorem dX10_visibleAt_48 : decode cX10_visibleAt 48 = .ok (.if_icmp .ge 33, 3) := by decide +kernel
theorem dX10_visibleAt_51 : decode cX10_visibleAt 51 = .ok (.iload_n 3, 1) := by decide +kernel
theorem dX10_visibleAt_52 : decode cX10_visibleAt 52 = .ok (.aload_n 0, 1) := by decide +kernel
theorem dX10_visibleAt_53 : decode cX10_visibleAt 53 = .ok (.getfield 59, 3) := by decide +kernel
theorem dX10_visibleAt_56 : decode cX10_visibleAt 56 = .ok (.aload_n 0, 1) := by decide +kernel
theorem dX10_visibleAt_57 : decode cX10_visibleAt 57 = .ok (.iload_n 2, 1) := by decide +kernel
theorem dX10_visibleAt_58 : decode cX10_visibleAt 58 = .ok (.iload 4, 2) := by decide +kernel
theorem dX10_visibleAt_60 : decode cX10_visibleAt 60 = .ok (.invokevirtual 281, 3) := by decide +kernel
theorem dX10_visibleAt_63 : decode cX10_visibleAt 63 = .ok (.iaload, 1) := by decide +kernel
theorem dX10_visibleAt_64 : decode cX10_visibleAt 64 = .ok (.iload_n 1, 1) := by decide +kernel
theorem dX10_visibleAt_65 : decode cX10_visibleAt 65 = .ok (.if_icmp .ge 7, 3) := by decide +kernel
theorem dX10_visibleAt_68 : decode cX10_visibleAt 68 = .ok (.iconst 1, 1) := by decide +kernel
theorem dX10_visibleAt_69 : decode cX10_visibleAt 69 = .ok (.goto 4, 3) := by decide +kernel
theorem dX10_visibleAt_72 : decode cX10_visibleAt 72 = .ok (.iconst 0, 1) := by decide +kernel
theorem dX10_visibleAt_73 : decode cX10_visibleAt 73 = .ok (.iadd, 1) := by decide +kernel
theorem dX10_visibleAt_74 : decode cX10_visibleAt 74 = .ok (.istore_n 3, 1) := by decide +kernel
theorem dX10_visibleAt_75 : decode cX10_visibleAt 75 = .ok (.iinc 4 1, 3) := by decide +kernel
theorem dX10_visibleAt_78 : decode cX10_visibleAt 78 = .ok (.goto (-38), 3) := by decide +kernel
theorem dX10_visibleAt_81 : decode cX10_visibleAt 81 = .ok (.iload_n 3, 1) := by decide +kernel
theorem dX10_visibleAt_82 : decode cX10_visibleAt 82 = .ok (.ireturn, 1) := by decide +kernel
theorem dX10_positionAt_0 : decode cX10_positionAt 0 = .ok (.aload_n 0, 1) := by decide +kernel
theorem dX10_positionAt_1 : decode cX10_positionAt 1 = .ok (.aload_n 0, 1) := by decide +kernel
theorem dX10_positionAt_2 : decode cX10_positionAt 2 = .ok (.iload_n 2, 1) := by decide +kernel
theorem dX10_positionAt_3 : decode cX10_positionAt 3 = .ok (.invokevirtual 364, 3) := by decide +kernel
theorem dX10_positionAt_6 : decode cX10_positionAt 6 = .ok (.ifCond .ne 7, 3) := by decide +kernel
theorem dX10_positionAt_9 : decode cX10_positionAt 9 = .ok (.iconst 1, 1) := by decide +kernel
theorem dX10_positionAt_10 : decode cX10_positionAt 10 = .ok (.goto 4, 3) := by decide +kernel
theorem dX10_positionAt_13 : decode cX10_positionAt 13 = .ok (.iconst 0, 1) := by decide +kernel
theorem dX10_positionAt_14 : decode cX10_positionAt 14 = .ok (.aload_n 0, 1) := by decide +kernel
theorem dX10_positionAt_15 : decode cX10_positionAt 15 = .ok (.iload_n 1, 1) := by decide +kernel
theorem dX10_positionAt_16 : decode cX10_positionAt 16 = .ok (.invokevirtual 395, 3) := by decide +kernel
theorem dX10_positionAt_19 : decode cX10_positionAt 19 = .ok (.ifCond .ne 7, 3) := by decide +kernel
theorem dX10_positionAt_22 : decode cX10_positionAt 22 = .ok (.iconst 1, 1) := by decide +kernel
theorem dX10_positionAt_23 : decode cX10_positionAt 23 = .ok (.goto 4, 3) := by decide +kernel
theorem dX10_positionAt_26 : decode cX10_positionAt 26 = .ok (.iconst 0, 1) := by decide +kernel
theorem dX10_positionAt_27 : decode cX10_positionAt 27 = .ok (.iconst 0, 1) := by decide +kernel
theorem dX10_positionAt_28 : decode cX10_positionAt 28 = .ok (.invokevirtual 14, 3) := by decide +kernel
theorem dX10_positionAt_31 : decode cX10_positionAt 31 = .ok (.ifCond .eq 5, 3) := by decide +kernel
theorem dX10_positionAt_34 : decode cX10_positionAt 34 = .ok (.iconst 0, 1) := by decide +kernel
theorem dX10_positionAt_35 : decode cX10_positionAt 35 = .ok (.ireturn, 1) := by decide +kernel
theorem dX10_positionAt_36 : decode cX10_positionAt 36 = .ok (.aload_n 0, 1) := by decide +kernel
theorem dX10_positionAt_37 : decode cX10_positionAt 37 = .ok (.getfield 111, 3) := by decide +kernel
theorem dX10_positionAt_40 : decode cX10_positionAt 40 = .ok (.ifCond .eq 12, 3) := by decide +kernel
theorem dX10_positionAt_43 : decode cX10_positionAt 43 = .ok (.aload_n 0, 1) := by decide +kernel
theorem dX10_positionAt_44 : decode cX10_positionAt 44 = .ok (.getfield 121, 3) := by decide +kernel
theorem dX10_positionAt_47 : decode cX10_positionAt 47 = .ok (.iload_n 2, 1) := by decide +kernel
theorem dX10_positionAt_48 : decode cX10_positionAt 48 = .ok (.iaload, 1) := by decide +kernel
theorem dX10_positionAt_49 : decode cX10_positionAt 49 = .ok (.goto 4, 3) := by decide +kernel
theorem dX10_positionAt_52 : decode cX10_positionAt 52 = .ok (.iconst (-1), 1) := by decide +kernel
theorem dX10_positionAt_53 : decode cX10_positionAt 53 = .ok (.istore_n 3, 1) := by decide +kernel
theorem dX10_positionAt_54 : decode cX10_positionAt 54 = .ok (.aload_n 0, 1) := by decide +kernel
theorem dX10_positionAt_55 : decode cX10_positionAt 55 = .ok (.getfield 111, 3) := by decide +kernel
theorem dX10_positionAt_58 : decode cX10_positionAt 58 = .ok (.ifCond .eq 10, 3) := by decide +kernel
theorem dX10_positionAt_61 : decode cX10_positionAt 61 = .ok (.aload_n 0, 1) := by decide +kernel
theorem dX10_positionAt_62 : decode cX10_positionAt 62 = .ok (.getfield 108, 3) := by decide +kernel
theorem dX10_positionAt_65 : decode cX10_positionAt 65 = .ok (.goto 7, 3) := by decide +kernel
theorem dX10_positionAt_68 : decode cX10_positionAt 68 = .ok (.aload_n 0, 1) := by decide +kernel
theorem dX10_positionAt_69 : decode cX10_positionAt 69 = .ok (.invokevirtual 255, 3) := by decide +kernel
theorem dX10_positionAt_72 : decode cX10_positionAt 72 = .ok (.istore 4, 2) := by decide +kernel
theorem dX10_positionAt_74 : decode cX10_positionAt 74 = .ok (.iload 4, 2) := by decide +kernel
theorem dX10_positionAt_76 : decode cX10_positionAt 76 = .ok (.istore 5, 2) := by decide +kernel
theorem dX10_positionAt_78 : decode cX10_positionAt 78 = .ok (.iload 5, 2) := by decide +kernel
theorem dX10_positionAt_80 : decode cX10_positionAt 80 = .ok (.iload_n 1, 1) := by decide +kernel
theorem dX10_positionAt_81 : decode cX10_positionAt 81 = .ok (.if_icmp .ge 40, 3) := by decide +kernel
theorem dX10_positionAt_84 : decode cX10_positionAt 84 = .ok (.aload_n 0, 1) := by decide +kernel
theorem dX10_positionAt_85 : decode cX10_positionAt 85 = .ok (.getfield 41, 3) := by decide +kernel
theorem dX10_positionAt_88 : decode cX10_positionAt 88 = .ok (.iload 5, 2) := by decide +kernel
theorem dX10_positionAt_90 : decode cX10_positionAt 90 = .ok (.iaload, 1) := by decide +kernel
theorem dX10_positionAt_91 : decode cX10_positionAt 91 = .ok (.bipush 7, 2) := by decide +kernel
theorem dX10_positionAt_93 : decode cX10_positionAt 93 = .ok (.if_icmp .ne 22, 3) := by decide +kernel
theorem dX10_positionAt_96 : decode cX10_positionAt 96 = .ok (.aload_n 0, 1) := by decide +kernel
theorem dX10_positionAt_97 : decode cX10_positionAt 97 = .ok (.getfield 47, 3) := by decide +kernel
theorem dX10_positionAt_100 : decode cX10_positionAt 100 = .ok (.iload 5, 2) := by decide +kernel
theorem dX10_positionAt_102 : decode cX10_positionAt 102 = .ok (.iaload, 1) := by decide +kernel
theorem dX10_positionAt_103 : decode cX10_positionAt 103 = .ok (.iload_n 2, 1) := by decide +kernel
theorem dX10_positionAt_104 : decode cX10_positionAt 104 = .ok (.if_icmp .ne 11, 3) := by decide +kernel
theorem dX10_positionAt_107 : decode cX10_positionAt 107 = .ok (.aload_n 0, 1) := by decide +kernel
theorem dX10_positionAt_108 : decode cX10_positionAt 108 = .ok (.getfield 50, 3) := by decide +kernel
theorem dX10_positionAt_111 : decode cX10_positionAt 111 = .ok (.iload 5, 2) := by decide +kernel
theorem dX10_positionAt_113 : decode cX10_positionAt 113 = .ok (.iaload, 1) := by decide +kernel
theorem dX10_positionAt_114 : decode cX10_positionAt 114 = .ok (.istore_n 3, 1) := by decide +kernel
theorem dX10_positionAt_115 : decode cX10_positionAt 115 = .ok (.iinc 5 1, 3) := by decide +kernel
theorem dX10_positionAt_118 : decode cX10_positionAt 118 = .ok (.goto (-40), 3) := by decide +kernel
theorem dX10_positionAt_121 : decode cX10_positionAt 121 = .ok (.iload_n 3, 1) := by decide +kernel
theorem dX10_positionAt_122 : decode cX10_positionAt 122 = .ok (.ireturn, 1) := by decide +kernel
theorem dX10_visible_0 : decode cX10_visible 0 = .ok (.iload_n 1, 1) := by decide +kernel
theorem dX10_visible_1 : decode cX10_visible 1 = .ok (.invokestatic 358, 3) := by decide +kernel
theorem dX10_visible_4 : decode cX10_visible 4 = .ok (.istore_n 3, 1) := by decide +kernel
theorem dX10_visible_5 : decode cX10_visible 5 = .ok (.iload_n 3, 1) := by decide +kernel
theorem dX10_visible_6 : decode cX10_visible 6 = .ok (.ifCond .eq 36, 3) := by decide +kernel
theorem dX10_visible_9 : decode cX10_visible 9 = .ok (.iload_n 2, 1) := by decide +kernel
theorem dX10_visible_10 : decode cX10_visible 10 = .ok (.iconst 0, 1) := by decide +kernel
theorem dX10_visible_11 : decode cX10_visible 11 = .ok (.aload_n 0, 1) := by decide +kernel
theorem dX10_visible_12 : decode cX10_visible 12 = .ok (.getfield 93, 3) := by decide +kernel
theorem dX10_visible_15 : decode cX10_visible 15 = .ok (.iload_n 1, 1) := by decide +kernel
theorem dX10_visible_16 : decode cX10_visible 16 = .ok (.iaload, 1) := by decide +kernel
theorem dX10_visible_17 : decode cX10_visible 17 = .ok (.iconst 1, 1) := by decide +kernel
theorem dX10_visible_18 : decode cX10_visible 18 = .ok (.isub, 1) := by decide +kernel
theorem dX10_visible_19 : decode cX10_visible 19 = .ok (.invokestatic 22, 3) := by decide +kernel
theorem dX10_visible_22 : decode cX10_visible 22 = .ok (.ifCond .eq 20, 3) := by decide +kernel
theorem dX10_visible_25 : decode cX10_visible 25 = .ok (.aload_n 0, 1) := by decide +kernel
theorem dX10_visible_26 : decode cX10_visible 26 = .ok (.aload_n 0, 1) := by decide +kernel
theorem dX10_visible_27 : decode cX10_visible 27 = .ok (.iload_n 1, 1) := by decide +kernel
theorem dX10_visible_28 : decode cX10_visible 28 = .ok (.iload_n 2, 1) := by decide +kernel
theorem dX10_visible_29 : decode cX10_visible 29 = .ok (.invokevirtual 281, 3) := by decide +kernel
theorem dX10_visible_32 : decode cX10_visible 32 = .ok (.invokevirtual 373, 3) := by decide +kernel
theorem dX10_visible_35 : decode cX10_visible 35 = .ok (.ifCond .eq 7, 3) := by decide +kernel
theorem dX10_visible_38 : decode cX10_visible 38 = .ok (.iconst 1, 1) := by decide +kernel
theorem dX10_visible_39 : decode cX10_visible 39 = .ok (.goto 4, 3) := by decide +kernel
theorem dX10_visible_42 : decode cX10_visible 42 = .ok (.iconst 0, 1) := by decide +kernel
theorem dX10_visible_43 : decode cX10_visible 43 = .ok (.istore 4, 2) := by decide +kernel
theorem dX10_visible_45 : decode cX10_visible 45 = .ok (.aload_n 0, 1) := by decide +kernel
theorem dX10_visible_46 : decode cX10_visible 46 = .ok (.iload_n 3, 1) := by decide +kernel
theorem dX10_visible_47 : decode cX10_visible 47 = .ok (.ifCond .ne 7, 3) := by decide +kernel
theorem dX10_visible_50 : decode cX10_visible 50 = .ok (.iconst 1, 1) := by decide +kernel
theorem dX10_visible_51 : decode cX10_visible 51 = .ok (.goto 4, 3) := by decide +kernel
theorem dX10_visible_54 : decode cX10_visible 54 = .ok (.iconst 0, 1) := by decide +kernel
theorem dX10_visible_55 : decode cX10_visible 55 = .ok (.iload 4, 2) := by decide +kernel
theorem dX10_visible_57 : decode cX10_visible 57 = .ok (.ifCond .ne 7, 3) := by decide +kernel
theorem dX10_visible_60 : decode cX10_visible 60 = .ok (.iconst 1, 1) := by decide +kernel
theorem dX10_visible_61 : decode cX10_visible 61 = .ok (.goto 4, 3) := by decide +kernel
theorem dX10_visible_64 : decode cX10_visible 64 = .ok (.iconst 0, 1) := by decide +kernel
theorem dX10_visible_65 : decode cX10_visible 65 = .ok (.iconst 0, 1) := by decide +kernel
theorem dX10_visible_66 : decode cX10_visible 66 = .ok (.invokevirtual 14, 3) := by decide +kernel
theorem dX10_visible_69 : decode cX10_visible 69 = .ok (.ifCond .eq 7, 3) := by decide +kernel
theorem dX10_visible_72 : decode cX10_visible 72 = .ok (.iconst 0, 1) := by decide +kernel
theorem dX10_visible_73 : decode cX10_visible 73 = .ok (.goto 9, 3) := by decide +kernel
theorem dX10_visible_76 : decode cX10_visible 76 = .ok (.aload_n 0, 1) := by decide +kernel
theorem dX10_visible_77 : decode cX10_visible 77 = .ok (.iload_n 1, 1) := by decide +kernel
theorem dX10_visible_78 : decode cX10_visible 78 = .ok (.iload_n 2, 1) := by decide +kernel
theorem dX10_visible_79 : decode cX10_visible 79 = .ok (.invokevirtual 281, 3) := by decide +kernel
theorem dX10_visible_82 : decode cX10_visible 82 = .ok (.ireturn, 1) := by decide +kernel
theorem dX10_order_0 : decode cX10_order 0 = .ok (.aload_n 0, 1) := by decide +kernel
theorem dX10_order_1 : decode cX10_order 1 = .ok (.iload_n 1, 1) := by decide +kernel
theorem dX10_order_2 : decode cX10_order 2 = .ok (.invokevirtual 395, 3) := by decide +kernel
theorem dX10_order_5 : decode cX10_order 5 = .ok (.istore_n 3, 1) := by decide +kernel
theorem dX10_order_6 : decode cX10_order 6 = .ok (.iconst (-1), 1) := by decide +kernel
theorem dX10_order_7 : decode cX10_order 7 = .ok (.istore 4, 2) := by decide +kernel
theorem dX10_order_9 : decode cX10_order 9 = .ok (.iload_n 2, 1) := by decide +kernel
theorem dX10_order_10 : decode cX10_order 10 = .ok (.istore 5, 2) := by decide +kernel
theorem dX10_order_12 : decode cX10_order 12 = .ok (.aload_n 0, 1) := by decide +kernel
theorem dX10_order_13 : decode cX10_order 13 = .ok (.invokevirtual 255, 3) := by decide +kernel
theorem dX10_order_16 : decode cX10_order 16 = .ok (.istore 6, 2) := by decide +kernel
theorem dX10_order_18 : decode cX10_order 18 = .ok (.iload_n 3, 1) := by decide +kernel
theorem dX10_order_19 : decode cX10_order 19 = .ok (.ifCond .eq 61, 3) := by decide +kernel
theorem dX10_order_22 : decode cX10_order 22 = .ok (.iload 6, 2) := by decide +kernel
theorem dX10_order_24 : decode cX10_order 24 = .ok (.iload_n 1, 1) := by decide +kernel
theorem dX10_order_25 : decode cX10_order 25 = .ok (.if_icmp .ge 55, 3) := by decide +kernel
theorem dX10_order_28 : decode cX10_order 28 = .ok (.aload_n 0, 1) := by decide +kernel
theorem dX10_order_29 : decode cX10_order 29 = .ok (.invokevirtual 255, 3) := by decide +kernel
theorem dX10_order_32 : decode cX10_order 32 = .ok (.istore 7, 2) := by decide +kernel
theorem dX10_order_34 : decode cX10_order 34 = .ok (.iload 7, 2) := by decide +kernel
theorem dX10_order_36 : decode cX10_order 36 = .ok (.iload 6, 2) := by decide +kernel
theorem dX10_order_38 : decode cX10_order 38 = .ok (.if_icmp .gt 36, 3) := by decide +kernel
theorem dX10_order_41 : decode cX10_order 41 = .ok (.aload_n 0, 1) := by decide +kernel
theorem dX10_order_42 : decode cX10_order 42 = .ok (.getfield 59, 3) := by decide +kernel
theorem dX10_order_45 : decode cX10_order 45 = .ok (.iload 7, 2) := by decide +kernel
theorem dX10_order_47 : decode cX10_order 47 = .ok (.iaload, 1) := by decide +kernel
theorem dX10_order_48 : decode cX10_order 48 = .ok (.iload 6, 2) := by decide +kernel
theorem dX10_order_50 : decode cX10_order 50 = .ok (.if_icmp .eq 6, 3) := by decide +kernel
theorem dX10_order_53 : decode cX10_order 53 = .ok (.goto 15, 3) := by decide +kernel
theorem dX10_order_56 : decode cX10_order 56 = .ok (.iload 5, 2) := by decide +kernel
theorem dX10_order_58 : decode cX10_order 58 = .ok (.ifCond .ne 7, 3) := by decide +kernel
theorem dX10_order_61 : decode cX10_order 61 = .ok (.iload 7, 2) := by decide +kernel
theorem dX10_order_63 : decode cX10_order 63 = .ok (.istore 4, 2) := by decide +kernel
theorem dX10_order_65 : decode cX10_order 65 = .ok (.iinc 5 (-1), 3) := by decide +kernel
theorem dX10_order_68 : decode cX10_order 68 = .ok (.iinc 7 1, 3) := by decide +kernel
theorem dX10_order_71 : decode cX10_order 71 = .ok (.goto (-37), 3) := by decide +kernel
theorem dX10_order_74 : decode cX10_order 74 = .ok (.iinc 6 1, 3) := by decide +kernel
theorem dX10_order_77 : decode cX10_order 77 = .ok (.goto (-59), 3) := by decide +kernel
theorem dX10_order_80 : decode cX10_order 80 = .ok (.aload_n 0, 1) := by decide +kernel
theorem dX10_order_81 : decode cX10_order 81 = .ok (.iload_n 3, 1) := by decide +kernel
theorem dX10_order_82 : decode cX10_order 82 = .ok (.ifCond .ne 7, 3) := by decide +kernel
theorem dX10_order_85 : decode cX10_order 85 = .ok (.iconst 1, 1) := by decide +kernel
theorem dX10_order_86 : decode cX10_order 86 = .ok (.goto 4, 3) := by decide +kernel
theorem dX10_order_89 : decode cX10_order 89 = .ok (.iconst 0, 1) := by decide +kernel
theorem dX10_order_90 : decode cX10_order 90 = .ok (.iload 4, 2) := by decide +kernel
theorem dX10_order_92 : decode cX10_order 92 = .ok (.iconst (-1), 1) := by decide +kernel
theorem dX10_order_93 : decode cX10_order 93 = .ok (.if_icmp .ne 7, 3) := by decide +kernel
theorem dX10_order_96 : decode cX10_order 96 = .ok (.iconst 1, 1) := by decide +kernel
theorem dX10_order_97 : decode cX10_order 97 = .ok (.goto 4, 3) := by decide +kernel
theorem dX10_order_100 : decode cX10_order 100 = .ok (.iconst 0, 1) := by decide +kernel
theorem dX10_order_101 : decode cX10_order 101 = .ok (.iconst 0, 1) := by decide +kernel
theorem dX10_order_102 : decode cX10_order 102 = .ok (.invokevirtual 14, 3) := by decide +kernel
theorem dX10_order_105 : decode cX10_order 105 = .ok (.ifCond .eq 7, 3) := by decide +kernel
theorem dX10_order_108 : decode cX10_order 108 = .ok (.iconst 0, 1) := by decide +kernel
theorem dX10_order_109 : decode cX10_order 109 = .ok (.goto 5, 3) := by decide +kernel
theorem dX10_order_112 : decode cX10_order 112 = .ok (.iload 4, 2) := by decide +kernel
theorem dX10_order_114 : decode cX10_order 114 = .ok (.ireturn, 1) := by decide +kernel
theorem dX10_openTransactions_0 : decode cX10_openTransactions 0 = .ok (.iconst 0, 1) := by decide +kernel
theorem dX10_openTransactions_1 : decode cX10_openTransactions 1 = .ok (.istore_n 1, 1) := by decide +kernel
theorem dX10_openTransactions_2 : decode cX10_openTransactions 2 = .ok (.iconst 0, 1) := by decide +kernel
theorem dX10_openTransactions_3 : decode cX10_openTransactions 3 = .ok (.istore_n 2, 1) := by decide +kernel
theorem dX10_openTransactions_4 : decode cX10_openTransactions 4 = .ok (.iload_n 2, 1) := by decide +kernel
theorem dX10_openTransactions_5 : decode cX10_openTransactions 5 = .ok (.iconst 4, 1) := by decide +kernel
theorem dX10_openTransactions_6 : decode cX10_openTransactions 6 = .ok (.if_icmp .ge 25, 3) := by decide +kernel
theorem dX10_openTransactions_9 : decode cX10_openTransactions 9 = .ok (.iload_n 1, 1) := by decide +kernel
theorem dX10_openTransactions_10 : decode cX10_openTransactions 10 = .ok (.aload_n 0, 1) := by decide +kernel
theorem dX10_openTransactions_11 : decode cX10_openTransactions 11 = .ok (.iload_n 2, 1) := by decide +kernel
theorem dX10_openTransactions_12 : decode cX10_openTransactions 12 = .ok (.invokevirtual 336, 3) := by decide +kernel
theorem dX10_openTransactions_15 : decode cX10_openTransactions 15 = .ok (.ifCond .eq 7, 3) := by decide +kernel
theorem dX10_openTransactions_18 : decode cX10_openTransactions 18 = .ok (.iconst 1, 1) := by decide +kernel
theorem dX10_openTransactions_19 : decode cX10_openTransactions 19 = .ok (.goto 4, 3) := by decide +kernel
theorem dX10_openTransactions_22 : decode cX10_openTransactions 22 = .ok (.iconst 0, 1) := by decide +kernel
theorem dX10_openTransactions_23 : decode cX10_openTransactions 23 = .ok (.iadd, 1) := by decide +kernel
theorem dX10_openTransactions_24 : decode cX10_openTransactions 24 = .ok (.istore_n 1, 1) := by decide +kernel
theorem dX10_openTransactions_25 : decode cX10_openTransactions 25 = .ok (.iinc 2 1, 3) := by decide +kernel
theorem dX10_openTransactions_28 : decode cX10_openTransactions 28 = .ok (.goto (-24), 3) := by decide +kernel
theorem dX10_openTransactions_31 : decode cX10_openTransactions 31 = .ok (.iload_n 1, 1) := by decide +kernel
theorem dX10_openTransactions_32 : decode cX10_openTransactions 32 = .ok (.ireturn, 1) := by decide +kernel
theorem dX10_state_0 : decode cX10_state 0 = .ok (.aload_n 0, 1) := by decide +kernel
theorem dX10_state_1 : decode cX10_state 1 = .ok (.iload_n 1, 1) := by decide +kernel
theorem dX10_state_2 : decode cX10_state 2 = .ok (.iconst 0, 1) := by decide +kernel
theorem dX10_state_3 : decode cX10_state 3 = .ok (.bipush 10, 2) := by decide +kernel
theorem dX10_state_5 : decode cX10_state 5 = .ok (.invokestatic 22, 3) := by decide +kernel
theorem dX10_state_8 : decode cX10_state 8 = .ok (.ifCond .ne 7, 3) := by decide +kernel
theorem dX10_state_11 : decode cX10_state 11 = .ok (.iconst 1, 1) := by decide +kernel
theorem dX10_state_12 : decode cX10_state 12 = .ok (.goto 4, 3) := by decide +kernel
theorem dX10_state_15 : decode cX10_state 15 = .ok (.iconst 0, 1) := by decide +kernel
theorem dX10_state_16 : decode cX10_state 16 = .ok (.iconst 0, 1) := by decide +kernel
theorem dX10_state_17 : decode cX10_state 17 = .ok (.iconst 0, 1) := by decide +kernel
theorem dX10_state_18 : decode cX10_state 18 = .ok (.invokevirtual 14, 3) := by decide +kernel
theorem dX10_state_21 : decode cX10_state 21 = .ok (.ifCond .eq 5, 3) := by decide +kernel
theorem dX10_state_24 : decode cX10_state 24 = .ok (.iconst 0, 1) := by decide +kernel
theorem dX10_state_25 : decode cX10_state 25 = .ok (.ireturn, 1) := by decide +kernel
theorem dX10_state_26 : decode cX10_state 26 = .ok (.iload_n 1, 1) := by decide +kernel
theorem dX10_state_27 : decode cX10_state 27 = .ok (.tableswitch 103 0 9 #[53, 58, 63, 68, 73, 78, 83, 88, 93, 98], 53) := by decide +kernel
theorem dX10_state_80 : decode cX10_state 80 = .ok (.aload_n 0, 1) := by decide +kernel
theorem dX10_state_81 : decode cX10_state 81 = .ok (.getfield 69, 3) := by decide +kernel
theorem dX10_state_84 : decode cX10_state 84 = .ok (.ireturn, 1) := by decide +kernel
theorem dX10_state_85 : decode cX10_state 85 = .ok (.aload_n 0, 1) := by decide +kernel
theorem dX10_state_86 : decode cX10_state 86 = .ok (.getfield 72, 3) := by decide +kernel
theorem dX10_state_89 : decode cX10_state 89 = .ok (.ireturn, 1) := by decide +kernel
theorem dX10_state_90 : decode cX10_state 90 = .ok (.aload_n 0, 1) := by decide +kernel
theorem dX10_state_91 : decode cX10_state 91 = .ok (.invokevirtual 255, 3) := by decide +kernel
theorem dX10_state_94 : decode cX10_state 94 = .ok (.ireturn, 1) := by decide +kernel
theorem dX10_state_95 : decode cX10_state 95 = .ok (.aload_n 0, 1) := by decide +kernel
theorem dX10_state_96 : decode cX10_state 96 = .ok (.invokevirtual 314, 3) := by decide +kernel
theorem dX10_state_99 : decode cX10_state 99 = .ok (.ireturn, 1) := by decide +kernel
theorem dX10_state_100 : decode cX10_state 100 = .ok (.aload_n 0, 1) := by decide +kernel
theorem dX10_state_101 : decode cX10_state 101 = .ok (.invokevirtual 302, 3) := by decide +kernel
theorem dX10_state_104 : decode cX10_state 104 = .ok (.ireturn, 1) := by decide +kernel
theorem dX10_state_105 : decode cX10_state 105 = .ok (.aload_n 0, 1) := by decide +kernel
theorem dX10_state_106 : decode cX10_state 106 = .ok (.getfield 84, 3) := by decide +kernel
theorem dX10_state_109 : decode cX10_state 109 = .ok (.ireturn, 1) := by decide +kernel
theorem dX10_state_110 : decode cX10_state 110 = .ok (.aload_n 0, 1) := by decide +kernel
theorem dX10_state_111 : decode cX10_state 111 = .ok (.getfield 108, 3) := by decide +kernel
theorem dX10_state_114 : decode cX10_state 114 = .ok (.ireturn, 1) := by decide +kernel
theorem dX10_state_115 : decode cX10_state 115 = .ok (.aload_n 0, 1) := by decide +kernel
theorem dX10_state_116 : decode cX10_state 116 = .ok (.invokevirtual 398, 3) := by decide +kernel
theorem dX10_state_119 : decode cX10_state 119 = .ok (.ireturn, 1) := by decide +kernel
theorem dX10_state_120 : decode cX10_state 120 = .ok (.aload_n 0, 1) := by decide +kernel
theorem dX10_state_121 : decode cX10_state 121 = .ok (.getfield 105, 3) := by decide +kernel
theorem dX10_state_124 : decode cX10_state 124 = .ok (.ireturn, 1) := by decide +kernel
theorem dX10_state_125 : decode cX10_state 125 = .ok (.aload_n 0, 1) := by decide +kernel
theorem dX10_state_126 : decode cX10_state 126 = .ok (.invokevirtual 320, 3) := by decide +kernel
theorem dX10_state_129 : decode cX10_state 129 = .ok (.ireturn, 1) := by decide +kernel
theorem dX10_state_130 : decode cX10_state 130 = .ok (.aload_n 0, 1) := by decide +kernel
theorem dX10_state_131 : decode cX10_state 131 = .ok (.invokevirtual 379, 3) := by decide +kernel
theorem dX10_state_134 : decode cX10_state 134 = .ok (.ireturn, 1) := by decide +kernel
theorem dX10_checksum_0 : decode cX10_checksum 0 = .ok (.bipush 7, 2) := by decide +kernel
theorem dX10_checksum_2 : decode cX10_checksum 2 = .ok (.istore_n 2, 1) := by decide +kernel
theorem dX10_checksum_3 : decode cX10_checksum 3 = .ok (.bipush 31, 2) := by decide +kernel
theorem dX10_checksum_5 : decode cX10_checksum 5 = .ok (.iload_n 2, 1) := by decide +kernel
theorem dX10_checksum_6 : decode cX10_checksum 6 = .ok (.imul, 1) := by decide +kernel
theorem dX10_checksum_7 : decode cX10_checksum 7 = .ok (.iload_n 1, 1) := by decide +kernel
theorem dX10_checksum_8 : decode cX10_checksum 8 = .ok (.iadd, 1) := by decide +kernel
theorem dX10_checksum_9 : decode cX10_checksum 9 = .ok (.i2s, 1) := by decide +kernel
theorem dX10_checksum_10 : decode cX10_checksum 10 = .ok (.istore_n 2, 1) := by decide +kernel
theorem dX10_checksum_11 : decode cX10_checksum 11 = .ok (.bipush 31, 2) := by decide +kernel
theorem dX10_checksum_13 : decode cX10_checksum 13 = .ok (.iload_n 2, 1) := by decide +kernel
theorem dX10_checksum_14 : decode cX10_checksum 14 = .ok (.imul, 1) := by decide +kernel
theorem dX10_checksum_15 : decode cX10_checksum 15 = .ok (.aload_n 0, 1) := by decide +kernel
theorem dX10_checksum_16 : decode cX10_checksum 16 = .ok (.getfield 41, 3) := by decide +kernel
theorem dX10_checksum_19 : decode cX10_checksum 19 = .ok (.iload_n 1, 1) := by decide +kernel
theorem dX10_checksum_20 : decode cX10_checksum 20 = .ok (.iaload, 1) := by decide +kernel
theorem dX10_checksum_21 : decode cX10_checksum 21 = .ok (.iadd, 1) := by decide +kernel
theorem dX10_checksum_22 : decode cX10_checksum 22 = .ok (.i2s, 1) := by decide +kernel
theorem dX10_checksum_23 : decode cX10_checksum 23 = .ok (.istore_n 2, 1) := by decide +kernel
theorem dX10_checksum_24 : decode cX10_checksum 24 = .ok (.bipush 31, 2) := by decide +kernel
theorem dX10_checksum_26 : decode cX10_checksum 26 = .ok (.iload_n 2, 1) := by decide +kernel
theorem dX10_checksum_27 : decode cX10_checksum 27 = .ok (.imul, 1) := by decide +kernel
theorem dX10_checksum_28 : decode cX10_checksum 28 = .ok (.aload_n 0, 1) := by decide +kernel
theorem dX10_checksum_29 : decode cX10_checksum 29 = .ok (.getfield 44, 3) := by decide +kernel
theorem dX10_checksum_32 : decode cX10_checksum 32 = .ok (.iload_n 1, 1) := by decide +kernel
theorem dX10_checksum_33 : decode cX10_checksum 33 = .ok (.iaload, 1) := by decide +kernel
theorem dX10_checksum_34 : decode cX10_checksum 34 = .ok (.iadd, 1) := by decide +kernel
theorem dX10_checksum_35 : decode cX10_checksum 35 = .ok (.i2s, 1) := by decide +kernel
theorem dX10_checksum_36 : decode cX10_checksum 36 = .ok (.istore_n 2, 1) := by decide +kernel
theorem dX10_checksum_37 : decode cX10_checksum 37 = .ok (.bipush 31, 2) := by decide +kernel
theorem dX10_checksum_39 : decode cX10_checksum 39 = .ok (.iload_n 2, 1) := by decide +kernel
theorem dX10_checksum_40 : decode cX10_checksum 40 = .ok (.imul, 1) := by decide +kernel
theorem dX10_checksum_41 : decode cX10_checksum 41 = .ok (.aload_n 0, 1) := by decide +kernel
theorem dX10_checksum_42 : decode cX10_checksum 42 = .ok (.getfield 47, 3) := by decide +kernel
theorem dX10_checksum_45 : decode cX10_checksum 45 = .ok (.iload_n 1, 1) := by decide +kernel
theorem dX10_checksum_46 : decode cX10_checksum 46 = .ok (.iaload, 1) := by decide +kernel
theorem dX10_checksum_47 : decode cX10_checksum 47 = .ok (.iadd, 1) := by decide +kernel
theorem dX10_checksum_48 : decode cX10_checksum 48 = .ok (.i2s, 1) := by decide +kernel
theorem dX10_checksum_49 : decode cX10_checksum 49 = .ok (.istore_n 2, 1) := by decide +kernel
theorem dX10_checksum_50 : decode cX10_checksum 50 = .ok (.bipush 31, 2) := by decide +kernel
theorem dX10_checksum_52 : decode cX10_checksum 52 = .ok (.iload_n 2, 1) := by decide +kernel
theorem dX10_checksum_53 : decode cX10_checksum 53 = .ok (.imul, 1) := by decide +kernel
theorem dX10_checksum_54 : decode cX10_checksum 54 = .ok (.aload_n 0, 1) := by decide +kernel
theorem dX10_checksum_55 : decode cX10_checksum 55 = .ok (.getfield 50, 3) := by decide +kernel
theorem dX10_checksum_58 : decode cX10_checksum 58 = .ok (.iload_n 1, 1) := by decide +kernel
theorem dX10_checksum_59 : decode cX10_checksum 59 = .ok (.iaload, 1) := by decide +kernel
theorem dX10_checksum_60 : decode cX10_checksum 60 = .ok (.iadd, 1) := by decide +kernel
theorem dX10_checksum_61 : decode cX10_checksum 61 = .ok (.i2s, 1) := by decide +kernel
theorem dX10_checksum_62 : decode cX10_checksum 62 = .ok (.istore_n 2, 1) := by decide +kernel
theorem dX10_checksum_63 : decode cX10_checksum 63 = .ok (.bipush 31, 2) := by decide +kernel
theorem dX10_checksum_65 : decode cX10_checksum 65 = .ok (.iload_n 2, 1) := by decide +kernel
theorem dX10_checksum_66 : decode cX10_checksum 66 = .ok (.imul, 1) := by decide +kernel
theorem dX10_checksum_67 : decode cX10_checksum 67 = .ok (.aload_n 0, 1) := by decide +kernel
theorem dX10_checksum_68 : decode cX10_checksum 68 = .ok (.getfield 53, 3) := by decide +kernel
theorem dX10_checksum_71 : decode cX10_checksum 71 = .ok (.iload_n 1, 1) := by decide +kernel
theorem dX10_checksum_72 : decode cX10_checksum 72 = .ok (.iaload, 1) := by decide +kernel
theorem dX10_checksum_73 : decode cX10_checksum 73 = .ok (.iadd, 1) := by decide +kernel
theorem dX10_checksum_74 : decode cX10_checksum 74 = .ok (.i2s, 1) := by decide +kernel
theorem dX10_checksum_75 : decode cX10_checksum 75 = .ok (.istore_n 2, 1) := by decide +kernel
theorem dX10_checksum_76 : decode cX10_checksum 76 = .ok (.bipush 31, 2) := by decide +kernel
theorem dX10_checksum_78 : decode cX10_checksum 78 = .ok (.iload_n 2, 1) := by decide +kernel
theorem dX10_checksum_79 : decode cX10_checksum 79 = .ok (.imul, 1) := by decide +kernel
theorem dX10_checksum_80 : decode cX10_checksum 80 = .ok (.aload_n 0, 1) := by decide +kernel
theorem dX10_checksum_81 : decode cX10_checksum 81 = .ok (.getfield 56, 3) := by decide +kernel
theorem dX10_checksum_84 : decode cX10_checksum 84 = .ok (.iload_n 1, 1) := by decide +kernel
theorem dX10_checksum_85 : decode cX10_checksum 85 = .ok (.iaload, 1) := by decide +kernel
theorem dX10_checksum_86 : decode cX10_checksum 86 = .ok (.iadd, 1) := by decide +kernel
theorem dX10_checksum_87 : decode cX10_checksum 87 = .ok (.i2s, 1) := by decide +kernel
theorem dX10_checksum_88 : decode cX10_checksum 88 = .ok (.istore_n 2, 1) := by decide +kernel
theorem dX10_checksum_89 : decode cX10_checksum 89 = .ok (.aload_n 0, 1) := by decide +kernel
theorem dX10_checksum_90 : decode cX10_checksum 90 = .ok (.getfield 65, 3) := by decide +kernel
theorem dX10_checksum_93 : decode cX10_checksum 93 = .ok (.iload_n 1, 1) := by decide +kernel
theorem dX10_checksum_94 : decode cX10_checksum 94 = .ok (.baload, 1) := by decide +kernel
theorem dX10_checksum_95 : decode cX10_checksum 95 = .ok (.ifCond .eq 9, 3) := by decide +kernel
theorem dX10_checksum_98 : decode cX10_checksum 98 = .ok (.iload_n 2, 1) := by decide +kernel
theorem dX10_checksum_99 : decode cX10_checksum 99 = .ok (.iconst 1, 1) := by decide +kernel
theorem dX10_checksum_100 : decode cX10_checksum 100 = .ok (.ixor, 1) := by decide +kernel
theorem dX10_checksum_101 : decode cX10_checksum 101 = .ok (.goto 4, 3) := by decide +kernel
theorem dX10_checksum_104 : decode cX10_checksum 104 = .ok (.iload_n 2, 1) := by decide +kernel
theorem dX10_checksum_105 : decode cX10_checksum 105 = .ok (.ireturn, 1) := by decide +kernel
theorem dX10_record_0 : decode cX10_record 0 = .ok (.aload_n 0, 1) := by decide +kernel
theorem dX10_record_1 : decode cX10_record 1 = .ok (.aload_n 0, 1) := by decide +kernel
theorem dX10_record_2 : decode cX10_record 2 = .ok (.iload_n 1, 1) := by decide +kernel
theorem dX10_record_3 : decode cX10_record 3 = .ok (.invokevirtual 373, 3) := by decide +kernel
theorem dX10_record_6 : decode cX10_record 6 = .ok (.ifCond .ne 7, 3) := by decide +kernel
theorem dX10_record_9 : decode cX10_record 9 = .ok (.iconst 1, 1) := by decide +kernel
theorem dX10_record_10 : decode cX10_record 10 = .ok (.goto 4, 3) := by decide +kernel
theorem dX10_record_13 : decode cX10_record 13 = .ok (.iconst 0, 1) := by decide +kernel
theorem dX10_record_14 : decode cX10_record 14 = .ok (.iload_n 2, 1) := by decide +kernel
theorem dX10_record_15 : decode cX10_record 15 = .ok (.iconst 0, 1) := by decide +kernel
theorem dX10_record_16 : decode cX10_record 16 = .ok (.bipush 9, 2) := by decide +kernel
theorem dX10_record_18 : decode cX10_record 18 = .ok (.invokestatic 22, 3) := by decide +kernel
theorem dX10_record_21 : decode cX10_record 21 = .ok (.ifCond .ne 7, 3) := by decide +kernel
theorem dX10_record_24 : decode cX10_record 24 = .ok (.iconst 1, 1) := by decide +kernel
theorem dX10_record_25 : decode cX10_record 25 = .ok (.goto 4, 3) := by decide +kernel
theorem dX10_record_28 : decode cX10_record 28 = .ok (.iconst 0, 1) := by decide +kernel
theorem dX10_record_29 : decode cX10_record 29 = .ok (.iconst 0, 1) := by decide +kernel
theorem dX10_record_30 : decode cX10_record 30 = .ok (.invokevirtual 14, 3) := by decide +kernel
theorem dX10_record_33 : decode cX10_record 33 = .ok (.ifCond .eq 5, 3) := by decide +kernel
theorem dX10_record_36 : decode cX10_record 36 = .ok (.iconst 0, 1) := by decide +kernel
theorem dX10_record_37 : decode cX10_record 37 = .ok (.ireturn, 1) := by decide +kernel
theorem dX10_record_38 : decode cX10_record 38 = .ok (.iload_n 2, 1) := by decide +kernel
theorem dX10_record_39 : decode cX10_record 39 = .ok (.tableswitch 111 0 8 #[49, 56, 63, 70, 77, 84, 91, 97, 104], 49) := by decide +kernel
theorem dX10_record_88 : decode cX10_record 88 = .ok (.aload_n 0, 1) := by decide +kernel
theorem dX10_record_89 : decode cX10_record 89 = .ok (.getfield 41, 3) := by decide +kernel
theorem dX10_record_92 : decode cX10_record 92 = .ok (.iload_n 1, 1) := by decide +kernel
theorem dX10_record_93 : decode cX10_record 93 = .ok (.iaload, 1) := by decide +kernel
theorem dX10_record_94 : decode cX10_record 94 = .ok (.ireturn, 1) := by decide +kernel
theorem dX10_record_95 : decode cX10_record 95 = .ok (.aload_n 0, 1) := by decide +kernel
theorem dX10_record_96 : decode cX10_record 96 = .ok (.getfield 44, 3) := by decide +kernel
theorem dX10_record_99 : decode cX10_record 99 = .ok (.iload_n 1, 1) := by decide +kernel
theorem dX10_record_100 : decode cX10_record 100 = .ok (.iaload, 1) := by decide +kernel
theorem dX10_record_101 : decode cX10_record 101 = .ok (.ireturn, 1) := by decide +kernel
theorem dX10_record_102 : decode cX10_record 102 = .ok (.aload_n 0, 1) := by decide +kernel
theorem dX10_record_103 : decode cX10_record 103 = .ok (.getfield 47, 3) := by decide +kernel
theorem dX10_record_106 : decode cX10_record 106 = .ok (.iload_n 1, 1) := by decide +kernel
theorem dX10_record_107 : decode cX10_record 107 = .ok (.iaload, 1) := by decide +kernel
theorem dX10_record_108 : decode cX10_record 108 = .ok (.ireturn, 1) := by decide +kernel
theorem dX10_record_109 : decode cX10_record 109 = .ok (.aload_n 0, 1) := by decide +kernel
theorem dX10_record_110 : decode cX10_record 110 = .ok (.getfield 50, 3) := by decide +kernel
theorem dX10_record_113 : decode cX10_record 113 = .ok (.iload_n 1, 1) := by decide +kernel
theorem dX10_record_114 : decode cX10_record 114 = .ok (.iaload, 1) := by decide +kernel
theorem dX10_record_115 : decode cX10_record 115 = .ok (.ireturn, 1) := by decide +kernel
theorem dX10_record_116 : decode cX10_record 116 = .ok (.aload_n 0, 1) := by decide +kernel
theorem dX10_record_117 : decode cX10_record 117 = .ok (.getfield 53, 3) := by decide +kernel
theorem dX10_record_120 : decode cX10_record 120 = .ok (.iload_n 1, 1) := by decide +kernel
theorem dX10_record_121 : decode cX10_record 121 = .ok (.iaload, 1) := by decide +kernel
theorem dX10_record_122 : decode cX10_record 122 = .ok (.ireturn, 1) := by decide +kernel
theorem dX10_record_123 : decode cX10_record 123 = .ok (.aload_n 0, 1) := by decide +kernel
theorem dX10_record_124 : decode cX10_record 124 = .ok (.getfield 56, 3) := by decide +kernel
theorem dX10_record_127 : decode cX10_record 127 = .ok (.iload_n 1, 1) := by decide +kernel
theorem dX10_record_128 : decode cX10_record 128 = .ok (.iaload, 1) := by decide +kernel
theorem dX10_record_129 : decode cX10_record 129 = .ok (.ireturn, 1) := by decide +kernel
theorem dX10_record_130 : decode cX10_record 130 = .ok (.aload_n 0, 1) := by decide +kernel
theorem dX10_record_131 : decode cX10_record 131 = .ok (.iload_n 1, 1) := by decide +kernel
theorem dX10_record_132 : decode cX10_record 132 = .ok (.invokevirtual 401, 3) := by decide +kernel
theorem dX10_record_135 : decode cX10_record 135 = .ok (.ireturn, 1) := by decide +kernel
theorem dX10_record_136 : decode cX10_record 136 = .ok (.aload_n 0, 1) := by decide +kernel
theorem dX10_record_137 : decode cX10_record 137 = .ok (.getfield 62, 3) := by decide +kernel
theorem dX10_record_140 : decode cX10_record 140 = .ok (.iload_n 1, 1) := by decide +kernel
theorem dX10_record_141 : decode cX10_record 141 = .ok (.iaload, 1) := by decide +kernel
theorem dX10_record_142 : decode cX10_record 142 = .ok (.ireturn, 1) := by decide +kernel
theorem dX10_record_143 : decode cX10_record 143 = .ok (.aload_n 0, 1) := by decide +kernel
theorem dX10_record_144 : decode cX10_record 144 = .ok (.getfield 59, 3) := by decide +kernel
theorem dX10_record_147 : decode cX10_record 147 = .ok (.iload_n 1, 1) := by decide +kernel
theorem dX10_record_148 : decode cX10_record 148 = .ok (.iaload, 1) := by decide +kernel
theorem dX10_record_149 : decode cX10_record 149 = .ok (.ireturn, 1) := by decide +kernel
theorem dX10_record_150 : decode cX10_record 150 = .ok (.aload_n 0, 1) := by decide +kernel
theorem dX10_record_151 : decode cX10_record 151 = .ok (.getfield 65, 3) := by decide +kernel
theorem dX10_record_154 : decode cX10_record 154 = .ok (.iload_n 1, 1) := by decide +kernel
theorem dX10_record_155 : decode cX10_record 155 = .ok (.baload, 1) := by decide +kernel
theorem dX10_record_156 : decode cX10_record 156 = .ok (.ifCond .eq 7, 3) := by decide +kernel
theorem dX10_record_159 : decode cX10_record 159 = .ok (.iconst 1, 1) := by decide +kernel
theorem dX10_record_160 : decode cX10_record 160 = .ok (.goto 4, 3) := by decide +kernel
theorem dX10_record_163 : decode cX10_record 163 = .ok (.iconst 0, 1) := by decide +kernel
theorem dX10_record_164 : decode cX10_record 164 = .ok (.ireturn, 1) := by decide +kernel
theorem dX10_segments_0 : decode cX10_segments 0 = .ok (.aload_n 0, 1) := by decide +kernel
theorem dX10_segments_1 : decode cX10_segments 1 = .ok (.iconst 0, 1) := by decide +kernel
theorem dX10_segments_2 : decode cX10_segments 2 = .ok (.putfield 1, 3) := by decide +kernel
theorem dX10_segments_5 : decode cX10_segments 5 = .ok (.aload_n 0, 1) := by decide +kernel
theorem dX10_segments_6 : decode cX10_segments 6 = .ok (.getfield 81, 3) := by decide +kernel
theorem dX10_segments_9 : decode cX10_segments 9 = .ok (.ireturn, 1) := by decide +kernel
theorem dX10_isSegment_0 : decode cX10_isSegment 0 = .ok (.iload_n 1, 1) := by decide +kernel
theorem dX10_isSegment_1 : decode cX10_isSegment 1 = .ok (.iconst 0, 1) := by decide +kernel
theorem dX10_isSegment_2 : decode cX10_isSegment 2 = .ok (.aload_n 0, 1) := by decide +kernel
theorem dX10_isSegment_3 : decode cX10_isSegment 3 = .ok (.getfield 81, 3) := by decide +kernel
theorem dX10_isSegment_6 : decode cX10_isSegment 6 = .ok (.iconst 1, 1) := by decide +kernel
theorem dX10_isSegment_7 : decode cX10_isSegment 7 = .ok (.isub, 1) := by decide +kernel
theorem dX10_isSegment_8 : decode cX10_isSegment 8 = .ok (.invokestatic 22, 3) := by decide +kernel
theorem dX10_isSegment_11 : decode cX10_isSegment 11 = .ok (.ireturn, 1) := by decide +kernel
theorem dX10_segment_0 : decode cX10_segment 0 = .ok (.aload_n 0, 1) := by decide +kernel
theorem dX10_segment_1 : decode cX10_segment 1 = .ok (.aload_n 0, 1) := by decide +kernel
theorem dX10_segment_2 : decode cX10_segment 2 = .ok (.iload_n 1, 1) := by decide +kernel
theorem dX10_segment_3 : decode cX10_segment 3 = .ok (.invokevirtual 404, 3) := by decide +kernel
theorem dX10_segment_6 : decode cX10_segment 6 = .ok (.ifCond .ne 7, 3) := by decide +kernel
theorem dX10_segment_9 : decode cX10_segment 9 = .ok (.iconst 1, 1) := by decide +kernel
theorem dX10_segment_10 : decode cX10_segment 10 = .ok (.goto 4, 3) := by decide +kernel
theorem dX10_segment_13 : decode cX10_segment 13 = .ok (.iconst 0, 1) := by decide +kernel
theorem dX10_segment_14 : decode cX10_segment 14 = .ok (.iload_n 2, 1) := by decide +kernel
theorem dX10_segment_15 : decode cX10_segment 15 = .ok (.iconst 0, 1) := by decide +kernel
theorem dX10_segment_16 : decode cX10_segment 16 = .ok (.iconst 4, 1) := by decide +kernel
theorem dX10_segment_17 : decode cX10_segment 17 = .ok (.invokestatic 22, 3) := by decide +kernel
theorem dX10_segment_20 : decode cX10_segment 20 = .ok (.ifCond .ne 7, 3) := by decide +kernel
theorem dX10_segment_23 : decode cX10_segment 23 = .ok (.iconst 1, 1) := by decide +kernel
theorem dX10_segment_24 : decode cX10_segment 24 = .ok (.goto 4, 3) := by decide +kernel
theorem dX10_segment_27 : decode cX10_segment 27 = .ok (.iconst 0, 1) := by decide +kernel
theorem dX10_segment_28 : decode cX10_segment 28 = .ok (.iconst 0, 1) := by decide +kernel
theorem dX10_segment_29 : decode cX10_segment 29 = .ok (.invokevirtual 14, 3) := by decide +kernel
theorem dX10_segment_32 : decode cX10_segment 32 = .ok (.ifCond .eq 5, 3) := by decide +kernel
theorem dX10_segment_35 : decode cX10_segment 35 = .ok (.iconst 0, 1) := by decide +kernel
theorem dX10_segment_36 : decode cX10_segment 36 = .ok (.ireturn, 1) := by decide +kernel
theorem dX10_segment_37 : decode cX10_segment 37 = .ok (.iload_n 2, 1) := by decide +kernel
theorem dX10_segment_38 : decode cX10_segment 38 = .ok (.tableswitch 63 0 3 #[30, 37, 44, 57], 30) := by decide +kernel
theorem dX10_segment_68 : decode cX10_segment 68 = .ok (.aload_n 0, 1) := by decide +kernel
theorem dX10_segment_69 : decode cX10_segment 69 = .ok (.getfield 75, 3) := by decide +kernel
theorem dX10_segment_72 : decode cX10_segment 72 = .ok (.iload_n 1, 1) := by decide +kernel
theorem dX10_segment_73 : decode cX10_segment 73 = .ok (.iaload, 1) := by decide +kernel
theorem dX10_segment_74 : decode cX10_segment 74 = .ok (.ireturn, 1) := by decide +kernel
theorem dX10_segment_75 : decode cX10_segment 75 = .ok (.aload_n 0, 1) := by decide +kernel
theorem dX10_segment_76 : decode cX10_segment 76 = .ok (.getfield 78, 3) := by decide +kernel
theorem dX10_segment_79 : decode cX10_segment 79 = .ok (.iload_n 1, 1) := by decide +kernel
theorem dX10_segment_80 : decode cX10_segment 80 = .ok (.iaload, 1) := by decide +kernel
theorem dX10_segment_81 : decode cX10_segment 81 = .ok (.ireturn, 1) := by decide +kernel
theorem dX10_segment_82 : decode cX10_segment 82 = .ok (.aload_n 0, 1) := by decide +kernel
theorem dX10_segment_83 : decode cX10_segment 83 = .ok (.iload_n 1, 1) := by decide +kernel
theorem dX10_segment_84 : decode cX10_segment 84 = .ok (.invokevirtual 251, 3) := by decide +kernel
theorem dX10_segment_87 : decode cX10_segment 87 = .ok (.aload_n 0, 1) := by decide +kernel
theorem dX10_segment_88 : decode cX10_segment 88 = .ok (.getfield 78, 3) := by decide +kernel
theorem dX10_segment_91 : decode cX10_segment 91 = .ok (.iload_n 1, 1) := by decide +kernel
theorem dX10_segment_92 : decode cX10_segment 92 = .ok (.iaload, 1) := by decide +kernel
theorem dX10_segment_93 : decode cX10_segment 93 = .ok (.isub, 1) := by decide +kernel
theorem dX10_segment_94 : decode cX10_segment 94 = .ok (.ireturn, 1) := by decide +kernel
theorem dX10_segment_95 : decode cX10_segment 95 = .ok (.aload_n 0, 1) := by decide +kernel
theorem dX10_segment_96 : decode cX10_segment 96 = .ok (.iload_n 1, 1) := by decide +kernel
theorem dX10_segment_97 : decode cX10_segment 97 = .ok (.invokevirtual 263, 3) := by decide +kernel
theorem dX10_segment_100 : decode cX10_segment 100 = .ok (.ireturn, 1) := by decide +kernel
theorem dX10_segment_101 : decode cX10_segment 101 = .ok (.iload_n 1, 1) := by decide +kernel
theorem dX10_segment_102 : decode cX10_segment 102 = .ok (.aload_n 0, 1) := by decide +kernel
theorem dX10_segment_103 : decode cX10_segment 103 = .ok (.getfield 81, 3) := by decide +kernel
theorem dX10_segment_106 : decode cX10_segment 106 = .ok (.iconst 1, 1) := by decide +kernel
theorem dX10_segment_107 : decode cX10_segment 107 = .ok (.isub, 1) := by decide +kernel
theorem dX10_segment_108 : decode cX10_segment 108 = .ok (.if_icmp .ge 7, 3) := by decide +kernel
theorem dX10_segment_111 : decode cX10_segment 111 = .ok (.iconst 1, 1) := by decide +kernel
theorem dX10_segment_112 : decode cX10_segment 112 = .ok (.goto 4, 3) := by decide +kernel
theorem dX10_segment_115 : decode cX10_segment 115 = .ok (.iconst 0, 1) := by decide +kernel
theorem dX10_segment_116 : decode cX10_segment 116 = .ok (.ireturn, 1) := by decide +kernel
theorem dX10_fill_0 : decode cX10_fill 0 = .ok (.aload_n 0, 1) := by decide +kernel
theorem dX10_fill_1 : decode cX10_fill 1 = .ok (.aload_n 0, 1) := by decide +kernel
theorem dX10_fill_2 : decode cX10_fill 2 = .ok (.iload_n 1, 1) := by decide +kernel
theorem dX10_fill_3 : decode cX10_fill 3 = .ok (.invokevirtual 404, 3) := by decide +kernel
theorem dX10_fill_6 : decode cX10_fill 6 = .ok (.ifCond .ne 7, 3) := by decide +kernel
theorem dX10_fill_9 : decode cX10_fill 9 = .ok (.iconst 1, 1) := by decide +kernel
theorem dX10_fill_10 : decode cX10_fill 10 = .ok (.goto 4, 3) := by decide +kernel
theorem dX10_fill_13 : decode cX10_fill 13 = .ok (.iconst 0, 1) := by decide +kernel
theorem dX10_fill_14 : decode cX10_fill 14 = .ok (.iconst 0, 1) := by decide +kernel
theorem dX10_fill_15 : decode cX10_fill 15 = .ok (.iconst 0, 1) := by decide +kernel
theorem dX10_fill_16 : decode cX10_fill 16 = .ok (.invokevirtual 14, 3) := by decide +kernel
theorem dX10_fill_19 : decode cX10_fill 19 = .ok (.ifCond .eq 5, 3) := by decide +kernel
theorem dX10_fill_22 : decode cX10_fill 22 = .ok (.fconst 0, 1) := by decide +kernel
theorem dX10_fill_23 : decode cX10_fill 23 = .ok (.freturn, 1) := by decide +kernel
theorem dX10_fill_24 : decode cX10_fill 24 = .ok (.aload_n 0, 1) := by decide +kernel
theorem dX10_fill_25 : decode cX10_fill 25 = .ok (.iload_n 1, 1) := by decide +kernel
theorem dX10_fill_26 : decode cX10_fill 26 = .ok (.invokevirtual 263, 3) := by decide +kernel
theorem dX10_fill_29 : decode cX10_fill 29 = .ok (.i2f, 1) := by decide +kernel
theorem dX10_fill_30 : decode cX10_fill 30 = .ok (.aload_n 0, 1) := by decide +kernel
theorem dX10_fill_31 : decode cX10_fill 31 = .ok (.getfield 32, 3) := by decide +kernel
theorem dX10_fill_34 : decode cX10_fill 34 = .ok (.i2f, 1) := by decide +kernel
theorem dX10_fill_35 : decode cX10_fill 35 = .ok (.fdiv, 1) := by decide +kernel
theorem dX10_fill_36 : decode cX10_fill 36 = .ok (.freturn, 1) := by decide +kernel
theorem dX10_transaction_0 : decode cX10_transaction 0 = .ok (.aload_n 0, 1) := by decide +kernel
theorem dX10_transaction_1 : decode cX10_transaction 1 = .ok (.iload_n 1, 1) := by decide +kernel
theorem dX10_transaction_2 : decode cX10_transaction 2 = .ok (.iconst 0, 1) := by decide +kernel
theorem dX10_transaction_3 : decode cX10_transaction 3 = .ok (.iconst 3, 1) := by decide +kernel
theorem dX10_transaction_4 : decode cX10_transaction 4 = .ok (.invokestatic 22, 3) := by decide +kernel
theorem dX10_transaction_7 : decode cX10_transaction 7 = .ok (.ifCond .ne 7, 3) := by decide +kernel
theorem dX10_transaction_10 : decode cX10_transaction 10 = .ok (.iconst 1, 1) := by decide +kernel
theorem dX10_transaction_11 : decode cX10_transaction 11 = .ok (.goto 4, 3) := by decide +kernel
theorem dX10_transaction_14 : decode cX10_transaction 14 = .ok (.iconst 0, 1) := by decide +kernel
theorem dX10_transaction_15 : decode cX10_transaction 15 = .ok (.iload_n 2, 1) := by decide +kernel
theorem dX10_transaction_16 : decode cX10_transaction 16 = .ok (.iconst 0, 1) := by decide +kernel
theorem dX10_transaction_17 : decode cX10_transaction 17 = .ok (.iconst 2, 1) := by decide +kernel
theorem dX10_transaction_18 : decode cX10_transaction 18 = .ok (.invokestatic 22, 3) := by decide +kernel
theorem dX10_transaction_21 : decode cX10_transaction 21 = .ok (.ifCond .ne 7, 3) := by decide +kernel
theorem dX10_transaction_24 : decode cX10_transaction 24 = .ok (.iconst 1, 1) := by decide +kernel
theorem dX10_transaction_25 : decode cX10_transaction 25 = .ok (.goto 4, 3) := by decide +kernel
theorem dX10_transaction_28 : decode cX10_transaction 28 = .ok (.iconst 0, 1) := by decide +kernel
theorem dX10_transaction_29 : decode cX10_transaction 29 = .ok (.iconst 0, 1) := by decide +kernel
theorem dX10_transaction_30 : decode cX10_transaction 30 = .ok (.invokevirtual 14, 3) := by decide +kernel
theorem dX10_transaction_33 : decode cX10_transaction 33 = .ok (.ifCond .eq 5, 3) := by decide +kernel
theorem dX10_transaction_36 : decode cX10_transaction 36 = .ok (.iconst 0, 1) := by decide +kernel
theorem dX10_transaction_37 : decode cX10_transaction 37 = .ok (.ireturn, 1) := by decide +kernel
theorem dX10_transaction_38 : decode cX10_transaction 38 = .ok (.iload_n 2, 1) := by decide +kernel
theorem dX10_transaction_39 : decode cX10_transaction 39 = .ok (.ifCond .ne 17, 3) := by decide +kernel
theorem dX10_transaction_42 : decode cX10_transaction 42 = .ok (.aload_n 0, 1) := by decide +kernel
theorem dX10_transaction_43 : decode cX10_transaction 43 = .ok (.iload_n 1, 1) := by decide +kernel
theorem dX10_transaction_44 : decode cX10_transaction 44 = .ok (.invokevirtual 336, 3) := by decide +kernel
theorem dX10_transaction_47 : decode cX10_transaction 47 = .ok (.ifCond .eq 7, 3) := by decide +kernel
theorem dX10_transaction_50 : decode cX10_transaction 50 = .ok (.iconst 1, 1) := by decide +kernel
theorem dX10_transaction_51 : decode cX10_transaction 51 = .ok (.goto 4, 3) := by decide +kernel
theorem dX10_transaction_54 : decode cX10_transaction 54 = .ok (.iconst 0, 1) := by decide +kernel
theorem dX10_transaction_55 : decode cX10_transaction 55 = .ok (.ireturn, 1) := by decide +kernel
theorem dX10_transaction_56 : decode cX10_transaction 56 = .ok (.aload_n 0, 1) := by decide +kernel
theorem dX10_transaction_57 : decode cX10_transaction 57 = .ok (.iload_n 1, 1) := by decide +kernel
theorem dX10_transaction_58 : decode cX10_transaction 58 = .ok (.invokevirtual 336, 3) := by decide +kernel
theorem dX10_transaction_61 : decode cX10_transaction 61 = .ok (.ifCond .ne 5, 3) := by decide +kernel
theorem dX10_transaction_64 : decode cX10_transaction 64 = .ok (.iconst (-1), 1) := by decide +kernel
theorem dX10_transaction_65 : decode cX10_transaction 65 = .ok (.ireturn, 1) := by decide +kernel
theorem dX10_transaction_66 : decode cX10_transaction 66 = .ok (.iload_n 2, 1) := by decide +kernel
theorem dX10_transaction_67 : decode cX10_transaction 67 = .ok (.iconst 1, 1) := by decide +kernel
theorem dX10_transaction_68 : decode cX10_transaction 68 = .ok (.if_icmp .ne 12, 3) := by decide +kernel
theorem dX10_transaction_71 : decode cX10_transaction 71 = .ok (.aload_n 0, 1) := by decide +kernel
theorem dX10_transaction_72 : decode cX10_transaction 72 = .ok (.getfield 87, 3) := by decide +kernel
theorem dX10_transaction_75 : decode cX10_transaction 75 = .ok (.iload_n 1, 1) := by decide +kernel
theorem dX10_transaction_76 : decode cX10_transaction 76 = .ok (.iaload, 1) := by decide +kernel
theorem dX10_transaction_77 : decode cX10_transaction 77 = .ok (.goto 8, 3) := by decide +kernel
theorem dX10_transaction_80 : decode cX10_transaction 80 = .ok (.aload_n 0, 1) := by decide +kernel
theorem dX10_transaction_81 : decode cX10_transaction 81 = .ok (.iload_n 1, 1) := by decide +kernel
theorem dX10_transaction_82 : decode cX10_transaction 82 = .ok (.invokevirtual 340, 3) := by decide +kernel
theorem dX10_transaction_85 : decode cX10_transaction 85 = .ok (.ireturn, 1) := by decide +kernel
theorem dX10_unreadLength_0 : decode cX10_unreadLength 0 = .ok (.aload_n 0, 1) := by decide +kernel
theorem dX10_unreadLength_1 : decode cX10_unreadLength 1 = .ok (.getfield 96, 3) := by decide +kernel
theorem dX10_unreadLength_4 : decode cX10_unreadLength 4 = .ok (.iload_n 1, 1) := by decide +kernel
theorem dX10_unreadLength_5 : decode cX10_unreadLength 5 = .ok (.iaload, 1) := by decide +kernel
theorem dX10_unreadLength_6 : decode cX10_unreadLength 6 = .ok (.istore_n 2, 1) := by decide +kernel
theorem dX10_unreadLength_7 : decode cX10_unreadLength 7 = .ok (.iconst 0, 1) := by decide +kernel
theorem dX10_unreadLength_8 : decode cX10_unreadLength 8 = .ok (.istore_n 3, 1) := by decide +kernel
theorem dX10_unreadLength_9 : decode cX10_unreadLength 9 = .ok (.aload_n 0, 1) := by decide +kernel
theorem dX10_unreadLength_10 : decode cX10_unreadLength 10 = .ok (.getfield 99, 3) := by decide +kernel
theorem dX10_unreadLength_13 : decode cX10_unreadLength 13 = .ok (.iload_n 1, 1) := by decide +kernel
theorem dX10_unreadLength_14 : decode cX10_unreadLength 14 = .ok (.iaload, 1) := by decide +kernel
theorem dX10_unreadLength_15 : decode cX10_unreadLength 15 = .ok (.istore 4, 2) := by decide +kernel
theorem dX10_unreadLength_17 : decode cX10_unreadLength 17 = .ok (.iload 4, 2) := by decide +kernel
theorem dX10_unreadLength_19 : decode cX10_unreadLength 19 = .ok (.aload_n 0, 1) := by decide +kernel
theorem dX10_unreadLength_20 : decode cX10_unreadLength 20 = .ok (.getfield 93, 3) := by decide +kernel
theorem dX10_unreadLength_23 : decode cX10_unreadLength 23 = .ok (.iload_n 2, 1) := by decide +kernel
theorem dX10_unreadLength_24 : decode cX10_unreadLength 24 = .ok (.iaload, 1) := by decide +kernel
theorem dX10_unreadLength_25 : decode cX10_unreadLength 25 = .ok (.if_icmp .ge 24, 3) := by decide +kernel
theorem dX10_unreadLength_28 : decode cX10_unreadLength 28 = .ok (.iload_n 3, 1) := by decide +kernel
theorem dX10_unreadLength_29 : decode cX10_unreadLength 29 = .ok (.aload_n 0, 1) := by decide +kernel
theorem dX10_unreadLength_30 : decode cX10_unreadLength 30 = .ok (.getfield 53, 3) := by decide +kernel
theorem dX10_unreadLength_33 : decode cX10_unreadLength 33 = .ok (.aload_n 0, 1) := by decide +kernel
theorem dX10_unreadLength_34 : decode cX10_unreadLength 34 = .ok (.iload_n 2, 1) := by decide +kernel
theorem dX10_unreadLength_35 : decode cX10_unreadLength 35 = .ok (.iload 4, 2) := by decide +kernel
theorem dX10_unreadLength_37 : decode cX10_unreadLength 37 = .ok (.invokevirtual 281, 3) := by decide +kernel
theorem dX10_unreadLength_40 : decode cX10_unreadLength 40 = .ok (.iaload, 1) := by decide +kernel
theorem dX10_unreadLength_41 : decode cX10_unreadLength 41 = .ok (.iadd, 1) := by decide +kernel
theorem dX10_unreadLength_42 : decode cX10_unreadLength 42 = .ok (.istore_n 3, 1) := by decide +kernel
theorem dX10_unreadLength_43 : decode cX10_unreadLength 43 = .ok (.iinc 4 1, 3) := by decide +kernel
theorem dX10_unreadLength_46 : decode cX10_unreadLength 46 = .ok (.goto (-29), 3) := by decide +kernel
theorem dX10_unreadLength_49 : decode cX10_unreadLength 49 = .ok (.iload_n 3, 1) := by decide +kernel
theorem dX10_unreadLength_50 : decode cX10_unreadLength 50 = .ok (.ireturn, 1) := by decide +kernel
theorem dX10_consumer_0 : decode cX10_consumer 0 = .ok (.aload_n 0, 1) := by decide +kernel
theorem dX10_consumer_1 : decode cX10_consumer 1 = .ok (.aload_n 0, 1) := by decide +kernel
theorem dX10_consumer_2 : decode cX10_consumer 2 = .ok (.iload_n 1, 1) := by decide +kernel
theorem dX10_consumer_3 : decode cX10_consumer 3 = .ok (.invokevirtual 364, 3) := by decide +kernel
theorem dX10_consumer_6 : decode cX10_consumer 6 = .ok (.ifCond .ne 7, 3) := by decide +kernel
theorem dX10_consumer_9 : decode cX10_consumer 9 = .ok (.iconst 1, 1) := by decide +kernel
theorem dX10_consumer_10 : decode cX10_consumer 10 = .ok (.goto 4, 3) := by decide +kernel
theorem dX10_consumer_13 : decode cX10_consumer 13 = .ok (.iconst 0, 1) := by decide +kernel
theorem dX10_consumer_14 : decode cX10_consumer 14 = .ok (.iload_n 2, 1) := by decide +kernel
theorem dX10_consumer_15 : decode cX10_consumer 15 = .ok (.iconst 0, 1) := by decide +kernel
theorem dX10_consumer_16 : decode cX10_consumer 16 = .ok (.iconst 5, 1) := by decide +kernel
theorem dX10_consumer_17 : decode cX10_consumer 17 = .ok (.invokestatic 22, 3) := by decide +kernel
theorem dX10_consumer_20 : decode cX10_consumer 20 = .ok (.ifCond .ne 7, 3) := by decide +kernel
theorem dX10_consumer_23 : decode cX10_consumer 23 = .ok (.iconst 1, 1) := by decide +kernel
theorem dX10_consumer_24 : decode cX10_consumer 24 = .ok (.goto 4, 3) := by decide +kernel
theorem dX10_consumer_27 : decode cX10_consumer 27 = .ok (.iconst 0, 1) := by decide +kernel
theorem dX10_consumer_28 : decode cX10_consumer 28 = .ok (.iconst 0, 1) := by decide +kernel
theorem dX10_consumer_29 : decode cX10_consumer 29 = .ok (.invokevirtual 14, 3) := by decide +kernel
theorem dX10_consumer_32 : decode cX10_consumer 32 = .ok (.ifCond .eq 5, 3) := by decide +kernel
theorem dX10_consumer_35 : decode cX10_consumer 35 = .ok (.iconst 0, 1) := by decide +kernel
theorem dX10_consumer_36 : decode cX10_consumer 36 = .ok (.ireturn, 1) := by decide +kernel
theorem dX10_consumer_37 : decode cX10_consumer 37 = .ok (.iload_n 2, 1) := by decide +kernel
theorem dX10_consumer_38 : decode cX10_consumer 38 = .ok (.tableswitch 66 0 4 #[34, 41, 48, 54, 60], 34) := by decide +kernel
theorem dX10_consumer_72 : decode cX10_consumer 72 = .ok (.aload_n 0, 1) := by decide +kernel
theorem dX10_consumer_73 : decode cX10_consumer 73 = .ok (.getfield 96, 3) := by decide +kernel
theorem dX10_consumer_76 : decode cX10_consumer 76 = .ok (.iload_n 1, 1) := by decide +kernel
theorem dX10_consumer_77 : decode cX10_consumer 77 = .ok (.iaload, 1) := by decide +kernel
theorem dX10_consumer_78 : decode cX10_consumer 78 = .ok (.ireturn, 1) := by decide +kernel
theorem dX10_consumer_79 : decode cX10_consumer 79 = .ok (.aload_n 0, 1) := by decide +kernel
theorem dX10_consumer_80 : decode cX10_consumer 80 = .ok (.getfield 99, 3) := by decide +kernel
theorem dX10_consumer_83 : decode cX10_consumer 83 = .ok (.iload_n 1, 1) := by decide +kernel
theorem dX10_consumer_84 : decode cX10_consumer 84 = .ok (.iaload, 1) := by decide +kernel
theorem dX10_consumer_85 : decode cX10_consumer 85 = .ok (.ireturn, 1) := by decide +kernel
theorem dX10_consumer_86 : decode cX10_consumer 86 = .ok (.aload_n 0, 1) := by decide +kernel
theorem dX10_consumer_87 : decode cX10_consumer 87 = .ok (.iload_n 1, 1) := by decide +kernel
theorem dX10_consumer_88 : decode cX10_consumer 88 = .ok (.invokevirtual 367, 3) := by decide +kernel
theorem dX10_consumer_91 : decode cX10_consumer 91 = .ok (.ireturn, 1) := by decide +kernel
theorem dX10_consumer_92 : decode cX10_consumer 92 = .ok (.aload_n 0, 1) := by decide +kernel
theorem dX10_consumer_93 : decode cX10_consumer 93 = .ok (.iload_n 1, 1) := by decide +kernel
theorem dX10_consumer_94 : decode cX10_consumer 94 = .ok (.invokevirtual 278, 3) := by decide +kernel
theorem dX10_consumer_97 : decode cX10_consumer 97 = .ok (.ireturn, 1) := by decide +kernel
theorem dX10_consumer_98 : decode cX10_consumer 98 = .ok (.aload_n 0, 1) := by decide +kernel
theorem dX10_consumer_99 : decode cX10_consumer 99 = .ok (.iload_n 1, 1) := by decide +kernel
theorem dX10_consumer_100 : decode cX10_consumer 100 = .ok (.invokevirtual 287, 3) := by decide +kernel
theorem dX10_consumer_103 : decode cX10_consumer 103 = .ok (.ireturn, 1) := by decide +kernel
theorem dX10_consumer_104 : decode cX10_consumer 104 = .ok (.aload_n 0, 1) := by decide +kernel
theorem dX10_consumer_105 : decode cX10_consumer 105 = .ok (.iload_n 1, 1) := by decide +kernel
theorem dX10_consumer_106 : decode cX10_consumer 106 = .ok (.invokevirtual 407, 3) := by decide +kernel
theorem dX10_consumer_109 : decode cX10_consumer 109 = .ok (.ireturn, 1) := by decide +kernel
theorem dX10_lag_0 : decode cX10_lag 0 = .ok (.aload_n 0, 1) := by decide +kernel
theorem dX10_lag_1 : decode cX10_lag 1 = .ok (.aload_n 0, 1) := by decide +kernel
theorem dX10_lag_2 : decode cX10_lag 2 = .ok (.iload_n 1, 1) := by decide +kernel
theorem dX10_lag_3 : decode cX10_lag 3 = .ok (.invokevirtual 364, 3) := by decide +kernel
theorem dX10_lag_6 : decode cX10_lag 6 = .ok (.ifCond .ne 7, 3) := by decide +kernel
theorem dX10_lag_9 : decode cX10_lag 9 = .ok (.iconst 1, 1) := by decide +kernel
theorem dX10_lag_10 : decode cX10_lag 10 = .ok (.goto 4, 3) := by decide +kernel
theorem dX10_lag_13 : decode cX10_lag 13 = .ok (.iconst 0, 1) := by decide +kernel
theorem dX10_lag_14 : decode cX10_lag 14 = .ok (.iconst 0, 1) := by decide +kernel
theorem dX10_lag_15 : decode cX10_lag 15 = .ok (.iconst 0, 1) := by decide +kernel
theorem dX10_lag_16 : decode cX10_lag 16 = .ok (.invokevirtual 14, 3) := by decide +kernel
theorem dX10_lag_19 : decode cX10_lag 19 = .ok (.ifCond .eq 5, 3) := by decide +kernel
theorem dX10_lag_22 : decode cX10_lag 22 = .ok (.fconst 0, 1) := by decide +kernel
theorem dX10_lag_23 : decode cX10_lag 23 = .ok (.freturn, 1) := by decide +kernel
theorem dX10_lag_24 : decode cX10_lag 24 = .ok (.aload_n 0, 1) := by decide +kernel
theorem dX10_lag_25 : decode cX10_lag 25 = .ok (.getfield 93, 3) := by decide +kernel
theorem dX10_lag_28 : decode cX10_lag 28 = .ok (.aload_n 0, 1) := by decide +kernel
theorem dX10_lag_29 : decode cX10_lag 29 = .ok (.getfield 96, 3) := by decide +kernel
theorem dX10_lag_32 : decode cX10_lag 32 = .ok (.iload_n 1, 1) := by decide +kernel
theorem dX10_lag_33 : decode cX10_lag 33 = .ok (.iaload, 1) := by decide +kernel
theorem dX10_lag_34 : decode cX10_lag 34 = .ok (.iaload, 1) := by decide +kernel
theorem dX10_lag_35 : decode cX10_lag 35 = .ok (.istore_n 2, 1) := by decide +kernel
theorem dX10_lag_36 : decode cX10_lag 36 = .ok (.iload_n 2, 1) := by decide +kernel
theorem dX10_lag_37 : decode cX10_lag 37 = .ok (.ifCond .ne 7, 3) := by decide +kernel
theorem dX10_lag_40 : decode cX10_lag 40 = .ok (.fconst 0, 1) := by decide +kernel
theorem dX10_lag_41 : decode cX10_lag 41 = .ok (.goto 12, 3) := by decide +kernel
theorem dX10_lag_44 : decode cX10_lag 44 = .ok (.aload_n 0, 1) := by decide +kernel
theorem dX10_lag_45 : decode cX10_lag 45 = .ok (.iload_n 1, 1) := by decide +kernel
theorem dX10_lag_46 : decode cX10_lag 46 = .ok (.invokevirtual 367, 3) := by decide +kernel
theorem dX10_lag_49 : decode cX10_lag 49 = .ok (.i2f, 1) := by decide +kernel
theorem dX10_lag_50 : decode cX10_lag 50 = .ok (.iload_n 2, 1) := by decide +kernel
theorem dX10_lag_51 : decode cX10_lag 51 = .ok (.i2f, 1) := by decide +kernel
theorem dX10_lag_52 : decode cX10_lag 52 = .ok (.fdiv, 1) := by decide +kernel
theorem dX10_lag_53 : decode cX10_lag 53 = .ok (.freturn, 1) := by decide +kernel
theorem dX10_holder_0 : decode cX10_holder 0 = .ok (.aload_n 0, 1) := by decide +kernel
theorem dX10_holder_1 : decode cX10_holder 1 = .ok (.iconst 0, 1) := by decide +kernel
theorem dX10_holder_2 : decode cX10_holder 2 = .ok (.putfield 1, 3) := by decide +kernel
theorem dX10_holder_5 : decode cX10_holder 5 = .ok (.iconst 0, 1) := by decide +kernel
theorem dX10_holder_6 : decode cX10_holder 6 = .ok (.istore_n 1, 1) := by decide +kernel
theorem dX10_holder_7 : decode cX10_holder 7 = .ok (.aload_n 0, 1) := by decide +kernel
theorem dX10_holder_8 : decode cX10_holder 8 = .ok (.getfield 72, 3) := by decide +kernel
theorem dX10_holder_11 : decode cX10_holder 11 = .ok (.istore_n 2, 1) := by decide +kernel
theorem dX10_holder_12 : decode cX10_holder 12 = .ok (.iconst 1, 1) := by decide +kernel
theorem dX10_holder_13 : decode cX10_holder 13 = .ok (.istore_n 3, 1) := by decide +kernel
theorem dX10_holder_14 : decode cX10_holder 14 = .ok (.iload_n 3, 1) := by decide +kernel
theorem dX10_holder_15 : decode cX10_holder 15 = .ok (.iconst 3, 1) := by decide +kernel
theorem dX10_holder_16 : decode cX10_holder 16 = .ok (.if_icmp .gt 54, 3) := by decide +kernel
theorem dX10_holder_19 : decode cX10_holder 19 = .ok (.iload_n 3, 1) := by decide +kernel
theorem dX10_holder_20 : decode cX10_holder 20 = .ok (.iconst 1, 1) := by decide +kernel
theorem dX10_holder_21 : decode cX10_holder 21 = .ok (.if_icmp .ne 10, 3) := by decide +kernel
theorem dX10_holder_24 : decode cX10_holder 24 = .ok (.aload_n 0, 1) := by decide +kernel
theorem dX10_holder_25 : decode cX10_holder 25 = .ok (.invokevirtual 290, 3) := by decide +kernel
theorem dX10_holder_28 : decode cX10_holder 28 = .ok (.goto 20, 3) := by decide +kernel
theorem dX10_holder_31 : decode cX10_holder 31 = .ok (.iload_n 3, 1) := by decide +kernel
theorem dX10_holder_32 : decode cX10_holder 32 = .ok (.iconst 2, 1) := by decide +kernel
theorem dX10_holder_33 : decode cX10_holder 33 = .ok (.if_icmp .ne 10, 3) := by decide +kernel
theorem dX10_holder_36 : decode cX10_holder 36 = .ok (.aload_n 0, 1) := by decide +kernel
theorem dX10_holder_37 : decode cX10_holder 37 = .ok (.invokevirtual 293, 3) := by decide +kernel
theorem dX10_holder_40 : decode cX10_holder 40 = .ok (.goto 8, 3) := by decide +kernel
theorem dX10_holder_43 : decode cX10_holder 43 = .ok (.aload_n 0, 1) := by decide +kernel
theorem dX10_holder_44 : decode cX10_holder 44 = .ok (.iconst (-1), 1) := by decide +kernel
theorem dX10_holder_45 : decode cX10_holder 45 = .ok (.invokevirtual 296, 3) := by decide +kernel
theorem dX10_holder_48 : decode cX10_holder 48 = .ok (.istore 4, 2) := by decide +kernel
theorem dX10_holder_50 : decode cX10_holder 50 = .ok (.iload 4, 2) := by decide +kernel
theorem dX10_holder_52 : decode cX10_holder 52 = .ok (.iload_n 2, 1) := by decide +kernel
theorem dX10_holder_53 : decode cX10_holder 53 = .ok (.if_icmp .lt 6, 3) := by decide +kernel
theorem dX10_holder_56 : decode cX10_holder 56 = .ok (.goto 8, 3) := by decide +kernel
theorem dX10_holder_59 : decode cX10_holder 59 = .ok (.iload 4, 2) := by decide +kernel
theorem dX10_holder_61 : decode cX10_holder 61 = .ok (.istore_n 2, 1) := by decide +kernel
theorem dX10_holder_62 : decode cX10_holder 62 = .ok (.iload_n 3, 1) := by decide +kernel
theorem dX10_holder_63 : decode cX10_holder 63 = .ok (.istore_n 1, 1) := by decide +kernel
theorem dX10_holder_64 : decode cX10_holder 64 = .ok (.iinc 3 1, 3) := by decide +kernel
theorem dX10_holder_67 : decode cX10_holder 67 = .ok (.goto (-53), 3) := by decide +kernel
theorem dX10_holder_70 : decode cX10_holder 70 = .ok (.iload_n 1, 1) := by decide +kernel
theorem dX10_holder_71 : decode cX10_holder 71 = .ok (.ireturn, 1) := by decide +kernel
theorem dX10_slowest_0 : decode cX10_slowest 0 = .ok (.iconst (-1), 1) := by decide +kernel
theorem dX10_slowest_1 : decode cX10_slowest 1 = .ok (.istore_n 1, 1) := by decide +kernel
theorem dX10_slowest_2 : decode cX10_slowest 2 = .ok (.iconst 0, 1) := by decide +kernel
theorem dX10_slowest_3 : decode cX10_slowest 3 = .ok (.istore_n 2, 1) := by decide +kernel
theorem dX10_slowest_4 : decode cX10_slowest 4 = .ok (.iload_n 2, 1) := by decide +kernel
theorem dX10_slowest_5 : decode cX10_slowest 5 = .ok (.aload_n 0, 1) := by decide +kernel
theorem dX10_slowest_6 : decode cX10_slowest 6 = .ok (.getfield 105, 3) := by decide +kernel
theorem dX10_slowest_9 : decode cX10_slowest 9 = .ok (.if_icmp .ge 29, 3) := by decide +kernel
theorem dX10_slowest_12 : decode cX10_slowest 12 = .ok (.iload_n 1, 1) := by decide +kernel
theorem dX10_slowest_13 : decode cX10_slowest 13 = .ok (.iconst (-1), 1) := by decide +kernel
theorem dX10_slowest_14 : decode cX10_slowest 14 = .ok (.if_icmp .eq 16, 3) := by decide +kernel
theorem dX10_slowest_17 : decode cX10_slowest 17 = .ok (.aload_n 0, 1) := by decide +kernel
theorem dX10_slowest_18 : decode cX10_slowest 18 = .ok (.iload_n 2, 1) := by decide +kernel
theorem dX10_slowest_19 : decode cX10_slowest 19 = .ok (.invokevirtual 287, 3) := by decide +kernel
theorem dX10_slowest_22 : decode cX10_slowest 22 = .ok (.aload_n 0, 1) := by decide +kernel
theorem dX10_slowest_23 : decode cX10_slowest 23 = .ok (.iload_n 1, 1) := by decide +kernel
theorem dX10_slowest_24 : decode cX10_slowest 24 = .ok (.invokevirtual 287, 3) := by decide +kernel
theorem dX10_slowest_27 : decode cX10_slowest 27 = .ok (.if_icmp .ge 5, 3) := by decide +kernel
theorem dX10_slowest_30 : decode cX10_slowest 30 = .ok (.iload_n 2, 1) := by decide +kernel
theorem dX10_slowest_31 : decode cX10_slowest 31 = .ok (.istore_n 1, 1) := by decide +kernel
theorem dX10_slowest_32 : decode cX10_slowest 32 = .ok (.iinc 2 1, 3) := by decide +kernel
theorem dX10_slowest_35 : decode cX10_slowest 35 = .ok (.goto (-31), 3) := by decide +kernel
theorem dX10_slowest_38 : decode cX10_slowest 38 = .ok (.aload_n 0, 1) := by decide +kernel
theorem dX10_slowest_39 : decode cX10_slowest 39 = .ok (.iload_n 1, 1) := by decide +kernel
theorem dX10_slowest_40 : decode cX10_slowest 40 = .ok (.iconst (-1), 1) := by decide +kernel
theorem dX10_slowest_41 : decode cX10_slowest 41 = .ok (.if_icmp .ne 7, 3) := by decide +kernel
theorem dX10_slowest_44 : decode cX10_slowest 44 = .ok (.iconst 1, 1) := by decide +kernel
theorem dX10_slowest_45 : decode cX10_slowest 45 = .ok (.goto 4, 3) := by decide +kernel
theorem dX10_slowest_48 : decode cX10_slowest 48 = .ok (.iconst 0, 1) := by decide +kernel
theorem dX10_slowest_49 : decode cX10_slowest 49 = .ok (.iconst 0, 1) := by decide +kernel
theorem dX10_slowest_50 : decode cX10_slowest 50 = .ok (.iconst 0, 1) := by decide +kernel
theorem dX10_slowest_51 : decode cX10_slowest 51 = .ok (.invokevirtual 14, 3) := by decide +kernel
theorem dX10_slowest_54 : decode cX10_slowest 54 = .ok (.ifCond .eq 7, 3) := by decide +kernel
theorem dX10_slowest_57 : decode cX10_slowest 57 = .ok (.iconst 0, 1) := by decide +kernel
theorem dX10_slowest_58 : decode cX10_slowest 58 = .ok (.goto 4, 3) := by decide +kernel
theorem dX10_slowest_61 : decode cX10_slowest 61 = .ok (.iload_n 1, 1) := by decide +kernel
theorem dX10_slowest_62 : decode cX10_slowest 62 = .ok (.ireturn, 1) := by decide +kernel
theorem dX10_wouldFree_0 : decode cX10_wouldFree 0 = .ok (.aload_n 0, 1) := by decide +kernel
theorem dX10_wouldFree_1 : decode cX10_wouldFree 1 = .ok (.aload_n 0, 1) := by decide +kernel
theorem dX10_wouldFree_2 : decode cX10_wouldFree 2 = .ok (.iload_n 1, 1) := by decide +kernel
theorem dX10_wouldFree_3 : decode cX10_wouldFree 3 = .ok (.invokevirtual 364, 3) := by decide +kernel
theorem dX10_wouldFree_6 : decode cX10_wouldFree 6 = .ok (.ifCond .ne 7, 3) := by decide +kernel
theorem dX10_wouldFree_9 : decode cX10_wouldFree 9 = .ok (.iconst 1, 1) := by decide +kernel
theorem dX10_wouldFree_10 : decode cX10_wouldFree 10 = .ok (.goto 4, 3) := by decide +kernel
theorem dX10_wouldFree_13 : decode cX10_wouldFree 13 = .ok (.iconst 0, 1) := by decide +kernel
theorem dX10_wouldFree_14 : decode cX10_wouldFree 14 = .ok (.iconst 0, 1) := by decide +kernel
theorem dX10_wouldFree_15 : decode cX10_wouldFree 15 = .ok (.iconst 0, 1) := by decide +kernel
theorem dX10_wouldFree_16 : decode cX10_wouldFree 16 = .ok (.invokevirtual 14, 3) := by decide +kernel
theorem dX10_wouldFree_19 : decode cX10_wouldFree 19 = .ok (.ifCond .eq 5, 3) := by decide +kernel
theorem dX10_wouldFree_22 : decode cX10_wouldFree 22 = .ok (.iconst 0, 1) := by decide +kernel
theorem dX10_wouldFree_23 : decode cX10_wouldFree 23 = .ok (.ireturn, 1) := by decide +kernel
theorem dX10_wouldFree_24 : decode cX10_wouldFree 24 = .ok (.aload_n 0, 1) := by decide +kernel
theorem dX10_wouldFree_25 : decode cX10_wouldFree 25 = .ok (.aload_n 0, 1) := by decide +kernel
theorem dX10_wouldFree_26 : decode cX10_wouldFree 26 = .ok (.iload_n 1, 1) := by decide +kernel
theorem dX10_wouldFree_27 : decode cX10_wouldFree 27 = .ok (.invokevirtual 299, 3) := by decide +kernel
theorem dX10_wouldFree_30 : decode cX10_wouldFree 30 = .ok (.invokevirtual 305, 3) := by decide +kernel
theorem dX10_wouldFree_33 : decode cX10_wouldFree 33 = .ok (.istore_n 2, 1) := by decide +kernel
theorem dX10_wouldFree_34 : decode cX10_wouldFree 34 = .ok (.iconst 0, 1) := by decide +kernel
theorem dX10_wouldFree_35 : decode cX10_wouldFree 35 = .ok (.istore_n 3, 1) := by decide +kernel
theorem dX10_wouldFree_36 : decode cX10_wouldFree 36 = .ok (.iconst 0, 1) := by decide +kernel
theorem dX10_wouldFree_37 : decode cX10_wouldFree 37 = .ok (.istore 4, 2) := by decide +kernel
theorem dX10_wouldFree_39 : decode cX10_wouldFree 39 = .ok (.iload 4, 2) := by decide +kernel
theorem dX10_wouldFree_41 : decode cX10_wouldFree 41 = .ok (.iload_n 2, 1) := by decide +kernel
theorem dX10_wouldFree_42 : decode cX10_wouldFree 42 = .ok (.if_icmp .ge 18, 3) := by decide +kernel
theorem dX10_wouldFree_45 : decode cX10_wouldFree 45 = .ok (.iload_n 3, 1) := by decide +kernel
theorem dX10_wouldFree_46 : decode cX10_wouldFree 46 = .ok (.aload_n 0, 1) := by decide +kernel
theorem dX10_wouldFree_47 : decode cX10_wouldFree 47 = .ok (.iload 4, 2) := by decide +kernel
theorem dX10_wouldFree_49 : decode cX10_wouldFree 49 = .ok (.invokevirtual 263, 3) := by decide +kernel
theorem dX10_wouldFree_52 : decode cX10_wouldFree 52 = .ok (.iadd, 1) := by decide +kernel
theorem dX10_wouldFree_53 : decode cX10_wouldFree 53 = .ok (.istore_n 3, 1) := by decide +kernel
theorem dX10_wouldFree_54 : decode cX10_wouldFree 54 = .ok (.iinc 4 1, 3) := by decide +kernel
theorem dX10_wouldFree_57 : decode cX10_wouldFree 57 = .ok (.goto (-18), 3) := by decide +kernel
theorem dX10_wouldFree_60 : decode cX10_wouldFree 60 = .ok (.iload_n 3, 1) := by decide +kernel
theorem dX10_wouldFree_61 : decode cX10_wouldFree 61 = .ok (.ireturn, 1) := by decide +kernel
theorem dX10_byteAt_0 : decode cX10_byteAt 0 = .ok (.iload_n 1, 1) := by decide +kernel
theorem dX10_byteAt_1 : decode cX10_byteAt 1 = .ok (.aload_n 0, 1) := by decide +kernel
theorem dX10_byteAt_2 : decode cX10_byteAt 2 = .ok (.getfield 176, 3) := by decide +kernel
theorem dX10_byteAt_5 : decode cX10_byteAt 5 = .ok (.if_icmp .ge 12, 3) := by decide +kernel
theorem dX10_byteAt_8 : decode cX10_byteAt 8 = .ok (.aload_n 0, 1) := by decide +kernel
theorem dX10_byteAt_9 : decode cX10_byteAt 9 = .ok (.getfield 7, 3) := by decide +kernel
theorem dX10_byteAt_12 : decode cX10_byteAt 12 = .ok (.iload_n 1, 1) := by decide +kernel
theorem dX10_byteAt_13 : decode cX10_byteAt 13 = .ok (.iaload, 1) := by decide +kernel
theorem dX10_byteAt_14 : decode cX10_byteAt 14 = .ok (.goto 4, 3) := by decide +kernel
theorem dX10_byteAt_17 : decode cX10_byteAt 17 = .ok (.iconst (-1), 1) := by decide +kernel
theorem dX10_byteAt_18 : decode cX10_byteAt 18 = .ok (.ireturn, 1) := by decide +kernel
theorem dX10_isLetter_0 : decode cX10_isLetter 0 = .ok (.aload_n 0, 1) := by decide +kernel
theorem dX10_isLetter_1 : decode cX10_isLetter 1 = .ok (.iload_n 1, 1) := by decide +kernel
theorem dX10_isLetter_2 : decode cX10_isLetter 2 = .ok (.invokevirtual 410, 3) := by decide +kernel
theorem dX10_isLetter_5 : decode cX10_isLetter 5 = .ok (.bipush 97, 2) := by decide +kernel
theorem dX10_isLetter_7 : decode cX10_isLetter 7 = .ok (.bipush 122, 2) := by decide +kernel
theorem dX10_isLetter_9 : decode cX10_isLetter 9 = .ok (.invokestatic 22, 3) := by decide +kernel
theorem dX10_isLetter_12 : decode cX10_isLetter 12 = .ok (.ireturn, 1) := by decide +kernel
theorem dX10_isDigit_0 : decode cX10_isDigit 0 = .ok (.aload_n 0, 1) := by decide +kernel
theorem dX10_isDigit_1 : decode cX10_isDigit 1 = .ok (.iload_n 1, 1) := by decide +kernel
theorem dX10_isDigit_2 : decode cX10_isDigit 2 = .ok (.invokevirtual 410, 3) := by decide +kernel
theorem dX10_isDigit_5 : decode cX10_isDigit 5 = .ok (.bipush 48, 2) := by decide +kernel
theorem dX10_isDigit_7 : decode cX10_isDigit 7 = .ok (.bipush 57, 2) := by decide +kernel
theorem dX10_isDigit_9 : decode cX10_isDigit 9 = .ok (.invokestatic 22, 3) := by decide +kernel
theorem dX10_isDigit_12 : decode cX10_isDigit 12 = .ok (.ireturn, 1) := by decide +kernel
theorem dX10_scanWord_0 : decode cX10_scanWord 0 = .ok (.aload_n 0, 1) := by decide +kernel
theorem dX10_scanWord_1 : decode cX10_scanWord 1 = .ok (.iconst 1, 1) := by decide +kernel
theorem dX10_scanWord_2 : decode cX10_scanWord 2 = .ok (.putfield 182, 3) := by decide +kernel
theorem dX10_scanWord_5 : decode cX10_scanWord 5 = .ok (.lconst 0, 1) := by decide +kernel
theorem dX10_scanWord_6 : decode cX10_scanWord 6 = .ok (.lstore_n 1, 1) := by decide +kernel
theorem dX10_scanWord_7 : decode cX10_scanWord 7 = .ok (.aload_n 0, 1) := by decide +kernel
theorem dX10_scanWord_8 : decode cX10_scanWord 8 = .ok (.aload_n 0, 1) := by decide +kernel
theorem dX10_scanWord_9 : decode cX10_scanWord 9 = .ok (.getfield 179, 3) := by decide +kernel
theorem dX10_scanWord_12 : decode cX10_scanWord 12 = .ok (.invokevirtual 413, 3) := by decide +kernel
theorem dX10_scanWord_15 : decode cX10_scanWord 15 = .ok (.ifCond .eq 50, 3) := by decide +kernel
theorem dX10_scanWord_18 : decode cX10_scanWord 18 = .ok (.aload_n 0, 1) := by decide +kernel
theorem dX10_scanWord_19 : decode cX10_scanWord 19 = .ok (.getfield 179, 3) := by decide +kernel
theorem dX10_scanWord_22 : decode cX10_scanWord 22 = .ok (.aload_n 0, 1) := by decide +kernel
theorem dX10_scanWord_23 : decode cX10_scanWord 23 = .ok (.getfield 185, 3) := by decide +kernel
theorem dX10_scanWord_26 : decode cX10_scanWord 26 = .ok (.isub, 1) := by decide +kernel
theorem dX10_scanWord_27 : decode cX10_scanWord 27 = .ok (.bipush 8, 2) := by decide +kernel
theorem dX10_scanWord_29 : decode cX10_scanWord 29 = .ok (.if_icmp .ge 23, 3) := by decide +kernel
theorem dX10_scanWord_32 : decode cX10_scanWord 32 = .ok (.lload_n 1, 1) := by decide +kernel
theorem dX10_scanWord_33 : decode cX10_scanWord 33 = .ok (.ldc2_w 416, 3) := by decide +kernel
theorem dX10_scanWord_36 : decode cX10_scanWord 36 = .ok (.lmul, 1) := by decide +kernel
theorem dX10_scanWord_37 : decode cX10_scanWord 37 = .ok (.aload_n 0, 1) := by decide +kernel
theorem dX10_scanWord_38 : decode cX10_scanWord 38 = .ok (.aload_n 0, 1) := by decide +kernel
theorem dX10_scanWord_39 : decode cX10_scanWord 39 = .ok (.getfield 179, 3) := by decide +kernel
theorem dX10_scanWord_42 : decode cX10_scanWord 42 = .ok (.invokevirtual 410, 3) := by decide +kernel
theorem dX10_scanWord_45 : decode cX10_scanWord 45 = .ok (.i2l, 1) := by decide +kernel
theorem dX10_scanWord_46 : decode cX10_scanWord 46 = .ok (.ladd, 1) := by decide +kernel
theorem dX10_scanWord_47 : decode cX10_scanWord 47 = .ok (.ldc2_w 418, 3) := by decide +kernel
theorem dX10_scanWord_50 : decode cX10_scanWord 50 = .ok (.lsub, 1) := by decide +kernel
theorem dX10_scanWord_51 : decode cX10_scanWord 51 = .ok (.lstore_n 1, 1) := by decide +kernel
theorem dX10_scanWord_52 : decode cX10_scanWord 52 = .ok (.aload_n 0, 1) := by decide +kernel
theorem dX10_scanWord_53 : decode cX10_scanWord 53 = .ok (.dup, 1) := by decide +kernel
theorem dX10_scanWord_54 : decode cX10_scanWord 54 = .ok (.getfield 179, 3) := by decide +kernel
theorem dX10_scanWord_57 : decode cX10_scanWord 57 = .ok (.iconst 1, 1) := by decide +kernel
theorem dX10_scanWord_58 : decode cX10_scanWord 58 = .ok (.iadd, 1) := by decide +kernel
theorem dX10_scanWord_59 : decode cX10_scanWord 59 = .ok (.putfield 179, 3) := by decide +kernel
theorem dX10_scanWord_62 : decode cX10_scanWord 62 = .ok (.goto (-55), 3) := by decide +kernel
theorem dX10_scanWord_65 : decode cX10_scanWord 65 = .ok (.aload_n 0, 1) := by decide +kernel
theorem dX10_scanWord_66 : decode cX10_scanWord 66 = .ok (.getfield 179, 3) := by decide +kernel
theorem dX10_scanWord_69 : decode cX10_scanWord 69 = .ok (.aload_n 0, 1) := by decide +kernel
theorem dX10_scanWord_70 : decode cX10_scanWord 70 = .ok (.getfield 185, 3) := by decide +kernel
theorem dX10_scanWord_73 : decode cX10_scanWord 73 = .ok (.isub, 1) := by decide +kernel
theorem dX10_scanWord_74 : decode cX10_scanWord 74 = .ok (.bipush 8, 2) := by decide +kernel
theorem dX10_scanWord_76 : decode cX10_scanWord 76 = .ok (.if_icmp .le 8, 3) := by decide +kernel
theorem dX10_scanWord_79 : decode cX10_scanWord 79 = .ok (.aload_n 0, 1) := by decide +kernel
theorem dX10_scanWord_80 : decode cX10_scanWord 80 = .ok (.iconst 4, 1) := by decide +kernel
theorem dX10_scanWord_81 : decode cX10_scanWord 81 = .ok (.putfield 182, 3) := by decide +kernel
theorem dX10_scanWord_84 : decode cX10_scanWord 84 = .ok (.iconst 0, 1) := by decide +kernel
theorem dX10_scanWord_85 : decode cX10_scanWord 85 = .ok (.istore_n 3, 1) := by decide +kernel
theorem dX10_scanWord_86 : decode cX10_scanWord 86 = .ok (.iload_n 3, 1) := by decide +kernel
theorem dX10_scanWord_87 : decode cX10_scanWord 87 = .ok (.bipush 18, 2) := by decide +kernel
theorem dX10_scanWord_89 : decode cX10_scanWord 89 = .ok (.if_icmp .ge 25, 3) := by decide +kernel
theorem dX10_scanWord_92 : decode cX10_scanWord 92 = .ok (.aload_n 0, 1) := by decide +kernel
theorem dX10_scanWord_93 : decode cX10_scanWord 93 = .ok (.getfield 172, 3) := by decide +kernel
theorem dX10_scanWord_96 : decode cX10_scanWord 96 = .ok (.iload_n 3, 1) := by decide +kernel
theorem dX10_scanWord_97 : decode cX10_scanWord 97 = .ok (.laload, 1) := by decide +kernel
theorem dX10_scanWord_98 : decode cX10_scanWord 98 = .ok (.lload_n 1, 1) := by decide +kernel
theorem dX10_scanWord_99 : decode cX10_scanWord 99 = .ok (.lcmp, 1) := by decide +kernel
theorem dX10_scanWord_100 : decode cX10_scanWord 100 = .ok (.ifCond .ne 8, 3) := by decide +kernel
theorem dX10_scanWord_103 : decode cX10_scanWord 103 = .ok (.aload_n 0, 1) := by decide +kernel
theorem dX10_scanWord_104 : decode cX10_scanWord 104 = .ok (.iload_n 3, 1) := by decide +kernel
theorem dX10_scanWord_105 : decode cX10_scanWord 105 = .ok (.putfield 194, 3) := by decide +kernel
theorem dX10_scanWord_108 : decode cX10_scanWord 108 = .ok (.iinc 3 1, 3) := by decide +kernel
theorem dX10_scanWord_111 : decode cX10_scanWord 111 = .ok (.goto (-25), 3) := by decide +kernel
theorem dX10_scanWord_114 : decode cX10_scanWord 114 = .ok (.return_, 1) := by decide +kernel
theorem dX10_scanNumber_0 : decode cX10_scanNumber 0 = .ok (.aload_n 0, 1) := by decide +kernel
theorem dX10_scanNumber_1 : decode cX10_scanNumber 1 = .ok (.iconst 2, 1) := by decide +kernel
theorem dX10_scanNumber_2 : decode cX10_scanNumber 2 = .ok (.putfield 182, 3) := by decide +kernel
theorem dX10_scanNumber_5 : decode cX10_scanNumber 5 = .ok (.aload_n 0, 1) := by decide +kernel
theorem dX10_scanNumber_6 : decode cX10_scanNumber 6 = .ok (.iconst 0, 1) := by decide +kernel
theorem dX10_scanNumber_7 : decode cX10_scanNumber 7 = .ok (.putfield 188, 3) := by decide +kernel
theorem dX10_scanNumber_10 : decode cX10_scanNumber 10 = .ok (.aload_n 0, 1) := by decide +kernel
theorem dX10_scanNumber_11 : decode cX10_scanNumber 11 = .ok (.aload_n 0, 1) := by decide +kernel
theorem dX10_scanNumber_12 : decode cX10_scanNumber 12 = .ok (.getfield 179, 3) := by decide +kernel
theorem dX10_scanNumber_15 : decode cX10_scanNumber 15 = .ok (.invokevirtual 420, 3) := by decide +kernel
theorem dX10_scanNumber_18 : decode cX10_scanNumber 18 = .ok (.ifCond .eq 52, 3) := by decide +kernel
theorem dX10_scanNumber_21 : decode cX10_scanNumber 21 = .ok (.aload_n 0, 1) := by decide +kernel
theorem dX10_scanNumber_22 : decode cX10_scanNumber 22 = .ok (.getfield 179, 3) := by decide +kernel
theorem dX10_scanNumber_25 : decode cX10_scanNumber 25 = .ok (.aload_n 0, 1) := by decide +kernel
theorem dX10_scanNumber_26 : decode cX10_scanNumber 26 = .ok (.getfield 185, 3) := by decide +kernel
theorem dX10_scanNumber_29 : decode cX10_scanNumber 29 = .ok (.isub, 1) := by decide +kernel
theorem dX10_scanNumber_30 : decode cX10_scanNumber 30 = .ok (.iconst 5, 1) := by decide +kernel
theorem dX10_scanNumber_31 : decode cX10_scanNumber 31 = .ok (.if_icmp .ge 26, 3) := by decide +kernel
theorem dX10_scanNumber_34 : decode cX10_scanNumber 34 = .ok (.aload_n 0, 1) := by decide +kernel
theorem dX10_scanNumber_35 : decode cX10_scanNumber 35 = .ok (.bipush 10, 2) := by decide +kernel
theorem dX10_scanNumber_37 : decode cX10_scanNumber 37 = .ok (.aload_n 0, 1) := by decide +kernel
theorem dX10_scanNumber_38 : decode cX10_scanNumber 38 = .ok (.getfield 188, 3) := by decide +kernel
theorem dX10_scanNumber_41 : decode cX10_scanNumber 41 = .ok (.imul, 1) := by decide +kernel
theorem dX10_scanNumber_42 : decode cX10_scanNumber 42 = .ok (.aload_n 0, 1) := by decide +kernel
theorem dX10_scanNumber_43 : decode cX10_scanNumber 43 = .ok (.aload_n 0, 1) := by decide +kernel
theorem dX10_scanNumber_44 : decode cX10_scanNumber 44 = .ok (.getfield 179, 3) := by decide +kernel
theorem dX10_scanNumber_47 : decode cX10_scanNumber 47 = .ok (.invokevirtual 410, 3) := by decide +kernel
theorem dX10_scanNumber_50 : decode cX10_scanNumber 50 = .ok (.iadd, 1) := by decide +kernel
theorem dX10_scanNumber_51 : decode cX10_scanNumber 51 = .ok (.bipush 48, 2) := by decide +kernel
theorem dX10_scanNumber_53 : decode cX10_scanNumber 53 = .ok (.isub, 1) := by decide +kernel
theorem dX10_scanNumber_54 : decode cX10_scanNumber 54 = .ok (.putfield 188, 3) := by decide +kernel
theorem dX10_scanNumber_57 : decode cX10_scanNumber 57 = .ok (.aload_n 0, 1) := by decide +kernel
theorem dX10_scanNumber_58 : decode cX10_scanNumber 58 = .ok (.dup, 1) := by decide +kernel
theorem dX10_scanNumber_59 : decode cX10_scanNumber 59 = .ok (.getfield 179, 3) := by decide +kernel
theorem dX10_scanNumber_62 : decode cX10_scanNumber 62 = .ok (.iconst 1, 1) := by decide +kernel
theorem dX10_scanNumber_63 : decode cX10_scanNumber 63 = .ok (.iadd, 1) := by decide +kernel
theorem dX10_scanNumber_64 : decode cX10_scanNumber 64 = .ok (.putfield 179, 3) := by decide +kernel
theorem dX10_scanNumber_67 : decode cX10_scanNumber 67 = .ok (.goto (-57), 3) := by decide +kernel
theorem dX10_scanNumber_70 : decode cX10_scanNumber 70 = .ok (.aload_n 0, 1) := by decide +kernel
theorem dX10_scanNumber_71 : decode cX10_scanNumber 71 = .ok (.getfield 179, 3) := by decide +kernel
theorem dX10_scanNumber_74 : decode cX10_scanNumber 74 = .ok (.aload_n 0, 1) := by decide +kernel
theorem dX10_scanNumber_75 : decode cX10_scanNumber 75 = .ok (.getfield 185, 3) := by decide +kernel
theorem dX10_scanNumber_78 : decode cX10_scanNumber 78 = .ok (.isub, 1) := by decide +kernel
theorem dX10_scanNumber_79 : decode cX10_scanNumber 79 = .ok (.iconst 5, 1) := by decide +kernel
theorem dX10_scanNumber_80 : decode cX10_scanNumber 80 = .ok (.if_icmp .le 8, 3) := by decide +kernel
theorem dX10_scanNumber_83 : decode cX10_scanNumber 83 = .ok (.aload_n 0, 1) := by decide +kernel
theorem dX10_scanNumber_84 : decode cX10_scanNumber 84 = .ok (.iconst 4, 1) := by decide +kernel
theorem dX10_scanNumber_85 : decode cX10_scanNumber 85 = .ok (.putfield 182, 3) := by decide +kernel
theorem dX10_scanNumber_88 : decode cX10_scanNumber 88 = .ok (.return_, 1) := by decide +kernel
theorem dX10_scan_0 : decode cX10_scan 0 = .ok (.aload_n 0, 1) := by decide +kernel
theorem dX10_scan_1 : decode cX10_scan 1 = .ok (.aload_n 0, 1) := by decide +kernel
theorem dX10_scan_2 : decode cX10_scan 2 = .ok (.getfield 179, 3) := by decide +kernel
theorem dX10_scan_5 : decode cX10_scan 5 = .ok (.invokevirtual 410, 3) := by decide +kernel
theorem dX10_scan_8 : decode cX10_scan 8 = .ok (.bipush 32, 2) := by decide +kernel
theorem dX10_scan_10 : decode cX10_scan 10 = .ok (.if_icmp .eq 16, 3) := by decide +kernel
theorem dX10_scan_13 : decode cX10_scan 13 = .ok (.aload_n 0, 1) := by decide +kernel
theorem dX10_scan_14 : decode cX10_scan 14 = .ok (.aload_n 0, 1) := by decide +kernel
theorem dX10_scan_15 : decode cX10_scan 15 = .ok (.getfield 179, 3) := by decide +kernel
theorem dX10_scan_18 : decode cX10_scan 18 = .ok (.invokevirtual 410, 3) := by decide +kernel
theorem dX10_scan_21 : decode cX10_scan 21 = .ok (.bipush 10, 2) := by decide +kernel
theorem dX10_scan_23 : decode cX10_scan 23 = .ok (.if_icmp .ne 16, 3) := by decide +kernel
theorem dX10_scan_26 : decode cX10_scan 26 = .ok (.aload_n 0, 1) := by decide +kernel
theorem dX10_scan_27 : decode cX10_scan 27 = .ok (.dup, 1) := by decide +kernel
theorem dX10_scan_28 : decode cX10_scan 28 = .ok (.getfield 179, 3) := by decide +kernel
theorem dX10_scan_31 : decode cX10_scan 31 = .ok (.iconst 1, 1) := by decide +kernel
theorem dX10_scan_32 : decode cX10_scan 32 = .ok (.iadd, 1) := by decide +kernel
theorem dX10_scan_33 : decode cX10_scan 33 = .ok (.putfield 179, 3) := by decide +kernel
theorem dX10_scan_36 : decode cX10_scan 36 = .ok (.goto (-36), 3) := by decide +kernel
theorem dX10_scan_39 : decode cX10_scan 39 = .ok (.aload_n 0, 1) := by decide +kernel
theorem dX10_scan_40 : decode cX10_scan 40 = .ok (.aload_n 0, 1) := by decide +kernel
theorem dX10_scan_41 : decode cX10_scan 41 = .ok (.getfield 179, 3) := by decide +kernel
theorem dX10_scan_44 : decode cX10_scan 44 = .ok (.putfield 185, 3) := by decide +kernel
theorem dX10_scan_47 : decode cX10_scan 47 = .ok (.aload_n 0, 1) := by decide +kernel
theorem dX10_scan_48 : decode cX10_scan 48 = .ok (.iconst (-1), 1) := by decide +kernel
theorem dX10_scan_49 : decode cX10_scan 49 = .ok (.putfield 194, 3) := by decide +kernel
theorem dX10_scan_52 : decode cX10_scan 52 = .ok (.aload_n 0, 1) := by decide +kernel
theorem dX10_scan_53 : decode cX10_scan 53 = .ok (.aload_n 0, 1) := by decide +kernel
theorem dX10_scan_54 : decode cX10_scan 54 = .ok (.getfield 179, 3) := by decide +kernel
theorem dX10_scan_57 : decode cX10_scan 57 = .ok (.invokevirtual 410, 3) := by decide +kernel
theorem dX10_scan_60 : decode cX10_scan 60 = .ok (.ifCond .ge 11, 3) := by decide +kernel
theorem dX10_scan_63 : decode cX10_scan 63 = .ok (.aload_n 0, 1) := by decide +kernel
theorem dX10_scan_64 : decode cX10_scan 64 = .ok (.iconst 0, 1) := by decide +kernel
theorem dX10_scan_65 : decode cX10_scan 65 = .ok (.putfield 182, 3) := by decide +kernel
theorem dX10_scan_68 : decode cX10_scan 68 = .ok (.goto 66, 3) := by decide +kernel
theorem dX10_scan_71 : decode cX10_scan 71 = .ok (.aload_n 0, 1) := by decide +kernel
theorem dX10_scan_72 : decode cX10_scan 72 = .ok (.aload_n 0, 1) := by decide +kernel
theorem dX10_scan_73 : decode cX10_scan 73 = .ok (.getfield 179, 3) := by decide +kernel
theorem dX10_scan_76 : decode cX10_scan 76 = .ok (.invokevirtual 413, 3) := by decide +kernel
theorem dX10_scan_79 : decode cX10_scan 79 = .ok (.ifCond .eq 10, 3) := by decide +kernel
theorem dX10_scan_82 : decode cX10_scan 82 = .ok (.aload_n 0, 1) := by decide +kernel
theorem dX10_scan_83 : decode cX10_scan 83 = .ok (.invokevirtual 423, 3) := by decide +kernel
theorem dX10_scan_86 : decode cX10_scan 86 = .ok (.goto 48, 3) := by decide +kernel
theorem dX10_scan_89 : decode cX10_scan 89 = .ok (.aload_n 0, 1) := by decide +kernel
theorem dX10_scan_90 : decode cX10_scan 90 = .ok (.aload_n 0, 1) := by decide +kernel
theorem dX10_scan_91 : decode cX10_scan 91 = .ok (.getfield 179, 3) := by decide +kernel
theorem dX10_scan_94 : decode cX10_scan 94 = .ok (.invokevirtual 420, 3) := by decide +kernel
theorem dX10_scan_97 : decode cX10_scan 97 = .ok (.ifCond .eq 10, 3) := by decide +kernel
theorem dX10_scan_100 : decode cX10_scan 100 = .ok (.aload_n 0, 1) := by decide +kernel
theorem dX10_scan_101 : decode cX10_scan 101 = .ok (.invokevirtual 426, 3) := by decide +kernel
theorem dX10_scan_104 : decode cX10_scan 104 = .ok (.goto 30, 3) := by decide +kernel
theorem dX10_scan_107 : decode cX10_scan 107 = .ok (.aload_n 0, 1) := by decide +kernel
theorem dX10_scan_108 : decode cX10_scan 108 = .ok (.iconst 3, 1) := by decide +kernel
theorem dX10_scan_109 : decode cX10_scan 109 = .ok (.putfield 182, 3) := by decide +kernel
theorem dX10_scan_112 : decode cX10_scan 112 = .ok (.aload_n 0, 1) := by decide +kernel
theorem dX10_scan_113 : decode cX10_scan 113 = .ok (.aload_n 0, 1) := by decide +kernel
theorem dX10_scan_114 : decode cX10_scan 114 = .ok (.aload_n 0, 1) := by decide +kernel
theorem dX10_scan_115 : decode cX10_scan 115 = .ok (.getfield 179, 3) := by decide +kernel
theorem dX10_scan_118 : decode cX10_scan 118 = .ok (.invokevirtual 410, 3) := by decide +kernel
theorem dX10_scan_121 : decode cX10_scan 121 = .ok (.putfield 191, 3) := by decide +kernel
theorem dX10_scan_124 : decode cX10_scan 124 = .ok (.aload_n 0, 1) := by decide +kernel
theorem dX10_scan_125 : decode cX10_scan 125 = .ok (.dup, 1) := by decide +kernel
theorem dX10_scan_126 : decode cX10_scan 126 = .ok (.getfield 179, 3) := by decide +kernel
theorem dX10_scan_129 : decode cX10_scan 129 = .ok (.iconst 1, 1) := by decide +kernel
theorem dX10_scan_130 : decode cX10_scan 130 = .ok (.iadd, 1) := by decide +kernel
theorem dX10_scan_131 : decode cX10_scan 131 = .ok (.putfield 179, 3) := by decide +kernel
theorem dX10_scan_134 : decode cX10_scan 134 = .ok (.return_, 1) := by decide +kernel
theorem dX10_ok_0 : decode cX10_ok 0 = .ok (.aload_n 0, 1) := by decide +kernel
theorem dX10_ok_1 : decode cX10_ok 1 = .ok (.getfield 197, 3) := by decide +kernel
theorem dX10_ok_4 : decode cX10_ok 4 = .ok (.ifCond .ne 7, 3) := by decide +kernel
theorem dX10_ok_7 : decode cX10_ok 7 = .ok (.iconst 1, 1) := by decide +kernel
theorem dX10_ok_8 : decode cX10_ok 8 = .ok (.goto 4, 3) := by decide +kernel
theorem dX10_ok_11 : decode cX10_ok 11 = .ok (.iconst 0, 1) := by decide +kernel
theorem dX10_ok_12 : decode cX10_ok 12 = .ok (.ireturn, 1) := by decide +kernel
theorem dX10_fail_0 : decode cX10_fail 0 = .ok (.aload_n 0, 1) := by decide +kernel
theorem dX10_fail_1 : decode cX10_fail 1 = .ok (.getfield 197, 3) := by decide +kernel
theorem dX10_fail_4 : decode cX10_fail 4 = .ok (.ifCond .eq 4, 3) := by decide +kernel
theorem dX10_fail_7 : decode cX10_fail 7 = .ok (.return_, 1) := by decide +kernel
theorem dX10_fail_8 : decode cX10_fail 8 = .ok (.aload_n 0, 1) := by decide +kernel
theorem dX10_fail_9 : decode cX10_fail 9 = .ok (.iload_n 1, 1) := by decide +kernel
theorem dX10_fail_10 : decode cX10_fail 10 = .ok (.putfield 197, 3) := by decide +kernel
theorem dX10_fail_13 : decode cX10_fail 13 = .ok (.aload_n 0, 1) := by decide +kernel
theorem dX10_fail_14 : decode cX10_fail 14 = .ok (.aload_n 0, 1) := by decide +kernel
theorem dX10_fail_15 : decode cX10_fail 15 = .ok (.getfield 185, 3) := by decide +kernel
theorem dX10_fail_18 : decode cX10_fail 18 = .ok (.putfield 200, 3) := by decide +kernel
theorem dX10_fail_21 : decode cX10_fail 21 = .ok (.return_, 1) := by decide +kernel
theorem dX10_isKeyword_0 : decode cX10_isKeyword 0 = .ok (.aload_n 0, 1) := by decide +kernel
theorem dX10_isKeyword_1 : decode cX10_isKeyword 1 = .ok (.getfield 182, 3) := by decide +kernel
theorem dX10_isKeyword_4 : decode cX10_isKeyword 4 = .ok (.iconst 1, 1) := by decide +kernel
theorem dX10_isKeyword_5 : decode cX10_isKeyword 5 = .ok (.if_icmp .ne 15, 3) := by decide +kernel
theorem dX10_isKeyword_8 : decode cX10_isKeyword 8 = .ok (.aload_n 0, 1) := by decide +kernel
theorem dX10_isKeyword_9 : decode cX10_isKeyword 9 = .ok (.getfield 194, 3) := by decide +kernel
theorem dX10_isKeyword_12 : decode cX10_isKeyword 12 = .ok (.iload_n 1, 1) := by decide +kernel
theorem dX10_isKeyword_13 : decode cX10_isKeyword 13 = .ok (.if_icmp .ne 7, 3) := by decide +kernel
theorem dX10_isKeyword_16 : decode cX10_isKeyword 16 = .ok (.iconst 1, 1) := by decide +kernel
theorem dX10_isKeyword_17 : decode cX10_isKeyword 17 = .ok (.goto 4, 3) := by decide +kernel
theorem dX10_isKeyword_20 : decode cX10_isKeyword 20 = .ok (.iconst 0, 1) := by decide +kernel
theorem dX10_isKeyword_21 : decode cX10_isKeyword 21 = .ok (.ireturn, 1) := by decide +kernel
theorem dX10_isSign_0 : decode cX10_isSign 0 = .ok (.aload_n 0, 1) := by decide +kernel
theorem dX10_isSign_1 : decode cX10_isSign 1 = .ok (.getfield 182, 3) := by decide +kernel
theorem dX10_isSign_4 : decode cX10_isSign 4 = .ok (.iconst 3, 1) := by decide +kernel
theorem dX10_isSign_5 : decode cX10_isSign 5 = .ok (.if_icmp .ne 15, 3) := by decide +kernel
theorem dX10_isSign_8 : decode cX10_isSign 8 = .ok (.aload_n 0, 1) := by decide +kernel
theorem dX10_isSign_9 : decode cX10_isSign 9 = .ok (.getfield 191, 3) := by decide +kernel
theorem dX10_isSign_12 : decode cX10_isSign 12 = .ok (.iload_n 1, 1) := by decide +kernel
theorem dX10_isSign_13 : decode cX10_isSign 13 = .ok (.if_icmp .ne 7, 3) := by decide +kernel
theorem dX10_isSign_16 : decode cX10_isSign 16 = .ok (.iconst 1, 1) := by decide +kernel
theorem dX10_isSign_17 : decode cX10_isSign 17 = .ok (.goto 4, 3) := by decide +kernel
theorem dX10_isSign_20 : decode cX10_isSign 20 = .ok (.iconst 0, 1) := by decide +kernel
theorem dX10_isSign_21 : decode cX10_isSign 21 = .ok (.ireturn, 1) := by decide +kernel
theorem dX10_requireSign_0 : decode cX10_requireSign 0 = .ok (.aload_n 0, 1) := by decide +kernel
theorem dX10_requireSign_1 : decode cX10_requireSign 1 = .ok (.invokevirtual 429, 3) := by decide +kernel
theorem dX10_requireSign_4 : decode cX10_requireSign 4 = .ok (.ifCond .ne 4, 3) := by decide +kernel
theorem dX10_requireSign_7 : decode cX10_requireSign 7 = .ok (.return_, 1) := by decide +kernel
theorem dX10_requireSign_8 : decode cX10_requireSign 8 = .ok (.aload_n 0, 1) := by decide +kernel
theorem dX10_requireSign_9 : decode cX10_requireSign 9 = .ok (.iload_n 1, 1) := by decide +kernel
theorem dX10_requireSign_10 : decode cX10_requireSign 10 = .ok (.invokevirtual 432, 3) := by decide +kernel
theorem dX10_requireSign_13 : decode cX10_requireSign 13 = .ok (.ifCond .eq 10, 3) := by decide +kernel
theorem dX10_requireSign_16 : decode cX10_requireSign 16 = .ok (.aload_n 0, 1) := by decide +kernel
theorem dX10_requireSign_17 : decode cX10_requireSign 17 = .ok (.invokevirtual 435, 3) := by decide +kernel
theorem dX10_requireSign_20 : decode cX10_requireSign 20 = .ok (.goto 8, 3) := by decide +kernel
theorem dX10_requireSign_23 : decode cX10_requireSign 23 = .ok (.aload_n 0, 1) := by decide +kernel
theorem dX10_requireSign_24 : decode cX10_requireSign 24 = .ok (.iconst 1, 1) := by decide +kernel
theorem dX10_requireSign_25 : decode cX10_requireSign 25 = .ok (.invokevirtual 438, 3) := by decide +kernel
theorem dX10_requireSign_28 : decode cX10_requireSign 28 = .ok (.return_, 1) := by decide +kernel
theorem dX10_takeNumber_0 : decode cX10_takeNumber 0 = .ok (.aload_n 0, 1) := by decide +kernel
theorem dX10_takeNumber_1 : decode cX10_takeNumber 1 = .ok (.getfield 182, 3) := by decide +kernel
theorem dX10_takeNumber_4 : decode cX10_takeNumber 4 = .ok (.iconst 2, 1) := by decide +kernel
theorem dX10_takeNumber_5 : decode cX10_takeNumber 5 = .ok (.if_icmp .eq 8, 3) := by decide +kernel
theorem dX10_takeNumber_8 : decode cX10_takeNumber 8 = .ok (.aload_n 0, 1) := by decide +kernel
theorem dX10_takeNumber_9 : decode cX10_takeNumber 9 = .ok (.iconst 1, 1) := by decide +kernel
theorem dX10_takeNumber_10 : decode cX10_takeNumber 10 = .ok (.invokevirtual 438, 3) := by decide +kernel
theorem dX10_takeNumber_13 : decode cX10_takeNumber 13 = .ok (.aload_n 0, 1) := by decide +kernel
theorem dX10_takeNumber_14 : decode cX10_takeNumber 14 = .ok (.getfield 188, 3) := by decide +kernel
theorem dX10_takeNumber_17 : decode cX10_takeNumber 17 = .ok (.istore_n 1, 1) := by decide +kernel
theorem dX10_takeNumber_18 : decode cX10_takeNumber 18 = .ok (.aload_n 0, 1) := by decide +kernel
theorem dX10_takeNumber_19 : decode cX10_takeNumber 19 = .ok (.invokevirtual 429, 3) := by decide +kernel
theorem dX10_takeNumber_22 : decode cX10_takeNumber 22 = .ok (.ifCond .eq 7, 3) := by decide +kernel
theorem dX10_takeNumber_25 : decode cX10_takeNumber 25 = .ok (.aload_n 0, 1) := by decide +kernel
theorem dX10_takeNumber_26 : decode cX10_takeNumber 26 = .ok (.invokevirtual 435, 3) := by decide +kernel
theorem dX10_takeNumber_29 : decode cX10_takeNumber 29 = .ok (.iload_n 1, 1) := by decide +kernel
theorem dX10_takeNumber_30 : decode cX10_takeNumber 30 = .ok (.ireturn, 1) := by decide +kernel
theorem dX10_numbersOf_0 : decode cX10_numbersOf 0 = .ok (.iload_n 0, 1) := by decide +kernel
theorem dX10_numbersOf_1 : decode cX10_numbersOf 1 = .ok (.tableswitch 65 0 10 #[59, 65, 65, 61, 65, 63, 61, 65, 63, 59, 59], 59) := by decide +kernel
theorem dX10_numbersOf_60 : decode cX10_numbersOf 60 = .ok (.iconst 0, 1) := by decide +kernel
theorem dX10_numbersOf_61 : decode cX10_numbersOf 61 = .ok (.ireturn, 1) := by decide +kernel
theorem dX10_numbersOf_62 : decode cX10_numbersOf 62 = .ok (.iconst 3, 1) := by decide +kernel
theorem dX10_numbersOf_63 : decode cX10_numbersOf 63 = .ok (.ireturn, 1) := by decide +kernel
theorem dX10_numbersOf_64 : decode cX10_numbersOf 64 = .ok (.iconst 2, 1) := by decide +kernel
theorem dX10_numbersOf_65 : decode cX10_numbersOf 65 = .ok (.ireturn, 1) := by decide +kernel
theorem dX10_numbersOf_66 : decode cX10_numbersOf 66 = .ok (.iconst 1, 1) := by decide +kernel
theorem dX10_numbersOf_67 : decode cX10_numbersOf 67 = .ok (.ireturn, 1) := by decide +kernel
theorem dX10_takesTx_0 : decode cX10_takesTx 0 = .ok (.iload_n 0, 1) := by decide +kernel
theorem dX10_takesTx_1 : decode cX10_takesTx 1 = .ok (.iconst 3, 1) := by decide +kernel
theorem dX10_takesTx_2 : decode cX10_takesTx 2 = .ok (.bipush 6, 2) := by decide +kernel
theorem dX10_takesTx_4 : decode cX10_takesTx 4 = .ok (.invokestatic 22, 3) := by decide +kernel
theorem dX10_takesTx_7 : decode cX10_takesTx 7 = .ok (.ireturn, 1) := by decide +kernel
theorem dX10_parseAtom_0 : decode cX10_parseAtom 0 = .ok (.aload_n 0, 1) := by decide +kernel
theorem dX10_parseAtom_1 : decode cX10_parseAtom 1 = .ok (.getfield 182, 3) := by decide +kernel
theorem dX10_parseAtom_4 : decode cX10_parseAtom 4 = .ok (.iconst 2, 1) := by decide +kernel
theorem dX10_parseAtom_5 : decode cX10_parseAtom 5 = .ok (.if_icmp .ne 7, 3) := by decide +kernel
theorem dX10_parseAtom_8 : decode cX10_parseAtom 8 = .ok (.iconst 1, 1) := by decide +kernel
theorem dX10_parseAtom_9 : decode cX10_parseAtom 9 = .ok (.goto 4, 3) := by decide +kernel
theorem dX10_parseAtom_12 : decode cX10_parseAtom 12 = .ok (.iconst 0, 1) := by decide +kernel
theorem dX10_parseAtom_13 : decode cX10_parseAtom 13 = .ok (.istore_n 2, 1) := by decide +kernel
theorem dX10_parseAtom_14 : decode cX10_parseAtom 14 = .ok (.aload_n 0, 1) := by decide +kernel
theorem dX10_parseAtom_15 : decode cX10_parseAtom 15 = .ok (.invokevirtual 429, 3) := by decide +kernel
theorem dX10_parseAtom_18 : decode cX10_parseAtom 18 = .ok (.ifCond .eq 29, 3) := by decide +kernel
theorem dX10_parseAtom_21 : decode cX10_parseAtom 21 = .ok (.iload_n 2, 1) := by decide +kernel
theorem dX10_parseAtom_22 : decode cX10_parseAtom 22 = .ok (.ifCond .ne 31, 3) := by decide +kernel
theorem dX10_parseAtom_25 : decode cX10_parseAtom 25 = .ok (.aload_n 0, 1) := by decide +kernel
theorem dX10_parseAtom_26 : decode cX10_parseAtom 26 = .ok (.getfield 182, 3) := by decide +kernel
theorem dX10_parseAtom_29 : decode cX10_parseAtom 29 = .ok (.iconst 1, 1) := by decide +kernel
theorem dX10_parseAtom_30 : decode cX10_parseAtom 30 = .ok (.if_icmp .ne 17, 3) := by decide +kernel
theorem dX10_parseAtom_33 : decode cX10_parseAtom 33 = .ok (.aload_n 0, 1) := by decide +kernel
theorem dX10_parseAtom_34 : decode cX10_parseAtom 34 = .ok (.getfield 194, 3) := by decide +kernel
theorem dX10_parseAtom_37 : decode cX10_parseAtom 37 = .ok (.bipush 14, 2) := by decide +kernel
theorem dX10_parseAtom_39 : decode cX10_parseAtom 39 = .ok (.bipush 17, 2) := by decide +kernel
theorem dX10_parseAtom_41 : decode cX10_parseAtom 41 = .ok (.invokestatic 22, 3) := by decide +kernel
theorem dX10_parseAtom_44 : decode cX10_parseAtom 44 = .ok (.ifCond .ne 9, 3) := by decide +kernel
theorem dX10_parseAtom_47 : decode cX10_parseAtom 47 = .ok (.aload_n 0, 1) := by decide +kernel
theorem dX10_parseAtom_48 : decode cX10_parseAtom 48 = .ok (.iconst 1, 1) := by decide +kernel
theorem dX10_parseAtom_49 : decode cX10_parseAtom 49 = .ok (.invokevirtual 438, 3) := by decide +kernel
theorem dX10_parseAtom_52 : decode cX10_parseAtom 52 = .ok (.return_, 1) := by decide +kernel
theorem dX10_parseAtom_53 : decode cX10_parseAtom 53 = .ok (.aload_n 0, 1) := by decide +kernel
theorem dX10_parseAtom_54 : decode cX10_parseAtom 54 = .ok (.getfield 218, 3) := by decide +kernel
theorem dX10_parseAtom_57 : decode cX10_parseAtom 57 = .ok (.aload_n 0, 1) := by decide +kernel
theorem dX10_parseAtom_58 : decode cX10_parseAtom 58 = .ok (.getfield 227, 3) := by decide +kernel
theorem dX10_parseAtom_61 : decode cX10_parseAtom 61 = .ok (.iload_n 2, 1) := by decide +kernel
theorem dX10_parseAtom_62 : decode cX10_parseAtom 62 = .ok (.ifCond .eq 7, 3) := by decide +kernel
theorem dX10_parseAtom_65 : decode cX10_parseAtom 65 = .ok (.iconst (-1), 1) := by decide +kernel
theorem dX10_parseAtom_66 : decode cX10_parseAtom 66 = .ok (.goto 7, 3) := by decide +kernel
theorem dX10_parseAtom_69 : decode cX10_parseAtom 69 = .ok (.aload_n 0, 1) := by decide +kernel
theorem dX10_parseAtom_70 : decode cX10_parseAtom 70 = .ok (.getfield 194, 3) := by decide +kernel
theorem dX10_parseAtom_73 : decode cX10_parseAtom 73 = .ok (.iastore, 1) := by decide +kernel
theorem dX10_parseAtom_74 : decode cX10_parseAtom 74 = .ok (.aload_n 0, 1) := by decide +kernel
theorem dX10_parseAtom_75 : decode cX10_parseAtom 75 = .ok (.getfield 221, 3) := by decide +kernel
theorem dX10_parseAtom_78 : decode cX10_parseAtom 78 = .ok (.aload_n 0, 1) := by decide +kernel
theorem dX10_parseAtom_79 : decode cX10_parseAtom 79 = .ok (.getfield 227, 3) := by decide +kernel
theorem dX10_parseAtom_82 : decode cX10_parseAtom 82 = .ok (.aload_n 0, 1) := by decide +kernel
theorem dX10_parseAtom_83 : decode cX10_parseAtom 83 = .ok (.getfield 188, 3) := by decide +kernel
theorem dX10_parseAtom_86 : decode cX10_parseAtom 86 = .ok (.iastore, 1) := by decide +kernel
theorem dX10_parseAtom_87 : decode cX10_parseAtom 87 = .ok (.aload_n 0, 1) := by decide +kernel
theorem dX10_parseAtom_88 : decode cX10_parseAtom 88 = .ok (.getfield 224, 3) := by decide +kernel
theorem dX10_parseAtom_91 : decode cX10_parseAtom 91 = .ok (.aload_n 0, 1) := by decide +kernel
theorem dX10_parseAtom_92 : decode cX10_parseAtom 92 = .ok (.getfield 227, 3) := by decide +kernel
theorem dX10_parseAtom_95 : decode cX10_parseAtom 95 = .ok (.iload_n 1, 1) := by decide +kernel
theorem dX10_parseAtom_96 : decode cX10_parseAtom 96 = .ok (.iastore, 1) := by decide +kernel
theorem dX10_parseAtom_97 : decode cX10_parseAtom 97 = .ok (.aload_n 0, 1) := by decide +kernel
theorem dX10_parseAtom_98 : decode cX10_parseAtom 98 = .ok (.bipush 17, 2) := by decide +kernel
theorem dX10_parseAtom_100 : decode cX10_parseAtom 100 = .ok (.invokevirtual 441, 3) := by decide +kernel
theorem dX10_parseAtom_103 : decode cX10_parseAtom 103 = .ok (.istore_n 3, 1) := by decide +kernel
theorem dX10_parseAtom_104 : decode cX10_parseAtom 104 = .ok (.aload_n 0, 1) := by decide +kernel
theorem dX10_parseAtom_105 : decode cX10_parseAtom 105 = .ok (.invokevirtual 435, 3) := by decide +kernel
theorem dX10_parseAtom_108 : decode cX10_parseAtom 108 = .ok (.iload_n 3, 1) := by decide +kernel
theorem dX10_parseAtom_109 : decode cX10_parseAtom 109 = .ok (.ifCond .eq 16, 3) := by decide +kernel
theorem dX10_parseAtom_112 : decode cX10_parseAtom 112 = .ok (.aload_n 0, 1) := by decide +kernel
theorem dX10_parseAtom_113 : decode cX10_parseAtom 113 = .ok (.getfield 221, 3) := by decide +kernel
theorem dX10_parseAtom_116 : decode cX10_parseAtom 116 = .ok (.aload_n 0, 1) := by decide +kernel
theorem dX10_parseAtom_117 : decode cX10_parseAtom 117 = .ok (.getfield 227, 3) := by decide +kernel
theorem dX10_parseAtom_120 : decode cX10_parseAtom 120 = .ok (.aload_n 0, 1) := by decide +kernel
theorem dX10_parseAtom_121 : decode cX10_parseAtom 121 = .ok (.invokevirtual 444, 3) := by decide +kernel
theorem dX10_parseAtom_124 : decode cX10_parseAtom 124 = .ok (.iastore, 1) := by decide +kernel
theorem dX10_parseAtom_125 : decode cX10_parseAtom 125 = .ok (.aload_n 0, 1) := by decide +kernel
theorem dX10_parseAtom_126 : decode cX10_parseAtom 126 = .ok (.dup, 1) := by decide +kernel
theorem dX10_parseAtom_127 : decode cX10_parseAtom 127 = .ok (.getfield 227, 3) := by decide +kernel
theorem dX10_parseAtom_130 : decode cX10_parseAtom 130 = .ok (.iconst 1, 1) := by decide +kernel
theorem dX10_parseAtom_131 : decode cX10_parseAtom 131 = .ok (.iadd, 1) := by decide +kernel
theorem dX10_parseAtom_132 : decode cX10_parseAtom 132 = .ok (.putfield 227, 3) := by decide +kernel
theorem dX10_parseAtom_135 : decode cX10_parseAtom 135 = .ok (.return_, 1) := by decide +kernel
theorem dX10_parseSum_0 : decode cX10_parseSum 0 = .ok (.aload_n 0, 1) := by decide +kernel
theorem dX10_parseSum_1 : decode cX10_parseSum 1 = .ok (.iconst 1, 1) := by decide +kernel
theorem dX10_parseSum_2 : decode cX10_parseSum 2 = .ok (.invokevirtual 447, 3) := by decide +kernel
theorem dX10_parseSum_5 : decode cX10_parseSum 5 = .ok (.aload_n 0, 1) := by decide +kernel
theorem dX10_parseSum_6 : decode cX10_parseSum 6 = .ok (.invokevirtual 429, 3) := by decide +kernel
theorem dX10_parseSum_9 : decode cX10_parseSum 9 = .ok (.ifCond .eq 48, 3) := by decide +kernel
theorem dX10_parseSum_12 : decode cX10_parseSum 12 = .ok (.aload_n 0, 1) := by decide +kernel
theorem dX10_parseSum_13 : decode cX10_parseSum 13 = .ok (.bipush 43, 2) := by decide +kernel
theorem dX10_parseSum_15 : decode cX10_parseSum 15 = .ok (.invokevirtual 432, 3) := by decide +kernel
theorem dX10_parseSum_18 : decode cX10_parseSum 18 = .ok (.ifCond .ne 12, 3) := by decide +kernel
theorem dX10_parseSum_21 : decode cX10_parseSum 21 = .ok (.aload_n 0, 1) := by decide +kernel
theorem dX10_parseSum_22 : decode cX10_parseSum 22 = .ok (.bipush 45, 2) := by decide +kernel
theorem dX10_parseSum_24 : decode cX10_parseSum 24 = .ok (.invokevirtual 432, 3) := by decide +kernel
theorem dX10_parseSum_27 : decode cX10_parseSum 27 = .ok (.ifCond .eq 30, 3) := by decide +kernel
theorem dX10_parseSum_30 : decode cX10_parseSum 30 = .ok (.aload_n 0, 1) := by decide +kernel
theorem dX10_parseSum_31 : decode cX10_parseSum 31 = .ok (.bipush 43, 2) := by decide +kernel
theorem dX10_parseSum_33 : decode cX10_parseSum 33 = .ok (.invokevirtual 432, 3) := by decide +kernel
theorem dX10_parseSum_36 : decode cX10_parseSum 36 = .ok (.ifCond .eq 7, 3) := by decide +kernel
theorem dX10_parseSum_39 : decode cX10_parseSum 39 = .ok (.iconst 1, 1) := by decide +kernel
theorem dX10_parseSum_40 : decode cX10_parseSum 40 = .ok (.goto 4, 3) := by decide +kernel
theorem dX10_parseSum_43 : decode cX10_parseSum 43 = .ok (.iconst (-1), 1) := by decide +kernel
theorem dX10_parseSum_44 : decode cX10_parseSum 44 = .ok (.istore_n 1, 1) := by decide +kernel
theorem dX10_parseSum_45 : decode cX10_parseSum 45 = .ok (.aload_n 0, 1) := by decide +kernel
theorem dX10_parseSum_46 : decode cX10_parseSum 46 = .ok (.invokevirtual 435, 3) := by decide +kernel
theorem dX10_parseSum_49 : decode cX10_parseSum 49 = .ok (.aload_n 0, 1) := by decide +kernel
theorem dX10_parseSum_50 : decode cX10_parseSum 50 = .ok (.iload_n 1, 1) := by decide +kernel
theorem dX10_parseSum_51 : decode cX10_parseSum 51 = .ok (.invokevirtual 447, 3) := by decide +kernel
theorem dX10_parseSum_54 : decode cX10_parseSum 54 = .ok (.goto (-49), 3) := by decide +kernel
theorem dX10_parseSum_57 : decode cX10_parseSum 57 = .ok (.return_, 1) := by decide +kernel
theorem dX10_parseBlock_0 : decode cX10_parseBlock 0 = .ok (.aload_n 0, 1) := by decide +kernel
theorem dX10_parseBlock_1 : decode cX10_parseBlock 1 = .ok (.invokevirtual 429, 3) := by decide +kernel
theorem dX10_parseBlock_4 : decode cX10_parseBlock 4 = .ok (.ifCond .ne 4, 3) := by decide +kernel
theorem dX10_parseBlock_7 : decode cX10_parseBlock 7 = .ok (.return_, 1) := by decide +kernel
theorem dX10_parseBlock_8 : decode cX10_parseBlock 8 = .ok (.aload_n 0, 1) := by decide +kernel
theorem dX10_parseBlock_9 : decode cX10_parseBlock 9 = .ok (.bipush 40, 2) := by decide +kernel
theorem dX10_parseBlock_11 : decode cX10_parseBlock 11 = .ok (.invokevirtual 432, 3) := by decide +kernel
theorem dX10_parseBlock_14 : decode cX10_parseBlock 14 = .ok (.ifCond .ne 8, 3) := by decide +kernel
theorem dX10_parseBlock_17 : decode cX10_parseBlock 17 = .ok (.aload_n 0, 1) := by decide +kernel
theorem dX10_parseBlock_18 : decode cX10_parseBlock 18 = .ok (.iconst 1, 1) := by decide +kernel
theorem dX10_parseBlock_19 : decode cX10_parseBlock 19 = .ok (.invokevirtual 438, 3) := by decide +kernel
theorem dX10_parseBlock_22 : decode cX10_parseBlock 22 = .ok (.aload_n 0, 1) := by decide +kernel
theorem dX10_parseBlock_23 : decode cX10_parseBlock 23 = .ok (.getfield 233, 3) := by decide +kernel
theorem dX10_parseBlock_26 : decode cX10_parseBlock 26 = .ok (.iconst 4, 1) := by decide +kernel
theorem dX10_parseBlock_27 : decode cX10_parseBlock 27 = .ok (.if_icmp .ne 8, 3) := by decide +kernel
theorem dX10_parseBlock_30 : decode cX10_parseBlock 30 = .ok (.aload_n 0, 1) := by decide +kernel
theorem dX10_parseBlock_31 : decode cX10_parseBlock 31 = .ok (.iconst 3, 1) := by decide +kernel
theorem dX10_parseBlock_32 : decode cX10_parseBlock 32 = .ok (.invokevirtual 438, 3) := by decide +kernel
theorem dX10_parseBlock_35 : decode cX10_parseBlock 35 = .ok (.aload_n 0, 1) := by decide +kernel
theorem dX10_parseBlock_36 : decode cX10_parseBlock 36 = .ok (.invokevirtual 429, 3) := by decide +kernel
theorem dX10_parseBlock_39 : decode cX10_parseBlock 39 = .ok (.ifCond .ne 4, 3) := by decide +kernel
theorem dX10_parseBlock_42 : decode cX10_parseBlock 42 = .ok (.return_, 1) := by decide +kernel
theorem dX10_parseBlock_43 : decode cX10_parseBlock 43 = .ok (.aload_n 0, 1) := by decide +kernel
theorem dX10_parseBlock_44 : decode cX10_parseBlock 44 = .ok (.getfield 230, 3) := by decide +kernel
theorem dX10_parseBlock_47 : decode cX10_parseBlock 47 = .ok (.aload_n 0, 1) := by decide +kernel
theorem dX10_parseBlock_48 : decode cX10_parseBlock 48 = .ok (.getfield 233, 3) := by decide +kernel
theorem dX10_parseBlock_51 : decode cX10_parseBlock 51 = .ok (.iload_n 1, 1) := by decide +kernel
theorem dX10_parseBlock_52 : decode cX10_parseBlock 52 = .ok (.iastore, 1) := by decide +kernel
theorem dX10_parseBlock_53 : decode cX10_parseBlock 53 = .ok (.aload_n 0, 1) := by decide +kernel
theorem dX10_parseBlock_54 : decode cX10_parseBlock 54 = .ok (.dup, 1) := by decide +kernel
theorem dX10_parseBlock_55 : decode cX10_parseBlock 55 = .ok (.getfield 233, 3) := by decide +kernel
theorem dX10_parseBlock_58 : decode cX10_parseBlock 58 = .ok (.iconst 1, 1) := by decide +kernel
theorem dX10_parseBlock_59 : decode cX10_parseBlock 59 = .ok (.iadd, 1) := by decide +kernel
theorem dX10_parseBlock_60 : decode cX10_parseBlock 60 = .ok (.putfield 233, 3) := by decide +kernel
theorem dX10_parseBlock_63 : decode cX10_parseBlock 63 = .ok (.aload_n 0, 1) := by decide +kernel
theorem dX10_parseBlock_64 : decode cX10_parseBlock 64 = .ok (.invokevirtual 435, 3) := by decide +kernel
theorem dX10_parseBlock_67 : decode cX10_parseBlock 67 = .ok (.return_, 1) := by decide +kernel
theorem dX10_parseWhen_0 : decode cX10_parseWhen 0 = .ok (.aload_n 0, 1) := by decide +kernel
theorem dX10_parseWhen_1 : decode cX10_parseWhen 1 = .ok (.getfield 209, 3) := by decide +kernel
theorem dX10_parseWhen_4 : decode cX10_parseWhen 4 = .ok (.iconst 4, 1) := by decide +kernel
theorem dX10_parseWhen_5 : decode cX10_parseWhen 5 = .ok (.iload_n 1, 1) := by decide +kernel
theorem dX10_parseWhen_6 : decode cX10_parseWhen 6 = .ok (.imul, 1) := by decide +kernel
theorem dX10_parseWhen_7 : decode cX10_parseWhen 7 = .ok (.aload_n 0, 1) := by decide +kernel
theorem dX10_parseWhen_8 : decode cX10_parseWhen 8 = .ok (.getfield 227, 3) := by decide +kernel
theorem dX10_parseWhen_11 : decode cX10_parseWhen 11 = .ok (.iastore, 1) := by decide +kernel
theorem dX10_parseWhen_12 : decode cX10_parseWhen 12 = .ok (.aload_n 0, 1) := by decide +kernel
theorem dX10_parseWhen_13 : decode cX10_parseWhen 13 = .ok (.invokevirtual 450, 3) := by decide +kernel
theorem dX10_parseWhen_16 : decode cX10_parseWhen 16 = .ok (.aload_n 0, 1) := by decide +kernel
theorem dX10_parseWhen_17 : decode cX10_parseWhen 17 = .ok (.getfield 209, 3) := by decide +kernel
theorem dX10_parseWhen_20 : decode cX10_parseWhen 20 = .ok (.iconst 4, 1) := by decide +kernel
theorem dX10_parseWhen_21 : decode cX10_parseWhen 21 = .ok (.iload_n 1, 1) := by decide +kernel
theorem dX10_parseWhen_22 : decode cX10_parseWhen 22 = .ok (.imul, 1) := by decide +kernel
theorem dX10_parseWhen_23 : decode cX10_parseWhen 23 = .ok (.iconst 1, 1) := by decide +kernel
theorem dX10_parseWhen_24 : decode cX10_parseWhen 24 = .ok (.iadd, 1) := by decide +kernel
theorem dX10_parseWhen_25 : decode cX10_parseWhen 25 = .ok (.aload_n 0, 1) := by decide +kernel
theorem dX10_parseWhen_26 : decode cX10_parseWhen 26 = .ok (.getfield 227, 3) := by decide +kernel
theorem dX10_parseWhen_29 : decode cX10_parseWhen 29 = .ok (.iastore, 1) := by decide +kernel
theorem dX10_parseWhen_30 : decode cX10_parseWhen 30 = .ok (.aload_n 0, 1) := by decide +kernel
theorem dX10_parseWhen_31 : decode cX10_parseWhen 31 = .ok (.invokevirtual 429, 3) := by decide +kernel
theorem dX10_parseWhen_34 : decode cX10_parseWhen 34 = .ok (.ifCond .eq 35, 3) := by decide +kernel
theorem dX10_parseWhen_37 : decode cX10_parseWhen 37 = .ok (.aload_n 0, 1) := by decide +kernel
theorem dX10_parseWhen_38 : decode cX10_parseWhen 38 = .ok (.bipush 60, 2) := by decide +kernel
theorem dX10_parseWhen_40 : decode cX10_parseWhen 40 = .ok (.invokevirtual 432, 3) := by decide +kernel
theorem dX10_parseWhen_43 : decode cX10_parseWhen 43 = .ok (.ifCond .ne 26, 3) := by decide +kernel
theorem dX10_parseWhen_46 : decode cX10_parseWhen 46 = .ok (.aload_n 0, 1) := by decide +kernel
theorem dX10_parseWhen_47 : decode cX10_parseWhen 47 = .ok (.bipush 61, 2) := by decide +kernel
theorem dX10_parseWhen_49 : decode cX10_parseWhen 49 = .ok (.invokevirtual 432, 3) := by decide +kernel
theorem dX10_parseWhen_52 : decode cX10_parseWhen 52 = .ok (.ifCond .ne 17, 3) := by decide +kernel
theorem dX10_parseWhen_55 : decode cX10_parseWhen 55 = .ok (.aload_n 0, 1) := by decide +kernel
theorem dX10_parseWhen_56 : decode cX10_parseWhen 56 = .ok (.bipush 62, 2) := by decide +kernel
theorem dX10_parseWhen_58 : decode cX10_parseWhen 58 = .ok (.invokevirtual 432, 3) := by decide +kernel
theorem dX10_parseWhen_61 : decode cX10_parseWhen 61 = .ok (.ifCond .ne 8, 3) := by decide +kernel
theorem dX10_parseWhen_64 : decode cX10_parseWhen 64 = .ok (.aload_n 0, 1) := by decide +kernel
theorem dX10_parseWhen_65 : decode cX10_parseWhen 65 = .ok (.iconst 1, 1) := by decide +kernel
theorem dX10_parseWhen_66 : decode cX10_parseWhen 66 = .ok (.invokevirtual 438, 3) := by decide +kernel
theorem dX10_parseWhen_69 : decode cX10_parseWhen 69 = .ok (.aload_n 0, 1) := by decide +kernel
theorem dX10_parseWhen_70 : decode cX10_parseWhen 70 = .ok (.getfield 209, 3) := by decide +kernel
theorem dX10_parseWhen_73 : decode cX10_parseWhen 73 = .ok (.iconst 4, 1) := by decide +kernel
theorem dX10_parseWhen_74 : decode cX10_parseWhen 74 = .ok (.iload_n 1, 1) := by decide +kernel
theorem dX10_parseWhen_75 : decode cX10_parseWhen 75 = .ok (.imul, 1) := by decide +kernel
theorem dX10_parseWhen_76 : decode cX10_parseWhen 76 = .ok (.iconst 3, 1) := by decide +kernel
theorem dX10_parseWhen_77 : decode cX10_parseWhen 77 = .ok (.iadd, 1) := by decide +kernel
theorem dX10_parseWhen_78 : decode cX10_parseWhen 78 = .ok (.aload_n 0, 1) := by decide +kernel
theorem dX10_parseWhen_79 : decode cX10_parseWhen 79 = .ok (.getfield 191, 3) := by decide +kernel
theorem dX10_parseWhen_82 : decode cX10_parseWhen 82 = .ok (.iastore, 1) := by decide +kernel
theorem dX10_parseWhen_83 : decode cX10_parseWhen 83 = .ok (.aload_n 0, 1) := by decide +kernel
theorem dX10_parseWhen_84 : decode cX10_parseWhen 84 = .ok (.invokevirtual 429, 3) := by decide +kernel
theorem dX10_parseWhen_87 : decode cX10_parseWhen 87 = .ok (.ifCond .eq 7, 3) := by decide +kernel
theorem dX10_parseWhen_90 : decode cX10_parseWhen 90 = .ok (.aload_n 0, 1) := by decide +kernel
theorem dX10_parseWhen_91 : decode cX10_parseWhen 91 = .ok (.invokevirtual 435, 3) := by decide +kernel
theorem dX10_parseWhen_94 : decode cX10_parseWhen 94 = .ok (.aload_n 0, 1) := by decide +kernel
theorem dX10_parseWhen_95 : decode cX10_parseWhen 95 = .ok (.invokevirtual 450, 3) := by decide +kernel
theorem dX10_parseWhen_98 : decode cX10_parseWhen 98 = .ok (.aload_n 0, 1) := by decide +kernel
theorem dX10_parseWhen_99 : decode cX10_parseWhen 99 = .ok (.getfield 209, 3) := by decide +kernel
theorem dX10_parseWhen_102 : decode cX10_parseWhen 102 = .ok (.iconst 4, 1) := by decide +kernel
theorem dX10_parseWhen_103 : decode cX10_parseWhen 103 = .ok (.iload_n 1, 1) := by decide +kernel
theorem dX10_parseWhen_104 : decode cX10_parseWhen 104 = .ok (.imul, 1) := by decide +kernel
theorem dX10_parseWhen_105 : decode cX10_parseWhen 105 = .ok (.iconst 2, 1) := by decide +kernel
theorem dX10_parseWhen_106 : decode cX10_parseWhen 106 = .ok (.iadd, 1) := by decide +kernel
theorem dX10_parseWhen_107 : decode cX10_parseWhen 107 = .ok (.aload_n 0, 1) := by decide +kernel
theorem dX10_parseWhen_108 : decode cX10_parseWhen 108 = .ok (.getfield 227, 3) := by decide +kernel
theorem dX10_parseWhen_111 : decode cX10_parseWhen 111 = .ok (.iastore, 1) := by decide +kernel
theorem dX10_parseWhen_112 : decode cX10_parseWhen 112 = .ok (.aload_n 0, 1) := by decide +kernel
theorem dX10_parseWhen_113 : decode cX10_parseWhen 113 = .ok (.iload_n 1, 1) := by decide +kernel
theorem dX10_parseWhen_114 : decode cX10_parseWhen 114 = .ok (.invokevirtual 453, 3) := by decide +kernel
theorem dX10_parseWhen_117 : decode cX10_parseWhen 117 = .ok (.return_, 1) := by decide +kernel
theorem dX10_parseRepeat_0 : decode cX10_parseRepeat 0 = .ok (.aload_n 0, 1) := by decide +kernel
theorem dX10_parseRepeat_1 : decode cX10_parseRepeat 1 = .ok (.getfield 182, 3) := by decide +kernel
theorem dX10_parseRepeat_4 : decode cX10_parseRepeat 4 = .ok (.iconst 2, 1) := by decide +kernel
theorem dX10_parseRepeat_5 : decode cX10_parseRepeat 5 = .ok (.if_icmp .ne 17, 3) := by decide +kernel
theorem dX10_parseRepeat_8 : decode cX10_parseRepeat 8 = .ok (.aload_n 0, 1) := by decide +kernel
theorem dX10_parseRepeat_9 : decode cX10_parseRepeat 9 = .ok (.getfield 188, 3) := by decide +kernel
theorem dX10_parseRepeat_12 : decode cX10_parseRepeat 12 = .ok (.bipush 50, 2) := by decide +kernel
theorem dX10_parseRepeat_14 : decode cX10_parseRepeat 14 = .ok (.if_icmp .le 8, 3) := by decide +kernel
theorem dX10_parseRepeat_17 : decode cX10_parseRepeat 17 = .ok (.aload_n 0, 1) := by decide +kernel
theorem dX10_parseRepeat_18 : decode cX10_parseRepeat 18 = .ok (.iconst 2, 1) := by decide +kernel
theorem dX10_parseRepeat_19 : decode cX10_parseRepeat 19 = .ok (.invokevirtual 438, 3) := by decide +kernel
theorem dX10_parseRepeat_22 : decode cX10_parseRepeat 22 = .ok (.aload_n 0, 1) := by decide +kernel
theorem dX10_parseRepeat_23 : decode cX10_parseRepeat 23 = .ok (.getfield 209, 3) := by decide +kernel
theorem dX10_parseRepeat_26 : decode cX10_parseRepeat 26 = .ok (.iconst 4, 1) := by decide +kernel
theorem dX10_parseRepeat_27 : decode cX10_parseRepeat 27 = .ok (.iload_n 1, 1) := by decide +kernel
theorem dX10_parseRepeat_28 : decode cX10_parseRepeat 28 = .ok (.imul, 1) := by decide +kernel
theorem dX10_parseRepeat_29 : decode cX10_parseRepeat 29 = .ok (.aload_n 0, 1) := by decide +kernel
theorem dX10_parseRepeat_30 : decode cX10_parseRepeat 30 = .ok (.invokevirtual 444, 3) := by decide +kernel
theorem dX10_parseRepeat_33 : decode cX10_parseRepeat 33 = .ok (.iastore, 1) := by decide +kernel
theorem dX10_parseRepeat_34 : decode cX10_parseRepeat 34 = .ok (.aload_n 0, 1) := by decide +kernel
theorem dX10_parseRepeat_35 : decode cX10_parseRepeat 35 = .ok (.iload_n 1, 1) := by decide +kernel
theorem dX10_parseRepeat_36 : decode cX10_parseRepeat 36 = .ok (.invokevirtual 453, 3) := by decide +kernel
theorem dX10_parseRepeat_39 : decode cX10_parseRepeat 39 = .ok (.return_, 1) := by decide +kernel
theorem dX10_parsePlain_0 : decode cX10_parsePlain 0 = .ok (.aload_n 0, 1) := by decide +kernel
theorem dX10_parsePlain_1 : decode cX10_parsePlain 1 = .ok (.getfield 203, 3) := by decide +kernel
theorem dX10_parsePlain_4 : decode cX10_parsePlain 4 = .ok (.iload_n 1, 1) := by decide +kernel
theorem dX10_parsePlain_5 : decode cX10_parsePlain 5 = .ok (.iaload, 1) := by decide +kernel
theorem dX10_parsePlain_6 : decode cX10_parsePlain 6 = .ok (.istore_n 2, 1) := by decide +kernel
theorem dX10_parsePlain_7 : decode cX10_parsePlain 7 = .ok (.iconst 0, 1) := by decide +kernel
theorem dX10_parsePlain_8 : decode cX10_parsePlain 8 = .ok (.istore_n 3, 1) := by decide +kernel
theorem dX10_parsePlain_9 : decode cX10_parsePlain 9 = .ok (.iload_n 3, 1) := by decide +kernel
theorem dX10_parsePlain_10 : decode cX10_parsePlain 10 = .ok (.iconst 4, 1) := by decide +kernel
theorem dX10_parsePlain_11 : decode cX10_parsePlain 11 = .ok (.if_icmp .ge 20, 3) := by decide +kernel
theorem dX10_parsePlain_14 : decode cX10_parsePlain 14 = .ok (.aload_n 0, 1) := by decide +kernel
theorem dX10_parsePlain_15 : decode cX10_parsePlain 15 = .ok (.getfield 209, 3) := by decide +kernel
theorem dX10_parsePlain_18 : decode cX10_parsePlain 18 = .ok (.iconst 4, 1) := by decide +kernel
theorem dX10_parsePlain_19 : decode cX10_parsePlain 19 = .ok (.iload_n 1, 1) := by decide +kernel
theorem dX10_parsePlain_20 : decode cX10_parsePlain 20 = .ok (.imul, 1) := by decide +kernel
theorem dX10_parsePlain_21 : decode cX10_parsePlain 21 = .ok (.iload_n 3, 1) := by decide +kernel
theorem dX10_parsePlain_22 : decode cX10_parsePlain 22 = .ok (.iadd, 1) := by decide +kernel
theorem dX10_parsePlain_23 : decode cX10_parsePlain 23 = .ok (.iconst (-1), 1) := by decide +kernel
theorem dX10_parsePlain_24 : decode cX10_parsePlain 24 = .ok (.iastore, 1) := by decide +kernel
theorem dX10_parsePlain_25 : decode cX10_parsePlain 25 = .ok (.iinc 3 1, 3) := by decide +kernel
theorem dX10_parsePlain_28 : decode cX10_parsePlain 28 = .ok (.goto (-19), 3) := by decide +kernel
theorem dX10_parsePlain_31 : decode cX10_parsePlain 31 = .ok (.iconst 0, 1) := by decide +kernel
theorem dX10_parsePlain_32 : decode cX10_parsePlain 32 = .ok (.istore_n 3, 1) := by decide +kernel
theorem dX10_parsePlain_33 : decode cX10_parsePlain 33 = .ok (.iload_n 3, 1) := by decide +kernel
theorem dX10_parsePlain_34 : decode cX10_parsePlain 34 = .ok (.iload_n 2, 1) := by decide +kernel
theorem dX10_parsePlain_35 : decode cX10_parsePlain 35 = .ok (.invokestatic 456, 3) := by decide +kernel
theorem dX10_parsePlain_38 : decode cX10_parsePlain 38 = .ok (.if_icmp .ge 30, 3) := by decide +kernel
theorem dX10_parsePlain_41 : decode cX10_parsePlain 41 = .ok (.aload_n 0, 1) := by decide +kernel
theorem dX10_parsePlain_42 : decode cX10_parsePlain 42 = .ok (.invokevirtual 429, 3) := by decide +kernel
theorem dX10_parsePlain_45 : decode cX10_parsePlain 45 = .ok (.ifCond .eq 23, 3) := by decide +kernel
theorem dX10_parsePlain_48 : decode cX10_parsePlain 48 = .ok (.aload_n 0, 1) := by decide +kernel
theorem dX10_parsePlain_49 : decode cX10_parsePlain 49 = .ok (.getfield 209, 3) := by decide +kernel
theorem dX10_parsePlain_52 : decode cX10_parsePlain 52 = .ok (.iconst 4, 1) := by decide +kernel
theorem dX10_parsePlain_53 : decode cX10_parsePlain 53 = .ok (.iload_n 1, 1) := by decide +kernel
theorem dX10_parsePlain_54 : decode cX10_parsePlain 54 = .ok (.imul, 1) := by decide +kernel
theorem dX10_parsePlain_55 : decode cX10_parsePlain 55 = .ok (.iload_n 3, 1) := by decide +kernel
theorem dX10_parsePlain_56 : decode cX10_parsePlain 56 = .ok (.iadd, 1) := by decide +kernel
theorem dX10_parsePlain_57 : decode cX10_parsePlain 57 = .ok (.aload_n 0, 1) := by decide +kernel
theorem dX10_parsePlain_58 : decode cX10_parsePlain 58 = .ok (.invokevirtual 444, 3) := by decide +kernel
theorem dX10_parsePlain_61 : decode cX10_parsePlain 61 = .ok (.iastore, 1) := by decide +kernel
theorem dX10_parsePlain_62 : decode cX10_parsePlain 62 = .ok (.iinc 3 1, 3) := by decide +kernel
theorem dX10_parsePlain_65 : decode cX10_parsePlain 65 = .ok (.goto (-32), 3) := by decide +kernel
theorem dX10_parsePlain_68 : decode cX10_parsePlain 68 = .ok (.iload_n 2, 1) := by decide +kernel
theorem dX10_parsePlain_69 : decode cX10_parsePlain 69 = .ok (.invokestatic 459, 3) := by decide +kernel
theorem dX10_parsePlain_72 : decode cX10_parsePlain 72 = .ok (.ifCond .eq 19, 3) := by decide +kernel
theorem dX10_parsePlain_75 : decode cX10_parsePlain 75 = .ok (.aload_n 0, 1) := by decide +kernel
theorem dX10_parsePlain_76 : decode cX10_parsePlain 76 = .ok (.invokevirtual 429, 3) := by decide +kernel
theorem dX10_parsePlain_79 : decode cX10_parsePlain 79 = .ok (.ifCond .eq 12, 3) := by decide +kernel
theorem dX10_parsePlain_82 : decode cX10_parsePlain 82 = .ok (.aload_n 0, 1) := by decide +kernel
theorem dX10_parsePlain_83 : decode cX10_parsePlain 83 = .ok (.bipush 13, 2) := by decide +kernel
theorem dX10_parsePlain_85 : decode cX10_parsePlain 85 = .ok (.invokevirtual 441, 3) := by decide +kernel
theorem dX10_parsePlain_88 : decode cX10_parsePlain 88 = .ok (.ifCond .ne 4, 3) := by decide +kernel
theorem dX10_parsePlain_91 : decode cX10_parsePlain 91 = .ok (.return_, 1) := by decide +kernel
theorem dX10_parsePlain_92 : decode cX10_parsePlain 92 = .ok (.aload_n 0, 1) := by decide +kernel
theorem dX10_parsePlain_93 : decode cX10_parsePlain 93 = .ok (.invokevirtual 435, 3) := by decide +kernel
theorem dX10_parsePlain_96 : decode cX10_parsePlain 96 = .ok (.aload_n 0, 1) := by decide +kernel
theorem dX10_parsePlain_97 : decode cX10_parsePlain 97 = .ok (.getfield 209, 3) := by decide +kernel
theorem dX10_parsePlain_100 : decode cX10_parsePlain 100 = .ok (.iconst 4, 1) := by decide +kernel
theorem dX10_parsePlain_101 : decode cX10_parsePlain 101 = .ok (.iload_n 1, 1) := by decide +kernel
theorem dX10_parsePlain_102 : decode cX10_parsePlain 102 = .ok (.imul, 1) := by decide +kernel
theorem dX10_parsePlain_103 : decode cX10_parsePlain 103 = .ok (.iconst 3, 1) := by decide +kernel
theorem dX10_parsePlain_104 : decode cX10_parsePlain 104 = .ok (.iadd, 1) := by decide +kernel
theorem dX10_parsePlain_105 : decode cX10_parsePlain 105 = .ok (.aload_n 0, 1) := by decide +kernel
theorem dX10_parsePlain_106 : decode cX10_parsePlain 106 = .ok (.invokevirtual 444, 3) := by decide +kernel
theorem dX10_parsePlain_109 : decode cX10_parsePlain 109 = .ok (.iastore, 1) := by decide +kernel
theorem dX10_parsePlain_110 : decode cX10_parsePlain 110 = .ok (.return_, 1) := by decide +kernel
theorem dX10_parseCommand_0 : decode cX10_parseCommand 0 = .ok (.aload_n 0, 1) := by decide +kernel
theorem dX10_parseCommand_1 : decode cX10_parseCommand 1 = .ok (.getfield 182, 3) := by decide +kernel
theorem dX10_parseCommand_4 : decode cX10_parseCommand 4 = .ok (.iconst 1, 1) := by decide +kernel
theorem dX10_parseCommand_5 : decode cX10_parseCommand 5 = .ok (.if_icmp .ne 16, 3) := by decide +kernel
theorem dX10_parseCommand_8 : decode cX10_parseCommand 8 = .ok (.aload_n 0, 1) := by decide +kernel
theorem dX10_parseCommand_9 : decode cX10_parseCommand 9 = .ok (.getfield 194, 3) := by decide +kernel
theorem dX10_parseCommand_12 : decode cX10_parseCommand 12 = .ok (.iconst 0, 1) := by decide +kernel
theorem dX10_parseCommand_13 : decode cX10_parseCommand 13 = .ok (.bipush 12, 2) := by decide +kernel
theorem dX10_parseCommand_15 : decode cX10_parseCommand 15 = .ok (.invokestatic 22, 3) := by decide +kernel
theorem dX10_parseCommand_18 : decode cX10_parseCommand 18 = .ok (.ifCond .ne 8, 3) := by decide +kernel
theorem dX10_parseCommand_21 : decode cX10_parseCommand 21 = .ok (.aload_n 0, 1) := by decide +kernel
theorem dX10_parseCommand_22 : decode cX10_parseCommand 22 = .ok (.iconst 1, 1) := by decide +kernel
theorem dX10_parseCommand_23 : decode cX10_parseCommand 23 = .ok (.invokevirtual 438, 3) := by decide +kernel
theorem dX10_parseCommand_26 : decode cX10_parseCommand 26 = .ok (.aload_n 0, 1) := by decide +kernel
theorem dX10_parseCommand_27 : decode cX10_parseCommand 27 = .ok (.getfield 215, 3) := by decide +kernel
theorem dX10_parseCommand_30 : decode cX10_parseCommand 30 = .ok (.bipush 60, 2) := by decide +kernel
theorem dX10_parseCommand_32 : decode cX10_parseCommand 32 = .ok (.if_icmp .ne 8, 3) := by decide +kernel
theorem dX10_parseCommand_35 : decode cX10_parseCommand 35 = .ok (.aload_n 0, 1) := by decide +kernel
theorem dX10_parseCommand_36 : decode cX10_parseCommand 36 = .ok (.iconst 3, 1) := by decide +kernel
theorem dX10_parseCommand_37 : decode cX10_parseCommand 37 = .ok (.invokevirtual 438, 3) := by decide +kernel
theorem dX10_parseCommand_40 : decode cX10_parseCommand 40 = .ok (.aload_n 0, 1) := by decide +kernel
theorem dX10_parseCommand_41 : decode cX10_parseCommand 41 = .ok (.invokevirtual 429, 3) := by decide +kernel
theorem dX10_parseCommand_44 : decode cX10_parseCommand 44 = .ok (.ifCond .ne 5, 3) := by decide +kernel
theorem dX10_parseCommand_47 : decode cX10_parseCommand 47 = .ok (.iconst 0, 1) := by decide +kernel
theorem dX10_parseCommand_48 : decode cX10_parseCommand 48 = .ok (.ireturn, 1) := by decide +kernel
theorem dX10_parseCommand_49 : decode cX10_parseCommand 49 = .ok (.aload_n 0, 1) := by decide +kernel
theorem dX10_parseCommand_50 : decode cX10_parseCommand 50 = .ok (.getfield 215, 3) := by decide +kernel
theorem dX10_parseCommand_53 : decode cX10_parseCommand 53 = .ok (.istore_n 1, 1) := by decide +kernel
theorem dX10_parseCommand_54 : decode cX10_parseCommand 54 = .ok (.aload_n 0, 1) := by decide +kernel
theorem dX10_parseCommand_55 : decode cX10_parseCommand 55 = .ok (.dup, 1) := by decide +kernel
theorem dX10_parseCommand_56 : decode cX10_parseCommand 56 = .ok (.getfield 215, 3) := by decide +kernel
theorem dX10_parseCommand_59 : decode cX10_parseCommand 59 = .ok (.iconst 1, 1) := by decide +kernel
theorem dX10_parseCommand_60 : decode cX10_parseCommand 60 = .ok (.iadd, 1) := by decide +kernel
theorem dX10_parseCommand_61 : decode cX10_parseCommand 61 = .ok (.putfield 215, 3) := by decide +kernel
theorem dX10_parseCommand_64 : decode cX10_parseCommand 64 = .ok (.aload_n 0, 1) := by decide +kernel
theorem dX10_parseCommand_65 : decode cX10_parseCommand 65 = .ok (.getfield 203, 3) := by decide +kernel
theorem dX10_parseCommand_68 : decode cX10_parseCommand 68 = .ok (.iload_n 1, 1) := by decide +kernel
theorem dX10_parseCommand_69 : decode cX10_parseCommand 69 = .ok (.aload_n 0, 1) := by decide +kernel
theorem dX10_parseCommand_70 : decode cX10_parseCommand 70 = .ok (.getfield 194, 3) := by decide +kernel
theorem dX10_parseCommand_73 : decode cX10_parseCommand 73 = .ok (.iastore, 1) := by decide +kernel
theorem dX10_parseCommand_74 : decode cX10_parseCommand 74 = .ok (.aload_n 0, 1) := by decide +kernel
theorem dX10_parseCommand_75 : decode cX10_parseCommand 75 = .ok (.getfield 206, 3) := by decide +kernel
theorem dX10_parseCommand_78 : decode cX10_parseCommand 78 = .ok (.iload_n 1, 1) := by decide +kernel
theorem dX10_parseCommand_79 : decode cX10_parseCommand 79 = .ok (.aload_n 0, 1) := by decide +kernel
theorem dX10_parseCommand_80 : decode cX10_parseCommand 80 = .ok (.getfield 185, 3) := by decide +kernel
theorem dX10_parseCommand_83 : decode cX10_parseCommand 83 = .ok (.iastore, 1) := by decide +kernel
theorem dX10_parseCommand_84 : decode cX10_parseCommand 84 = .ok (.aload_n 0, 1) := by decide +kernel
theorem dX10_parseCommand_85 : decode cX10_parseCommand 85 = .ok (.getfield 212, 3) := by decide +kernel
theorem dX10_parseCommand_88 : decode cX10_parseCommand 88 = .ok (.iload_n 1, 1) := by decide +kernel
theorem dX10_parseCommand_89 : decode cX10_parseCommand 89 = .ok (.aload_n 0, 1) := by decide +kernel
theorem dX10_parseCommand_90 : decode cX10_parseCommand 90 = .ok (.getfield 215, 3) := by decide +kernel
