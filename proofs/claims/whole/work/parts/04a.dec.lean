theorem dX0_init_0 : decode cX0_init 0 = .ok (.aload_n 0, 1) := by decide +kernel
theorem dX0_init_1 : decode cX0_init 1 = .ok (.invokespecial 3, 3) := by decide +kernel
theorem dX0_init_4 : decode cX0_init 4 = .ok (.aload_n 0, 1) := by decide +kernel
theorem dX0_init_5 : decode cX0_init 5 = .ok (.new 9, 3) := by decide +kernel
theorem dX0_init_8 : decode cX0_init 8 = .ok (.dup, 1) := by decide +kernel
theorem dX0_init_9 : decode cX0_init 9 = .ok (.sipush 1600, 3) := by decide +kernel
theorem dX0_init_12 : decode cX0_init 12 = .ok (.invokespecial 11, 3) := by decide +kernel
theorem dX0_init_15 : decode cX0_init 15 = .ok (.putfield 14, 3) := by decide +kernel
theorem dX0_init_18 : decode cX0_init 18 = .ok (.aload_n 0, 1) := by decide +kernel
theorem dX0_init_19 : decode cX0_init 19 = .ok (.new 9, 3) := by decide +kernel
theorem dX0_init_22 : decode cX0_init 22 = .ok (.dup, 1) := by decide +kernel
theorem dX0_init_23 : decode cX0_init 23 = .ok (.iconst 4, 1) := by decide +kernel
theorem dX0_init_24 : decode cX0_init 24 = .ok (.invokespecial 11, 3) := by decide +kernel
theorem dX0_init_27 : decode cX0_init 27 = .ok (.putfield 20, 3) := by decide +kernel
theorem dX0_init_30 : decode cX0_init 30 = .ok (.aload_n 0, 1) := by decide +kernel
theorem dX0_init_31 : decode cX0_init 31 = .ok (.new 9, 3) := by decide +kernel
theorem dX0_init_34 : decode cX0_init 34 = .ok (.dup, 1) := by decide +kernel
theorem dX0_init_35 : decode cX0_init 35 = .ok (.bipush 6, 2) := by decide +kernel
theorem dX0_init_37 : decode cX0_init 37 = .ok (.invokespecial 11, 3) := by decide +kernel
theorem dX0_init_40 : decode cX0_init 40 = .ok (.putfield 23, 3) := by decide +kernel
theorem dX0_init_43 : decode cX0_init 43 = .ok (.aload_n 0, 1) := by decide +kernel
theorem dX0_init_44 : decode cX0_init 44 = .ok (.new 9, 3) := by decide +kernel
theorem dX0_init_47 : decode cX0_init 47 = .ok (.dup, 1) := by decide +kernel
theorem dX0_init_48 : decode cX0_init 48 = .ok (.bipush 6, 2) := by decide +kernel
theorem dX0_init_50 : decode cX0_init 50 = .ok (.invokespecial 11, 3) := by decide +kernel
theorem dX0_init_53 : decode cX0_init 53 = .ok (.putfield 26, 3) := by decide +kernel
theorem dX0_init_56 : decode cX0_init 56 = .ok (.aload_n 0, 1) := by decide +kernel
theorem dX0_init_57 : decode cX0_init 57 = .ok (.new 9, 3) := by decide +kernel
theorem dX0_init_60 : decode cX0_init 60 = .ok (.dup, 1) := by decide +kernel
theorem dX0_init_61 : decode cX0_init 61 = .ok (.bipush 6, 2) := by decide +kernel
theorem dX0_init_63 : decode cX0_init 63 = .ok (.invokespecial 11, 3) := by decide +kernel
theorem dX0_init_66 : decode cX0_init 66 = .ok (.putfield 29, 3) := by decide +kernel
theorem dX0_init_69 : decode cX0_init 69 = .ok (.aload_n 0, 1) := by decide +kernel
theorem dX0_init_70 : decode cX0_init 70 = .ok (.new 9, 3) := by decide +kernel
theorem dX0_init_73 : decode cX0_init 73 = .ok (.dup, 1) := by decide +kernel
theorem dX0_init_74 : decode cX0_init 74 = .ok (.bipush 6, 2) := by decide +kernel
theorem dX0_init_76 : decode cX0_init 76 = .ok (.invokespecial 11, 3) := by decide +kernel
theorem dX0_init_79 : decode cX0_init 79 = .ok (.putfield 32, 3) := by decide +kernel
theorem dX0_init_82 : decode cX0_init 82 = .ok (.return_, 1) := by decide +kernel
theorem dX0_clear_0 : decode cX0_clear 0 = .ok (.aload_n 0, 1) := by decide +kernel
theorem dX0_clear_1 : decode cX0_clear 1 = .ok (.getfield 20, 3) := by decide +kernel
theorem dX0_clear_4 : decode cX0_clear 4 = .ok (.iconst 0, 1) := by decide +kernel
theorem dX0_clear_5 : decode cX0_clear 5 = .ok (.invokevirtual 35, 3) := by decide +kernel
theorem dX0_clear_8 : decode cX0_clear 8 = .ok (.aload_n 0, 1) := by decide +kernel
theorem dX0_clear_9 : decode cX0_clear 9 = .ok (.getfield 32, 3) := by decide +kernel
theorem dX0_clear_12 : decode cX0_clear 12 = .ok (.iconst (-1), 1) := by decide +kernel
theorem dX0_clear_13 : decode cX0_clear 13 = .ok (.invokevirtual 35, 3) := by decide +kernel
theorem dX0_clear_16 : decode cX0_clear 16 = .ok (.aload_n 0, 1) := by decide +kernel
theorem dX0_clear_17 : decode cX0_clear 17 = .ok (.iconst 0, 1) := by decide +kernel
theorem dX0_clear_18 : decode cX0_clear 18 = .ok (.putfield 38, 3) := by decide +kernel
theorem dX0_clear_21 : decode cX0_clear 21 = .ok (.return_, 1) := by decide +kernel
theorem dX0_show_0 : decode cX0_show 0 = .ok (.aload_n 0, 1) := by decide +kernel
theorem dX0_show_1 : decode cX0_show 1 = .ok (.getfield 20, 3) := by decide +kernel
theorem dX0_show_4 : decode cX0_show 4 = .ok (.iload_n 1, 1) := by decide +kernel
theorem dX0_show_5 : decode cX0_show 5 = .ok (.invokevirtual 42, 3) := by decide +kernel
theorem dX0_show_8 : decode cX0_show 8 = .ok (.istore_n 3, 1) := by decide +kernel
theorem dX0_show_9 : decode cX0_show 9 = .ok (.iload_n 3, 1) := by decide +kernel
theorem dX0_show_10 : decode cX0_show 10 = .ok (.ifCond .lt 36, 3) := by decide +kernel
theorem dX0_show_13 : decode cX0_show 13 = .ok (.iload_n 3, 1) := by decide +kernel
theorem dX0_show_14 : decode cX0_show 14 = .ok (.sipush 400, 3) := by decide +kernel
theorem dX0_show_17 : decode cX0_show 17 = .ok (.if_icmp .ge 29, 3) := by decide +kernel
theorem dX0_show_20 : decode cX0_show 20 = .ok (.aload_n 0, 1) := by decide +kernel
theorem dX0_show_21 : decode cX0_show 21 = .ok (.getfield 14, 3) := by decide +kernel
theorem dX0_show_24 : decode cX0_show 24 = .ok (.iload_n 1, 1) := by decide +kernel
theorem dX0_show_25 : decode cX0_show 25 = .ok (.sipush 400, 3) := by decide +kernel
theorem dX0_show_28 : decode cX0_show 28 = .ok (.imul, 1) := by decide +kernel
theorem dX0_show_29 : decode cX0_show 29 = .ok (.iload_n 3, 1) := by decide +kernel
theorem dX0_show_30 : decode cX0_show 30 = .ok (.iadd, 1) := by decide +kernel
theorem dX0_show_31 : decode cX0_show 31 = .ok (.iload_n 2, 1) := by decide +kernel
theorem dX0_show_32 : decode cX0_show 32 = .ok (.invokevirtual 46, 3) := by decide +kernel
theorem dX0_show_35 : decode cX0_show 35 = .ok (.aload_n 0, 1) := by decide +kernel
theorem dX0_show_36 : decode cX0_show 36 = .ok (.getfield 20, 3) := by decide +kernel
theorem dX0_show_39 : decode cX0_show 39 = .ok (.iload_n 1, 1) := by decide +kernel
theorem dX0_show_40 : decode cX0_show 40 = .ok (.iload_n 3, 1) := by decide +kernel
theorem dX0_show_41 : decode cX0_show 41 = .ok (.iconst 1, 1) := by decide +kernel
theorem dX0_show_42 : decode cX0_show 42 = .ok (.iadd, 1) := by decide +kernel
theorem dX0_show_43 : decode cX0_show 43 = .ok (.invokevirtual 46, 3) := by decide +kernel
theorem dX0_show_46 : decode cX0_show 46 = .ok (.return_, 1) := by decide +kernel
theorem dX0_numberAt_0 : decode cX0_numberAt 0 = .ok (.iload_n 2, 1) := by decide +kernel
theorem dX0_numberAt_1 : decode cX0_numberAt 1 = .ok (.ifCond .lt 19, 3) := by decide +kernel
theorem dX0_numberAt_4 : decode cX0_numberAt 4 = .ok (.iload_n 2, 1) := by decide +kernel
theorem dX0_numberAt_5 : decode cX0_numberAt 5 = .ok (.aload_n 0, 1) := by decide +kernel
theorem dX0_numberAt_6 : decode cX0_numberAt 6 = .ok (.getfield 20, 3) := by decide +kernel
theorem dX0_numberAt_9 : decode cX0_numberAt 9 = .ok (.iload_n 1, 1) := by decide +kernel
theorem dX0_numberAt_10 : decode cX0_numberAt 10 = .ok (.invokevirtual 42, 3) := by decide +kernel
theorem dX0_numberAt_13 : decode cX0_numberAt 13 = .ok (.if_icmp .ge 7, 3) := by decide +kernel
theorem dX0_numberAt_16 : decode cX0_numberAt 16 = .ok (.iconst 1, 1) := by decide +kernel
theorem dX0_numberAt_17 : decode cX0_numberAt 17 = .ok (.goto 4, 3) := by decide +kernel
theorem dX0_numberAt_20 : decode cX0_numberAt 20 = .ok (.iconst 0, 1) := by decide +kernel
theorem dX0_numberAt_21 : decode cX0_numberAt 21 = .ok (.istore_n 3, 1) := by decide +kernel
theorem dX0_numberAt_22 : decode cX0_numberAt 22 = .ok (.iload_n 3, 1) := by decide +kernel
theorem dX0_numberAt_23 : decode cX0_numberAt 23 = .ok (.ifCond .eq 20, 3) := by decide +kernel
theorem dX0_numberAt_26 : decode cX0_numberAt 26 = .ok (.aload_n 0, 1) := by decide +kernel
theorem dX0_numberAt_27 : decode cX0_numberAt 27 = .ok (.getfield 14, 3) := by decide +kernel
theorem dX0_numberAt_30 : decode cX0_numberAt 30 = .ok (.iload_n 1, 1) := by decide +kernel
theorem dX0_numberAt_31 : decode cX0_numberAt 31 = .ok (.sipush 400, 3) := by decide +kernel
theorem dX0_numberAt_34 : decode cX0_numberAt 34 = .ok (.imul, 1) := by decide +kernel
theorem dX0_numberAt_35 : decode cX0_numberAt 35 = .ok (.iload_n 2, 1) := by decide +kernel
theorem dX0_numberAt_36 : decode cX0_numberAt 36 = .ok (.iadd, 1) := by decide +kernel
theorem dX0_numberAt_37 : decode cX0_numberAt 37 = .ok (.invokevirtual 42, 3) := by decide +kernel
theorem dX0_numberAt_40 : decode cX0_numberAt 40 = .ok (.goto 4, 3) := by decide +kernel
theorem dX0_numberAt_43 : decode cX0_numberAt 43 = .ok (.iconst (-1), 1) := by decide +kernel
theorem dX0_numberAt_44 : decode cX0_numberAt 44 = .ok (.ireturn, 1) := by decide +kernel
theorem dX0_countShownBefore_0 : decode cX0_countShownBefore 0 = .ok (.aload_n 0, 1) := by decide +kernel
theorem dX0_countShownBefore_1 : decode cX0_countShownBefore 1 = .ok (.getfield 20, 3) := by decide +kernel
theorem dX0_countShownBefore_4 : decode cX0_countShownBefore 4 = .ok (.iload_n 1, 1) := by decide +kernel
theorem dX0_countShownBefore_5 : decode cX0_countShownBefore 5 = .ok (.invokevirtual 42, 3) := by decide +kernel
theorem dX0_countShownBefore_8 : decode cX0_countShownBefore 8 = .ok (.istore 4, 2) := by decide +kernel
theorem dX0_countShownBefore_10 : decode cX0_countShownBefore 10 = .ok (.iload 4, 2) := by decide +kernel
theorem dX0_countShownBefore_12 : decode cX0_countShownBefore 12 = .ok (.istore 5, 2) := by decide +kernel
theorem dX0_countShownBefore_14 : decode cX0_countShownBefore 14 = .ok (.iload 5, 2) := by decide +kernel
theorem dX0_countShownBefore_16 : decode cX0_countShownBefore 16 = .ok (.ifCond .le 40, 3) := by decide +kernel
theorem dX0_countShownBefore_19 : decode cX0_countShownBefore 19 = .ok (.aload_n 3, 1) := by decide +kernel
theorem dX0_countShownBefore_20 : decode cX0_countShownBefore 20 = .ok (.getfield 50, 3) := by decide +kernel
theorem dX0_countShownBefore_23 : decode cX0_countShownBefore 23 = .ok (.aload_n 0, 1) := by decide +kernel
theorem dX0_countShownBefore_24 : decode cX0_countShownBefore 24 = .ok (.getfield 14, 3) := by decide +kernel
theorem dX0_countShownBefore_27 : decode cX0_countShownBefore 27 = .ok (.iload_n 1, 1) := by decide +kernel
theorem dX0_countShownBefore_28 : decode cX0_countShownBefore 28 = .ok (.sipush 400, 3) := by decide +kernel
theorem dX0_countShownBefore_31 : decode cX0_countShownBefore 31 = .ok (.imul, 1) := by decide +kernel
theorem dX0_countShownBefore_32 : decode cX0_countShownBefore 32 = .ok (.iload 5, 2) := by decide +kernel
theorem dX0_countShownBefore_34 : decode cX0_countShownBefore 34 = .ok (.iadd, 1) := by decide +kernel
theorem dX0_countShownBefore_35 : decode cX0_countShownBefore 35 = .ok (.iconst 1, 1) := by decide +kernel
theorem dX0_countShownBefore_36 : decode cX0_countShownBefore 36 = .ok (.isub, 1) := by decide +kernel
theorem dX0_countShownBefore_37 : decode cX0_countShownBefore 37 = .ok (.invokevirtual 42, 3) := by decide +kernel
theorem dX0_countShownBefore_40 : decode cX0_countShownBefore 40 = .ok (.invokevirtual 42, 3) := by decide +kernel
theorem dX0_countShownBefore_43 : decode cX0_countShownBefore 43 = .ok (.iload_n 2, 1) := by decide +kernel
theorem dX0_countShownBefore_44 : decode cX0_countShownBefore 44 = .ok (.if_icmp .ge 6, 3) := by decide +kernel
theorem dX0_countShownBefore_47 : decode cX0_countShownBefore 47 = .ok (.iload 5, 2) := by decide +kernel
theorem dX0_countShownBefore_49 : decode cX0_countShownBefore 49 = .ok (.ireturn, 1) := by decide +kernel
theorem dX0_countShownBefore_50 : decode cX0_countShownBefore 50 = .ok (.iinc 5 (-1), 3) := by decide +kernel
theorem dX0_countShownBefore_53 : decode cX0_countShownBefore 53 = .ok (.goto (-39), 3) := by decide +kernel
theorem dX0_countShownBefore_56 : decode cX0_countShownBefore 56 = .ok (.iconst 0, 1) := by decide +kernel
theorem dX0_countShownBefore_57 : decode cX0_countShownBefore 57 = .ok (.ireturn, 1) := by decide +kernel
theorem dX0_hideFrom_0 : decode cX0_hideFrom 0 = .ok (.iconst 0, 1) := by decide +kernel
theorem dX0_hideFrom_1 : decode cX0_hideFrom 1 = .ok (.istore_n 3, 1) := by decide +kernel
theorem dX0_hideFrom_2 : decode cX0_hideFrom 2 = .ok (.iload_n 3, 1) := by decide +kernel
theorem dX0_hideFrom_3 : decode cX0_hideFrom 3 = .ok (.iconst 4, 1) := by decide +kernel
theorem dX0_hideFrom_4 : decode cX0_hideFrom 4 = .ok (.if_icmp .ge 24, 3) := by decide +kernel
theorem dX0_hideFrom_7 : decode cX0_hideFrom 7 = .ok (.aload_n 0, 1) := by decide +kernel
theorem dX0_hideFrom_8 : decode cX0_hideFrom 8 = .ok (.getfield 20, 3) := by decide +kernel
theorem dX0_hideFrom_11 : decode cX0_hideFrom 11 = .ok (.iload_n 3, 1) := by decide +kernel
theorem dX0_hideFrom_12 : decode cX0_hideFrom 12 = .ok (.aload_n 0, 1) := by decide +kernel
theorem dX0_hideFrom_13 : decode cX0_hideFrom 13 = .ok (.iload_n 3, 1) := by decide +kernel
theorem dX0_hideFrom_14 : decode cX0_hideFrom 14 = .ok (.iload_n 1, 1) := by decide +kernel
theorem dX0_hideFrom_15 : decode cX0_hideFrom 15 = .ok (.aload_n 2, 1) := by decide +kernel
theorem dX0_hideFrom_16 : decode cX0_hideFrom 16 = .ok (.invokevirtual 55, 3) := by decide +kernel
theorem dX0_hideFrom_19 : decode cX0_hideFrom 19 = .ok (.invokevirtual 46, 3) := by decide +kernel
theorem dX0_hideFrom_22 : decode cX0_hideFrom 22 = .ok (.iinc 3 1, 3) := by decide +kernel
theorem dX0_hideFrom_25 : decode cX0_hideFrom 25 = .ok (.goto (-23), 3) := by decide +kernel
theorem dX0_hideFrom_28 : decode cX0_hideFrom 28 = .ok (.iconst 0, 1) := by decide +kernel
theorem dX0_hideFrom_29 : decode cX0_hideFrom 29 = .ok (.istore_n 3, 1) := by decide +kernel
theorem dX0_hideFrom_30 : decode cX0_hideFrom 30 = .ok (.iload_n 3, 1) := by decide +kernel
theorem dX0_hideFrom_31 : decode cX0_hideFrom 31 = .ok (.aload_n 0, 1) := by decide +kernel
theorem dX0_hideFrom_32 : decode cX0_hideFrom 32 = .ok (.getfield 38, 3) := by decide +kernel
theorem dX0_hideFrom_35 : decode cX0_hideFrom 35 = .ok (.if_icmp .ge 49, 3) := by decide +kernel
theorem dX0_hideFrom_38 : decode cX0_hideFrom 38 = .ok (.aload_n 0, 1) := by decide +kernel
theorem dX0_hideFrom_39 : decode cX0_hideFrom 39 = .ok (.getfield 20, 3) := by decide +kernel
theorem dX0_hideFrom_42 : decode cX0_hideFrom 42 = .ok (.aload_n 0, 1) := by decide +kernel
theorem dX0_hideFrom_43 : decode cX0_hideFrom 43 = .ok (.getfield 23, 3) := by decide +kernel
theorem dX0_hideFrom_46 : decode cX0_hideFrom 46 = .ok (.iload_n 3, 1) := by decide +kernel
theorem dX0_hideFrom_47 : decode cX0_hideFrom 47 = .ok (.invokevirtual 42, 3) := by decide +kernel
theorem dX0_hideFrom_50 : decode cX0_hideFrom 50 = .ok (.invokevirtual 42, 3) := by decide +kernel
theorem dX0_hideFrom_53 : decode cX0_hideFrom 53 = .ok (.istore 4, 2) := by decide +kernel
theorem dX0_hideFrom_55 : decode cX0_hideFrom 55 = .ok (.aload_n 0, 1) := by decide +kernel
theorem dX0_hideFrom_56 : decode cX0_hideFrom 56 = .ok (.getfield 29, 3) := by decide +kernel
theorem dX0_hideFrom_59 : decode cX0_hideFrom 59 = .ok (.iload_n 3, 1) := by decide +kernel
theorem dX0_hideFrom_60 : decode cX0_hideFrom 60 = .ok (.invokevirtual 42, 3) := by decide +kernel
theorem dX0_hideFrom_63 : decode cX0_hideFrom 63 = .ok (.iload 4, 2) := by decide +kernel
theorem dX0_hideFrom_65 : decode cX0_hideFrom 65 = .ok (.if_icmp .le 13, 3) := by decide +kernel
theorem dX0_hideFrom_68 : decode cX0_hideFrom 68 = .ok (.aload_n 0, 1) := by decide +kernel
theorem dX0_hideFrom_69 : decode cX0_hideFrom 69 = .ok (.getfield 29, 3) := by decide +kernel
theorem dX0_hideFrom_72 : decode cX0_hideFrom 72 = .ok (.iload_n 3, 1) := by decide +kernel
theorem dX0_hideFrom_73 : decode cX0_hideFrom 73 = .ok (.iload 4, 2) := by decide +kernel
theorem dX0_hideFrom_75 : decode cX0_hideFrom 75 = .ok (.invokevirtual 46, 3) := by decide +kernel
theorem dX0_hideFrom_78 : decode cX0_hideFrom 78 = .ok (.iinc 3 1, 3) := by decide +kernel
theorem dX0_hideFrom_81 : decode cX0_hideFrom 81 = .ok (.goto (-51), 3) := by decide +kernel
theorem dX0_hideFrom_84 : decode cX0_hideFrom 84 = .ok (.return_, 1) := by decide +kernel
theorem dX0_hasConsumer_0 : decode cX0_hasConsumer 0 = .ok (.iload_n 1, 1) := by decide +kernel
theorem dX0_hasConsumer_1 : decode cX0_hasConsumer 1 = .ok (.ifCond .lt 15, 3) := by decide +kernel
theorem dX0_hasConsumer_4 : decode cX0_hasConsumer 4 = .ok (.iload_n 1, 1) := by decide +kernel
theorem dX0_hasConsumer_5 : decode cX0_hasConsumer 5 = .ok (.aload_n 0, 1) := by decide +kernel
theorem dX0_hasConsumer_6 : decode cX0_hasConsumer 6 = .ok (.getfield 38, 3) := by decide +kernel
theorem dX0_hasConsumer_9 : decode cX0_hasConsumer 9 = .ok (.if_icmp .ge 7, 3) := by decide +kernel
theorem dX0_hasConsumer_12 : decode cX0_hasConsumer 12 = .ok (.iconst 1, 1) := by decide +kernel
theorem dX0_hasConsumer_13 : decode cX0_hasConsumer 13 = .ok (.goto 4, 3) := by decide +kernel
theorem dX0_hasConsumer_16 : decode cX0_hasConsumer 16 = .ok (.iconst 0, 1) := by decide +kernel
theorem dX0_hasConsumer_17 : decode cX0_hasConsumer 17 = .ok (.ireturn, 1) := by decide +kernel
theorem dX0_addConsumer_0 : decode cX0_addConsumer 0 = .ok (.aload_n 0, 1) := by decide +kernel
theorem dX0_addConsumer_1 : decode cX0_addConsumer 1 = .ok (.getfield 38, 3) := by decide +kernel
theorem dX0_addConsumer_4 : decode cX0_addConsumer 4 = .ok (.istore_n 2, 1) := by decide +kernel
theorem dX0_addConsumer_5 : decode cX0_addConsumer 5 = .ok (.aload_n 0, 1) := by decide +kernel
theorem dX0_addConsumer_6 : decode cX0_addConsumer 6 = .ok (.getfield 23, 3) := by decide +kernel
theorem dX0_addConsumer_9 : decode cX0_addConsumer 9 = .ok (.iload_n 2, 1) := by decide +kernel
theorem dX0_addConsumer_10 : decode cX0_addConsumer 10 = .ok (.iload_n 1, 1) := by decide +kernel
theorem dX0_addConsumer_11 : decode cX0_addConsumer 11 = .ok (.invokevirtual 46, 3) := by decide +kernel
theorem dX0_addConsumer_14 : decode cX0_addConsumer 14 = .ok (.aload_n 0, 1) := by decide +kernel
theorem dX0_addConsumer_15 : decode cX0_addConsumer 15 = .ok (.getfield 26, 3) := by decide +kernel
theorem dX0_addConsumer_18 : decode cX0_addConsumer 18 = .ok (.iload_n 2, 1) := by decide +kernel
theorem dX0_addConsumer_19 : decode cX0_addConsumer 19 = .ok (.aload_n 0, 1) := by decide +kernel
theorem dX0_addConsumer_20 : decode cX0_addConsumer 20 = .ok (.getfield 20, 3) := by decide +kernel
theorem dX0_addConsumer_23 : decode cX0_addConsumer 23 = .ok (.iload_n 1, 1) := by decide +kernel
theorem dX0_addConsumer_24 : decode cX0_addConsumer 24 = .ok (.invokevirtual 42, 3) := by decide +kernel
theorem dX0_addConsumer_27 : decode cX0_addConsumer 27 = .ok (.invokevirtual 46, 3) := by decide +kernel
theorem dX0_addConsumer_30 : decode cX0_addConsumer 30 = .ok (.aload_n 0, 1) := by decide +kernel
theorem dX0_addConsumer_31 : decode cX0_addConsumer 31 = .ok (.getfield 29, 3) := by decide +kernel
theorem dX0_addConsumer_34 : decode cX0_addConsumer 34 = .ok (.iload_n 2, 1) := by decide +kernel
theorem dX0_addConsumer_35 : decode cX0_addConsumer 35 = .ok (.iconst 0, 1) := by decide +kernel
theorem dX0_addConsumer_36 : decode cX0_addConsumer 36 = .ok (.invokevirtual 46, 3) := by decide +kernel
theorem dX0_addConsumer_39 : decode cX0_addConsumer 39 = .ok (.aload_n 0, 1) := by decide +kernel
theorem dX0_addConsumer_40 : decode cX0_addConsumer 40 = .ok (.dup, 1) := by decide +kernel
theorem dX0_addConsumer_41 : decode cX0_addConsumer 41 = .ok (.getfield 38, 3) := by decide +kernel
theorem dX0_addConsumer_44 : decode cX0_addConsumer 44 = .ok (.iconst 1, 1) := by decide +kernel
theorem dX0_addConsumer_45 : decode cX0_addConsumer 45 = .ok (.iadd, 1) := by decide +kernel
theorem dX0_addConsumer_46 : decode cX0_addConsumer 46 = .ok (.putfield 38, 3) := by decide +kernel
theorem dX0_addConsumer_49 : decode cX0_addConsumer 49 = .ok (.iload_n 2, 1) := by decide +kernel
theorem dX0_addConsumer_50 : decode cX0_addConsumer 50 = .ok (.ireturn, 1) := by decide +kernel
theorem dX0_keepPositions_0 : decode cX0_keepPositions 0 = .ok (.iconst 0, 1) := by decide +kernel
theorem dX0_keepPositions_1 : decode cX0_keepPositions 1 = .ok (.istore_n 1, 1) := by decide +kernel
theorem dX0_keepPositions_2 : decode cX0_keepPositions 2 = .ok (.iload_n 1, 1) := by decide +kernel
theorem dX0_keepPositions_3 : decode cX0_keepPositions 3 = .ok (.aload_n 0, 1) := by decide +kernel
theorem dX0_keepPositions_4 : decode cX0_keepPositions 4 = .ok (.getfield 38, 3) := by decide +kernel
theorem dX0_keepPositions_7 : decode cX0_keepPositions 7 = .ok (.if_icmp .ge 25, 3) := by decide +kernel
theorem dX0_keepPositions_10 : decode cX0_keepPositions 10 = .ok (.aload_n 0, 1) := by decide +kernel
theorem dX0_keepPositions_11 : decode cX0_keepPositions 11 = .ok (.getfield 32, 3) := by decide +kernel
theorem dX0_keepPositions_14 : decode cX0_keepPositions 14 = .ok (.iload_n 1, 1) := by decide +kernel
theorem dX0_keepPositions_15 : decode cX0_keepPositions 15 = .ok (.aload_n 0, 1) := by decide +kernel
theorem dX0_keepPositions_16 : decode cX0_keepPositions 16 = .ok (.getfield 26, 3) := by decide +kernel
theorem dX0_keepPositions_19 : decode cX0_keepPositions 19 = .ok (.iload_n 1, 1) := by decide +kernel
theorem dX0_keepPositions_20 : decode cX0_keepPositions 20 = .ok (.invokevirtual 42, 3) := by decide +kernel
theorem dX0_keepPositions_23 : decode cX0_keepPositions 23 = .ok (.invokevirtual 46, 3) := by decide +kernel
theorem dX0_keepPositions_26 : decode cX0_keepPositions 26 = .ok (.iinc 1 1, 3) := by decide +kernel
theorem dX0_keepPositions_29 : decode cX0_keepPositions 29 = .ok (.goto (-27), 3) := by decide +kernel
theorem dX0_keepPositions_32 : decode cX0_keepPositions 32 = .ok (.return_, 1) := by decide +kernel
theorem dX0_unreadOf_0 : decode cX0_unreadOf 0 = .ok (.aload_n 0, 1) := by decide +kernel
theorem dX0_unreadOf_1 : decode cX0_unreadOf 1 = .ok (.getfield 20, 3) := by decide +kernel
theorem dX0_unreadOf_4 : decode cX0_unreadOf 4 = .ok (.aload_n 0, 1) := by decide +kernel
theorem dX0_unreadOf_5 : decode cX0_unreadOf 5 = .ok (.getfield 23, 3) := by decide +kernel
theorem dX0_unreadOf_8 : decode cX0_unreadOf 8 = .ok (.iload_n 1, 1) := by decide +kernel
theorem dX0_unreadOf_9 : decode cX0_unreadOf 9 = .ok (.invokevirtual 42, 3) := by decide +kernel
theorem dX0_unreadOf_12 : decode cX0_unreadOf 12 = .ok (.invokevirtual 42, 3) := by decide +kernel
theorem dX0_unreadOf_15 : decode cX0_unreadOf 15 = .ok (.aload_n 0, 1) := by decide +kernel
theorem dX0_unreadOf_16 : decode cX0_unreadOf 16 = .ok (.getfield 26, 3) := by decide +kernel
theorem dX0_unreadOf_19 : decode cX0_unreadOf 19 = .ok (.iload_n 1, 1) := by decide +kernel
theorem dX0_unreadOf_20 : decode cX0_unreadOf 20 = .ok (.invokevirtual 42, 3) := by decide +kernel
theorem dX0_unreadOf_23 : decode cX0_unreadOf 23 = .ok (.isub, 1) := by decide +kernel
theorem dX0_unreadOf_24 : decode cX0_unreadOf 24 = .ok (.ireturn, 1) := by decide +kernel
theorem dX0_spilledOf_0 : decode cX0_spilledOf 0 = .ok (.aload_n 0, 1) := by decide +kernel
theorem dX0_spilledOf_1 : decode cX0_spilledOf 1 = .ok (.getfield 29, 3) := by decide +kernel
theorem dX0_spilledOf_4 : decode cX0_spilledOf 4 = .ok (.iload_n 1, 1) := by decide +kernel
theorem dX0_spilledOf_5 : decode cX0_spilledOf 5 = .ok (.invokevirtual 42, 3) := by decide +kernel
theorem dX0_spilledOf_8 : decode cX0_spilledOf 8 = .ok (.aload_n 0, 1) := by decide +kernel
theorem dX0_spilledOf_9 : decode cX0_spilledOf 9 = .ok (.getfield 26, 3) := by decide +kernel
theorem dX0_spilledOf_12 : decode cX0_spilledOf 12 = .ok (.iload_n 1, 1) := by decide +kernel
theorem dX0_spilledOf_13 : decode cX0_spilledOf 13 = .ok (.invokevirtual 42, 3) := by decide +kernel
theorem dX0_spilledOf_16 : decode cX0_spilledOf 16 = .ok (.isub, 1) := by decide +kernel
theorem dX0_spilledOf_17 : decode cX0_spilledOf 17 = .ok (.istore_n 2, 1) := by decide +kernel
theorem dX0_spilledOf_18 : decode cX0_spilledOf 18 = .ok (.iload_n 2, 1) := by decide +kernel
theorem dX0_spilledOf_19 : decode cX0_spilledOf 19 = .ok (.ifCond .le 7, 3) := by decide +kernel
theorem dX0_spilledOf_22 : decode cX0_spilledOf 22 = .ok (.iload_n 2, 1) := by decide +kernel
theorem dX0_spilledOf_23 : decode cX0_spilledOf 23 = .ok (.goto 4, 3) := by decide +kernel
theorem dX0_spilledOf_26 : decode cX0_spilledOf 26 = .ok (.iconst 0, 1) := by decide +kernel
theorem dX0_spilledOf_27 : decode cX0_spilledOf 27 = .ok (.ireturn, 1) := by decide +kernel
theorem dX0_spilledInAll_0 : decode cX0_spilledInAll 0 = .ok (.iconst 0, 1) := by decide +kernel
theorem dX0_spilledInAll_1 : decode cX0_spilledInAll 1 = .ok (.istore_n 1, 1) := by decide +kernel
theorem dX0_spilledInAll_2 : decode cX0_spilledInAll 2 = .ok (.iconst 0, 1) := by decide +kernel
theorem dX0_spilledInAll_3 : decode cX0_spilledInAll 3 = .ok (.istore_n 2, 1) := by decide +kernel
theorem dX0_spilledInAll_4 : decode cX0_spilledInAll 4 = .ok (.iload_n 2, 1) := by decide +kernel
theorem dX0_spilledInAll_5 : decode cX0_spilledInAll 5 = .ok (.aload_n 0, 1) := by decide +kernel
theorem dX0_spilledInAll_6 : decode cX0_spilledInAll 6 = .ok (.getfield 38, 3) := by decide +kernel
theorem dX0_spilledInAll_9 : decode cX0_spilledInAll 9 = .ok (.if_icmp .ge 17, 3) := by decide +kernel
theorem dX0_spilledInAll_12 : decode cX0_spilledInAll 12 = .ok (.iload_n 1, 1) := by decide +kernel
theorem dX0_spilledInAll_13 : decode cX0_spilledInAll 13 = .ok (.aload_n 0, 1) := by decide +kernel
theorem dX0_spilledInAll_14 : decode cX0_spilledInAll 14 = .ok (.iload_n 2, 1) := by decide +kernel
theorem dX0_spilledInAll_15 : decode cX0_spilledInAll 15 = .ok (.invokevirtual 59, 3) := by decide +kernel
theorem dX0_spilledInAll_18 : decode cX0_spilledInAll 18 = .ok (.iadd, 1) := by decide +kernel
theorem dX0_spilledInAll_19 : decode cX0_spilledInAll 19 = .ok (.istore_n 1, 1) := by decide +kernel
theorem dX0_spilledInAll_20 : decode cX0_spilledInAll 20 = .ok (.iinc 2 1, 3) := by decide +kernel
theorem dX0_spilledInAll_23 : decode cX0_spilledInAll 23 = .ok (.goto (-19), 3) := by decide +kernel
theorem dX0_spilledInAll_26 : decode cX0_spilledInAll 26 = .ok (.iload_n 1, 1) := by decide +kernel
theorem dX0_spilledInAll_27 : decode cX0_spilledInAll 27 = .ok (.ireturn, 1) := by decide +kernel
theorem dX0_spillAll_0 : decode cX0_spillAll 0 = .ok (.aload_n 0, 1) := by decide +kernel
theorem dX0_spillAll_1 : decode cX0_spillAll 1 = .ok (.getfield 29, 3) := by decide +kernel
theorem dX0_spillAll_4 : decode cX0_spillAll 4 = .ok (.iload_n 1, 1) := by decide +kernel
theorem dX0_spillAll_5 : decode cX0_spillAll 5 = .ok (.aload_n 0, 1) := by decide +kernel
theorem dX0_spillAll_6 : decode cX0_spillAll 6 = .ok (.getfield 20, 3) := by decide +kernel
theorem dX0_spillAll_9 : decode cX0_spillAll 9 = .ok (.aload_n 0, 1) := by decide +kernel
theorem dX0_spillAll_10 : decode cX0_spillAll 10 = .ok (.getfield 23, 3) := by decide +kernel
theorem dX0_spillAll_13 : decode cX0_spillAll 13 = .ok (.iload_n 1, 1) := by decide +kernel
theorem dX0_spillAll_14 : decode cX0_spillAll 14 = .ok (.invokevirtual 42, 3) := by decide +kernel
theorem dX0_spillAll_17 : decode cX0_spillAll 17 = .ok (.invokevirtual 42, 3) := by decide +kernel
theorem dX0_spillAll_20 : decode cX0_spillAll 20 = .ok (.invokevirtual 46, 3) := by decide +kernel
theorem dX0_spillAll_23 : decode cX0_spillAll 23 = .ok (.return_, 1) := by decide +kernel
theorem dX0_holdOf_0 : decode cX0_holdOf 0 = .ok (.aload_n 0, 1) := by decide +kernel
theorem dX0_holdOf_1 : decode cX0_holdOf 1 = .ok (.getfield 23, 3) := by decide +kernel
theorem dX0_holdOf_4 : decode cX0_holdOf 4 = .ok (.iload_n 1, 1) := by decide +kernel
theorem dX0_holdOf_5 : decode cX0_holdOf 5 = .ok (.invokevirtual 42, 3) := by decide +kernel
theorem dX0_holdOf_8 : decode cX0_holdOf 8 = .ok (.sipush 400, 3) := by decide +kernel
theorem dX0_holdOf_11 : decode cX0_holdOf 11 = .ok (.imul, 1) := by decide +kernel
theorem dX0_holdOf_12 : decode cX0_holdOf 12 = .ok (.istore_n 3, 1) := by decide +kernel
theorem dX0_holdOf_13 : decode cX0_holdOf 13 = .ok (.aload_n 0, 1) := by decide +kernel
theorem dX0_holdOf_14 : decode cX0_holdOf 14 = .ok (.getfield 20, 3) := by decide +kernel
theorem dX0_holdOf_17 : decode cX0_holdOf 17 = .ok (.aload_n 0, 1) := by decide +kernel
theorem dX0_holdOf_18 : decode cX0_holdOf 18 = .ok (.getfield 23, 3) := by decide +kernel
theorem dX0_holdOf_21 : decode cX0_holdOf 21 = .ok (.iload_n 1, 1) := by decide +kernel
theorem dX0_holdOf_22 : decode cX0_holdOf 22 = .ok (.invokevirtual 42, 3) := by decide +kernel
theorem dX0_holdOf_25 : decode cX0_holdOf 25 = .ok (.invokevirtual 42, 3) := by decide +kernel
theorem dX0_holdOf_28 : decode cX0_holdOf 28 = .ok (.istore 4, 2) := by decide +kernel
theorem dX0_holdOf_30 : decode cX0_holdOf 30 = .ok (.aload_n 0, 1) := by decide +kernel
theorem dX0_holdOf_31 : decode cX0_holdOf 31 = .ok (.getfield 26, 3) := by decide +kernel
theorem dX0_holdOf_34 : decode cX0_holdOf 34 = .ok (.iload_n 1, 1) := by decide +kernel
theorem dX0_holdOf_35 : decode cX0_holdOf 35 = .ok (.invokevirtual 42, 3) := by decide +kernel
theorem dX0_holdOf_38 : decode cX0_holdOf 38 = .ok (.istore 5, 2) := by decide +kernel
theorem dX0_holdOf_40 : decode cX0_holdOf 40 = .ok (.aload_n 0, 1) := by decide +kernel
theorem dX0_holdOf_41 : decode cX0_holdOf 41 = .ok (.getfield 29, 3) := by decide +kernel
theorem dX0_holdOf_44 : decode cX0_holdOf 44 = .ok (.iload_n 1, 1) := by decide +kernel
theorem dX0_holdOf_45 : decode cX0_holdOf 45 = .ok (.invokevirtual 42, 3) := by decide +kernel
theorem dX0_holdOf_48 : decode cX0_holdOf 48 = .ok (.iload 5, 2) := by decide +kernel
theorem dX0_holdOf_50 : decode cX0_holdOf 50 = .ok (.if_icmp .le 13, 3) := by decide +kernel
theorem dX0_holdOf_53 : decode cX0_holdOf 53 = .ok (.aload_n 0, 1) := by decide +kernel
theorem dX0_holdOf_54 : decode cX0_holdOf 54 = .ok (.getfield 29, 3) := by decide +kernel
theorem dX0_holdOf_57 : decode cX0_holdOf 57 = .ok (.iload_n 1, 1) := by decide +kernel
theorem dX0_holdOf_58 : decode cX0_holdOf 58 = .ok (.invokevirtual 42, 3) := by decide +kernel
theorem dX0_holdOf_61 : decode cX0_holdOf 61 = .ok (.istore 5, 2) := by decide +kernel
theorem dX0_holdOf_63 : decode cX0_holdOf 63 = .ok (.iload_n 2, 1) := by decide +kernel
theorem dX0_holdOf_64 : decode cX0_holdOf 64 = .ok (.istore 6, 2) := by decide +kernel
theorem dX0_holdOf_66 : decode cX0_holdOf 66 = .ok (.iload 5, 2) := by decide +kernel
theorem dX0_holdOf_68 : decode cX0_holdOf 68 = .ok (.istore 7, 2) := by decide +kernel
theorem dX0_holdOf_70 : decode cX0_holdOf 70 = .ok (.iload 7, 2) := by decide +kernel
theorem dX0_holdOf_72 : decode cX0_holdOf 72 = .ok (.iload 4, 2) := by decide +kernel
theorem dX0_holdOf_74 : decode cX0_holdOf 74 = .ok (.if_icmp .ge 33, 3) := by decide +kernel
theorem dX0_holdOf_77 : decode cX0_holdOf 77 = .ok (.aload_n 0, 1) := by decide +kernel
theorem dX0_holdOf_78 : decode cX0_holdOf 78 = .ok (.getfield 14, 3) := by decide +kernel
theorem dX0_holdOf_81 : decode cX0_holdOf 81 = .ok (.iload_n 3, 1) := by decide +kernel
theorem dX0_holdOf_82 : decode cX0_holdOf 82 = .ok (.iload 7, 2) := by decide +kernel
theorem dX0_holdOf_84 : decode cX0_holdOf 84 = .ok (.iadd, 1) := by decide +kernel
theorem dX0_holdOf_85 : decode cX0_holdOf 85 = .ok (.invokevirtual 42, 3) := by decide +kernel
theorem dX0_holdOf_88 : decode cX0_holdOf 88 = .ok (.istore 8, 2) := by decide +kernel
theorem dX0_holdOf_90 : decode cX0_holdOf 90 = .ok (.iload 8, 2) := by decide +kernel
theorem dX0_holdOf_92 : decode cX0_holdOf 92 = .ok (.iload 6, 2) := by decide +kernel
theorem dX0_holdOf_94 : decode cX0_holdOf 94 = .ok (.if_icmp .ge 7, 3) := by decide +kernel
theorem dX0_holdOf_97 : decode cX0_holdOf 97 = .ok (.iload 8, 2) := by decide +kernel
theorem dX0_holdOf_99 : decode cX0_holdOf 99 = .ok (.istore 6, 2) := by decide +kernel
theorem dX0_holdOf_101 : decode cX0_holdOf 101 = .ok (.iinc 7 1, 3) := by decide +kernel
theorem dX0_holdOf_104 : decode cX0_holdOf 104 = .ok (.goto (-34), 3) := by decide +kernel
theorem dX0_holdOf_107 : decode cX0_holdOf 107 = .ok (.iload 6, 2) := by decide +kernel
theorem dX0_holdOf_109 : decode cX0_holdOf 109 = .ok (.ireturn, 1) := by decide +kernel
theorem dX0_leastHolder_0 : decode cX0_leastHolder 0 = .ok (.iconst (-1), 1) := by decide +kernel
theorem dX0_leastHolder_1 : decode cX0_leastHolder 1 = .ok (.istore_n 2, 1) := by decide +kernel
theorem dX0_leastHolder_2 : decode cX0_leastHolder 2 = .ok (.iload_n 1, 1) := by decide +kernel
theorem dX0_leastHolder_3 : decode cX0_leastHolder 3 = .ok (.istore_n 3, 1) := by decide +kernel
theorem dX0_leastHolder_4 : decode cX0_leastHolder 4 = .ok (.iconst 0, 1) := by decide +kernel
theorem dX0_leastHolder_5 : decode cX0_leastHolder 5 = .ok (.istore 4, 2) := by decide +kernel
theorem dX0_leastHolder_7 : decode cX0_leastHolder 7 = .ok (.iload 4, 2) := by decide +kernel
theorem dX0_leastHolder_9 : decode cX0_leastHolder 9 = .ok (.aload_n 0, 1) := by decide +kernel
theorem dX0_leastHolder_10 : decode cX0_leastHolder 10 = .ok (.getfield 38, 3) := by decide +kernel
theorem dX0_leastHolder_13 : decode cX0_leastHolder 13 = .ok (.if_icmp .ge 35, 3) := by decide +kernel
theorem dX0_leastHolder_16 : decode cX0_leastHolder 16 = .ok (.aload_n 0, 1) := by decide +kernel
theorem dX0_leastHolder_17 : decode cX0_leastHolder 17 = .ok (.iload 4, 2) := by decide +kernel
theorem dX0_leastHolder_19 : decode cX0_leastHolder 19 = .ok (.iload_n 1, 1) := by decide +kernel
theorem dX0_leastHolder_20 : decode cX0_leastHolder 20 = .ok (.invokevirtual 62, 3) := by decide +kernel
theorem dX0_leastHolder_23 : decode cX0_leastHolder 23 = .ok (.istore 5, 2) := by decide +kernel
theorem dX0_leastHolder_25 : decode cX0_leastHolder 25 = .ok (.iload_n 2, 1) := by decide +kernel
theorem dX0_leastHolder_26 : decode cX0_leastHolder 26 = .ok (.iconst (-1), 1) := by decide +kernel
theorem dX0_leastHolder_27 : decode cX0_leastHolder 27 = .ok (.if_icmp .eq 9, 3) := by decide +kernel
theorem dX0_leastHolder_30 : decode cX0_leastHolder 30 = .ok (.iload 5, 2) := by decide +kernel
theorem dX0_leastHolder_32 : decode cX0_leastHolder 32 = .ok (.iload_n 3, 1) := by decide +kernel
theorem dX0_leastHolder_33 : decode cX0_leastHolder 33 = .ok (.if_icmp .ge 9, 3) := by decide +kernel
theorem dX0_leastHolder_36 : decode cX0_leastHolder 36 = .ok (.iload 4, 2) := by decide +kernel
theorem dX0_leastHolder_38 : decode cX0_leastHolder 38 = .ok (.istore_n 2, 1) := by decide +kernel
theorem dX0_leastHolder_39 : decode cX0_leastHolder 39 = .ok (.iload 5, 2) := by decide +kernel
theorem dX0_leastHolder_41 : decode cX0_leastHolder 41 = .ok (.istore_n 3, 1) := by decide +kernel
theorem dX0_leastHolder_42 : decode cX0_leastHolder 42 = .ok (.iinc 4 1, 3) := by decide +kernel
theorem dX0_leastHolder_45 : decode cX0_leastHolder 45 = .ok (.goto (-38), 3) := by decide +kernel
theorem dX0_leastHolder_48 : decode cX0_leastHolder 48 = .ok (.iload_n 2, 1) := by decide +kernel
theorem dX0_leastHolder_49 : decode cX0_leastHolder 49 = .ok (.ireturn, 1) := by decide +kernel
theorem dX0_valueOf_0 : decode cX0_valueOf 0 = .ok (.iload_n 2, 1) := by decide +kernel
theorem dX0_valueOf_1 : decode cX0_valueOf 1 = .ok (.tableswitch 75 0 4 #[35, 44, 53, 59, 65], 35) := by decide +kernel
theorem dX0_valueOf_36 : decode cX0_valueOf 36 = .ok (.aload_n 0, 1) := by decide +kernel
theorem dX0_valueOf_37 : decode cX0_valueOf 37 = .ok (.getfield 23, 3) := by decide +kernel
theorem dX0_valueOf_40 : decode cX0_valueOf 40 = .ok (.iload_n 1, 1) := by decide +kernel
theorem dX0_valueOf_41 : decode cX0_valueOf 41 = .ok (.invokevirtual 42, 3) := by decide +kernel
theorem dX0_valueOf_44 : decode cX0_valueOf 44 = .ok (.ireturn, 1) := by decide +kernel
theorem dX0_valueOf_45 : decode cX0_valueOf 45 = .ok (.aload_n 0, 1) := by decide +kernel
theorem dX0_valueOf_46 : decode cX0_valueOf 46 = .ok (.getfield 26, 3) := by decide +kernel
theorem dX0_valueOf_49 : decode cX0_valueOf 49 = .ok (.iload_n 1, 1) := by decide +kernel
theorem dX0_valueOf_50 : decode cX0_valueOf 50 = .ok (.invokevirtual 42, 3) := by decide +kernel
theorem dX0_valueOf_53 : decode cX0_valueOf 53 = .ok (.ireturn, 1) := by decide +kernel
theorem dX0_valueOf_54 : decode cX0_valueOf 54 = .ok (.aload_n 0, 1) := by decide +kernel
theorem dX0_valueOf_55 : decode cX0_valueOf 55 = .ok (.iload_n 1, 1) := by decide +kernel
theorem dX0_valueOf_56 : decode cX0_valueOf 56 = .ok (.invokevirtual 66, 3) := by decide +kernel
theorem dX0_valueOf_59 : decode cX0_valueOf 59 = .ok (.ireturn, 1) := by decide +kernel
theorem dX0_valueOf_60 : decode cX0_valueOf 60 = .ok (.aload_n 0, 1) := by decide +kernel
theorem dX0_valueOf_61 : decode cX0_valueOf 61 = .ok (.iload_n 1, 1) := by decide +kernel
theorem dX0_valueOf_62 : decode cX0_valueOf 62 = .ok (.invokevirtual 59, 3) := by decide +kernel
theorem dX0_valueOf_65 : decode cX0_valueOf 65 = .ok (.ireturn, 1) := by decide +kernel
theorem dX0_valueOf_66 : decode cX0_valueOf 66 = .ok (.aload_n 0, 1) := by decide +kernel
theorem dX0_valueOf_67 : decode cX0_valueOf 67 = .ok (.iload_n 1, 1) := by decide +kernel
theorem dX0_valueOf_68 : decode cX0_valueOf 68 = .ok (.aload_n 3, 1) := by decide +kernel
theorem dX0_valueOf_69 : decode cX0_valueOf 69 = .ok (.getfield 69, 3) := by decide +kernel
theorem dX0_valueOf_72 : decode cX0_valueOf 72 = .ok (.invokevirtual 62, 3) := by decide +kernel
theorem dX0_valueOf_75 : decode cX0_valueOf 75 = .ok (.ireturn, 1) := by decide +kernel
theorem dX0_valueOf_76 : decode cX0_valueOf 76 = .ok (.aload_n 0, 1) := by decide +kernel
theorem dX0_valueOf_77 : decode cX0_valueOf 77 = .ok (.iload_n 1, 1) := by decide +kernel
theorem dX0_valueOf_78 : decode cX0_valueOf 78 = .ok (.aload_n 3, 1) := by decide +kernel
theorem dX0_valueOf_79 : decode cX0_valueOf 79 = .ok (.invokevirtual 72, 3) := by decide +kernel
theorem dX0_valueOf_82 : decode cX0_valueOf 82 = .ok (.ireturn, 1) := by decide +kernel
theorem dX0_unreadLengths_0 : decode cX0_unreadLengths 0 = .ok (.aload_n 0, 1) := by decide +kernel
theorem dX0_unreadLengths_1 : decode cX0_unreadLengths 1 = .ok (.getfield 23, 3) := by decide +kernel
theorem dX0_unreadLengths_4 : decode cX0_unreadLengths 4 = .ok (.iload_n 1, 1) := by decide +kernel
theorem dX0_unreadLengths_5 : decode cX0_unreadLengths 5 = .ok (.invokevirtual 42, 3) := by decide +kernel
theorem dX0_unreadLengths_8 : decode cX0_unreadLengths 8 = .ok (.sipush 400, 3) := by decide +kernel
theorem dX0_unreadLengths_11 : decode cX0_unreadLengths 11 = .ok (.imul, 1) := by decide +kernel
theorem dX0_unreadLengths_12 : decode cX0_unreadLengths 12 = .ok (.istore_n 3, 1) := by decide +kernel
theorem dX0_unreadLengths_13 : decode cX0_unreadLengths 13 = .ok (.aload_n 0, 1) := by decide +kernel
theorem dX0_unreadLengths_14 : decode cX0_unreadLengths 14 = .ok (.getfield 20, 3) := by decide +kernel
theorem dX0_unreadLengths_17 : decode cX0_unreadLengths 17 = .ok (.aload_n 0, 1) := by decide +kernel
theorem dX0_unreadLengths_18 : decode cX0_unreadLengths 18 = .ok (.getfield 23, 3) := by decide +kernel
theorem dX0_unreadLengths_21 : decode cX0_unreadLengths 21 = .ok (.iload_n 1, 1) := by decide +kernel
theorem dX0_unreadLengths_22 : decode cX0_unreadLengths 22 = .ok (.invokevirtual 42, 3) := by decide +kernel
theorem dX0_unreadLengths_25 : decode cX0_unreadLengths 25 = .ok (.invokevirtual 42, 3) := by decide +kernel
theorem dX0_unreadLengths_28 : decode cX0_unreadLengths 28 = .ok (.istore 4, 2) := by decide +kernel
theorem dX0_unreadLengths_30 : decode cX0_unreadLengths 30 = .ok (.iconst 0, 1) := by decide +kernel
theorem dX0_unreadLengths_31 : decode cX0_unreadLengths 31 = .ok (.istore 5, 2) := by decide +kernel
theorem dX0_unreadLengths_33 : decode cX0_unreadLengths 33 = .ok (.aload_n 0, 1) := by decide +kernel
theorem dX0_unreadLengths_34 : decode cX0_unreadLengths 34 = .ok (.getfield 26, 3) := by decide +kernel
theorem dX0_unreadLengths_37 : decode cX0_unreadLengths 37 = .ok (.iload_n 1, 1) := by decide +kernel
theorem dX0_unreadLengths_38 : decode cX0_unreadLengths 38 = .ok (.invokevirtual 42, 3) := by decide +kernel
theorem dX0_unreadLengths_41 : decode cX0_unreadLengths 41 = .ok (.istore 6, 2) := by decide +kernel
theorem dX0_unreadLengths_43 : decode cX0_unreadLengths 43 = .ok (.iload 6, 2) := by decide +kernel
theorem dX0_unreadLengths_45 : decode cX0_unreadLengths 45 = .ok (.iload 4, 2) := by decide +kernel
theorem dX0_unreadLengths_47 : decode cX0_unreadLengths 47 = .ok (.if_icmp .ge 32, 3) := by decide +kernel
theorem dX0_unreadLengths_50 : decode cX0_unreadLengths 50 = .ok (.iload 5, 2) := by decide +kernel
theorem dX0_unreadLengths_52 : decode cX0_unreadLengths 52 = .ok (.aload_n 2, 1) := by decide +kernel
theorem dX0_unreadLengths_53 : decode cX0_unreadLengths 53 = .ok (.getfield 76, 3) := by decide +kernel
theorem dX0_unreadLengths_56 : decode cX0_unreadLengths 56 = .ok (.aload_n 0, 1) := by decide +kernel
theorem dX0_unreadLengths_57 : decode cX0_unreadLengths 57 = .ok (.getfield 14, 3) := by decide +kernel
theorem dX0_unreadLengths_60 : decode cX0_unreadLengths 60 = .ok (.iload_n 3, 1) := by decide +kernel
theorem dX0_unreadLengths_61 : decode cX0_unreadLengths 61 = .ok (.iload 6, 2) := by decide +kernel
theorem dX0_unreadLengths_63 : decode cX0_unreadLengths 63 = .ok (.iadd, 1) := by decide +kernel
theorem dX0_unreadLengths_64 : decode cX0_unreadLengths 64 = .ok (.invokevirtual 42, 3) := by decide +kernel
theorem dX0_unreadLengths_67 : decode cX0_unreadLengths 67 = .ok (.invokevirtual 42, 3) := by decide +kernel
theorem dX0_unreadLengths_70 : decode cX0_unreadLengths 70 = .ok (.iadd, 1) := by decide +kernel
theorem dX0_unreadLengths_71 : decode cX0_unreadLengths 71 = .ok (.istore 5, 2) := by decide +kernel
theorem dX0_unreadLengths_73 : decode cX0_unreadLengths 73 = .ok (.iinc 6 1, 3) := by decide +kernel
theorem dX0_unreadLengths_76 : decode cX0_unreadLengths 76 = .ok (.goto (-33), 3) := by decide +kernel
theorem dX0_unreadLengths_79 : decode cX0_unreadLengths 79 = .ok (.iload 5, 2) := by decide +kernel
theorem dX0_unreadLengths_81 : decode cX0_unreadLengths 81 = .ok (.ireturn, 1) := by decide +kernel
theorem dX0_unreadShare_0 : decode cX0_unreadShare 0 = .ok (.aload_n 0, 1) := by decide +kernel
theorem dX0_unreadShare_1 : decode cX0_unreadShare 1 = .ok (.getfield 20, 3) := by decide +kernel
theorem dX0_unreadShare_4 : decode cX0_unreadShare 4 = .ok (.aload_n 0, 1) := by decide +kernel
theorem dX0_unreadShare_5 : decode cX0_unreadShare 5 = .ok (.getfield 23, 3) := by decide +kernel
theorem dX0_unreadShare_8 : decode cX0_unreadShare 8 = .ok (.iload_n 1, 1) := by decide +kernel
theorem dX0_unreadShare_9 : decode cX0_unreadShare 9 = .ok (.invokevirtual 42, 3) := by decide +kernel
theorem dX0_unreadShare_12 : decode cX0_unreadShare 12 = .ok (.invokevirtual 42, 3) := by decide +kernel
theorem dX0_unreadShare_15 : decode cX0_unreadShare 15 = .ok (.istore_n 2, 1) := by decide +kernel
theorem dX0_unreadShare_16 : decode cX0_unreadShare 16 = .ok (.iload_n 2, 1) := by decide +kernel
theorem dX0_unreadShare_17 : decode cX0_unreadShare 17 = .ok (.ifCond .le 15, 3) := by decide +kernel
theorem dX0_unreadShare_20 : decode cX0_unreadShare 20 = .ok (.aload_n 0, 1) := by decide +kernel
theorem dX0_unreadShare_21 : decode cX0_unreadShare 21 = .ok (.iload_n 1, 1) := by decide +kernel
theorem dX0_unreadShare_22 : decode cX0_unreadShare 22 = .ok (.invokevirtual 66, 3) := by decide +kernel
theorem dX0_unreadShare_25 : decode cX0_unreadShare 25 = .ok (.i2f, 1) := by decide +kernel
theorem dX0_unreadShare_26 : decode cX0_unreadShare 26 = .ok (.iload_n 2, 1) := by decide +kernel
theorem dX0_unreadShare_27 : decode cX0_unreadShare 27 = .ok (.i2f, 1) := by decide +kernel
theorem dX0_unreadShare_28 : decode cX0_unreadShare 28 = .ok (.fdiv, 1) := by decide +kernel
theorem dX0_unreadShare_29 : decode cX0_unreadShare 29 = .ok (.goto 4, 3) := by decide +kernel
theorem dX0_unreadShare_32 : decode cX0_unreadShare 32 = .ok (.fconst 0, 1) := by decide +kernel
theorem dX0_unreadShare_33 : decode cX0_unreadShare 33 = .ok (.freturn, 1) := by decide +kernel
theorem dX1_init_0 : decode cX1_init 0 = .ok (.aload_n 0, 1) := by decide +kernel
theorem dX1_init_1 : decode cX1_init 1 = .ok (.invokespecial 3, 3) := by decide +kernel
theorem dX1_init_4 : decode cX1_init 4 = .ok (.aload_n 0, 1) := by decide +kernel
theorem dX1_init_5 : decode cX1_init 5 = .ok (.new 9, 3) := by decide +kernel
theorem dX1_init_8 : decode cX1_init 8 = .ok (.dup, 1) := by decide +kernel
theorem dX1_init_9 : decode cX1_init 9 = .ok (.bipush 8, 2) := by decide +kernel
theorem dX1_init_11 : decode cX1_init 11 = .ok (.invokespecial 11, 3) := by decide +kernel
theorem dX1_init_14 : decode cX1_init 14 = .ok (.putfield 14, 3) := by decide +kernel
theorem dX1_init_17 : decode cX1_init 17 = .ok (.aload_n 0, 1) := by decide +kernel
theorem dX1_init_18 : decode cX1_init 18 = .ok (.new 9, 3) := by decide +kernel
theorem dX1_init_21 : decode cX1_init 21 = .ok (.dup, 1) := by decide +kernel
theorem dX1_init_22 : decode cX1_init 22 = .ok (.bipush 32, 2) := by decide +kernel
theorem dX1_init_24 : decode cX1_init 24 = .ok (.invokespecial 11, 3) := by decide +kernel
theorem dX1_init_27 : decode cX1_init 27 = .ok (.putfield 20, 3) := by decide +kernel
theorem dX1_init_30 : decode cX1_init 30 = .ok (.return_, 1) := by decide +kernel
theorem dX1_clear_0 : decode cX1_clear 0 = .ok (.aload_n 0, 1) := by decide +kernel
theorem dX1_clear_1 : decode cX1_clear 1 = .ok (.getfield 14, 3) := by decide +kernel
theorem dX1_clear_4 : decode cX1_clear 4 = .ok (.iconst 0, 1) := by decide +kernel
theorem dX1_clear_5 : decode cX1_clear 5 = .ok (.invokevirtual 23, 3) := by decide +kernel
theorem dX1_clear_8 : decode cX1_clear 8 = .ok (.return_, 1) := by decide +kernel
theorem dX1_become_0 : decode cX1_become 0 = .ok (.iconst 0, 1) := by decide +kernel
theorem dX1_become_1 : decode cX1_become 1 = .ok (.istore_n 2, 1) := by decide +kernel
theorem dX1_become_2 : decode cX1_become 2 = .ok (.iload_n 2, 1) := by decide +kernel
theorem dX1_become_3 : decode cX1_become 3 = .ok (.bipush 8, 2) := by decide +kernel
theorem dX1_become_5 : decode cX1_become 5 = .ok (.if_icmp .ge 25, 3) := by decide +kernel
theorem dX1_become_8 : decode cX1_become 8 = .ok (.aload_n 0, 1) := by decide +kernel
theorem dX1_become_9 : decode cX1_become 9 = .ok (.getfield 14, 3) := by decide +kernel
theorem dX1_become_12 : decode cX1_become 12 = .ok (.iload_n 2, 1) := by decide +kernel
theorem dX1_become_13 : decode cX1_become 13 = .ok (.aload_n 1, 1) := by decide +kernel
theorem dX1_become_14 : decode cX1_become 14 = .ok (.getfield 14, 3) := by decide +kernel
theorem dX1_become_17 : decode cX1_become 17 = .ok (.iload_n 2, 1) := by decide +kernel
theorem dX1_become_18 : decode cX1_become 18 = .ok (.invokevirtual 26, 3) := by decide +kernel
theorem dX1_become_21 : decode cX1_become 21 = .ok (.invokevirtual 30, 3) := by decide +kernel
theorem dX1_become_24 : decode cX1_become 24 = .ok (.iinc 2 1, 3) := by decide +kernel
theorem dX1_become_27 : decode cX1_become 27 = .ok (.goto (-25), 3) := by decide +kernel
theorem dX1_become_30 : decode cX1_become 30 = .ok (.iconst 0, 1) := by decide +kernel
theorem dX1_become_31 : decode cX1_become 31 = .ok (.istore_n 2, 1) := by decide +kernel
theorem dX1_become_32 : decode cX1_become 32 = .ok (.iload_n 2, 1) := by decide +kernel
theorem dX1_become_33 : decode cX1_become 33 = .ok (.bipush 32, 2) := by decide +kernel
theorem dX1_become_35 : decode cX1_become 35 = .ok (.if_icmp .ge 25, 3) := by decide +kernel
theorem dX1_become_38 : decode cX1_become 38 = .ok (.aload_n 0, 1) := by decide +kernel
theorem dX1_become_39 : decode cX1_become 39 = .ok (.getfield 20, 3) := by decide +kernel
theorem dX1_become_42 : decode cX1_become 42 = .ok (.iload_n 2, 1) := by decide +kernel
theorem dX1_become_43 : decode cX1_become 43 = .ok (.aload_n 1, 1) := by decide +kernel
theorem dX1_become_44 : decode cX1_become 44 = .ok (.getfield 20, 3) := by decide +kernel
theorem dX1_become_47 : decode cX1_become 47 = .ok (.iload_n 2, 1) := by decide +kernel
theorem dX1_become_48 : decode cX1_become 48 = .ok (.invokevirtual 26, 3) := by decide +kernel
theorem dX1_become_51 : decode cX1_become 51 = .ok (.invokevirtual 30, 3) := by decide +kernel
theorem dX1_become_54 : decode cX1_become 54 = .ok (.iinc 2 1, 3) := by decide +kernel
theorem dX1_become_57 : decode cX1_become 57 = .ok (.goto (-25), 3) := by decide +kernel
theorem dX1_become_60 : decode cX1_become 60 = .ok (.return_, 1) := by decide +kernel
theorem dX1_valueOf_0 : decode cX1_valueOf 0 = .ok (.aload_n 0, 1) := by decide +kernel
theorem dX1_valueOf_1 : decode cX1_valueOf 1 = .ok (.getfield 14, 3) := by decide +kernel
theorem dX1_valueOf_4 : decode cX1_valueOf 4 = .ok (.iload_n 1, 1) := by decide +kernel
theorem dX1_valueOf_5 : decode cX1_valueOf 5 = .ok (.invokevirtual 26, 3) := by decide +kernel
theorem dX1_valueOf_8 : decode cX1_valueOf 8 = .ok (.iconst 1, 1) := by decide +kernel
theorem dX1_valueOf_9 : decode cX1_valueOf 9 = .ok (.if_icmp .ne 18, 3) := by decide +kernel
theorem dX1_valueOf_12 : decode cX1_valueOf 12 = .ok (.aload_n 0, 1) := by decide +kernel
theorem dX1_valueOf_13 : decode cX1_valueOf 13 = .ok (.getfield 20, 3) := by decide +kernel
theorem dX1_valueOf_16 : decode cX1_valueOf 16 = .ok (.iload_n 1, 1) := by decide +kernel
theorem dX1_valueOf_17 : decode cX1_valueOf 17 = .ok (.iconst 4, 1) := by decide +kernel
theorem dX1_valueOf_18 : decode cX1_valueOf 18 = .ok (.imul, 1) := by decide +kernel
theorem dX1_valueOf_19 : decode cX1_valueOf 19 = .ok (.iload_n 2, 1) := by decide +kernel
theorem dX1_valueOf_20 : decode cX1_valueOf 20 = .ok (.iadd, 1) := by decide +kernel
theorem dX1_valueOf_21 : decode cX1_valueOf 21 = .ok (.invokevirtual 26, 3) := by decide +kernel
theorem dX1_valueOf_24 : decode cX1_valueOf 24 = .ok (.goto 4, 3) := by decide +kernel
theorem dX1_valueOf_27 : decode cX1_valueOf 27 = .ok (.iconst (-1), 1) := by decide +kernel
theorem dX1_valueOf_28 : decode cX1_valueOf 28 = .ok (.ireturn, 1) := by decide +kernel
theorem dX1_apply_0 : decode cX1_apply 0 = .ok (.aload_n 1, 1) := by decide +kernel
theorem dX1_apply_1 : decode cX1_apply 1 = .ok (.getfield 34, 3) := by decide +kernel
theorem dX1_apply_4 : decode cX1_apply 4 = .ok (.iload_n 2, 1) := by decide +kernel
theorem dX1_apply_5 : decode cX1_apply 5 = .ok (.invokevirtual 26, 3) := by decide +kernel
theorem dX1_apply_8 : decode cX1_apply 8 = .ok (.istore_n 3, 1) := by decide +kernel
theorem dX1_apply_9 : decode cX1_apply 9 = .ok (.aload_n 1, 1) := by decide +kernel
theorem dX1_apply_10 : decode cX1_apply 10 = .ok (.getfield 39, 3) := by decide +kernel
theorem dX1_apply_13 : decode cX1_apply 13 = .ok (.iload_n 2, 1) := by decide +kernel
theorem dX1_apply_14 : decode cX1_apply 14 = .ok (.invokevirtual 26, 3) := by decide +kernel
theorem dX1_apply_17 : decode cX1_apply 17 = .ok (.istore 4, 2) := by decide +kernel
theorem dX1_apply_19 : decode cX1_apply 19 = .ok (.aload_n 1, 1) := by decide +kernel
theorem dX1_apply_20 : decode cX1_apply 20 = .ok (.getfield 42, 3) := by decide +kernel
theorem dX1_apply_23 : decode cX1_apply 23 = .ok (.iload_n 2, 1) := by decide +kernel
theorem dX1_apply_24 : decode cX1_apply 24 = .ok (.invokevirtual 26, 3) := by decide +kernel
theorem dX1_apply_27 : decode cX1_apply 27 = .ok (.tableswitch 65 3 5 #[25, 43, 55], 25) := by decide +kernel
theorem dX1_apply_52 : decode cX1_apply 52 = .ok (.aload_n 0, 1) := by decide +kernel
theorem dX1_apply_53 : decode cX1_apply 53 = .ok (.iload_n 3, 1) := by decide +kernel
theorem dX1_apply_54 : decode cX1_apply 54 = .ok (.iload 4, 2) := by decide +kernel
theorem dX1_apply_56 : decode cX1_apply 56 = .ok (.aload_n 1, 1) := by decide +kernel
theorem dX1_apply_57 : decode cX1_apply 57 = .ok (.getfield 45, 3) := by decide +kernel
theorem dX1_apply_60 : decode cX1_apply 60 = .ok (.iload_n 2, 1) := by decide +kernel
theorem dX1_apply_61 : decode cX1_apply 61 = .ok (.invokevirtual 26, 3) := by decide +kernel
theorem dX1_apply_64 : decode cX1_apply 64 = .ok (.invokevirtual 48, 3) := by decide +kernel
theorem dX1_apply_67 : decode cX1_apply 67 = .ok (.goto 25, 3) := by decide +kernel
theorem dX1_apply_70 : decode cX1_apply 70 = .ok (.aload_n 0, 1) := by decide +kernel
theorem dX1_apply_71 : decode cX1_apply 71 = .ok (.getfield 14, 3) := by decide +kernel
theorem dX1_apply_74 : decode cX1_apply 74 = .ok (.iload_n 3, 1) := by decide +kernel
theorem dX1_apply_75 : decode cX1_apply 75 = .ok (.iconst 0, 1) := by decide +kernel
theorem dX1_apply_76 : decode cX1_apply 76 = .ok (.invokevirtual 30, 3) := by decide +kernel
theorem dX1_apply_79 : decode cX1_apply 79 = .ok (.goto 13, 3) := by decide +kernel
theorem dX1_apply_82 : decode cX1_apply 82 = .ok (.aload_n 0, 1) := by decide +kernel
theorem dX1_apply_83 : decode cX1_apply 83 = .ok (.iload_n 3, 1) := by decide +kernel
theorem dX1_apply_84 : decode cX1_apply 84 = .ok (.iload 4, 2) := by decide +kernel
theorem dX1_apply_86 : decode cX1_apply 86 = .ok (.invokevirtual 52, 3) := by decide +kernel
theorem dX1_apply_89 : decode cX1_apply 89 = .ok (.goto 3, 3) := by decide +kernel
theorem dX1_apply_92 : decode cX1_apply 92 = .ok (.return_, 1) := by decide +kernel
theorem dX1_putBlock_0 : decode cX1_putBlock 0 = .ok (.aload_n 0, 1) := by decide +kernel
theorem dX1_putBlock_1 : decode cX1_putBlock 1 = .ok (.getfield 14, 3) := by decide +kernel
theorem dX1_putBlock_4 : decode cX1_putBlock 4 = .ok (.iload_n 1, 1) := by decide +kernel
theorem dX1_putBlock_5 : decode cX1_putBlock 5 = .ok (.invokevirtual 26, 3) := by decide +kernel
theorem dX1_putBlock_8 : decode cX1_putBlock 8 = .ok (.iconst 1, 1) := by decide +kernel
theorem dX1_putBlock_9 : decode cX1_putBlock 9 = .ok (.if_icmp .eq 41, 3) := by decide +kernel
theorem dX1_putBlock_12 : decode cX1_putBlock 12 = .ok (.aload_n 0, 1) := by decide +kernel
theorem dX1_putBlock_13 : decode cX1_putBlock 13 = .ok (.getfield 14, 3) := by decide +kernel
theorem dX1_putBlock_16 : decode cX1_putBlock 16 = .ok (.iload_n 1, 1) := by decide +kernel
theorem dX1_putBlock_17 : decode cX1_putBlock 17 = .ok (.iconst 1, 1) := by decide +kernel
theorem dX1_putBlock_18 : decode cX1_putBlock 18 = .ok (.invokevirtual 30, 3) := by decide +kernel
theorem dX1_putBlock_21 : decode cX1_putBlock 21 = .ok (.iconst 0, 1) := by decide +kernel
theorem dX1_putBlock_22 : decode cX1_putBlock 22 = .ok (.istore 4, 2) := by decide +kernel
theorem dX1_putBlock_24 : decode cX1_putBlock 24 = .ok (.iload 4, 2) := by decide +kernel
theorem dX1_putBlock_26 : decode cX1_putBlock 26 = .ok (.iconst 4, 1) := by decide +kernel
theorem dX1_putBlock_27 : decode cX1_putBlock 27 = .ok (.if_icmp .ge 23, 3) := by decide +kernel
theorem dX1_putBlock_30 : decode cX1_putBlock 30 = .ok (.aload_n 0, 1) := by decide +kernel
theorem dX1_putBlock_31 : decode cX1_putBlock 31 = .ok (.getfield 20, 3) := by decide +kernel
theorem dX1_putBlock_34 : decode cX1_putBlock 34 = .ok (.iload_n 1, 1) := by decide +kernel
theorem dX1_putBlock_35 : decode cX1_putBlock 35 = .ok (.iconst 4, 1) := by decide +kernel
theorem dX1_putBlock_36 : decode cX1_putBlock 36 = .ok (.imul, 1) := by decide +kernel
theorem dX1_putBlock_37 : decode cX1_putBlock 37 = .ok (.iload 4, 2) := by decide +kernel
theorem dX1_putBlock_39 : decode cX1_putBlock 39 = .ok (.iadd, 1) := by decide +kernel
theorem dX1_putBlock_40 : decode cX1_putBlock 40 = .ok (.iconst 0, 1) := by decide +kernel
theorem dX1_putBlock_41 : decode cX1_putBlock 41 = .ok (.invokevirtual 30, 3) := by decide +kernel
theorem dX1_putBlock_44 : decode cX1_putBlock 44 = .ok (.iinc 4 1, 3) := by decide +kernel
theorem dX1_putBlock_47 : decode cX1_putBlock 47 = .ok (.goto (-23), 3) := by decide +kernel
theorem dX1_putBlock_50 : decode cX1_putBlock 50 = .ok (.aload_n 0, 1) := by decide +kernel
theorem dX1_putBlock_51 : decode cX1_putBlock 51 = .ok (.getfield 20, 3) := by decide +kernel
theorem dX1_putBlock_54 : decode cX1_putBlock 54 = .ok (.iload_n 1, 1) := by decide +kernel
theorem dX1_putBlock_55 : decode cX1_putBlock 55 = .ok (.iconst 4, 1) := by decide +kernel
theorem dX1_putBlock_56 : decode cX1_putBlock 56 = .ok (.imul, 1) := by decide +kernel
theorem dX1_putBlock_57 : decode cX1_putBlock 57 = .ok (.iload_n 2, 1) := by decide +kernel
theorem dX1_putBlock_58 : decode cX1_putBlock 58 = .ok (.iadd, 1) := by decide +kernel
theorem dX1_putBlock_59 : decode cX1_putBlock 59 = .ok (.iload_n 3, 1) := by decide +kernel
theorem dX1_putBlock_60 : decode cX1_putBlock 60 = .ok (.invokevirtual 30, 3) := by decide +kernel
theorem dX1_putBlock_63 : decode cX1_putBlock 63 = .ok (.return_, 1) := by decide +kernel
theorem dX1_duplicate_0 : decode cX1_duplicate 0 = .ok (.aload_n 0, 1) := by decide +kernel
theorem dX1_duplicate_1 : decode cX1_duplicate 1 = .ok (.getfield 14, 3) := by decide +kernel
theorem dX1_duplicate_4 : decode cX1_duplicate 4 = .ok (.iload_n 2, 1) := by decide +kernel
theorem dX1_duplicate_5 : decode cX1_duplicate 5 = .ok (.aload_n 0, 1) := by decide +kernel
theorem dX1_duplicate_6 : decode cX1_duplicate 6 = .ok (.getfield 14, 3) := by decide +kernel
theorem dX1_duplicate_9 : decode cX1_duplicate 9 = .ok (.iload_n 1, 1) := by decide +kernel
theorem dX1_duplicate_10 : decode cX1_duplicate 10 = .ok (.invokevirtual 26, 3) := by decide +kernel
theorem dX1_duplicate_13 : decode cX1_duplicate 13 = .ok (.invokevirtual 30, 3) := by decide +kernel
theorem dX1_duplicate_16 : decode cX1_duplicate 16 = .ok (.iconst 0, 1) := by decide +kernel
theorem dX1_duplicate_17 : decode cX1_duplicate 17 = .ok (.istore_n 3, 1) := by decide +kernel
theorem dX1_duplicate_18 : decode cX1_duplicate 18 = .ok (.iload_n 3, 1) := by decide +kernel
theorem dX1_duplicate_19 : decode cX1_duplicate 19 = .ok (.iconst 4, 1) := by decide +kernel
theorem dX1_duplicate_20 : decode cX1_duplicate 20 = .ok (.if_icmp .ge 33, 3) := by decide +kernel
theorem dX1_duplicate_23 : decode cX1_duplicate 23 = .ok (.aload_n 0, 1) := by decide +kernel
theorem dX1_duplicate_24 : decode cX1_duplicate 24 = .ok (.getfield 20, 3) := by decide +kernel
theorem dX1_duplicate_27 : decode cX1_duplicate 27 = .ok (.iload_n 2, 1) := by decide +kernel
theorem dX1_duplicate_28 : decode cX1_duplicate 28 = .ok (.iconst 4, 1) := by decide +kernel
theorem dX1_duplicate_29 : decode cX1_duplicate 29 = .ok (.imul, 1) := by decide +kernel
theorem dX1_duplicate_30 : decode cX1_duplicate 30 = .ok (.iload_n 3, 1) := by decide +kernel
theorem dX1_duplicate_31 : decode cX1_duplicate 31 = .ok (.iadd, 1) := by decide +kernel
theorem dX1_duplicate_32 : decode cX1_duplicate 32 = .ok (.aload_n 0, 1) := by decide +kernel
theorem dX1_duplicate_33 : decode cX1_duplicate 33 = .ok (.getfield 20, 3) := by decide +kernel
theorem dX1_duplicate_36 : decode cX1_duplicate 36 = .ok (.iload_n 1, 1) := by decide +kernel
theorem dX1_duplicate_37 : decode cX1_duplicate 37 = .ok (.iconst 4, 1) := by decide +kernel
theorem dX1_duplicate_38 : decode cX1_duplicate 38 = .ok (.imul, 1) := by decide +kernel
theorem dX1_duplicate_39 : decode cX1_duplicate 39 = .ok (.iload_n 3, 1) := by decide +kernel
theorem dX1_duplicate_40 : decode cX1_duplicate 40 = .ok (.iadd, 1) := by decide +kernel
theorem dX1_duplicate_41 : decode cX1_duplicate 41 = .ok (.invokevirtual 26, 3) := by decide +kernel
theorem dX1_duplicate_44 : decode cX1_duplicate 44 = .ok (.invokevirtual 30, 3) := by decide +kernel
theorem dX1_duplicate_47 : decode cX1_duplicate 47 = .ok (.iinc 3 1, 3) := by decide +kernel
theorem dX1_duplicate_50 : decode cX1_duplicate 50 = .ok (.goto (-32), 3) := by decide +kernel
theorem dX1_duplicate_53 : decode cX1_duplicate 53 = .ok (.return_, 1) := by decide +kernel
theorem dX2_init_0 : decode cX2_init 0 = .ok (.aload_n 0, 1) := by decide +kernel
theorem dX2_init_1 : decode cX2_init 1 = .ok (.invokespecial 3, 3) := by decide +kernel
theorem dX2_init_4 : decode cX2_init 4 = .ok (.aload_n 0, 1) := by decide +kernel
theorem dX2_init_5 : decode cX2_init 5 = .ok (.new 9, 3) := by decide +kernel
theorem dX2_init_8 : decode cX2_init 8 = .ok (.dup, 1) := by decide +kernel
theorem dX2_init_9 : decode cX2_init 9 = .ok (.invokespecial 11, 3) := by decide +kernel
theorem dX2_init_12 : decode cX2_init 12 = .ok (.putfield 12, 3) := by decide +kernel
theorem dX2_init_15 : decode cX2_init 15 = .ok (.aload_n 0, 1) := by decide +kernel
theorem dX2_init_16 : decode cX2_init 16 = .ok (.new 18, 3) := by decide +kernel
theorem dX2_init_19 : decode cX2_init 19 = .ok (.dup, 1) := by decide +kernel
theorem dX2_init_20 : decode cX2_init 20 = .ok (.invokespecial 20, 3) := by decide +kernel
theorem dX2_init_23 : decode cX2_init 23 = .ok (.putfield 21, 3) := by decide +kernel
theorem dX2_init_26 : decode cX2_init 26 = .ok (.aload_n 0, 1) := by decide +kernel
theorem dX2_init_27 : decode cX2_init 27 = .ok (.new 25, 3) := by decide +kernel
theorem dX2_init_30 : decode cX2_init 30 = .ok (.dup, 1) := by decide +kernel
theorem dX2_init_31 : decode cX2_init 31 = .ok (.invokespecial 27, 3) := by decide +kernel
theorem dX2_init_34 : decode cX2_init 34 = .ok (.putfield 28, 3) := by decide +kernel
theorem dX2_init_37 : decode cX2_init 37 = .ok (.aload_n 0, 1) := by decide +kernel
theorem dX2_init_38 : decode cX2_init 38 = .ok (.new 32, 3) := by decide +kernel
theorem dX2_init_41 : decode cX2_init 41 = .ok (.dup, 1) := by decide +kernel
theorem dX2_init_42 : decode cX2_init 42 = .ok (.invokespecial 34, 3) := by decide +kernel
theorem dX2_init_45 : decode cX2_init 45 = .ok (.putfield 35, 3) := by decide +kernel
theorem dX2_init_48 : decode cX2_init 48 = .ok (.aload_n 0, 1) := by decide +kernel
theorem dX2_init_49 : decode cX2_init 49 = .ok (.new 32, 3) := by decide +kernel
theorem dX2_init_52 : decode cX2_init 52 = .ok (.dup, 1) := by decide +kernel
theorem dX2_init_53 : decode cX2_init 53 = .ok (.invokespecial 34, 3) := by decide +kernel
theorem dX2_init_56 : decode cX2_init 56 = .ok (.putfield 39, 3) := by decide +kernel
theorem dX2_init_59 : decode cX2_init 59 = .ok (.aload_n 0, 1) := by decide +kernel
theorem dX2_init_60 : decode cX2_init 60 = .ok (.new 32, 3) := by decide +kernel
theorem dX2_init_63 : decode cX2_init 63 = .ok (.dup, 1) := by decide +kernel
theorem dX2_init_64 : decode cX2_init 64 = .ok (.invokespecial 34, 3) := by decide +kernel
theorem dX2_init_67 : decode cX2_init 67 = .ok (.putfield 42, 3) := by decide +kernel
theorem dX2_init_70 : decode cX2_init 70 = .ok (.aload_n 0, 1) := by decide +kernel
theorem dX2_init_71 : decode cX2_init 71 = .ok (.new 45, 3) := by decide +kernel
theorem dX2_init_74 : decode cX2_init 74 = .ok (.dup, 1) := by decide +kernel
theorem dX2_init_75 : decode cX2_init 75 = .ok (.iconst 4, 1) := by decide +kernel
theorem dX2_init_76 : decode cX2_init 76 = .ok (.invokespecial 47, 3) := by decide +kernel
theorem dX2_init_79 : decode cX2_init 79 = .ok (.putfield 50, 3) := by decide +kernel
theorem dX2_init_82 : decode cX2_init 82 = .ok (.aload_n 0, 1) := by decide +kernel
theorem dX2_init_83 : decode cX2_init 83 = .ok (.new 45, 3) := by decide +kernel
theorem dX2_init_86 : decode cX2_init 86 = .ok (.dup, 1) := by decide +kernel
theorem dX2_init_87 : decode cX2_init 87 = .ok (.iconst 4, 1) := by decide +kernel
theorem dX2_init_88 : decode cX2_init 88 = .ok (.invokespecial 47, 3) := by decide +kernel
theorem dX2_init_91 : decode cX2_init 91 = .ok (.putfield 54, 3) := by decide +kernel
theorem dX2_init_94 : decode cX2_init 94 = .ok (.aload_n 0, 1) := by decide +kernel
theorem dX2_init_95 : decode cX2_init 95 = .ok (.new 45, 3) := by decide +kernel
theorem dX2_init_98 : decode cX2_init 98 = .ok (.dup, 1) := by decide +kernel
theorem dX2_init_99 : decode cX2_init 99 = .ok (.sipush 400, 3) := by decide +kernel
theorem dX2_init_102 : decode cX2_init 102 = .ok (.invokespecial 47, 3) := by decide +kernel
theorem dX2_init_105 : decode cX2_init 105 = .ok (.putfield 57, 3) := by decide +kernel
theorem dX2_init_108 : decode cX2_init 108 = .ok (.aload_n 0, 1) := by decide +kernel
theorem dX2_init_109 : decode cX2_init 109 = .ok (.new 45, 3) := by decide +kernel
theorem dX2_init_112 : decode cX2_init 112 = .ok (.dup, 1) := by decide +kernel
theorem dX2_init_113 : decode cX2_init 113 = .ok (.bipush 50, 2) := by decide +kernel
theorem dX2_init_115 : decode cX2_init 115 = .ok (.invokespecial 47, 3) := by decide +kernel
theorem dX2_init_118 : decode cX2_init 118 = .ok (.putfield 60, 3) := by decide +kernel
theorem dX2_init_121 : decode cX2_init 121 = .ok (.return_, 1) := by decide +kernel
theorem dX2_clear_0 : decode cX2_clear 0 = .ok (.aload_n 0, 1) := by decide +kernel
theorem dX2_clear_1 : decode cX2_clear 1 = .ok (.getfield 12, 3) := by decide +kernel
theorem dX2_clear_4 : decode cX2_clear 4 = .ok (.invokevirtual 63, 3) := by decide +kernel
theorem dX2_clear_7 : decode cX2_clear 7 = .ok (.aload_n 0, 1) := by decide +kernel
theorem dX2_clear_8 : decode cX2_clear 8 = .ok (.getfield 21, 3) := by decide +kernel
theorem dX2_clear_11 : decode cX2_clear 11 = .ok (.iload_n 1, 1) := by decide +kernel
theorem dX2_clear_12 : decode cX2_clear 12 = .ok (.invokevirtual 66, 3) := by decide +kernel
theorem dX2_clear_15 : decode cX2_clear 15 = .ok (.aload_n 0, 1) := by decide +kernel
theorem dX2_clear_16 : decode cX2_clear 16 = .ok (.getfield 28, 3) := by decide +kernel
theorem dX2_clear_19 : decode cX2_clear 19 = .ok (.invokevirtual 68, 3) := by decide +kernel
theorem dX2_clear_22 : decode cX2_clear 22 = .ok (.aload_n 0, 1) := by decide +kernel
theorem dX2_clear_23 : decode cX2_clear 23 = .ok (.getfield 35, 3) := by decide +kernel
theorem dX2_clear_26 : decode cX2_clear 26 = .ok (.invokevirtual 69, 3) := by decide +kernel
theorem dX2_clear_29 : decode cX2_clear 29 = .ok (.aload_n 0, 1) := by decide +kernel
theorem dX2_clear_30 : decode cX2_clear 30 = .ok (.getfield 39, 3) := by decide +kernel
theorem dX2_clear_33 : decode cX2_clear 33 = .ok (.invokevirtual 69, 3) := by decide +kernel
theorem dX2_clear_36 : decode cX2_clear 36 = .ok (.aload_n 0, 1) := by decide +kernel
theorem dX2_clear_37 : decode cX2_clear 37 = .ok (.getfield 50, 3) := by decide +kernel
theorem dX2_clear_40 : decode cX2_clear 40 = .ok (.iconst (-1), 1) := by decide +kernel
theorem dX2_clear_41 : decode cX2_clear 41 = .ok (.invokevirtual 70, 3) := by decide +kernel
theorem dX2_clear_44 : decode cX2_clear 44 = .ok (.aload_n 0, 1) := by decide +kernel
theorem dX2_clear_45 : decode cX2_clear 45 = .ok (.iconst 0, 1) := by decide +kernel
theorem dX2_clear_46 : decode cX2_clear 46 = .ok (.putfield 73, 3) := by decide +kernel
theorem dX2_clear_49 : decode cX2_clear 49 = .ok (.aload_n 0, 1) := by decide +kernel
theorem dX2_clear_50 : decode cX2_clear 50 = .ok (.iconst 0, 1) := by decide +kernel
theorem dX2_clear_51 : decode cX2_clear 51 = .ok (.putfield 77, 3) := by decide +kernel
theorem dX2_clear_54 : decode cX2_clear 54 = .ok (.aload_n 0, 1) := by decide +kernel
theorem dX2_clear_55 : decode cX2_clear 55 = .ok (.iload_n 2, 1) := by decide +kernel
theorem dX2_clear_56 : decode cX2_clear 56 = .ok (.putfield 80, 3) := by decide +kernel
theorem dX2_clear_59 : decode cX2_clear 59 = .ok (.aload_n 0, 1) := by decide +kernel
theorem dX2_clear_60 : decode cX2_clear 60 = .ok (.iload_n 3, 1) := by decide +kernel
theorem dX2_clear_61 : decode cX2_clear 61 = .ok (.putfield 83, 3) := by decide +kernel
theorem dX2_clear_64 : decode cX2_clear 64 = .ok (.return_, 1) := by decide +kernel
theorem dX2_hasRecord_0 : decode cX2_hasRecord 0 = .ok (.iload_n 1, 1) := by decide +kernel
theorem dX2_hasRecord_1 : decode cX2_hasRecord 1 = .ok (.aload_n 0, 1) := by decide +kernel
theorem dX2_hasRecord_2 : decode cX2_hasRecord 2 = .ok (.getfield 21, 3) := by decide +kernel
theorem dX2_hasRecord_5 : decode cX2_hasRecord 5 = .ok (.invokevirtual 86, 3) := by decide +kernel
theorem dX2_hasRecord_8 : decode cX2_hasRecord 8 = .ok (.if_icmp .lt 18, 3) := by decide +kernel
theorem dX2_hasRecord_11 : decode cX2_hasRecord 11 = .ok (.iload_n 1, 1) := by decide +kernel
theorem dX2_hasRecord_12 : decode cX2_hasRecord 12 = .ok (.aload_n 0, 1) := by decide +kernel
theorem dX2_hasRecord_13 : decode cX2_hasRecord 13 = .ok (.getfield 12, 3) := by decide +kernel
theorem dX2_hasRecord_16 : decode cX2_hasRecord 16 = .ok (.getfield 90, 3) := by decide +kernel
theorem dX2_hasRecord_19 : decode cX2_hasRecord 19 = .ok (.if_icmp .ge 7, 3) := by decide +kernel
theorem dX2_hasRecord_22 : decode cX2_hasRecord 22 = .ok (.iconst 1, 1) := by decide +kernel
theorem dX2_hasRecord_23 : decode cX2_hasRecord 23 = .ok (.goto 4, 3) := by decide +kernel
theorem dX2_hasRecord_26 : decode cX2_hasRecord 26 = .ok (.iconst 0, 1) := by decide +kernel
theorem dX2_hasRecord_27 : decode cX2_hasRecord 27 = .ok (.ireturn, 1) := by decide +kernel
theorem dX2_isOpen_0 : decode cX2_isOpen 0 = .ok (.iload_n 1, 1) := by decide +kernel
theorem dX2_isOpen_1 : decode cX2_isOpen 1 = .ok (.iconst 0, 1) := by decide +kernel
theorem dX2_isOpen_2 : decode cX2_isOpen 2 = .ok (.iconst 3, 1) := by decide +kernel
theorem dX2_isOpen_3 : decode cX2_isOpen 3 = .ok (.invokestatic 93, 3) := by decide +kernel
theorem dX2_isOpen_6 : decode cX2_isOpen 6 = .ok (.ifCond .eq 19, 3) := by decide +kernel
theorem dX2_isOpen_9 : decode cX2_isOpen 9 = .ok (.aload_n 0, 1) := by decide +kernel
theorem dX2_isOpen_10 : decode cX2_isOpen 10 = .ok (.getfield 50, 3) := by decide +kernel
theorem dX2_isOpen_13 : decode cX2_isOpen 13 = .ok (.iload_n 1, 1) := by decide +kernel
theorem dX2_isOpen_14 : decode cX2_isOpen 14 = .ok (.invokevirtual 97, 3) := by decide +kernel
theorem dX2_isOpen_17 : decode cX2_isOpen 17 = .ok (.iconst (-1), 1) := by decide +kernel
theorem dX2_isOpen_18 : decode cX2_isOpen 18 = .ok (.if_icmp .eq 7, 3) := by decide +kernel
theorem dX2_isOpen_21 : decode cX2_isOpen 21 = .ok (.iconst 1, 1) := by decide +kernel
theorem dX2_isOpen_22 : decode cX2_isOpen 22 = .ok (.goto 4, 3) := by decide +kernel
theorem dX2_isOpen_25 : decode cX2_isOpen 25 = .ok (.iconst 0, 1) := by decide +kernel
theorem dX2_isOpen_26 : decode cX2_isOpen 26 = .ok (.ireturn, 1) := by decide +kernel
theorem dX2_freeTransaction_0 : decode cX2_freeTransaction 0 = .ok (.iconst 0, 1) := by decide +kernel
theorem dX2_freeTransaction_1 : decode cX2_freeTransaction 1 = .ok (.istore_n 1, 1) := by decide +kernel
theorem dX2_freeTransaction_2 : decode cX2_freeTransaction 2 = .ok (.iload_n 1, 1) := by decide +kernel
theorem dX2_freeTransaction_3 : decode cX2_freeTransaction 3 = .ok (.iconst 4, 1) := by decide +kernel
theorem dX2_freeTransaction_4 : decode cX2_freeTransaction 4 = .ok (.if_icmp .ge 23, 3) := by decide +kernel
theorem dX2_freeTransaction_7 : decode cX2_freeTransaction 7 = .ok (.aload_n 0, 1) := by decide +kernel
theorem dX2_freeTransaction_8 : decode cX2_freeTransaction 8 = .ok (.getfield 50, 3) := by decide +kernel
theorem dX2_freeTransaction_11 : decode cX2_freeTransaction 11 = .ok (.iload_n 1, 1) := by decide +kernel
theorem dX2_freeTransaction_12 : decode cX2_freeTransaction 12 = .ok (.invokevirtual 97, 3) := by decide +kernel
theorem dX2_freeTransaction_15 : decode cX2_freeTransaction 15 = .ok (.iconst (-1), 1) := by decide +kernel
theorem dX2_freeTransaction_16 : decode cX2_freeTransaction 16 = .ok (.if_icmp .ne 5, 3) := by decide +kernel
theorem dX2_freeTransaction_19 : decode cX2_freeTransaction 19 = .ok (.iload_n 1, 1) := by decide +kernel
theorem dX2_freeTransaction_20 : decode cX2_freeTransaction 20 = .ok (.ireturn, 1) := by decide +kernel
theorem dX2_freeTransaction_21 : decode cX2_freeTransaction 21 = .ok (.iinc 1 1, 3) := by decide +kernel
theorem dX2_freeTransaction_24 : decode cX2_freeTransaction 24 = .ok (.goto (-22), 3) := by decide +kernel
theorem dX2_freeTransaction_27 : decode cX2_freeTransaction 27 = .ok (.iconst (-1), 1) := by decide +kernel
theorem dX2_freeTransaction_28 : decode cX2_freeTransaction 28 = .ok (.ireturn, 1) := by decide +kernel
theorem dX2_countOpen_0 : decode cX2_countOpen 0 = .ok (.iconst 0, 1) := by decide +kernel
theorem dX2_countOpen_1 : decode cX2_countOpen 1 = .ok (.istore_n 1, 1) := by decide +kernel
theorem dX2_countOpen_2 : decode cX2_countOpen 2 = .ok (.iconst 0, 1) := by decide +kernel
theorem dX2_countOpen_3 : decode cX2_countOpen 3 = .ok (.istore_n 2, 1) := by decide +kernel
theorem dX2_countOpen_4 : decode cX2_countOpen 4 = .ok (.iload_n 2, 1) := by decide +kernel
theorem dX2_countOpen_5 : decode cX2_countOpen 5 = .ok (.iconst 4, 1) := by decide +kernel
theorem dX2_countOpen_6 : decode cX2_countOpen 6 = .ok (.if_icmp .ge 29, 3) := by decide +kernel
theorem dX2_countOpen_9 : decode cX2_countOpen 9 = .ok (.iload_n 1, 1) := by decide +kernel
theorem dX2_countOpen_10 : decode cX2_countOpen 10 = .ok (.aload_n 0, 1) := by decide +kernel
theorem dX2_countOpen_11 : decode cX2_countOpen 11 = .ok (.getfield 50, 3) := by decide +kernel
theorem dX2_countOpen_14 : decode cX2_countOpen 14 = .ok (.iload_n 2, 1) := by decide +kernel
theorem dX2_countOpen_15 : decode cX2_countOpen 15 = .ok (.invokevirtual 97, 3) := by decide +kernel
theorem dX2_countOpen_18 : decode cX2_countOpen 18 = .ok (.iconst (-1), 1) := by decide +kernel
theorem dX2_countOpen_19 : decode cX2_countOpen 19 = .ok (.if_icmp .ne 7, 3) := by decide +kernel
theorem dX2_countOpen_22 : decode cX2_countOpen 22 = .ok (.iconst 0, 1) := by decide +kernel
theorem dX2_countOpen_23 : decode cX2_countOpen 23 = .ok (.goto 4, 3) := by decide +kernel
theorem dX2_countOpen_26 : decode cX2_countOpen 26 = .ok (.iconst 1, 1) := by decide +kernel
theorem dX2_countOpen_27 : decode cX2_countOpen 27 = .ok (.iadd, 1) := by decide +kernel
theorem dX2_countOpen_28 : decode cX2_countOpen 28 = .ok (.istore_n 1, 1) := by decide +kernel
theorem dX2_countOpen_29 : decode cX2_countOpen 29 = .ok (.iinc 2 1, 3) := by decide +kernel
theorem dX2_countOpen_32 : decode cX2_countOpen 32 = .ok (.goto (-28), 3) := by decide +kernel
theorem dX2_countOpen_35 : decode cX2_countOpen 35 = .ok (.iload_n 1, 1) := by decide +kernel
theorem dX2_countOpen_36 : decode cX2_countOpen 36 = .ok (.ireturn, 1) := by decide +kernel
theorem dX2_refusal_0 : decode cX2_refusal 0 = .ok (.aload_n 0, 1) := by decide +kernel
theorem dX2_refusal_1 : decode cX2_refusal 1 = .ok (.iload_n 1, 1) := by decide +kernel
theorem dX2_refusal_2 : decode cX2_refusal 2 = .ok (.iload_n 2, 1) := by decide +kernel
theorem dX2_refusal_3 : decode cX2_refusal 3 = .ok (.iload_n 3, 1) := by decide +kernel
theorem dX2_refusal_4 : decode cX2_refusal 4 = .ok (.iload 5, 2) := by decide +kernel
theorem dX2_refusal_6 : decode cX2_refusal 6 = .ok (.invokevirtual 101, 3) := by decide +kernel
theorem dX2_refusal_9 : decode cX2_refusal 9 = .ok (.ifCond .eq 5, 3) := by decide +kernel
theorem dX2_refusal_12 : decode cX2_refusal 12 = .ok (.iconst 1, 1) := by decide +kernel
theorem dX2_refusal_13 : decode cX2_refusal 13 = .ok (.ireturn, 1) := by decide +kernel
theorem dX2_refusal_14 : decode cX2_refusal 14 = .ok (.aload_n 0, 1) := by decide +kernel
theorem dX2_refusal_15 : decode cX2_refusal 15 = .ok (.iload_n 1, 1) := by decide +kernel
theorem dX2_refusal_16 : decode cX2_refusal 16 = .ok (.iload_n 2, 1) := by decide +kernel
theorem dX2_refusal_17 : decode cX2_refusal 17 = .ok (.iload_n 3, 1) := by decide +kernel
theorem dX2_refusal_18 : decode cX2_refusal 18 = .ok (.iload 4, 2) := by decide +kernel
theorem dX2_refusal_20 : decode cX2_refusal 20 = .ok (.invokevirtual 105, 3) := by decide +kernel
theorem dX2_refusal_23 : decode cX2_refusal 23 = .ok (.ifCond .eq 5, 3) := by decide +kernel
theorem dX2_refusal_26 : decode cX2_refusal 26 = .ok (.iconst 2, 1) := by decide +kernel
theorem dX2_refusal_27 : decode cX2_refusal 27 = .ok (.ireturn, 1) := by decide +kernel
theorem dX2_refusal_28 : decode cX2_refusal 28 = .ok (.aload_n 0, 1) := by decide +kernel
theorem dX2_refusal_29 : decode cX2_refusal 29 = .ok (.iload_n 1, 1) := by decide +kernel
theorem dX2_refusal_30 : decode cX2_refusal 30 = .ok (.iload_n 2, 1) := by decide +kernel
theorem dX2_refusal_31 : decode cX2_refusal 31 = .ok (.iload 5, 2) := by decide +kernel
theorem dX2_refusal_33 : decode cX2_refusal 33 = .ok (.invokevirtual 108, 3) := by decide +kernel
theorem dX2_refusal_36 : decode cX2_refusal 36 = .ok (.ifCond .eq 7, 3) := by decide +kernel
theorem dX2_refusal_39 : decode cX2_refusal 39 = .ok (.iconst 3, 1) := by decide +kernel
theorem dX2_refusal_40 : decode cX2_refusal 40 = .ok (.goto 4, 3) := by decide +kernel
theorem dX2_refusal_43 : decode cX2_refusal 43 = .ok (.iconst 0, 1) := by decide +kernel
theorem dX2_refusal_44 : decode cX2_refusal 44 = .ok (.ireturn, 1) := by decide +kernel
theorem dX2_isBadIndex_0 : decode cX2_isBadIndex 0 = .ok (.iload 4, 2) := by decide +kernel
theorem dX2_isBadIndex_2 : decode cX2_isBadIndex 2 = .ok (.iconst (-1), 1) := by decide +kernel
theorem dX2_isBadIndex_3 : decode cX2_isBadIndex 3 = .ok (.if_icmp .eq 15, 3) := by decide +kernel
theorem dX2_isBadIndex_6 : decode cX2_isBadIndex 6 = .ok (.iload 4, 2) := by decide +kernel
theorem dX2_isBadIndex_8 : decode cX2_isBadIndex 8 = .ok (.iconst 0, 1) := by decide +kernel
theorem dX2_isBadIndex_9 : decode cX2_isBadIndex 9 = .ok (.iconst 3, 1) := by decide +kernel
theorem dX2_isBadIndex_10 : decode cX2_isBadIndex 10 = .ok (.invokestatic 93, 3) := by decide +kernel
theorem dX2_isBadIndex_13 : decode cX2_isBadIndex 13 = .ok (.ifCond .ne 5, 3) := by decide +kernel
theorem dX2_isBadIndex_16 : decode cX2_isBadIndex 16 = .ok (.iconst 1, 1) := by decide +kernel
theorem dX2_isBadIndex_17 : decode cX2_isBadIndex 17 = .ok (.ireturn, 1) := by decide +kernel
theorem dX2_isBadIndex_18 : decode cX2_isBadIndex 18 = .ok (.iload_n 1, 1) := by decide +kernel
theorem dX2_isBadIndex_19 : decode cX2_isBadIndex 19 = .ok (.tableswitch 159 257 264 #[45, 45, 60, 85, 101, 127, 127, 142], 45) := by decide +kernel
theorem dX2_isBadIndex_64 : decode cX2_isBadIndex 64 = .ok (.iload_n 2, 1) := by decide +kernel
theorem dX2_isBadIndex_65 : decode cX2_isBadIndex 65 = .ok (.iconst 0, 1) := by decide +kernel
theorem dX2_isBadIndex_66 : decode cX2_isBadIndex 66 = .ok (.iconst 3, 1) := by decide +kernel
theorem dX2_isBadIndex_67 : decode cX2_isBadIndex 67 = .ok (.invokestatic 93, 3) := by decide +kernel
theorem dX2_isBadIndex_70 : decode cX2_isBadIndex 70 = .ok (.ifCond .ne 7, 3) := by decide +kernel
theorem dX2_isBadIndex_73 : decode cX2_isBadIndex 73 = .ok (.iconst 1, 1) := by decide +kernel
theorem dX2_isBadIndex_74 : decode cX2_isBadIndex 74 = .ok (.goto 4, 3) := by decide +kernel
theorem dX2_isBadIndex_77 : decode cX2_isBadIndex 77 = .ok (.iconst 0, 1) := by decide +kernel
theorem dX2_isBadIndex_78 : decode cX2_isBadIndex 78 = .ok (.ireturn, 1) := by decide +kernel
theorem dX2_isBadIndex_79 : decode cX2_isBadIndex 79 = .ok (.iload_n 2, 1) := by decide +kernel
theorem dX2_isBadIndex_80 : decode cX2_isBadIndex 80 = .ok (.iconst 0, 1) := by decide +kernel
theorem dX2_isBadIndex_81 : decode cX2_isBadIndex 81 = .ok (.bipush 7, 2) := by decide +kernel
theorem dX2_isBadIndex_83 : decode cX2_isBadIndex 83 = .ok (.invokestatic 93, 3) := by decide +kernel
theorem dX2_isBadIndex_86 : decode cX2_isBadIndex 86 = .ok (.ifCond .eq 12, 3) := by decide +kernel
theorem dX2_isBadIndex_89 : decode cX2_isBadIndex 89 = .ok (.iload_n 3, 1) := by decide +kernel
theorem dX2_isBadIndex_90 : decode cX2_isBadIndex 90 = .ok (.iconst 0, 1) := by decide +kernel
theorem dX2_isBadIndex_91 : decode cX2_isBadIndex 91 = .ok (.iconst 3, 1) := by decide +kernel
theorem dX2_isBadIndex_92 : decode cX2_isBadIndex 92 = .ok (.invokestatic 93, 3) := by decide +kernel
theorem dX2_isBadIndex_95 : decode cX2_isBadIndex 95 = .ok (.ifCond .ne 7, 3) := by decide +kernel
theorem dX2_isBadIndex_98 : decode cX2_isBadIndex 98 = .ok (.iconst 1, 1) := by decide +kernel
theorem dX2_isBadIndex_99 : decode cX2_isBadIndex 99 = .ok (.goto 4, 3) := by decide +kernel
theorem dX2_isBadIndex_102 : decode cX2_isBadIndex 102 = .ok (.iconst 0, 1) := by decide +kernel
theorem dX2_isBadIndex_103 : decode cX2_isBadIndex 103 = .ok (.ireturn, 1) := by decide +kernel
theorem dX2_isBadIndex_104 : decode cX2_isBadIndex 104 = .ok (.iload_n 2, 1) := by decide +kernel
theorem dX2_isBadIndex_105 : decode cX2_isBadIndex 105 = .ok (.iconst 0, 1) := by decide +kernel
theorem dX2_isBadIndex_106 : decode cX2_isBadIndex 106 = .ok (.bipush 7, 2) := by decide +kernel
theorem dX2_isBadIndex_108 : decode cX2_isBadIndex 108 = .ok (.invokestatic 93, 3) := by decide +kernel
theorem dX2_isBadIndex_111 : decode cX2_isBadIndex 111 = .ok (.ifCond .ne 7, 3) := by decide +kernel
theorem dX2_isBadIndex_114 : decode cX2_isBadIndex 114 = .ok (.iconst 1, 1) := by decide +kernel
theorem dX2_isBadIndex_115 : decode cX2_isBadIndex 115 = .ok (.goto 4, 3) := by decide +kernel
theorem dX2_isBadIndex_118 : decode cX2_isBadIndex 118 = .ok (.iconst 0, 1) := by decide +kernel
theorem dX2_isBadIndex_119 : decode cX2_isBadIndex 119 = .ok (.ireturn, 1) := by decide +kernel
theorem dX2_isBadIndex_120 : decode cX2_isBadIndex 120 = .ok (.iload_n 2, 1) := by decide +kernel
theorem dX2_isBadIndex_121 : decode cX2_isBadIndex 121 = .ok (.iconst 0, 1) := by decide +kernel
theorem dX2_isBadIndex_122 : decode cX2_isBadIndex 122 = .ok (.bipush 7, 2) := by decide +kernel
theorem dX2_isBadIndex_124 : decode cX2_isBadIndex 124 = .ok (.invokestatic 93, 3) := by decide +kernel
theorem dX2_isBadIndex_127 : decode cX2_isBadIndex 127 = .ok (.ifCond .eq 13, 3) := by decide +kernel
theorem dX2_isBadIndex_130 : decode cX2_isBadIndex 130 = .ok (.iload_n 3, 1) := by decide +kernel
theorem dX2_isBadIndex_131 : decode cX2_isBadIndex 131 = .ok (.iconst 0, 1) := by decide +kernel
theorem dX2_isBadIndex_132 : decode cX2_isBadIndex 132 = .ok (.bipush 7, 2) := by decide +kernel
theorem dX2_isBadIndex_134 : decode cX2_isBadIndex 134 = .ok (.invokestatic 93, 3) := by decide +kernel
theorem dX2_isBadIndex_137 : decode cX2_isBadIndex 137 = .ok (.ifCond .ne 7, 3) := by decide +kernel
theorem dX2_isBadIndex_140 : decode cX2_isBadIndex 140 = .ok (.iconst 1, 1) := by decide +kernel
theorem dX2_isBadIndex_141 : decode cX2_isBadIndex 141 = .ok (.goto 4, 3) := by decide +kernel
theorem dX2_isBadIndex_144 : decode cX2_isBadIndex 144 = .ok (.iconst 0, 1) := by decide +kernel
theorem dX2_isBadIndex_145 : decode cX2_isBadIndex 145 = .ok (.ireturn, 1) := by decide +kernel
theorem dX2_isBadIndex_146 : decode cX2_isBadIndex 146 = .ok (.iload_n 2, 1) := by decide +kernel
theorem dX2_isBadIndex_147 : decode cX2_isBadIndex 147 = .ok (.iconst 0, 1) := by decide +kernel
theorem dX2_isBadIndex_148 : decode cX2_isBadIndex 148 = .ok (.iconst 3, 1) := by decide +kernel
theorem dX2_isBadIndex_149 : decode cX2_isBadIndex 149 = .ok (.invokestatic 93, 3) := by decide +kernel
theorem dX2_isBadIndex_152 : decode cX2_isBadIndex 152 = .ok (.ifCond .ne 7, 3) := by decide +kernel
theorem dX2_isBadIndex_155 : decode cX2_isBadIndex 155 = .ok (.iconst 1, 1) := by decide +kernel
theorem dX2_isBadIndex_156 : decode cX2_isBadIndex 156 = .ok (.goto 4, 3) := by decide +kernel
theorem dX2_isBadIndex_159 : decode cX2_isBadIndex 159 = .ok (.iconst 0, 1) := by decide +kernel
theorem dX2_isBadIndex_160 : decode cX2_isBadIndex 160 = .ok (.ireturn, 1) := by decide +kernel
theorem dX2_isBadIndex_161 : decode cX2_isBadIndex 161 = .ok (.aload_n 0, 1) := by decide +kernel
theorem dX2_isBadIndex_162 : decode cX2_isBadIndex 162 = .ok (.getfield 28, 3) := by decide +kernel
theorem dX2_isBadIndex_165 : decode cX2_isBadIndex 165 = .ok (.iload_n 2, 1) := by decide +kernel
theorem dX2_isBadIndex_166 : decode cX2_isBadIndex 166 = .ok (.invokevirtual 111, 3) := by decide +kernel
theorem dX2_isBadIndex_169 : decode cX2_isBadIndex 169 = .ok (.ifCond .ne 7, 3) := by decide +kernel
theorem dX2_isBadIndex_172 : decode cX2_isBadIndex 172 = .ok (.iconst 1, 1) := by decide +kernel
theorem dX2_isBadIndex_173 : decode cX2_isBadIndex 173 = .ok (.goto 4, 3) := by decide +kernel
theorem dX2_isBadIndex_176 : decode cX2_isBadIndex 176 = .ok (.iconst 0, 1) := by decide +kernel
theorem dX2_isBadIndex_177 : decode cX2_isBadIndex 177 = .ok (.ireturn, 1) := by decide +kernel
theorem dX2_isBadIndex_178 : decode cX2_isBadIndex 178 = .ok (.iconst 0, 1) := by decide +kernel
theorem dX2_isBadIndex_179 : decode cX2_isBadIndex 179 = .ok (.ireturn, 1) := by decide +kernel
theorem dX2_isBadArgument_0 : decode cX2_isBadArgument 0 = .ok (.iload_n 1, 1) := by decide +kernel
theorem dX2_isBadArgument_1 : decode cX2_isBadArgument 1 = .ok (.tableswitch 112 259 264 #[39, 112, 57, 68, 112, 96], 39) := by decide +kernel
theorem dX2_isBadArgument_40 : decode cX2_isBadArgument 40 = .ok (.iload 4, 2) := by decide +kernel
theorem dX2_isBadArgument_42 : decode cX2_isBadArgument 42 = .ok (.iconst 0, 1) := by decide +kernel
theorem dX2_isBadArgument_43 : decode cX2_isBadArgument 43 = .ok (.sipush 9999, 3) := by decide +kernel
theorem dX2_isBadArgument_46 : decode cX2_isBadArgument 46 = .ok (.invokestatic 93, 3) := by decide +kernel
theorem dX2_isBadArgument_49 : decode cX2_isBadArgument 49 = .ok (.ifCond .ne 7, 3) := by decide +kernel
theorem dX2_isBadArgument_52 : decode cX2_isBadArgument 52 = .ok (.iconst 1, 1) := by decide +kernel
theorem dX2_isBadArgument_53 : decode cX2_isBadArgument 53 = .ok (.goto 4, 3) := by decide +kernel
theorem dX2_isBadArgument_56 : decode cX2_isBadArgument 56 = .ok (.iconst 0, 1) := by decide +kernel
theorem dX2_isBadArgument_57 : decode cX2_isBadArgument 57 = .ok (.ireturn, 1) := by decide +kernel
theorem dX2_isBadArgument_58 : decode cX2_isBadArgument 58 = .ok (.iload_n 2, 1) := by decide +kernel
theorem dX2_isBadArgument_59 : decode cX2_isBadArgument 59 = .ok (.iload_n 3, 1) := by decide +kernel
theorem dX2_isBadArgument_60 : decode cX2_isBadArgument 60 = .ok (.if_icmp .ne 7, 3) := by decide +kernel
theorem dX2_isBadArgument_63 : decode cX2_isBadArgument 63 = .ok (.iconst 1, 1) := by decide +kernel
theorem dX2_isBadArgument_64 : decode cX2_isBadArgument 64 = .ok (.goto 4, 3) := by decide +kernel
theorem dX2_isBadArgument_67 : decode cX2_isBadArgument 67 = .ok (.iconst 0, 1) := by decide +kernel
theorem dX2_isBadArgument_68 : decode cX2_isBadArgument 68 = .ok (.ireturn, 1) := by decide +kernel
theorem dX2_isBadArgument_69 : decode cX2_isBadArgument 69 = .ok (.iload_n 3, 1) := by decide +kernel
theorem dX2_isBadArgument_70 : decode cX2_isBadArgument 70 = .ok (.iconst 0, 1) := by decide +kernel
theorem dX2_isBadArgument_71 : decode cX2_isBadArgument 71 = .ok (.sipush 9999, 3) := by decide +kernel
theorem dX2_isBadArgument_74 : decode cX2_isBadArgument 74 = .ok (.invokestatic 93, 3) := by decide +kernel
theorem dX2_isBadArgument_77 : decode cX2_isBadArgument 77 = .ok (.ifCond .eq 14, 3) := by decide +kernel
theorem dX2_isBadArgument_80 : decode cX2_isBadArgument 80 = .ok (.iload 4, 2) := by decide +kernel
theorem dX2_isBadArgument_82 : decode cX2_isBadArgument 82 = .ok (.iconst 0, 1) := by decide +kernel
theorem dX2_isBadArgument_83 : decode cX2_isBadArgument 83 = .ok (.bipush 20, 2) := by decide +kernel
theorem dX2_isBadArgument_85 : decode cX2_isBadArgument 85 = .ok (.invokestatic 93, 3) := by decide +kernel
theorem dX2_isBadArgument_88 : decode cX2_isBadArgument 88 = .ok (.ifCond .ne 7, 3) := by decide +kernel
theorem dX2_isBadArgument_91 : decode cX2_isBadArgument 91 = .ok (.iconst 1, 1) := by decide +kernel
theorem dX2_isBadArgument_92 : decode cX2_isBadArgument 92 = .ok (.goto 4, 3) := by decide +kernel
theorem dX2_isBadArgument_95 : decode cX2_isBadArgument 95 = .ok (.iconst 0, 1) := by decide +kernel
theorem dX2_isBadArgument_96 : decode cX2_isBadArgument 96 = .ok (.ireturn, 1) := by decide +kernel
theorem dX2_isBadArgument_97 : decode cX2_isBadArgument 97 = .ok (.iload_n 3, 1) := by decide +kernel
theorem dX2_isBadArgument_98 : decode cX2_isBadArgument 98 = .ok (.iconst 1, 1) := by decide +kernel
theorem dX2_isBadArgument_99 : decode cX2_isBadArgument 99 = .ok (.bipush 50, 2) := by decide +kernel
theorem dX2_isBadArgument_101 : decode cX2_isBadArgument 101 = .ok (.invokestatic 93, 3) := by decide +kernel
theorem dX2_isBadArgument_104 : decode cX2_isBadArgument 104 = .ok (.ifCond .ne 7, 3) := by decide +kernel
theorem dX2_isBadArgument_107 : decode cX2_isBadArgument 107 = .ok (.iconst 1, 1) := by decide +kernel
theorem dX2_isBadArgument_108 : decode cX2_isBadArgument 108 = .ok (.goto 4, 3) := by decide +kernel
theorem dX2_isBadArgument_111 : decode cX2_isBadArgument 111 = .ok (.iconst 0, 1) := by decide +kernel
theorem dX2_isBadArgument_112 : decode cX2_isBadArgument 112 = .ok (.ireturn, 1) := by decide +kernel
theorem dX2_isBadArgument_113 : decode cX2_isBadArgument 113 = .ok (.iconst 0, 1) := by decide +kernel
theorem dX2_isBadArgument_114 : decode cX2_isBadArgument 114 = .ok (.ireturn, 1) := by decide +kernel
theorem dX2_isBadState_0 : decode cX2_isBadState 0 = .ok (.iload_n 1, 1) := by decide +kernel
theorem dX2_isBadState_1 : decode cX2_isBadState 1 = .ok (.sipush 265, 3) := by decide +kernel
theorem dX2_isBadState_4 : decode cX2_isBadState 4 = .ok (.if_icmp .ne 5, 3) := by decide +kernel
theorem dX2_isBadState_7 : decode cX2_isBadState 7 = .ok (.iconst 0, 1) := by decide +kernel
theorem dX2_isBadState_8 : decode cX2_isBadState 8 = .ok (.ireturn, 1) := by decide +kernel
theorem dX2_isBadState_9 : decode cX2_isBadState 9 = .ok (.aload_n 0, 1) := by decide +kernel
theorem dX2_isBadState_10 : decode cX2_isBadState 10 = .ok (.getfield 12, 3) := by decide +kernel
theorem dX2_isBadState_13 : decode cX2_isBadState 13 = .ok (.invokevirtual 115, 3) := by decide +kernel
theorem dX2_isBadState_16 : decode cX2_isBadState 16 = .ok (.ifCond .ne 16, 3) := by decide +kernel
theorem dX2_isBadState_19 : decode cX2_isBadState 19 = .ok (.iload_n 3, 1) := by decide +kernel
theorem dX2_isBadState_20 : decode cX2_isBadState 20 = .ok (.iconst (-1), 1) := by decide +kernel
theorem dX2_isBadState_21 : decode cX2_isBadState 21 = .ok (.if_icmp .eq 13, 3) := by decide +kernel
theorem dX2_isBadState_24 : decode cX2_isBadState 24 = .ok (.aload_n 0, 1) := by decide +kernel
theorem dX2_isBadState_25 : decode cX2_isBadState 25 = .ok (.iload_n 3, 1) := by decide +kernel
theorem dX2_isBadState_26 : decode cX2_isBadState 26 = .ok (.invokevirtual 119, 3) := by decide +kernel
theorem dX2_isBadState_29 : decode cX2_isBadState 29 = .ok (.ifCond .ne 5, 3) := by decide +kernel
theorem dX2_isBadState_32 : decode cX2_isBadState 32 = .ok (.iconst 1, 1) := by decide +kernel
theorem dX2_isBadState_33 : decode cX2_isBadState 33 = .ok (.ireturn, 1) := by decide +kernel
theorem dX2_isBadState_34 : decode cX2_isBadState 34 = .ok (.iload_n 1, 1) := by decide +kernel
theorem dX2_isBadState_35 : decode cX2_isBadState 35 = .ok (.tableswitch 91 256 263 #[45, 59, 59, 91, 91, 91, 91, 73], 45) := by decide +kernel
theorem dX2_isBadState_80 : decode cX2_isBadState 80 = .ok (.aload_n 0, 1) := by decide +kernel
theorem dX2_isBadState_81 : decode cX2_isBadState 81 = .ok (.invokevirtual 122, 3) := by decide +kernel
theorem dX2_isBadState_84 : decode cX2_isBadState 84 = .ok (.iconst (-1), 1) := by decide +kernel
theorem dX2_isBadState_85 : decode cX2_isBadState 85 = .ok (.if_icmp .ne 7, 3) := by decide +kernel
theorem dX2_isBadState_88 : decode cX2_isBadState 88 = .ok (.iconst 1, 1) := by decide +kernel
theorem dX2_isBadState_89 : decode cX2_isBadState 89 = .ok (.goto 4, 3) := by decide +kernel
theorem dX2_isBadState_92 : decode cX2_isBadState 92 = .ok (.iconst 0, 1) := by decide +kernel
theorem dX2_isBadState_93 : decode cX2_isBadState 93 = .ok (.ireturn, 1) := by decide +kernel
theorem dX2_isBadState_94 : decode cX2_isBadState 94 = .ok (.aload_n 0, 1) := by decide +kernel
theorem dX2_isBadState_95 : decode cX2_isBadState 95 = .ok (.iload_n 2, 1) := by decide +kernel
theorem dX2_isBadState_96 : decode cX2_isBadState 96 = .ok (.invokevirtual 119, 3) := by decide +kernel
theorem dX2_isBadState_99 : decode cX2_isBadState 99 = .ok (.ifCond .ne 7, 3) := by decide +kernel
theorem dX2_isBadState_102 : decode cX2_isBadState 102 = .ok (.iconst 1, 1) := by decide +kernel
theorem dX2_isBadState_103 : decode cX2_isBadState 103 = .ok (.goto 4, 3) := by decide +kernel
theorem dX2_isBadState_106 : decode cX2_isBadState 106 = .ok (.iconst 0, 1) := by decide +kernel
theorem dX2_isBadState_107 : decode cX2_isBadState 107 = .ok (.ireturn, 1) := by decide +kernel
theorem dX2_isBadState_108 : decode cX2_isBadState 108 = .ok (.aload_n 0, 1) := by decide +kernel
theorem dX2_isBadState_109 : decode cX2_isBadState 109 = .ok (.getfield 28, 3) := by decide +kernel
theorem dX2_isBadState_112 : decode cX2_isBadState 112 = .ok (.getfield 125, 3) := by decide +kernel
theorem dX2_isBadState_115 : decode cX2_isBadState 115 = .ok (.bipush 6, 2) := by decide +kernel
theorem dX2_isBadState_117 : decode cX2_isBadState 117 = .ok (.if_icmp .lt 7, 3) := by decide +kernel
theorem dX2_isBadState_120 : decode cX2_isBadState 120 = .ok (.iconst 1, 1) := by decide +kernel
theorem dX2_isBadState_121 : decode cX2_isBadState 121 = .ok (.goto 4, 3) := by decide +kernel
theorem dX2_isBadState_124 : decode cX2_isBadState 124 = .ok (.iconst 0, 1) := by decide +kernel
theorem dX2_isBadState_125 : decode cX2_isBadState 125 = .ok (.ireturn, 1) := by decide +kernel
theorem dX2_isBadState_126 : decode cX2_isBadState 126 = .ok (.iconst 0, 1) := by decide +kernel
theorem dX2_isBadState_127 : decode cX2_isBadState 127 = .ok (.ireturn, 1) := by decide +kernel
theorem dX2_perform_0 : decode cX2_perform 0 = .ok (.aload_n 0, 1) := by decide +kernel
theorem dX2_perform_1 : decode cX2_perform 1 = .ok (.getfield 12, 3) := by decide +kernel
theorem dX2_perform_4 : decode cX2_perform 4 = .ok (.getfield 90, 3) := by decide +kernel
theorem dX2_perform_7 : decode cX2_perform 7 = .ok (.istore 6, 2) := by decide +kernel
theorem dX2_perform_9 : decode cX2_perform 9 = .ok (.iload_n 1, 1) := by decide +kernel
theorem dX2_perform_10 : decode cX2_perform 10 = .ok (.tableswitch 185 256 265 #[54, 67, 78, 89, 105, 120, 135, 152, 162, 173], 54) := by decide +kernel
theorem dX2_perform_64 : decode cX2_perform 64 = .ok (.aload_n 0, 1) := by decide +kernel
theorem dX2_perform_65 : decode cX2_perform 65 = .ok (.aload_n 0, 1) := by decide +kernel
theorem dX2_perform_66 : decode cX2_perform 66 = .ok (.invokevirtual 122, 3) := by decide +kernel
theorem dX2_perform_69 : decode cX2_perform 69 = .ok (.invokevirtual 128, 3) := by decide +kernel
theorem dX2_perform_72 : decode cX2_perform 72 = .ok (.istore 7, 2) := by decide +kernel
theorem dX2_perform_74 : decode cX2_perform 74 = .ok (.goto 127, 3) := by decide +kernel
theorem dX2_perform_77 : decode cX2_perform 77 = .ok (.aload_n 0, 1) := by decide +kernel
theorem dX2_perform_78 : decode cX2_perform 78 = .ok (.iload_n 2, 1) := by decide +kernel
theorem dX2_perform_79 : decode cX2_perform 79 = .ok (.iconst 1, 1) := by decide +kernel
theorem dX2_perform_80 : decode cX2_perform 80 = .ok (.invokevirtual 131, 3) := by decide +kernel
theorem dX2_perform_83 : decode cX2_perform 83 = .ok (.istore 7, 2) := by decide +kernel
theorem dX2_perform_85 : decode cX2_perform 85 = .ok (.goto 116, 3) := by decide +kernel
theorem dX2_perform_88 : decode cX2_perform 88 = .ok (.aload_n 0, 1) := by decide +kernel
theorem dX2_perform_89 : decode cX2_perform 89 = .ok (.iload_n 2, 1) := by decide +kernel
theorem dX2_perform_90 : decode cX2_perform 90 = .ok (.iconst 2, 1) := by decide +kernel
theorem dX2_perform_91 : decode cX2_perform 91 = .ok (.invokevirtual 131, 3) := by decide +kernel
theorem dX2_perform_94 : decode cX2_perform 94 = .ok (.istore 7, 2) := by decide +kernel
theorem dX2_perform_96 : decode cX2_perform 96 = .ok (.goto 105, 3) := by decide +kernel
theorem dX2_perform_99 : decode cX2_perform 99 = .ok (.aload_n 0, 1) := by decide +kernel
theorem dX2_perform_100 : decode cX2_perform 100 = .ok (.iconst 3, 1) := by decide +kernel
theorem dX2_perform_101 : decode cX2_perform 101 = .ok (.iload_n 2, 1) := by decide +kernel
theorem dX2_perform_102 : decode cX2_perform 102 = .ok (.iload_n 3, 1) := by decide +kernel
theorem dX2_perform_103 : decode cX2_perform 103 = .ok (.iload 4, 2) := by decide +kernel
theorem dX2_perform_105 : decode cX2_perform 105 = .ok (.iload 5, 2) := by decide +kernel
theorem dX2_perform_107 : decode cX2_perform 107 = .ok (.invokevirtual 135, 3) := by decide +kernel
theorem dX2_perform_110 : decode cX2_perform 110 = .ok (.istore 7, 2) := by decide +kernel
theorem dX2_perform_112 : decode cX2_perform 112 = .ok (.goto 89, 3) := by decide +kernel
theorem dX2_perform_115 : decode cX2_perform 115 = .ok (.aload_n 0, 1) := by decide +kernel
theorem dX2_perform_116 : decode cX2_perform 116 = .ok (.iconst 4, 1) := by decide +kernel
theorem dX2_perform_117 : decode cX2_perform 117 = .ok (.iload_n 2, 1) := by decide +kernel
theorem dX2_perform_118 : decode cX2_perform 118 = .ok (.iconst 0, 1) := by decide +kernel
theorem dX2_perform_119 : decode cX2_perform 119 = .ok (.iconst 0, 1) := by decide +kernel
theorem dX2_perform_120 : decode cX2_perform 120 = .ok (.iload 5, 2) := by decide +kernel
theorem dX2_perform_122 : decode cX2_perform 122 = .ok (.invokevirtual 135, 3) := by decide +kernel
theorem dX2_perform_125 : decode cX2_perform 125 = .ok (.istore 7, 2) := by decide +kernel
theorem dX2_perform_127 : decode cX2_perform 127 = .ok (.goto 74, 3) := by decide +kernel
theorem dX2_perform_130 : decode cX2_perform 130 = .ok (.aload_n 0, 1) := by decide +kernel
theorem dX2_perform_131 : decode cX2_perform 131 = .ok (.iconst 5, 1) := by decide +kernel
theorem dX2_perform_132 : decode cX2_perform 132 = .ok (.iload_n 2, 1) := by decide +kernel
theorem dX2_perform_133 : decode cX2_perform 133 = .ok (.iload_n 3, 1) := by decide +kernel
theorem dX2_perform_134 : decode cX2_perform 134 = .ok (.iconst 0, 1) := by decide +kernel
theorem dX2_perform_135 : decode cX2_perform 135 = .ok (.iload 5, 2) := by decide +kernel
theorem dX2_perform_137 : decode cX2_perform 137 = .ok (.invokevirtual 135, 3) := by decide +kernel
theorem dX2_perform_140 : decode cX2_perform 140 = .ok (.istore 7, 2) := by decide +kernel
theorem dX2_perform_142 : decode cX2_perform 142 = .ok (.goto 59, 3) := by decide +kernel
theorem dX2_perform_145 : decode cX2_perform 145 = .ok (.aload_n 0, 1) := by decide +kernel
theorem dX2_perform_146 : decode cX2_perform 146 = .ok (.bipush 6, 2) := by decide +kernel
theorem dX2_perform_148 : decode cX2_perform 148 = .ok (.iload_n 2, 1) := by decide +kernel
theorem dX2_perform_149 : decode cX2_perform 149 = .ok (.iload_n 3, 1) := by decide +kernel
theorem dX2_perform_150 : decode cX2_perform 150 = .ok (.iload 4, 2) := by decide +kernel
theorem dX2_perform_152 : decode cX2_perform 152 = .ok (.iload 5, 2) := by decide +kernel
theorem dX2_perform_154 : decode cX2_perform 154 = .ok (.invokevirtual 135, 3) := by decide +kernel
theorem dX2_perform_157 : decode cX2_perform 157 = .ok (.istore 7, 2) := by decide +kernel
theorem dX2_perform_159 : decode cX2_perform 159 = .ok (.goto 42, 3) := by decide +kernel
theorem dX2_perform_162 : decode cX2_perform 162 = .ok (.aload_n 0, 1) := by decide +kernel
theorem dX2_perform_163 : decode cX2_perform 163 = .ok (.iload_n 2, 1) := by decide +kernel
theorem dX2_perform_164 : decode cX2_perform 164 = .ok (.invokevirtual 139, 3) := by decide +kernel
theorem dX2_perform_167 : decode cX2_perform 167 = .ok (.istore 7, 2) := by decide +kernel
theorem dX2_perform_169 : decode cX2_perform 169 = .ok (.goto 32, 3) := by decide +kernel
theorem dX2_perform_172 : decode cX2_perform 172 = .ok (.aload_n 0, 1) := by decide +kernel
theorem dX2_perform_173 : decode cX2_perform 173 = .ok (.iload_n 2, 1) := by decide +kernel
theorem dX2_perform_174 : decode cX2_perform 174 = .ok (.iload_n 3, 1) := by decide +kernel
theorem dX2_perform_175 : decode cX2_perform 175 = .ok (.invokevirtual 142, 3) := by decide +kernel
theorem dX2_perform_178 : decode cX2_perform 178 = .ok (.istore 7, 2) := by decide +kernel
theorem dX2_perform_180 : decode cX2_perform 180 = .ok (.goto 21, 3) := by decide +kernel
theorem dX2_perform_183 : decode cX2_perform 183 = .ok (.aload_n 0, 1) := by decide +kernel
theorem dX2_perform_184 : decode cX2_perform 184 = .ok (.getfield 12, 3) := by decide +kernel
theorem dX2_perform_187 : decode cX2_perform 187 = .ok (.invokevirtual 145, 3) := by decide +kernel
theorem dX2_perform_190 : decode cX2_perform 190 = .ok (.istore 7, 2) := by decide +kernel
theorem dX2_perform_192 : decode cX2_perform 192 = .ok (.goto 9, 3) := by decide +kernel
theorem dX2_perform_195 : decode cX2_perform 195 = .ok (.aload_n 0, 1) := by decide +kernel
theorem dX2_perform_196 : decode cX2_perform 196 = .ok (.invokevirtual 148, 3) := by decide +kernel
theorem dX2_perform_199 : decode cX2_perform 199 = .ok (.istore 7, 2) := by decide +kernel
theorem dX2_perform_201 : decode cX2_perform 201 = .ok (.aload_n 0, 1) := by decide +kernel
theorem dX2_perform_202 : decode cX2_perform 202 = .ok (.getfield 12, 3) := by decide +kernel
theorem dX2_perform_205 : decode cX2_perform 205 = .ok (.getfield 90, 3) := by decide +kernel
theorem dX2_perform_208 : decode cX2_perform 208 = .ok (.iload 6, 2) := by decide +kernel
theorem dX2_perform_210 : decode cX2_perform 210 = .ok (.if_icmp .le 9, 3) := by decide +kernel
theorem dX2_perform_213 : decode cX2_perform 213 = .ok (.aload_n 0, 1) := by decide +kernel
theorem dX2_perform_214 : decode cX2_perform 214 = .ok (.iload 6, 2) := by decide +kernel
theorem dX2_perform_216 : decode cX2_perform 216 = .ok (.invokevirtual 151, 3) := by decide +kernel
theorem dX2_perform_219 : decode cX2_perform 219 = .ok (.aload_n 0, 1) := by decide +kernel
theorem dX2_perform_220 : decode cX2_perform 220 = .ok (.invokevirtual 154, 3) := by decide +kernel
theorem dX2_perform_223 : decode cX2_perform 223 = .ok (.iload 7, 2) := by decide +kernel
theorem dX2_perform_225 : decode cX2_perform 225 = .ok (.ireturn, 1) := by decide +kernel
theorem dX2_add_0 : decode cX2_add 0 = .ok (.aload_n 0, 1) := by decide +kernel
theorem dX2_add_1 : decode cX2_add 1 = .ok (.getfield 21, 3) := by decide +kernel
theorem dX2_add_4 : decode cX2_add 4 = .ok (.aload_n 0, 1) := by decide +kernel
theorem dX2_add_5 : decode cX2_add 5 = .ok (.getfield 12, 3) := by decide +kernel
theorem dX2_add_8 : decode cX2_add 8 = .ok (.getfield 90, 3) := by decide +kernel
theorem dX2_add_11 : decode cX2_add 11 = .ok (.iload_n 1, 1) := by decide +kernel
theorem dX2_add_12 : decode cX2_add 12 = .ok (.iload 5, 2) := by decide +kernel
theorem dX2_add_14 : decode cX2_add 14 = .ok (.invokestatic 157, 3) := by decide +kernel
theorem dX2_add_17 : decode cX2_add 17 = .ok (.invokevirtual 160, 3) := by decide +kernel
theorem dX2_add_20 : decode cX2_add 20 = .ok (.istore 6, 2) := by decide +kernel
theorem dX2_add_22 : decode cX2_add 22 = .ok (.aload_n 0, 1) := by decide +kernel
theorem dX2_add_23 : decode cX2_add 23 = .ok (.getfield 12, 3) := by decide +kernel
theorem dX2_add_26 : decode cX2_add 26 = .ok (.iload_n 1, 1) := by decide +kernel
theorem dX2_add_27 : decode cX2_add 27 = .ok (.iload_n 2, 1) := by decide +kernel
theorem dX2_add_28 : decode cX2_add 28 = .ok (.iload_n 3, 1) := by decide +kernel
theorem dX2_add_29 : decode cX2_add 29 = .ok (.iload 4, 2) := by decide +kernel
theorem dX2_add_31 : decode cX2_add 31 = .ok (.iload 5, 2) := by decide +kernel
theorem dX2_add_33 : decode cX2_add 33 = .ok (.iload 6, 2) := by decide +kernel
theorem dX2_add_35 : decode cX2_add 35 = .ok (.invokevirtual 163, 3) := by decide +kernel
theorem dX2_add_38 : decode cX2_add 38 = .ok (.ireturn, 1) := by decide +kernel
theorem dX2_open_0 : decode cX2_open 0 = .ok (.aload_n 0, 1) := by decide +kernel
theorem dX2_open_1 : decode cX2_open 1 = .ok (.getfield 50, 3) := by decide +kernel
theorem dX2_open_4 : decode cX2_open 4 = .ok (.iload_n 1, 1) := by decide +kernel
theorem dX2_open_5 : decode cX2_open 5 = .ok (.aload_n 0, 1) := by decide +kernel
theorem dX2_open_6 : decode cX2_open 6 = .ok (.iconst 0, 1) := by decide +kernel
theorem dX2_open_7 : decode cX2_open 7 = .ok (.iconst (-1), 1) := by decide +kernel
theorem dX2_open_8 : decode cX2_open 8 = .ok (.iload_n 1, 1) := by decide +kernel
theorem dX2_open_9 : decode cX2_open 9 = .ok (.iconst 0, 1) := by decide +kernel
theorem dX2_open_10 : decode cX2_open 10 = .ok (.iconst 0, 1) := by decide +kernel
theorem dX2_open_11 : decode cX2_open 11 = .ok (.invokevirtual 167, 3) := by decide +kernel
theorem dX2_open_14 : decode cX2_open 14 = .ok (.invokevirtual 169, 3) := by decide +kernel
theorem dX2_open_17 : decode cX2_open 17 = .ok (.aload_n 0, 1) := by decide +kernel
theorem dX2_open_18 : decode cX2_open 18 = .ok (.getfield 54, 3) := by decide +kernel
theorem dX2_open_21 : decode cX2_open 21 = .ok (.iload_n 1, 1) := by decide +kernel
theorem dX2_open_22 : decode cX2_open 22 = .ok (.iconst 0, 1) := by decide +kernel
theorem dX2_open_23 : decode cX2_open 23 = .ok (.invokevirtual 169, 3) := by decide +kernel
theorem dX2_open_26 : decode cX2_open 26 = .ok (.iload_n 1, 1) := by decide +kernel
theorem dX2_open_27 : decode cX2_open 27 = .ok (.ireturn, 1) := by decide +kernel
theorem dX2_close_0 : decode cX2_close 0 = .ok (.aload_n 0, 1) := by decide +kernel
theorem dX2_close_1 : decode cX2_close 1 = .ok (.iload_n 2, 1) := by decide +kernel
theorem dX2_close_2 : decode cX2_close 2 = .ok (.aload_n 0, 1) := by decide +kernel
theorem dX2_close_3 : decode cX2_close 3 = .ok (.getfield 50, 3) := by decide +kernel
theorem dX2_close_6 : decode cX2_close 6 = .ok (.iload_n 1, 1) := by decide +kernel
theorem dX2_close_7 : decode cX2_close 7 = .ok (.invokevirtual 97, 3) := by decide +kernel
theorem dX2_close_10 : decode cX2_close 10 = .ok (.iload_n 1, 1) := by decide +kernel
theorem dX2_close_11 : decode cX2_close 11 = .ok (.iconst 0, 1) := by decide +kernel
theorem dX2_close_12 : decode cX2_close 12 = .ok (.iconst 0, 1) := by decide +kernel
theorem dX2_close_13 : decode cX2_close 13 = .ok (.invokevirtual 167, 3) := by decide +kernel
theorem dX2_close_16 : decode cX2_close 16 = .ok (.pop, 1) := by decide +kernel
theorem dX2_close_17 : decode cX2_close 17 = .ok (.aload_n 0, 1) := by decide +kernel
theorem dX2_close_18 : decode cX2_close 18 = .ok (.getfield 50, 3) := by decide +kernel
theorem dX2_close_21 : decode cX2_close 21 = .ok (.iload_n 1, 1) := by decide +kernel
theorem dX2_close_22 : decode cX2_close 22 = .ok (.iconst (-1), 1) := by decide +kernel
theorem dX2_close_23 : decode cX2_close 23 = .ok (.invokevirtual 169, 3) := by decide +kernel
theorem dX2_close_26 : decode cX2_close 26 = .ok (.aload_n 0, 1) := by decide +kernel
theorem dX2_close_27 : decode cX2_close 27 = .ok (.getfield 54, 3) := by decide +kernel
theorem dX2_close_30 : decode cX2_close 30 = .ok (.iload_n 1, 1) := by decide +kernel
theorem dX2_close_31 : decode cX2_close 31 = .ok (.invokevirtual 97, 3) := by decide +kernel
theorem dX2_close_34 : decode cX2_close 34 = .ok (.ireturn, 1) := by decide +kernel
theorem dX2_addChange_0 : decode cX2_addChange 0 = .ok (.iload 5, 2) := by decide +kernel
theorem dX2_addChange_2 : decode cX2_addChange 2 = .ok (.iconst (-1), 1) := by decide +kernel
theorem dX2_addChange_3 : decode cX2_addChange 3 = .ok (.if_icmp .ne 14, 3) := by decide +kernel
theorem dX2_addChange_6 : decode cX2_addChange 6 = .ok (.aload_n 0, 1) := by decide +kernel
theorem dX2_addChange_7 : decode cX2_addChange 7 = .ok (.iload_n 1, 1) := by decide +kernel
theorem dX2_addChange_8 : decode cX2_addChange 8 = .ok (.iconst (-1), 1) := by decide +kernel
theorem dX2_addChange_9 : decode cX2_addChange 9 = .ok (.iload_n 2, 1) := by decide +kernel
theorem dX2_addChange_10 : decode cX2_addChange 10 = .ok (.iload_n 3, 1) := by decide +kernel
theorem dX2_addChange_11 : decode cX2_addChange 11 = .ok (.iload 4, 2) := by decide +kernel
theorem dX2_addChange_13 : decode cX2_addChange 13 = .ok (.invokevirtual 167, 3) := by decide +kernel
theorem dX2_addChange_16 : decode cX2_addChange 16 = .ok (.ireturn, 1) := by decide +kernel
theorem dX2_addChange_17 : decode cX2_addChange 17 = .ok (.aload_n 0, 1) := by decide +kernel
theorem dX2_addChange_18 : decode cX2_addChange 18 = .ok (.getfield 54, 3) := by decide +kernel
theorem dX2_addChange_21 : decode cX2_addChange 21 = .ok (.iload 5, 2) := by decide +kernel
theorem dX2_addChange_23 : decode cX2_addChange 23 = .ok (.aload_n 0, 1) := by decide +kernel
theorem dX2_addChange_24 : decode cX2_addChange 24 = .ok (.getfield 54, 3) := by decide +kernel
theorem dX2_addChange_27 : decode cX2_addChange 27 = .ok (.iload 5, 2) := by decide +kernel
theorem dX2_addChange_29 : decode cX2_addChange 29 = .ok (.invokevirtual 97, 3) := by decide +kernel
theorem dX2_addChange_32 : decode cX2_addChange 32 = .ok (.iconst 1, 1) := by decide +kernel
theorem dX2_addChange_33 : decode cX2_addChange 33 = .ok (.iadd, 1) := by decide +kernel
theorem dX2_addChange_34 : decode cX2_addChange 34 = .ok (.invokevirtual 169, 3) := by decide +kernel
theorem dX2_addChange_37 : decode cX2_addChange 37 = .ok (.aload_n 0, 1) := by decide +kernel
theorem dX2_addChange_38 : decode cX2_addChange 38 = .ok (.iload_n 1, 1) := by decide +kernel
theorem dX2_addChange_39 : decode cX2_addChange 39 = .ok (.aload_n 0, 1) := by decide +kernel
theorem dX2_addChange_40 : decode cX2_addChange 40 = .ok (.getfield 50, 3) := by decide +kernel
theorem dX2_addChange_43 : decode cX2_addChange 43 = .ok (.iload 5, 2) := by decide +kernel
theorem dX2_addChange_45 : decode cX2_addChange 45 = .ok (.invokevirtual 97, 3) := by decide +kernel
theorem dX2_addChange_48 : decode cX2_addChange 48 = .ok (.iload_n 2, 1) := by decide +kernel
theorem dX2_addChange_49 : decode cX2_addChange 49 = .ok (.iload_n 3, 1) := by decide +kernel
theorem dX2_addChange_50 : decode cX2_addChange 50 = .ok (.iload 4, 2) := by decide +kernel
theorem dX2_addChange_52 : decode cX2_addChange 52 = .ok (.invokevirtual 167, 3) := by decide +kernel
theorem dX2_addChange_55 : decode cX2_addChange 55 = .ok (.ireturn, 1) := by decide +kernel
theorem dX2_addConsumer_0 : decode cX2_addConsumer 0 = .ok (.aload_n 0, 1) := by decide +kernel
theorem dX2_addConsumer_1 : decode cX2_addConsumer 1 = .ok (.getfield 28, 3) := by decide +kernel
theorem dX2_addConsumer_4 : decode cX2_addConsumer 4 = .ok (.iload_n 1, 1) := by decide +kernel
theorem dX2_addConsumer_5 : decode cX2_addConsumer 5 = .ok (.invokevirtual 173, 3) := by decide +kernel
theorem dX2_addConsumer_8 : decode cX2_addConsumer 8 = .ok (.istore_n 2, 1) := by decide +kernel
theorem dX2_addConsumer_9 : decode cX2_addConsumer 9 = .ok (.aload_n 0, 1) := by decide +kernel
theorem dX2_addConsumer_10 : decode cX2_addConsumer 10 = .ok (.bipush 7, 2) := by decide +kernel
theorem dX2_addConsumer_12 : decode cX2_addConsumer 12 = .ok (.iconst (-1), 1) := by decide +kernel
theorem dX2_addConsumer_13 : decode cX2_addConsumer 13 = .ok (.iload_n 2, 1) := by decide +kernel
theorem dX2_addConsumer_14 : decode cX2_addConsumer 14 = .ok (.aload_n 0, 1) := by decide +kernel
theorem dX2_addConsumer_15 : decode cX2_addConsumer 15 = .ok (.getfield 28, 3) := by decide +kernel
theorem dX2_addConsumer_18 : decode cX2_addConsumer 18 = .ok (.getfield 174, 3) := by decide +kernel
theorem dX2_addConsumer_21 : decode cX2_addConsumer 21 = .ok (.iload_n 2, 1) := by decide +kernel
theorem dX2_addConsumer_22 : decode cX2_addConsumer 22 = .ok (.invokevirtual 97, 3) := by decide +kernel
theorem dX2_addConsumer_25 : decode cX2_addConsumer 25 = .ok (.iload_n 1, 1) := by decide +kernel
theorem dX2_addConsumer_26 : decode cX2_addConsumer 26 = .ok (.invokevirtual 167, 3) := by decide +kernel
theorem dX2_addConsumer_29 : decode cX2_addConsumer 29 = .ok (.pop, 1) := by decide +kernel
theorem dX2_addConsumer_30 : decode cX2_addConsumer 30 = .ok (.aload_n 0, 1) := by decide +kernel
theorem dX2_addConsumer_31 : decode cX2_addConsumer 31 = .ok (.getfield 12, 3) := by decide +kernel
theorem dX2_addConsumer_34 : decode cX2_addConsumer 34 = .ok (.invokevirtual 145, 3) := by decide +kernel
theorem dX2_addConsumer_37 : decode cX2_addConsumer 37 = .ok (.pop, 1) := by decide +kernel
theorem dX2_addConsumer_38 : decode cX2_addConsumer 38 = .ok (.iload_n 2, 1) := by decide +kernel
theorem dX2_addConsumer_39 : decode cX2_addConsumer 39 = .ok (.ireturn, 1) := by decide +kernel
theorem dX2_take_0 : decode cX2_take 0 = .ok (.aload_n 0, 1) := by decide +kernel
theorem dX2_take_1 : decode cX2_take 1 = .ok (.getfield 28, 3) := by decide +kernel
theorem dX2_take_4 : decode cX2_take 4 = .ok (.iload_n 1, 1) := by decide +kernel
theorem dX2_take_5 : decode cX2_take 5 = .ok (.invokevirtual 177, 3) := by decide +kernel
theorem dX2_take_8 : decode cX2_take 8 = .ok (.istore_n 3, 1) := by decide +kernel
theorem dX2_take_9 : decode cX2_take 9 = .ok (.aload_n 0, 1) := by decide +kernel
theorem dX2_take_10 : decode cX2_take 10 = .ok (.getfield 28, 3) := by decide +kernel
theorem dX2_take_13 : decode cX2_take 13 = .ok (.getfield 174, 3) := by decide +kernel
theorem dX2_take_16 : decode cX2_take 16 = .ok (.iload_n 1, 1) := by decide +kernel
theorem dX2_take_17 : decode cX2_take 17 = .ok (.invokevirtual 97, 3) := by decide +kernel
theorem dX2_take_20 : decode cX2_take 20 = .ok (.istore 4, 2) := by decide +kernel
theorem dX2_take_22 : decode cX2_take 22 = .ok (.aload_n 0, 1) := by decide +kernel
theorem dX2_take_23 : decode cX2_take 23 = .ok (.getfield 28, 3) := by decide +kernel
theorem dX2_take_26 : decode cX2_take 26 = .ok (.getfield 180, 3) := by decide +kernel
theorem dX2_take_29 : decode cX2_take 29 = .ok (.iload_n 1, 1) := by decide +kernel
theorem dX2_take_30 : decode cX2_take 30 = .ok (.invokevirtual 97, 3) := by decide +kernel
theorem dX2_take_33 : decode cX2_take 33 = .ok (.istore 5, 2) := by decide +kernel
theorem dX2_take_35 : decode cX2_take 35 = .ok (.aload_n 0, 1) := by decide +kernel
theorem dX2_take_36 : decode cX2_take 36 = .ok (.iload_n 3, 1) := by decide +kernel
theorem dX2_take_37 : decode cX2_take 37 = .ok (.iload_n 2, 1) := by decide +kernel
theorem dX2_take_38 : decode cX2_take 38 = .ok (.if_icmp .ge 7, 3) := by decide +kernel
theorem dX2_take_41 : decode cX2_take 41 = .ok (.iload_n 3, 1) := by decide +kernel
theorem dX2_take_42 : decode cX2_take 42 = .ok (.goto 4, 3) := by decide +kernel
theorem dX2_take_45 : decode cX2_take 45 = .ok (.iload_n 2, 1) := by decide +kernel
theorem dX2_take_46 : decode cX2_take 46 = .ok (.putfield 73, 3) := by decide +kernel
theorem dX2_take_49 : decode cX2_take 49 = .ok (.iconst 0, 1) := by decide +kernel
theorem dX2_take_50 : decode cX2_take 50 = .ok (.istore 6, 2) := by decide +kernel
theorem dX2_take_52 : decode cX2_take 52 = .ok (.iload 6, 2) := by decide +kernel
theorem dX2_take_54 : decode cX2_take 54 = .ok (.aload_n 0, 1) := by decide +kernel
theorem dX2_take_55 : decode cX2_take 55 = .ok (.getfield 73, 3) := by decide +kernel
theorem dX2_take_58 : decode cX2_take 58 = .ok (.if_icmp .ge 32, 3) := by decide +kernel
theorem dX2_take_61 : decode cX2_take 61 = .ok (.aload_n 0, 1) := by decide +kernel
theorem dX2_take_62 : decode cX2_take 62 = .ok (.getfield 60, 3) := by decide +kernel
theorem dX2_take_65 : decode cX2_take 65 = .ok (.iload 6, 2) := by decide +kernel
theorem dX2_take_67 : decode cX2_take 67 = .ok (.aload_n 0, 1) := by decide +kernel
theorem dX2_take_68 : decode cX2_take 68 = .ok (.getfield 28, 3) := by decide +kernel
theorem dX2_take_71 : decode cX2_take 71 = .ok (.iload 5, 2) := by decide +kernel
theorem dX2_take_73 : decode cX2_take 73 = .ok (.iload 4, 2) := by decide +kernel
theorem dX2_take_75 : decode cX2_take 75 = .ok (.iload 6, 2) := by decide +kernel
theorem dX2_take_77 : decode cX2_take 77 = .ok (.iadd, 1) := by decide +kernel
theorem dX2_take_78 : decode cX2_take 78 = .ok (.invokevirtual 183, 3) := by decide +kernel
theorem dX2_take_81 : decode cX2_take 81 = .ok (.invokevirtual 169, 3) := by decide +kernel
theorem dX2_take_84 : decode cX2_take 84 = .ok (.iinc 6 1, 3) := by decide +kernel
theorem dX2_take_87 : decode cX2_take 87 = .ok (.goto (-35), 3) := by decide +kernel
theorem dX2_take_90 : decode cX2_take 90 = .ok (.aload_n 0, 1) := by decide +kernel
theorem dX2_take_91 : decode cX2_take 91 = .ok (.getfield 73, 3) := by decide +kernel
theorem dX2_take_94 : decode cX2_take 94 = .ok (.ifCond .le 47, 3) := by decide +kernel
theorem dX2_take_97 : decode cX2_take 97 = .ok (.aload_n 0, 1) := by decide +kernel
theorem dX2_take_98 : decode cX2_take 98 = .ok (.getfield 28, 3) := by decide +kernel
theorem dX2_take_101 : decode cX2_take 101 = .ok (.getfield 174, 3) := by decide +kernel
theorem dX2_take_104 : decode cX2_take 104 = .ok (.iload_n 1, 1) := by decide +kernel
theorem dX2_take_105 : decode cX2_take 105 = .ok (.iload 4, 2) := by decide +kernel
theorem dX2_take_107 : decode cX2_take 107 = .ok (.aload_n 0, 1) := by decide +kernel
theorem dX2_take_108 : decode cX2_take 108 = .ok (.getfield 73, 3) := by decide +kernel
theorem dX2_take_111 : decode cX2_take 111 = .ok (.iadd, 1) := by decide +kernel
theorem dX2_take_112 : decode cX2_take 112 = .ok (.invokevirtual 169, 3) := by decide +kernel
theorem dX2_take_115 : decode cX2_take 115 = .ok (.aload_n 0, 1) := by decide +kernel
theorem dX2_take_116 : decode cX2_take 116 = .ok (.bipush 7, 2) := by decide +kernel
theorem dX2_take_118 : decode cX2_take 118 = .ok (.iconst (-1), 1) := by decide +kernel
theorem dX2_take_119 : decode cX2_take 119 = .ok (.iload_n 1, 1) := by decide +kernel
theorem dX2_take_120 : decode cX2_take 120 = .ok (.iload 4, 2) := by decide +kernel
theorem dX2_take_122 : decode cX2_take 122 = .ok (.aload_n 0, 1) := by decide +kernel
theorem dX2_take_123 : decode cX2_take 123 = .ok (.getfield 73, 3) := by decide +kernel
theorem dX2_take_126 : decode cX2_take 126 = .ok (.iadd, 1) := by decide +kernel
theorem dX2_take_127 : decode cX2_take 127 = .ok (.iload 5, 2) := by decide +kernel
theorem dX2_take_129 : decode cX2_take 129 = .ok (.invokevirtual 167, 3) := by decide +kernel
theorem dX2_take_132 : decode cX2_take 132 = .ok (.pop, 1) := by decide +kernel
theorem dX2_take_133 : decode cX2_take 133 = .ok (.aload_n 0, 1) := by decide +kernel
theorem dX2_take_134 : decode cX2_take 134 = .ok (.getfield 12, 3) := by decide +kernel
theorem dX2_take_137 : decode cX2_take 137 = .ok (.invokevirtual 145, 3) := by decide +kernel
theorem dX2_take_140 : decode cX2_take 140 = .ok (.pop, 1) := by decide +kernel
theorem dX2_take_141 : decode cX2_take 141 = .ok (.aload_n 0, 1) := by decide +kernel
theorem dX2_take_142 : decode cX2_take 142 = .ok (.getfield 73, 3) := by decide +kernel
theorem dX2_take_145 : decode cX2_take 145 = .ok (.ireturn, 1) := by decide +kernel
theorem dX2_keepAll_0 : decode cX2_keepAll 0 = .ok (.aload_n 0, 1) := by decide +kernel
theorem dX2_keepAll_1 : decode cX2_keepAll 1 = .ok (.aload_n 0, 1) := by decide +kernel
theorem dX2_keepAll_2 : decode cX2_keepAll 2 = .ok (.bipush 8, 2) := by decide +kernel
theorem dX2_keepAll_4 : decode cX2_keepAll 4 = .ok (.iconst (-1), 1) := by decide +kernel
theorem dX2_keepAll_5 : decode cX2_keepAll 5 = .ok (.iconst 0, 1) := by decide +kernel
theorem dX2_keepAll_6 : decode cX2_keepAll 6 = .ok (.iconst 0, 1) := by decide +kernel
theorem dX2_keepAll_7 : decode cX2_keepAll 7 = .ok (.iconst 0, 1) := by decide +kernel
theorem dX2_keepAll_8 : decode cX2_keepAll 8 = .ok (.invokevirtual 167, 3) := by decide +kernel
theorem dX2_keepAll_11 : decode cX2_keepAll 11 = .ok (.putfield 77, 3) := by decide +kernel
theorem dX2_keepAll_14 : decode cX2_keepAll 14 = .ok (.aload_n 0, 1) := by decide +kernel
theorem dX2_keepAll_15 : decode cX2_keepAll 15 = .ok (.getfield 39, 3) := by decide +kernel
theorem dX2_keepAll_18 : decode cX2_keepAll 18 = .ok (.aload_n 0, 1) := by decide +kernel
theorem dX2_keepAll_19 : decode cX2_keepAll 19 = .ok (.getfield 35, 3) := by decide +kernel
theorem dX2_keepAll_22 : decode cX2_keepAll 22 = .ok (.invokevirtual 186, 3) := by decide +kernel
theorem dX2_keepAll_25 : decode cX2_keepAll 25 = .ok (.aload_n 0, 1) := by decide +kernel
theorem dX2_keepAll_26 : decode cX2_keepAll 26 = .ok (.getfield 28, 3) := by decide +kernel
theorem dX2_keepAll_29 : decode cX2_keepAll 29 = .ok (.invokevirtual 190, 3) := by decide +kernel
theorem dX2_keepAll_32 : decode cX2_keepAll 32 = .ok (.aload_n 0, 1) := by decide +kernel
theorem dX2_keepAll_33 : decode cX2_keepAll 33 = .ok (.getfield 12, 3) := by decide +kernel
theorem dX2_keepAll_36 : decode cX2_keepAll 36 = .ok (.invokevirtual 145, 3) := by decide +kernel
theorem dX2_keepAll_39 : decode cX2_keepAll 39 = .ok (.pop, 1) := by decide +kernel
theorem dX2_keepAll_40 : decode cX2_keepAll 40 = .ok (.aload_n 0, 1) := by decide +kernel
theorem dX2_keepAll_41 : decode cX2_keepAll 41 = .ok (.getfield 77, 3) := by decide +kernel
theorem dX2_keepAll_44 : decode cX2_keepAll 44 = .ok (.ireturn, 1) := by decide +kernel
theorem dX2_takeEffect_0 : decode cX2_takeEffect 0 = .ok (.aload_n 0, 1) := by decide +kernel
theorem dX2_takeEffect_1 : decode cX2_takeEffect 1 = .ok (.getfield 12, 3) := by decide +kernel
theorem dX2_takeEffect_4 : decode cX2_takeEffect 4 = .ok (.iload_n 1, 1) := by decide +kernel
theorem dX2_takeEffect_5 : decode cX2_takeEffect 5 = .ok (.iload_n 1, 1) := by decide +kernel
theorem dX2_takeEffect_6 : decode cX2_takeEffect 6 = .ok (.iconst 1, 1) := by decide +kernel
theorem dX2_takeEffect_7 : decode cX2_takeEffect 7 = .ok (.iadd, 1) := by decide +kernel
theorem dX2_takeEffect_8 : decode cX2_takeEffect 8 = .ok (.aload_n 0, 1) := by decide +kernel
theorem dX2_takeEffect_9 : decode cX2_takeEffect 9 = .ok (.getfield 57, 3) := by decide +kernel
theorem dX2_takeEffect_12 : decode cX2_takeEffect 12 = .ok (.invokevirtual 193, 3) := by decide +kernel
theorem dX2_takeEffect_15 : decode cX2_takeEffect 15 = .ok (.istore_n 2, 1) := by decide +kernel
theorem dX2_takeEffect_16 : decode cX2_takeEffect 16 = .ok (.iconst 0, 1) := by decide +kernel
theorem dX2_takeEffect_17 : decode cX2_takeEffect 17 = .ok (.istore_n 3, 1) := by decide +kernel
theorem dX2_takeEffect_18 : decode cX2_takeEffect 18 = .ok (.iload_n 3, 1) := by decide +kernel
theorem dX2_takeEffect_19 : decode cX2_takeEffect 19 = .ok (.iload_n 2, 1) := by decide +kernel
theorem dX2_takeEffect_20 : decode cX2_takeEffect 20 = .ok (.if_icmp .ge 83, 3) := by decide +kernel
theorem dX2_takeEffect_23 : decode cX2_takeEffect 23 = .ok (.aload_n 0, 1) := by decide +kernel
theorem dX2_takeEffect_24 : decode cX2_takeEffect 24 = .ok (.getfield 57, 3) := by decide +kernel
theorem dX2_takeEffect_27 : decode cX2_takeEffect 27 = .ok (.iload_n 3, 1) := by decide +kernel
theorem dX2_takeEffect_28 : decode cX2_takeEffect 28 = .ok (.invokevirtual 97, 3) := by decide +kernel
theorem dX2_takeEffect_31 : decode cX2_takeEffect 31 = .ok (.istore 4, 2) := by decide +kernel
theorem dX2_takeEffect_33 : decode cX2_takeEffect 33 = .ok (.aload_n 0, 1) := by decide +kernel
theorem dX2_takeEffect_34 : decode cX2_takeEffect 34 = .ok (.getfield 12, 3) := by decide +kernel
theorem dX2_takeEffect_37 : decode cX2_takeEffect 37 = .ok (.getfield 197, 3) := by decide +kernel
theorem dX2_takeEffect_40 : decode cX2_takeEffect 40 = .ok (.iload 4, 2) := by decide +kernel
theorem dX2_takeEffect_42 : decode cX2_takeEffect 42 = .ok (.iload_n 1, 1) := by decide +kernel
theorem dX2_takeEffect_43 : decode cX2_takeEffect 43 = .ok (.invokevirtual 169, 3) := by decide +kernel
theorem dX2_takeEffect_46 : decode cX2_takeEffect 46 = .ok (.aload_n 0, 1) := by decide +kernel
theorem dX2_takeEffect_47 : decode cX2_takeEffect 47 = .ok (.getfield 35, 3) := by decide +kernel
theorem dX2_takeEffect_50 : decode cX2_takeEffect 50 = .ok (.aload_n 0, 1) := by decide +kernel
theorem dX2_takeEffect_51 : decode cX2_takeEffect 51 = .ok (.getfield 12, 3) := by decide +kernel
theorem dX2_takeEffect_54 : decode cX2_takeEffect 54 = .ok (.iload 4, 2) := by decide +kernel
theorem dX2_takeEffect_56 : decode cX2_takeEffect 56 = .ok (.invokevirtual 200, 3) := by decide +kernel
theorem dX2_takeEffect_59 : decode cX2_takeEffect 59 = .ok (.aload_n 0, 1) := by decide +kernel
theorem dX2_takeEffect_60 : decode cX2_takeEffect 60 = .ok (.getfield 12, 3) := by decide +kernel
theorem dX2_takeEffect_63 : decode cX2_takeEffect 63 = .ok (.getfield 204, 3) := by decide +kernel
theorem dX2_takeEffect_66 : decode cX2_takeEffect 66 = .ok (.iload 4, 2) := by decide +kernel
theorem dX2_takeEffect_68 : decode cX2_takeEffect 68 = .ok (.invokevirtual 97, 3) := by decide +kernel
theorem dX2_takeEffect_71 : decode cX2_takeEffect 71 = .ok (.bipush 6, 2) := by decide +kernel
theorem dX2_takeEffect_73 : decode cX2_takeEffect 73 = .ok (.if_icmp .ne 24, 3) := by decide +kernel
theorem dX2_takeEffect_76 : decode cX2_takeEffect 76 = .ok (.aload_n 0, 1) := by decide +kernel
theorem dX2_takeEffect_77 : decode cX2_takeEffect 77 = .ok (.getfield 28, 3) := by decide +kernel
theorem dX2_takeEffect_80 : decode cX2_takeEffect 80 = .ok (.aload_n 0, 1) := by decide +kernel
theorem dX2_takeEffect_81 : decode cX2_takeEffect 81 = .ok (.getfield 12, 3) := by decide +kernel
theorem dX2_takeEffect_84 : decode cX2_takeEffect 84 = .ok (.getfield 207, 3) := by decide +kernel
theorem dX2_takeEffect_87 : decode cX2_takeEffect 87 = .ok (.iload 4, 2) := by decide +kernel
theorem dX2_takeEffect_89 : decode cX2_takeEffect 89 = .ok (.invokevirtual 97, 3) := by decide +kernel
theorem dX2_takeEffect_92 : decode cX2_takeEffect 92 = .ok (.iload 4, 2) := by decide +kernel
theorem dX2_takeEffect_94 : decode cX2_takeEffect 94 = .ok (.invokevirtual 210, 3) := by decide +kernel
theorem dX2_takeEffect_97 : decode cX2_takeEffect 97 = .ok (.iinc 3 1, 3) := by decide +kernel
theorem dX2_takeEffect_100 : decode cX2_takeEffect 100 = .ok (.goto (-82), 3) := by decide +kernel
theorem dX2_takeEffect_103 : decode cX2_takeEffect 103 = .ok (.return_, 1) := by decide +kernel
theorem dX2_settle_0 : decode cX2_settle 0 = .ok (.aload_n 0, 1) := by decide +kernel
theorem dX2_settle_1 : decode cX2_settle 1 = .ok (.getfield 21, 3) := by decide +kernel
theorem dX2_settle_4 : decode cX2_settle 4 = .ok (.aload_n 0, 1) := by decide +kernel
theorem dX2_settle_5 : decode cX2_settle 5 = .ok (.iconst (-1), 1) := by decide +kernel
theorem dX2_settle_6 : decode cX2_settle 6 = .ok (.invokevirtual 213, 3) := by decide +kernel
theorem dX2_settle_9 : decode cX2_settle 9 = .ok (.invokevirtual 216, 3) := by decide +kernel
theorem dX2_settle_12 : decode cX2_settle 12 = .ok (.iconst 0, 1) := by decide +kernel
theorem dX2_settle_13 : decode cX2_settle 13 = .ok (.istore_n 1, 1) := by decide +kernel
theorem dX2_settle_14 : decode cX2_settle 14 = .ok (.iload_n 1, 1) := by decide +kernel
theorem dX2_settle_15 : decode cX2_settle 15 = .ok (.bipush 6, 2) := by decide +kernel
theorem dX2_settle_17 : decode cX2_settle 17 = .ok (.if_icmp .ge 103, 3) := by decide +kernel
theorem dX2_settle_20 : decode cX2_settle 20 = .ok (.aload_n 0, 1) := by decide +kernel
theorem dX2_settle_21 : decode cX2_settle 21 = .ok (.getfield 21, 3) := by decide +kernel
theorem dX2_settle_24 : decode cX2_settle 24 = .ok (.getfield 219, 3) := by decide +kernel
theorem dX2_settle_27 : decode cX2_settle 27 = .ok (.aload_n 0, 1) := by decide +kernel
theorem dX2_settle_28 : decode cX2_settle 28 = .ok (.getfield 80, 3) := by decide +kernel
theorem dX2_settle_31 : decode cX2_settle 31 = .ok (.if_icmp .le 89, 3) := by decide +kernel
theorem dX2_settle_34 : decode cX2_settle 34 = .ok (.aload_n 0, 1) := by decide +kernel
theorem dX2_settle_35 : decode cX2_settle 35 = .ok (.getfield 28, 3) := by decide +kernel
theorem dX2_settle_38 : decode cX2_settle 38 = .ok (.aload_n 0, 1) := by decide +kernel
theorem dX2_settle_39 : decode cX2_settle 39 = .ok (.getfield 12, 3) := by decide +kernel
theorem dX2_settle_42 : decode cX2_settle 42 = .ok (.getfield 90, 3) := by decide +kernel
theorem dX2_settle_45 : decode cX2_settle 45 = .ok (.invokevirtual 222, 3) := by decide +kernel
theorem dX2_settle_48 : decode cX2_settle 48 = .ok (.istore_n 2, 1) := by decide +kernel
theorem dX2_settle_49 : decode cX2_settle 49 = .ok (.iload_n 2, 1) := by decide +kernel
theorem dX2_settle_50 : decode cX2_settle 50 = .ok (.iconst (-1), 1) := by decide +kernel
theorem dX2_settle_51 : decode cX2_settle 51 = .ok (.if_icmp .ne 4, 3) := by decide +kernel
theorem dX2_settle_54 : decode cX2_settle 54 = .ok (.return_, 1) := by decide +kernel
theorem dX2_settle_55 : decode cX2_settle 55 = .ok (.aload_n 0, 1) := by decide +kernel
theorem dX2_settle_56 : decode cX2_settle 56 = .ok (.getfield 28, 3) := by decide +kernel
theorem dX2_settle_59 : decode cX2_settle 59 = .ok (.iload_n 2, 1) := by decide +kernel
theorem dX2_settle_60 : decode cX2_settle 60 = .ok (.invokevirtual 177, 3) := by decide +kernel
theorem dX2_settle_63 : decode cX2_settle 63 = .ok (.aload_n 0, 1) := by decide +kernel
theorem dX2_settle_64 : decode cX2_settle 64 = .ok (.getfield 28, 3) := by decide +kernel
theorem dX2_settle_67 : decode cX2_settle 67 = .ok (.iload_n 2, 1) := by decide +kernel
theorem dX2_settle_68 : decode cX2_settle 68 = .ok (.invokevirtual 225, 3) := by decide +kernel
theorem dX2_settle_71 : decode cX2_settle 71 = .ok (.isub, 1) := by decide +kernel
theorem dX2_settle_72 : decode cX2_settle 72 = .ok (.istore_n 3, 1) := by decide +kernel
theorem dX2_settle_73 : decode cX2_settle 73 = .ok (.iload_n 3, 1) := by decide +kernel
theorem dX2_settle_74 : decode cX2_settle 74 = .ok (.ifCond .eq 19, 3) := by decide +kernel
theorem dX2_settle_77 : decode cX2_settle 77 = .ok (.aload_n 0, 1) := by decide +kernel
theorem dX2_settle_78 : decode cX2_settle 78 = .ok (.getfield 28, 3) := by decide +kernel
theorem dX2_settle_81 : decode cX2_settle 81 = .ok (.invokevirtual 228, 3) := by decide +kernel
theorem dX2_settle_84 : decode cX2_settle 84 = .ok (.iload_n 3, 1) := by decide +kernel
theorem dX2_settle_85 : decode cX2_settle 85 = .ok (.iadd, 1) := by decide +kernel
theorem dX2_settle_86 : decode cX2_settle 86 = .ok (.aload_n 0, 1) := by decide +kernel
theorem dX2_settle_87 : decode cX2_settle 87 = .ok (.getfield 83, 3) := by decide +kernel
theorem dX2_settle_90 : decode cX2_settle 90 = .ok (.if_icmp .le 4, 3) := by decide +kernel
theorem dX2_settle_93 : decode cX2_settle 93 = .ok (.return_, 1) := by decide +kernel
theorem dX2_settle_94 : decode cX2_settle 94 = .ok (.aload_n 0, 1) := by decide +kernel
theorem dX2_settle_95 : decode cX2_settle 95 = .ok (.getfield 28, 3) := by decide +kernel
theorem dX2_settle_98 : decode cX2_settle 98 = .ok (.iload_n 2, 1) := by decide +kernel
theorem dX2_settle_99 : decode cX2_settle 99 = .ok (.invokevirtual 231, 3) := by decide +kernel
theorem dX2_settle_102 : decode cX2_settle 102 = .ok (.aload_n 0, 1) := by decide +kernel
theorem dX2_settle_103 : decode cX2_settle 103 = .ok (.getfield 21, 3) := by decide +kernel
theorem dX2_settle_106 : decode cX2_settle 106 = .ok (.aload_n 0, 1) := by decide +kernel
theorem dX2_settle_107 : decode cX2_settle 107 = .ok (.iconst (-1), 1) := by decide +kernel
theorem dX2_settle_108 : decode cX2_settle 108 = .ok (.invokevirtual 213, 3) := by decide +kernel
theorem dX2_settle_111 : decode cX2_settle 111 = .ok (.invokevirtual 216, 3) := by decide +kernel
theorem dX2_settle_114 : decode cX2_settle 114 = .ok (.iinc 1 1, 3) := by decide +kernel
theorem dX2_settle_117 : decode cX2_settle 117 = .ok (.goto (-103), 3) := by decide +kernel
theorem dX2_settle_120 : decode cX2_settle 120 = .ok (.return_, 1) := by decide +kernel
theorem dX2_holdWithout_0 : decode cX2_holdWithout 0 = .ok (.aload_n 0, 1) := by decide +kernel
theorem dX2_holdWithout_1 : decode cX2_holdWithout 1 = .ok (.getfield 12, 3) := by decide +kernel
theorem dX2_holdWithout_4 : decode cX2_holdWithout 4 = .ok (.getfield 234, 3) := by decide +kernel
theorem dX2_holdWithout_7 : decode cX2_holdWithout 7 = .ok (.aload_n 0, 1) := by decide +kernel
theorem dX2_holdWithout_8 : decode cX2_holdWithout 8 = .ok (.invokevirtual 237, 3) := by decide +kernel
theorem dX2_holdWithout_11 : decode cX2_holdWithout 11 = .ok (.invokestatic 240, 3) := by decide +kernel
theorem dX2_holdWithout_14 : decode cX2_holdWithout 14 = .ok (.istore_n 2, 1) := by decide +kernel
theorem dX2_holdWithout_15 : decode cX2_holdWithout 15 = .ok (.iload_n 2, 1) := by decide +kernel
theorem dX2_holdWithout_16 : decode cX2_holdWithout 16 = .ok (.aload_n 0, 1) := by decide +kernel
theorem dX2_holdWithout_17 : decode cX2_holdWithout 17 = .ok (.invokevirtual 245, 3) := by decide +kernel
theorem dX2_holdWithout_20 : decode cX2_holdWithout 20 = .ok (.invokestatic 240, 3) := by decide +kernel
theorem dX2_holdWithout_23 : decode cX2_holdWithout 23 = .ok (.istore_n 2, 1) := by decide +kernel
theorem dX2_holdWithout_24 : decode cX2_holdWithout 24 = .ok (.iconst 0, 1) := by decide +kernel
theorem dX2_holdWithout_25 : decode cX2_holdWithout 25 = .ok (.istore_n 3, 1) := by decide +kernel
theorem dX2_holdWithout_26 : decode cX2_holdWithout 26 = .ok (.iload_n 3, 1) := by decide +kernel
theorem dX2_holdWithout_27 : decode cX2_holdWithout 27 = .ok (.aload_n 0, 1) := by decide +kernel
theorem dX2_holdWithout_28 : decode cX2_holdWithout 28 = .ok (.getfield 28, 3) := by decide +kernel
theorem dX2_holdWithout_31 : decode cX2_holdWithout 31 = .ok (.getfield 125, 3) := by decide +kernel
theorem dX2_holdWithout_34 : decode cX2_holdWithout 34 = .ok (.if_icmp .ge 34, 3) := by decide +kernel
theorem dX2_holdWithout_37 : decode cX2_holdWithout 37 = .ok (.iload_n 3, 1) := by decide +kernel
theorem dX2_holdWithout_38 : decode cX2_holdWithout 38 = .ok (.iload_n 1, 1) := by decide +kernel
theorem dX2_holdWithout_39 : decode cX2_holdWithout 39 = .ok (.if_icmp .eq 23, 3) := by decide +kernel
theorem dX2_holdWithout_42 : decode cX2_holdWithout 42 = .ok (.iload_n 2, 1) := by decide +kernel
theorem dX2_holdWithout_43 : decode cX2_holdWithout 43 = .ok (.aload_n 0, 1) := by decide +kernel
theorem dX2_holdWithout_44 : decode cX2_holdWithout 44 = .ok (.getfield 28, 3) := by decide +kernel
theorem dX2_holdWithout_47 : decode cX2_holdWithout 47 = .ok (.iload_n 3, 1) := by decide +kernel
theorem dX2_holdWithout_48 : decode cX2_holdWithout 48 = .ok (.aload_n 0, 1) := by decide +kernel
theorem dX2_holdWithout_49 : decode cX2_holdWithout 49 = .ok (.getfield 12, 3) := by decide +kernel
theorem dX2_holdWithout_52 : decode cX2_holdWithout 52 = .ok (.getfield 90, 3) := by decide +kernel
theorem dX2_holdWithout_55 : decode cX2_holdWithout 55 = .ok (.invokevirtual 248, 3) := by decide +kernel
theorem dX2_holdWithout_58 : decode cX2_holdWithout 58 = .ok (.invokestatic 240, 3) := by decide +kernel
theorem dX2_holdWithout_61 : decode cX2_holdWithout 61 = .ok (.istore_n 2, 1) := by decide +kernel
theorem dX2_holdWithout_62 : decode cX2_holdWithout 62 = .ok (.iinc 3 1, 3) := by decide +kernel
theorem dX2_holdWithout_65 : decode cX2_holdWithout 65 = .ok (.goto (-39), 3) := by decide +kernel
theorem dX2_holdWithout_68 : decode cX2_holdWithout 68 = .ok (.iload_n 2, 1) := by decide +kernel
theorem dX2_holdWithout_69 : decode cX2_holdWithout 69 = .ok (.ireturn, 1) := by decide +kernel
theorem dX2_leastBegin_0 : decode cX2_leastBegin 0 = .ok (.aload_n 0, 1) := by decide +kernel
theorem dX2_leastBegin_1 : decode cX2_leastBegin 1 = .ok (.getfield 12, 3) := by decide +kernel
theorem dX2_leastBegin_4 : decode cX2_leastBegin 4 = .ok (.getfield 90, 3) := by decide +kernel
theorem dX2_leastBegin_7 : decode cX2_leastBegin 7 = .ok (.istore_n 1, 1) := by decide +kernel
theorem dX2_leastBegin_8 : decode cX2_leastBegin 8 = .ok (.iconst 0, 1) := by decide +kernel
theorem dX2_leastBegin_9 : decode cX2_leastBegin 9 = .ok (.istore_n 2, 1) := by decide +kernel
theorem dX2_leastBegin_10 : decode cX2_leastBegin 10 = .ok (.iload_n 2, 1) := by decide +kernel
theorem dX2_leastBegin_11 : decode cX2_leastBegin 11 = .ok (.iconst 4, 1) := by decide +kernel
theorem dX2_leastBegin_12 : decode cX2_leastBegin 12 = .ok (.if_icmp .ge 30, 3) := by decide +kernel
theorem dX2_leastBegin_15 : decode cX2_leastBegin 15 = .ok (.aload_n 0, 1) := by decide +kernel
theorem dX2_leastBegin_16 : decode cX2_leastBegin 16 = .ok (.getfield 50, 3) := by decide +kernel
theorem dX2_leastBegin_19 : decode cX2_leastBegin 19 = .ok (.iload_n 2, 1) := by decide +kernel
theorem dX2_leastBegin_20 : decode cX2_leastBegin 20 = .ok (.invokevirtual 97, 3) := by decide +kernel
theorem dX2_leastBegin_23 : decode cX2_leastBegin 23 = .ok (.istore_n 3, 1) := by decide +kernel
theorem dX2_leastBegin_24 : decode cX2_leastBegin 24 = .ok (.iload_n 3, 1) := by decide +kernel
theorem dX2_leastBegin_25 : decode cX2_leastBegin 25 = .ok (.iconst (-1), 1) := by decide +kernel
theorem dX2_leastBegin_26 : decode cX2_leastBegin 26 = .ok (.if_icmp .eq 10, 3) := by decide +kernel
theorem dX2_leastBegin_29 : decode cX2_leastBegin 29 = .ok (.iload_n 3, 1) := by decide +kernel
theorem dX2_leastBegin_30 : decode cX2_leastBegin 30 = .ok (.iload_n 1, 1) := by decide +kernel
theorem dX2_leastBegin_31 : decode cX2_leastBegin 31 = .ok (.if_icmp .ge 5, 3) := by decide +kernel
theorem dX2_leastBegin_34 : decode cX2_leastBegin 34 = .ok (.iload_n 3, 1) := by decide +kernel
theorem dX2_leastBegin_35 : decode cX2_leastBegin 35 = .ok (.istore_n 1, 1) := by decide +kernel
theorem dX2_leastBegin_36 : decode cX2_leastBegin 36 = .ok (.iinc 2 1, 3) := by decide +kernel
theorem dX2_leastBegin_39 : decode cX2_leastBegin 39 = .ok (.goto (-29), 3) := by decide +kernel
theorem dX2_leastBegin_42 : decode cX2_leastBegin 42 = .ok (.iload_n 1, 1) := by decide +kernel
theorem dX2_leastBegin_43 : decode cX2_leastBegin 43 = .ok (.ireturn, 1) := by decide +kernel
theorem dX2_leastNeeded_0 : decode cX2_leastNeeded 0 = .ok (.aload_n 0, 1) := by decide +kernel
theorem dX2_leastNeeded_1 : decode cX2_leastNeeded 1 = .ok (.getfield 21, 3) := by decide +kernel
theorem dX2_leastNeeded_4 : decode cX2_leastNeeded 4 = .ok (.getfield 251, 3) := by decide +kernel
theorem dX2_leastNeeded_7 : decode cX2_leastNeeded 7 = .ok (.aload_n 0, 1) := by decide +kernel
theorem dX2_leastNeeded_8 : decode cX2_leastNeeded 8 = .ok (.getfield 21, 3) := by decide +kernel
theorem dX2_leastNeeded_11 : decode cX2_leastNeeded 11 = .ok (.getfield 252, 3) := by decide +kernel
theorem dX2_leastNeeded_14 : decode cX2_leastNeeded 14 = .ok (.invokevirtual 97, 3) := by decide +kernel
theorem dX2_leastNeeded_17 : decode cX2_leastNeeded 17 = .ok (.istore_n 1, 1) := by decide +kernel
theorem dX2_leastNeeded_18 : decode cX2_leastNeeded 18 = .ok (.iload_n 1, 1) := by decide +kernel
theorem dX2_leastNeeded_19 : decode cX2_leastNeeded 19 = .ok (.aload_n 0, 1) := by decide +kernel
theorem dX2_leastNeeded_20 : decode cX2_leastNeeded 20 = .ok (.getfield 12, 3) := by decide +kernel
theorem dX2_leastNeeded_23 : decode cX2_leastNeeded 23 = .ok (.getfield 90, 3) := by decide +kernel
theorem dX2_leastNeeded_26 : decode cX2_leastNeeded 26 = .ok (.if_icmp .ge 55, 3) := by decide +kernel
theorem dX2_leastNeeded_29 : decode cX2_leastNeeded 29 = .ok (.aload_n 0, 1) := by decide +kernel
theorem dX2_leastNeeded_30 : decode cX2_leastNeeded 30 = .ok (.getfield 12, 3) := by decide +kernel
theorem dX2_leastNeeded_33 : decode cX2_leastNeeded 33 = .ok (.getfield 204, 3) := by decide +kernel
theorem dX2_leastNeeded_36 : decode cX2_leastNeeded 36 = .ok (.iload_n 1, 1) := by decide +kernel
theorem dX2_leastNeeded_37 : decode cX2_leastNeeded 37 = .ok (.invokevirtual 97, 3) := by decide +kernel
theorem dX2_leastNeeded_40 : decode cX2_leastNeeded 40 = .ok (.bipush 6, 2) := by decide +kernel
theorem dX2_leastNeeded_42 : decode cX2_leastNeeded 42 = .ok (.if_icmp .ne 7, 3) := by decide +kernel
theorem dX2_leastNeeded_45 : decode cX2_leastNeeded 45 = .ok (.iconst 1, 1) := by decide +kernel
theorem dX2_leastNeeded_46 : decode cX2_leastNeeded 46 = .ok (.goto 4, 3) := by decide +kernel
theorem dX2_leastNeeded_49 : decode cX2_leastNeeded 49 = .ok (.iconst 0, 1) := by decide +kernel
theorem dX2_leastNeeded_50 : decode cX2_leastNeeded 50 = .ok (.istore_n 2, 1) := by decide +kernel
theorem dX2_leastNeeded_51 : decode cX2_leastNeeded 51 = .ok (.iload_n 2, 1) := by decide +kernel
theorem dX2_leastNeeded_52 : decode cX2_leastNeeded 52 = .ok (.ifCond .ne 23, 3) := by decide +kernel
theorem dX2_leastNeeded_55 : decode cX2_leastNeeded 55 = .ok (.aload_n 0, 1) := by decide +kernel
theorem dX2_leastNeeded_56 : decode cX2_leastNeeded 56 = .ok (.getfield 12, 3) := by decide +kernel
theorem dX2_leastNeeded_59 : decode cX2_leastNeeded 59 = .ok (.getfield 197, 3) := by decide +kernel
theorem dX2_leastNeeded_62 : decode cX2_leastNeeded 62 = .ok (.iload_n 1, 1) := by decide +kernel
theorem dX2_leastNeeded_63 : decode cX2_leastNeeded 63 = .ok (.invokevirtual 97, 3) := by decide +kernel
theorem dX2_leastNeeded_66 : decode cX2_leastNeeded 66 = .ok (.aload_n 0, 1) := by decide +kernel
theorem dX2_leastNeeded_67 : decode cX2_leastNeeded 67 = .ok (.getfield 77, 3) := by decide +kernel
theorem dX2_leastNeeded_70 : decode cX2_leastNeeded 70 = .ok (.if_icmp .lt 5, 3) := by decide +kernel
theorem dX2_leastNeeded_73 : decode cX2_leastNeeded 73 = .ok (.iload_n 1, 1) := by decide +kernel
theorem dX2_leastNeeded_74 : decode cX2_leastNeeded 74 = .ok (.ireturn, 1) := by decide +kernel
theorem dX2_leastNeeded_75 : decode cX2_leastNeeded 75 = .ok (.iinc 1 1, 3) := by decide +kernel
theorem dX2_leastNeeded_78 : decode cX2_leastNeeded 78 = .ok (.goto (-60), 3) := by decide +kernel
theorem dX2_leastNeeded_81 : decode cX2_leastNeeded 81 = .ok (.aload_n 0, 1) := by decide +kernel
theorem dX2_leastNeeded_82 : decode cX2_leastNeeded 82 = .ok (.getfield 12, 3) := by decide +kernel
theorem dX2_leastNeeded_85 : decode cX2_leastNeeded 85 = .ok (.getfield 90, 3) := by decide +kernel
theorem dX2_leastNeeded_88 : decode cX2_leastNeeded 88 = .ok (.ireturn, 1) := by decide +kernel
theorem dX2_holdingKind_0 : decode cX2_holdingKind 0 = .ok (.aload_n 0, 1) := by decide +kernel
theorem dX2_holdingKind_1 : decode cX2_holdingKind 1 = .ok (.iconst (-1), 1) := by decide +kernel
theorem dX2_holdingKind_2 : decode cX2_holdingKind 2 = .ok (.invokevirtual 213, 3) := by decide +kernel
theorem dX2_holdingKind_5 : decode cX2_holdingKind 5 = .ok (.istore_n 1, 1) := by decide +kernel
theorem dX2_holdingKind_6 : decode cX2_holdingKind 6 = .ok (.aload_n 0, 1) := by decide +kernel
theorem dX2_holdingKind_7 : decode cX2_holdingKind 7 = .ok (.getfield 12, 3) := by decide +kernel
theorem dX2_holdingKind_10 : decode cX2_holdingKind 10 = .ok (.getfield 234, 3) := by decide +kernel
theorem dX2_holdingKind_13 : decode cX2_holdingKind 13 = .ok (.iload_n 1, 1) := by decide +kernel
theorem dX2_holdingKind_14 : decode cX2_holdingKind 14 = .ok (.if_icmp .ne 5, 3) := by decide +kernel
theorem dX2_holdingKind_17 : decode cX2_holdingKind 17 = .ok (.iconst 0, 1) := by decide +kernel
theorem dX2_holdingKind_18 : decode cX2_holdingKind 18 = .ok (.ireturn, 1) := by decide +kernel
theorem dX2_holdingKind_19 : decode cX2_holdingKind 19 = .ok (.aload_n 0, 1) := by decide +kernel
theorem dX2_holdingKind_20 : decode cX2_holdingKind 20 = .ok (.invokevirtual 237, 3) := by decide +kernel
theorem dX2_holdingKind_23 : decode cX2_holdingKind 23 = .ok (.iload_n 1, 1) := by decide +kernel
theorem dX2_holdingKind_24 : decode cX2_holdingKind 24 = .ok (.if_icmp .ne 5, 3) := by decide +kernel
theorem dX2_holdingKind_27 : decode cX2_holdingKind 27 = .ok (.iconst 1, 1) := by decide +kernel
theorem dX2_holdingKind_28 : decode cX2_holdingKind 28 = .ok (.ireturn, 1) := by decide +kernel
theorem dX2_holdingKind_29 : decode cX2_holdingKind 29 = .ok (.aload_n 0, 1) := by decide +kernel
theorem dX2_holdingKind_30 : decode cX2_holdingKind 30 = .ok (.invokevirtual 245, 3) := by decide +kernel
theorem dX2_holdingKind_33 : decode cX2_holdingKind 33 = .ok (.iload_n 1, 1) := by decide +kernel
theorem dX2_holdingKind_34 : decode cX2_holdingKind 34 = .ok (.if_icmp .ne 7, 3) := by decide +kernel
theorem dX2_holdingKind_37 : decode cX2_holdingKind 37 = .ok (.iconst 2, 1) := by decide +kernel
theorem dX2_holdingKind_38 : decode cX2_holdingKind 38 = .ok (.goto 4, 3) := by decide +kernel
theorem dX2_holdingKind_41 : decode cX2_holdingKind 41 = .ok (.iconst 3, 1) := by decide +kernel
theorem dX2_holdingKind_42 : decode cX2_holdingKind 42 = .ok (.ireturn, 1) := by decide +kernel
theorem dX2_isRecoverable_0 : decode cX2_isRecoverable 0 = .ok (.iload_n 1, 1) := by decide +kernel
theorem dX2_isRecoverable_1 : decode cX2_isRecoverable 1 = .ok (.aload_n 0, 1) := by decide +kernel
theorem dX2_isRecoverable_2 : decode cX2_isRecoverable 2 = .ok (.getfield 77, 3) := by decide +kernel
theorem dX2_isRecoverable_5 : decode cX2_isRecoverable 5 = .ok (.aload_n 0, 1) := by decide +kernel
theorem dX2_isRecoverable_6 : decode cX2_isRecoverable 6 = .ok (.getfield 12, 3) := by decide +kernel
theorem dX2_isRecoverable_9 : decode cX2_isRecoverable 9 = .ok (.getfield 90, 3) := by decide +kernel
theorem dX2_isRecoverable_12 : decode cX2_isRecoverable 12 = .ok (.invokestatic 93, 3) := by decide +kernel
theorem dX2_isRecoverable_15 : decode cX2_isRecoverable 15 = .ok (.ireturn, 1) := by decide +kernel
theorem dX2_recover_0 : decode cX2_recover 0 = .ok (.aload_n 1, 1) := by decide +kernel
theorem dX2_recover_1 : decode cX2_recover 1 = .ok (.aload_n 0, 1) := by decide +kernel
theorem dX2_recover_2 : decode cX2_recover 2 = .ok (.getfield 39, 3) := by decide +kernel
theorem dX2_recover_5 : decode cX2_recover 5 = .ok (.invokevirtual 186, 3) := by decide +kernel
theorem dX2_recover_8 : decode cX2_recover 8 = .ok (.aload_n 0, 1) := by decide +kernel
theorem dX2_recover_9 : decode cX2_recover 9 = .ok (.getfield 12, 3) := by decide +kernel
theorem dX2_recover_12 : decode cX2_recover 12 = .ok (.aload_n 0, 1) := by decide +kernel
theorem dX2_recover_13 : decode cX2_recover 13 = .ok (.getfield 77, 3) := by decide +kernel
theorem dX2_recover_16 : decode cX2_recover 16 = .ok (.iload_n 2, 1) := by decide +kernel
theorem dX2_recover_17 : decode cX2_recover 17 = .ok (.aload_n 0, 1) := by decide +kernel
theorem dX2_recover_18 : decode cX2_recover 18 = .ok (.getfield 57, 3) := by decide +kernel
theorem dX2_recover_21 : decode cX2_recover 21 = .ok (.invokevirtual 193, 3) := by decide +kernel
theorem dX2_recover_24 : decode cX2_recover 24 = .ok (.istore_n 3, 1) := by decide +kernel
theorem dX2_recover_25 : decode cX2_recover 25 = .ok (.iconst 0, 1) := by decide +kernel
theorem dX2_recover_26 : decode cX2_recover 26 = .ok (.istore 4, 2) := by decide +kernel
theorem dX2_recover_28 : decode cX2_recover 28 = .ok (.iload 4, 2) := by decide +kernel
theorem dX2_recover_30 : decode cX2_recover 30 = .ok (.iload_n 3, 1) := by decide +kernel
theorem dX2_recover_31 : decode cX2_recover 31 = .ok (.if_icmp .ge 26, 3) := by decide +kernel
theorem dX2_recover_34 : decode cX2_recover 34 = .ok (.aload_n 1, 1) := by decide +kernel
theorem dX2_recover_35 : decode cX2_recover 35 = .ok (.aload_n 0, 1) := by decide +kernel
theorem dX2_recover_36 : decode cX2_recover 36 = .ok (.getfield 12, 3) := by decide +kernel
theorem dX2_recover_39 : decode cX2_recover 39 = .ok (.aload_n 0, 1) := by decide +kernel
theorem dX2_recover_40 : decode cX2_recover 40 = .ok (.getfield 57, 3) := by decide +kernel
theorem dX2_recover_43 : decode cX2_recover 43 = .ok (.iload 4, 2) := by decide +kernel
theorem dX2_recover_45 : decode cX2_recover 45 = .ok (.invokevirtual 97, 3) := by decide +kernel
theorem dX2_recover_48 : decode cX2_recover 48 = .ok (.invokevirtual 200, 3) := by decide +kernel
theorem dX2_recover_51 : decode cX2_recover 51 = .ok (.iinc 4 1, 3) := by decide +kernel
theorem dX2_recover_54 : decode cX2_recover 54 = .ok (.goto (-26), 3) := by decide +kernel
theorem dX2_recover_57 : decode cX2_recover 57 = .ok (.return_, 1) := by decide +kernel
theorem dX2_positionBefore_0 : decode cX2_positionBefore 0 = .ok (.iload_n 1, 1) := by decide +kernel
theorem dX2_positionBefore_1 : decode cX2_positionBefore 1 = .ok (.iconst 1, 1) := by decide +kernel
theorem dX2_positionBefore_2 : decode cX2_positionBefore 2 = .ok (.isub, 1) := by decide +kernel
theorem dX2_positionBefore_3 : decode cX2_positionBefore 3 = .ok (.istore_n 3, 1) := by decide +kernel
theorem dX2_positionBefore_4 : decode cX2_positionBefore 4 = .ok (.iload_n 3, 1) := by decide +kernel
theorem dX2_positionBefore_5 : decode cX2_positionBefore 5 = .ok (.aload_n 0, 1) := by decide +kernel
theorem dX2_positionBefore_6 : decode cX2_positionBefore 6 = .ok (.getfield 77, 3) := by decide +kernel
theorem dX2_positionBefore_9 : decode cX2_positionBefore 9 = .ok (.if_icmp .lt 64, 3) := by decide +kernel
theorem dX2_positionBefore_12 : decode cX2_positionBefore 12 = .ok (.aload_n 0, 1) := by decide +kernel
theorem dX2_positionBefore_13 : decode cX2_positionBefore 13 = .ok (.getfield 12, 3) := by decide +kernel
theorem dX2_positionBefore_16 : decode cX2_positionBefore 16 = .ok (.getfield 204, 3) := by decide +kernel
theorem dX2_positionBefore_19 : decode cX2_positionBefore 19 = .ok (.iload_n 3, 1) := by decide +kernel
theorem dX2_positionBefore_20 : decode cX2_positionBefore 20 = .ok (.invokevirtual 97, 3) := by decide +kernel
theorem dX2_positionBefore_23 : decode cX2_positionBefore 23 = .ok (.bipush 7, 2) := by decide +kernel
theorem dX2_positionBefore_25 : decode cX2_positionBefore 25 = .ok (.if_icmp .ne 7, 3) := by decide +kernel
theorem dX2_positionBefore_28 : decode cX2_positionBefore 28 = .ok (.iconst 1, 1) := by decide +kernel
theorem dX2_positionBefore_29 : decode cX2_positionBefore 29 = .ok (.goto 4, 3) := by decide +kernel
theorem dX2_positionBefore_32 : decode cX2_positionBefore 32 = .ok (.iconst 0, 1) := by decide +kernel
theorem dX2_positionBefore_33 : decode cX2_positionBefore 33 = .ok (.istore 4, 2) := by decide +kernel
theorem dX2_positionBefore_35 : decode cX2_positionBefore 35 = .ok (.iload 4, 2) := by decide +kernel
theorem dX2_positionBefore_37 : decode cX2_positionBefore 37 = .ok (.ifCond .eq 30, 3) := by decide +kernel
theorem dX2_positionBefore_40 : decode cX2_positionBefore 40 = .ok (.aload_n 0, 1) := by decide +kernel
theorem dX2_positionBefore_41 : decode cX2_positionBefore 41 = .ok (.getfield 12, 3) := by decide +kernel
theorem dX2_positionBefore_44 : decode cX2_positionBefore 44 = .ok (.getfield 207, 3) := by decide +kernel
theorem dX2_positionBefore_47 : decode cX2_positionBefore 47 = .ok (.iload_n 3, 1) := by decide +kernel
theorem dX2_positionBefore_48 : decode cX2_positionBefore 48 = .ok (.invokevirtual 97, 3) := by decide +kernel
theorem dX2_positionBefore_51 : decode cX2_positionBefore 51 = .ok (.iload_n 2, 1) := by decide +kernel
theorem dX2_positionBefore_52 : decode cX2_positionBefore 52 = .ok (.if_icmp .ne 15, 3) := by decide +kernel
theorem dX2_positionBefore_55 : decode cX2_positionBefore 55 = .ok (.aload_n 0, 1) := by decide +kernel
theorem dX2_positionBefore_56 : decode cX2_positionBefore 56 = .ok (.getfield 12, 3) := by decide +kernel
theorem dX2_positionBefore_59 : decode cX2_positionBefore 59 = .ok (.getfield 255, 3) := by decide +kernel
theorem dX2_positionBefore_62 : decode cX2_positionBefore 62 = .ok (.iload_n 3, 1) := by decide +kernel
theorem dX2_positionBefore_63 : decode cX2_positionBefore 63 = .ok (.invokevirtual 97, 3) := by decide +kernel
theorem dX2_positionBefore_66 : decode cX2_positionBefore 66 = .ok (.ireturn, 1) := by decide +kernel
theorem dX2_positionBefore_67 : decode cX2_positionBefore 67 = .ok (.iinc 3 (-1), 3) := by decide +kernel
theorem dX2_positionBefore_70 : decode cX2_positionBefore 70 = .ok (.goto (-66), 3) := by decide +kernel
theorem dX2_positionBefore_73 : decode cX2_positionBefore 73 = .ok (.aload_n 0, 1) := by decide +kernel
theorem dX2_positionBefore_74 : decode cX2_positionBefore 74 = .ok (.getfield 28, 3) := by decide +kernel
theorem dX2_positionBefore_77 : decode cX2_positionBefore 77 = .ok (.getfield 258, 3) := by decide +kernel
theorem dX2_positionBefore_80 : decode cX2_positionBefore 80 = .ok (.iload_n 2, 1) := by decide +kernel
theorem dX2_positionBefore_81 : decode cX2_positionBefore 81 = .ok (.invokevirtual 97, 3) := by decide +kernel
theorem dX2_positionBefore_84 : decode cX2_positionBefore 84 = .ok (.ireturn, 1) := by decide +kernel
theorem dX2_cutAt_0 : decode cX2_cutAt 0 = .ok (.iload_n 1, 1) := by decide +kernel
theorem dX2_cutAt_1 : decode cX2_cutAt 1 = .ok (.aload_n 0, 1) := by decide +kernel
theorem dX2_cutAt_2 : decode cX2_cutAt 2 = .ok (.getfield 12, 3) := by decide +kernel
theorem dX2_cutAt_5 : decode cX2_cutAt 5 = .ok (.invokevirtual 260, 3) := by decide +kernel
theorem dX2_cutAt_8 : decode cX2_cutAt 8 = .ok (.invokestatic 240, 3) := by decide +kernel
theorem dX2_cutAt_11 : decode cX2_cutAt 11 = .ok (.istore_n 2, 1) := by decide +kernel
theorem dX2_cutAt_12 : decode cX2_cutAt 12 = .ok (.aload_n 0, 1) := by decide +kernel
theorem dX2_cutAt_13 : decode cX2_cutAt 13 = .ok (.getfield 12, 3) := by decide +kernel
theorem dX2_cutAt_16 : decode cX2_cutAt 16 = .ok (.getfield 90, 3) := by decide +kernel
theorem dX2_cutAt_19 : decode cX2_cutAt 19 = .ok (.iload_n 2, 1) := by decide +kernel
theorem dX2_cutAt_20 : decode cX2_cutAt 20 = .ok (.isub, 1) := by decide +kernel
theorem dX2_cutAt_21 : decode cX2_cutAt 21 = .ok (.istore_n 3, 1) := by decide +kernel
theorem dX2_cutAt_22 : decode cX2_cutAt 22 = .ok (.aload_n 0, 1) := by decide +kernel
theorem dX2_cutAt_23 : decode cX2_cutAt 23 = .ok (.getfield 28, 3) := by decide +kernel
theorem dX2_cutAt_26 : decode cX2_cutAt 26 = .ok (.iload_n 2, 1) := by decide +kernel
theorem dX2_cutAt_27 : decode cX2_cutAt 27 = .ok (.aload_n 0, 1) := by decide +kernel
theorem dX2_cutAt_28 : decode cX2_cutAt 28 = .ok (.getfield 12, 3) := by decide +kernel
theorem dX2_cutAt_31 : decode cX2_cutAt 31 = .ok (.invokevirtual 263, 3) := by decide +kernel
theorem dX2_cutAt_34 : decode cX2_cutAt 34 = .ok (.aload_n 0, 1) := by decide +kernel
theorem dX2_cutAt_35 : decode cX2_cutAt 35 = .ok (.getfield 12, 3) := by decide +kernel
theorem dX2_cutAt_38 : decode cX2_cutAt 38 = .ok (.iload_n 2, 1) := by decide +kernel
theorem dX2_cutAt_39 : decode cX2_cutAt 39 = .ok (.invokevirtual 267, 3) := by decide +kernel
theorem dX2_cutAt_42 : decode cX2_cutAt 42 = .ok (.aload_n 0, 1) := by decide +kernel
theorem dX2_cutAt_43 : decode cX2_cutAt 43 = .ok (.getfield 21, 3) := by decide +kernel
theorem dX2_cutAt_46 : decode cX2_cutAt 46 = .ok (.iload_n 2, 1) := by decide +kernel
theorem dX2_cutAt_47 : decode cX2_cutAt 47 = .ok (.aload_n 0, 1) := by decide +kernel
theorem dX2_cutAt_48 : decode cX2_cutAt 48 = .ok (.getfield 12, 3) := by decide +kernel
theorem dX2_cutAt_51 : decode cX2_cutAt 51 = .ok (.invokevirtual 270, 3) := by decide +kernel
theorem dX2_cutAt_54 : decode cX2_cutAt 54 = .ok (.aload_n 0, 1) := by decide +kernel
theorem dX2_cutAt_55 : decode cX2_cutAt 55 = .ok (.getfield 50, 3) := by decide +kernel
theorem dX2_cutAt_58 : decode cX2_cutAt 58 = .ok (.iconst (-1), 1) := by decide +kernel
theorem dX2_cutAt_59 : decode cX2_cutAt 59 = .ok (.invokevirtual 70, 3) := by decide +kernel
theorem dX2_cutAt_62 : decode cX2_cutAt 62 = .ok (.aload_n 0, 1) := by decide +kernel
theorem dX2_cutAt_63 : decode cX2_cutAt 63 = .ok (.aload_n 0, 1) := by decide +kernel
theorem dX2_cutAt_64 : decode cX2_cutAt 64 = .ok (.getfield 35, 3) := by decide +kernel
theorem dX2_cutAt_67 : decode cX2_cutAt 67 = .ok (.iload_n 2, 1) := by decide +kernel
theorem dX2_cutAt_68 : decode cX2_cutAt 68 = .ok (.invokevirtual 272, 3) := by decide +kernel
theorem dX2_cutAt_71 : decode cX2_cutAt 71 = .ok (.iload_n 3, 1) := by decide +kernel
theorem dX2_cutAt_72 : decode cX2_cutAt 72 = .ok (.ireturn, 1) := by decide +kernel
theorem dX2_numberAtPlace_0 : decode cX2_numberAtPlace 0 = .ok (.aload_n 0, 1) := by decide +kernel
theorem dX2_numberAtPlace_1 : decode cX2_numberAtPlace 1 = .ok (.getfield 12, 3) := by decide +kernel
theorem dX2_numberAtPlace_4 : decode cX2_numberAtPlace 4 = .ok (.iconst 0, 1) := by decide +kernel
theorem dX2_numberAtPlace_5 : decode cX2_numberAtPlace 5 = .ok (.iload_n 1, 1) := by decide +kernel
theorem dX2_numberAtPlace_6 : decode cX2_numberAtPlace 6 = .ok (.aload_n 0, 1) := by decide +kernel
theorem dX2_numberAtPlace_7 : decode cX2_numberAtPlace 7 = .ok (.getfield 57, 3) := by decide +kernel
theorem dX2_numberAtPlace_10 : decode cX2_numberAtPlace 10 = .ok (.invokevirtual 193, 3) := by decide +kernel
theorem dX2_numberAtPlace_13 : decode cX2_numberAtPlace 13 = .ok (.istore_n 3, 1) := by decide +kernel
theorem dX2_numberAtPlace_14 : decode cX2_numberAtPlace 14 = .ok (.iconst 0, 1) := by decide +kernel
theorem dX2_numberAtPlace_15 : decode cX2_numberAtPlace 15 = .ok (.istore 4, 2) := by decide +kernel
theorem dX2_numberAtPlace_17 : decode cX2_numberAtPlace 17 = .ok (.iconst 0, 1) := by decide +kernel
theorem dX2_numberAtPlace_18 : decode cX2_numberAtPlace 18 = .ok (.istore 5, 2) := by decide +kernel
theorem dX2_numberAtPlace_20 : decode cX2_numberAtPlace 20 = .ok (.iload 5, 2) := by decide +kernel
theorem dX2_numberAtPlace_22 : decode cX2_numberAtPlace 22 = .ok (.iload_n 3, 1) := by decide +kernel
theorem dX2_numberAtPlace_23 : decode cX2_numberAtPlace 23 = .ok (.if_icmp .ge 44, 3) := by decide +kernel
theorem dX2_numberAtPlace_26 : decode cX2_numberAtPlace 26 = .ok (.aload_n 0, 1) := by decide +kernel
theorem dX2_numberAtPlace_27 : decode cX2_numberAtPlace 27 = .ok (.aload_n 0, 1) := by decide +kernel
theorem dX2_numberAtPlace_28 : decode cX2_numberAtPlace 28 = .ok (.getfield 57, 3) := by decide +kernel
theorem dX2_numberAtPlace_31 : decode cX2_numberAtPlace 31 = .ok (.iload 5, 2) := by decide +kernel
theorem dX2_numberAtPlace_33 : decode cX2_numberAtPlace 33 = .ok (.invokevirtual 97, 3) := by decide +kernel
theorem dX2_numberAtPlace_36 : decode cX2_numberAtPlace 36 = .ok (.invokevirtual 276, 3) := by decide +kernel
theorem dX2_numberAtPlace_39 : decode cX2_numberAtPlace 39 = .ok (.ifCond .eq 22, 3) := by decide +kernel
theorem dX2_numberAtPlace_42 : decode cX2_numberAtPlace 42 = .ok (.iload 4, 2) := by decide +kernel
theorem dX2_numberAtPlace_44 : decode cX2_numberAtPlace 44 = .ok (.iload_n 2, 1) := by decide +kernel
theorem dX2_numberAtPlace_45 : decode cX2_numberAtPlace 45 = .ok (.if_icmp .ne 13, 3) := by decide +kernel
theorem dX2_numberAtPlace_48 : decode cX2_numberAtPlace 48 = .ok (.aload_n 0, 1) := by decide +kernel
theorem dX2_numberAtPlace_49 : decode cX2_numberAtPlace 49 = .ok (.getfield 57, 3) := by decide +kernel
theorem dX2_numberAtPlace_52 : decode cX2_numberAtPlace 52 = .ok (.iload 5, 2) := by decide +kernel
theorem dX2_numberAtPlace_54 : decode cX2_numberAtPlace 54 = .ok (.invokevirtual 97, 3) := by decide +kernel
theorem dX2_numberAtPlace_57 : decode cX2_numberAtPlace 57 = .ok (.ireturn, 1) := by decide +kernel
theorem dX2_numberAtPlace_58 : decode cX2_numberAtPlace 58 = .ok (.iinc 4 1, 3) := by decide +kernel
theorem dX2_numberAtPlace_61 : decode cX2_numberAtPlace 61 = .ok (.iinc 5 1, 3) := by decide +kernel
theorem dX2_numberAtPlace_64 : decode cX2_numberAtPlace 64 = .ok (.goto (-44), 3) := by decide +kernel
theorem dX2_numberAtPlace_67 : decode cX2_numberAtPlace 67 = .ok (.iconst (-1), 1) := by decide +kernel
theorem dX2_numberAtPlace_68 : decode cX2_numberAtPlace 68 = .ok (.ireturn, 1) := by decide +kernel
theorem dX2_stateOf_0 : decode cX2_stateOf 0 = .ok (.iload_n 1, 1) := by decide +kernel
theorem dX2_stateOf_1 : decode cX2_stateOf 1 = .ok (.tableswitch 127 0 9 #[55, 63, 71, 79, 87, 93, 101, 106, 111, 119], 55) := by decide +kernel
theorem dX2_stateOf_56 : decode cX2_stateOf 56 = .ok (.aload_n 0, 1) := by decide +kernel
theorem dX2_stateOf_57 : decode cX2_stateOf 57 = .ok (.getfield 12, 3) := by decide +kernel
theorem dX2_stateOf_60 : decode cX2_stateOf 60 = .ok (.getfield 90, 3) := by decide +kernel
theorem dX2_stateOf_63 : decode cX2_stateOf 63 = .ok (.ireturn, 1) := by decide +kernel
theorem dX2_stateOf_64 : decode cX2_stateOf 64 = .ok (.aload_n 0, 1) := by decide +kernel
theorem dX2_stateOf_65 : decode cX2_stateOf 65 = .ok (.getfield 12, 3) := by decide +kernel
theorem dX2_stateOf_68 : decode cX2_stateOf 68 = .ok (.getfield 234, 3) := by decide +kernel
theorem dX2_stateOf_71 : decode cX2_stateOf 71 = .ok (.ireturn, 1) := by decide +kernel
theorem dX2_stateOf_72 : decode cX2_stateOf 72 = .ok (.aload_n 0, 1) := by decide +kernel
theorem dX2_stateOf_73 : decode cX2_stateOf 73 = .ok (.getfield 21, 3) := by decide +kernel
theorem dX2_stateOf_76 : decode cX2_stateOf 76 = .ok (.invokevirtual 86, 3) := by decide +kernel
theorem dX2_stateOf_79 : decode cX2_stateOf 79 = .ok (.ireturn, 1) := by decide +kernel
theorem dX2_stateOf_80 : decode cX2_stateOf 80 = .ok (.aload_n 0, 1) := by decide +kernel
theorem dX2_stateOf_81 : decode cX2_stateOf 81 = .ok (.getfield 21, 3) := by decide +kernel
theorem dX2_stateOf_84 : decode cX2_stateOf 84 = .ok (.getfield 219, 3) := by decide +kernel
theorem dX2_stateOf_87 : decode cX2_stateOf 87 = .ok (.ireturn, 1) := by decide +kernel
theorem dX2_stateOf_88 : decode cX2_stateOf 88 = .ok (.aload_n 0, 1) := by decide +kernel
theorem dX2_stateOf_89 : decode cX2_stateOf 89 = .ok (.iconst (-1), 1) := by decide +kernel
theorem dX2_stateOf_90 : decode cX2_stateOf 90 = .ok (.invokevirtual 213, 3) := by decide +kernel
theorem dX2_stateOf_93 : decode cX2_stateOf 93 = .ok (.ireturn, 1) := by decide +kernel
theorem dX2_stateOf_94 : decode cX2_stateOf 94 = .ok (.aload_n 0, 1) := by decide +kernel
theorem dX2_stateOf_95 : decode cX2_stateOf 95 = .ok (.getfield 21, 3) := by decide +kernel
theorem dX2_stateOf_98 : decode cX2_stateOf 98 = .ok (.getfield 279, 3) := by decide +kernel
theorem dX2_stateOf_101 : decode cX2_stateOf 101 = .ok (.ireturn, 1) := by decide +kernel
theorem dX2_stateOf_102 : decode cX2_stateOf 102 = .ok (.aload_n 0, 1) := by decide +kernel
theorem dX2_stateOf_103 : decode cX2_stateOf 103 = .ok (.getfield 77, 3) := by decide +kernel
theorem dX2_stateOf_106 : decode cX2_stateOf 106 = .ok (.ireturn, 1) := by decide +kernel
theorem dX2_stateOf_107 : decode cX2_stateOf 107 = .ok (.aload_n 0, 1) := by decide +kernel
theorem dX2_stateOf_108 : decode cX2_stateOf 108 = .ok (.invokevirtual 282, 3) := by decide +kernel
theorem dX2_stateOf_111 : decode cX2_stateOf 111 = .ok (.ireturn, 1) := by decide +kernel
theorem dX2_stateOf_112 : decode cX2_stateOf 112 = .ok (.aload_n 0, 1) := by decide +kernel
theorem dX2_stateOf_113 : decode cX2_stateOf 113 = .ok (.getfield 28, 3) := by decide +kernel
theorem dX2_stateOf_116 : decode cX2_stateOf 116 = .ok (.getfield 125, 3) := by decide +kernel
theorem dX2_stateOf_119 : decode cX2_stateOf 119 = .ok (.ireturn, 1) := by decide +kernel
theorem dX2_stateOf_120 : decode cX2_stateOf 120 = .ok (.aload_n 0, 1) := by decide +kernel
theorem dX2_stateOf_121 : decode cX2_stateOf 121 = .ok (.getfield 28, 3) := by decide +kernel
theorem dX2_stateOf_124 : decode cX2_stateOf 124 = .ok (.invokevirtual 228, 3) := by decide +kernel
theorem dX2_stateOf_127 : decode cX2_stateOf 127 = .ok (.ireturn, 1) := by decide +kernel
theorem dX2_stateOf_128 : decode cX2_stateOf 128 = .ok (.aload_n 0, 1) := by decide +kernel
theorem dX2_stateOf_129 : decode cX2_stateOf 129 = .ok (.getfield 12, 3) := by decide +kernel
theorem dX2_stateOf_132 : decode cX2_stateOf 132 = .ok (.invokevirtual 260, 3) := by decide +kernel
theorem dX2_stateOf_135 : decode cX2_stateOf 135 = .ok (.ireturn, 1) := by decide +kernel
theorem dX2_transactionValue_0 : decode cX2_transactionValue 0 = .ok (.iload_n 2, 1) := by decide +kernel
theorem dX2_transactionValue_1 : decode cX2_transactionValue 1 = .ok (.ifCond .ne 17, 3) := by decide +kernel
theorem dX2_transactionValue_4 : decode cX2_transactionValue 4 = .ok (.aload_n 0, 1) := by decide +kernel
theorem dX2_transactionValue_5 : decode cX2_transactionValue 5 = .ok (.iload_n 1, 1) := by decide +kernel
theorem dX2_transactionValue_6 : decode cX2_transactionValue 6 = .ok (.invokevirtual 119, 3) := by decide +kernel
theorem dX2_transactionValue_9 : decode cX2_transactionValue 9 = .ok (.ifCond .eq 7, 3) := by decide +kernel
theorem dX2_transactionValue_12 : decode cX2_transactionValue 12 = .ok (.iconst 1, 1) := by decide +kernel
theorem dX2_transactionValue_13 : decode cX2_transactionValue 13 = .ok (.goto 4, 3) := by decide +kernel
theorem dX2_transactionValue_16 : decode cX2_transactionValue 16 = .ok (.iconst 0, 1) := by decide +kernel
theorem dX2_transactionValue_17 : decode cX2_transactionValue 17 = .ok (.ireturn, 1) := by decide +kernel
theorem dX2_transactionValue_18 : decode cX2_transactionValue 18 = .ok (.aload_n 0, 1) := by decide +kernel
theorem dX2_transactionValue_19 : decode cX2_transactionValue 19 = .ok (.iload_n 1, 1) := by decide +kernel
theorem dX2_transactionValue_20 : decode cX2_transactionValue 20 = .ok (.invokevirtual 119, 3) := by decide +kernel
theorem dX2_transactionValue_23 : decode cX2_transactionValue 23 = .ok (.ifCond .ne 5, 3) := by decide +kernel
theorem dX2_transactionValue_26 : decode cX2_transactionValue 26 = .ok (.iconst (-1), 1) := by decide +kernel
theorem dX2_transactionValue_27 : decode cX2_transactionValue 27 = .ok (.ireturn, 1) := by decide +kernel
theorem dX2_transactionValue_28 : decode cX2_transactionValue 28 = .ok (.iload_n 2, 1) := by decide +kernel
theorem dX2_transactionValue_29 : decode cX2_transactionValue 29 = .ok (.iconst 1, 1) := by decide +kernel
theorem dX2_transactionValue_30 : decode cX2_transactionValue 30 = .ok (.if_icmp .ne 14, 3) := by decide +kernel
theorem dX2_transactionValue_33 : decode cX2_transactionValue 33 = .ok (.aload_n 0, 1) := by decide +kernel
theorem dX2_transactionValue_34 : decode cX2_transactionValue 34 = .ok (.getfield 50, 3) := by decide +kernel
theorem dX2_transactionValue_37 : decode cX2_transactionValue 37 = .ok (.iload_n 1, 1) := by decide +kernel
theorem dX2_transactionValue_38 : decode cX2_transactionValue 38 = .ok (.invokevirtual 97, 3) := by decide +kernel
theorem dX2_transactionValue_41 : decode cX2_transactionValue 41 = .ok (.goto 11, 3) := by decide +kernel
theorem dX2_transactionValue_44 : decode cX2_transactionValue 44 = .ok (.aload_n 0, 1) := by decide +kernel
theorem dX2_transactionValue_45 : decode cX2_transactionValue 45 = .ok (.getfield 54, 3) := by decide +kernel
theorem dX2_transactionValue_48 : decode cX2_transactionValue 48 = .ok (.iload_n 1, 1) := by decide +kernel
theorem dX2_transactionValue_49 : decode cX2_transactionValue 49 = .ok (.invokevirtual 97, 3) := by decide +kernel
theorem dX2_transactionValue_52 : decode cX2_transactionValue 52 = .ok (.ireturn, 1) := by decide +kernel
theorem dX2_takenValue_0 : decode cX2_takenValue 0 = .ok (.aload_n 0, 1) := by decide +kernel
theorem dX2_takenValue_1 : decode cX2_takenValue 1 = .ok (.getfield 60, 3) := by decide +kernel
theorem dX2_takenValue_4 : decode cX2_takenValue 4 = .ok (.iload_n 1, 1) := by decide +kernel
theorem dX2_takenValue_5 : decode cX2_takenValue 5 = .ok (.invokevirtual 97, 3) := by decide +kernel
theorem dX2_takenValue_8 : decode cX2_takenValue 8 = .ok (.istore_n 3, 1) := by decide +kernel
theorem dX2_takenValue_9 : decode cX2_takenValue 9 = .ok (.iload_n 2, 1) := by decide +kernel
theorem dX2_takenValue_10 : decode cX2_takenValue 10 = .ok (.ifCond .ne 5, 3) := by decide +kernel
theorem dX2_takenValue_13 : decode cX2_takenValue 13 = .ok (.iload_n 3, 1) := by decide +kernel
theorem dX2_takenValue_14 : decode cX2_takenValue 14 = .ok (.ireturn, 1) := by decide +kernel
theorem dX2_takenValue_15 : decode cX2_takenValue 15 = .ok (.iload_n 2, 1) := by decide +kernel
theorem dX2_takenValue_16 : decode cX2_takenValue 16 = .ok (.iconst 1, 1) := by decide +kernel
theorem dX2_takenValue_17 : decode cX2_takenValue 17 = .ok (.if_icmp .ne 17, 3) := by decide +kernel
theorem dX2_takenValue_20 : decode cX2_takenValue 20 = .ok (.aload_n 0, 1) := by decide +kernel
theorem dX2_takenValue_21 : decode cX2_takenValue 21 = .ok (.getfield 12, 3) := by decide +kernel
theorem dX2_takenValue_24 : decode cX2_takenValue 24 = .ok (.getfield 255, 3) := by decide +kernel
theorem dX2_takenValue_27 : decode cX2_takenValue 27 = .ok (.iload_n 3, 1) := by decide +kernel
theorem dX2_takenValue_28 : decode cX2_takenValue 28 = .ok (.invokevirtual 97, 3) := by decide +kernel
theorem dX2_takenValue_31 : decode cX2_takenValue 31 = .ok (.goto 14, 3) := by decide +kernel
theorem dX2_takenValue_34 : decode cX2_takenValue 34 = .ok (.aload_n 0, 1) := by decide +kernel
theorem dX2_takenValue_35 : decode cX2_takenValue 35 = .ok (.getfield 12, 3) := by decide +kernel
theorem dX2_takenValue_38 : decode cX2_takenValue 38 = .ok (.getfield 285, 3) := by decide +kernel
theorem dX2_takenValue_41 : decode cX2_takenValue 41 = .ok (.iload_n 3, 1) := by decide +kernel
theorem dX2_takenValue_42 : decode cX2_takenValue 42 = .ok (.invokevirtual 97, 3) := by decide +kernel
theorem dX2_takenValue_45 : decode cX2_takenValue 45 = .ok (.ireturn, 1) := by decide +kernel
theorem dX3_init_0 : decode cX3_init 0 = .ok (.aload_n 0, 1) := by decide +kernel
theorem dX3_init_1 : decode cX3_init 1 = .ok (.invokespecial 3, 3) := by decide +kernel
theorem dX3_init_4 : decode cX3_init 4 = .ok (.aload_n 0, 1) := by decide +kernel
theorem dX3_init_5 : decode cX3_init 5 = .ok (.new 9, 3) := by decide +kernel
theorem dX3_init_8 : decode cX3_init 8 = .ok (.dup, 1) := by decide +kernel
theorem dX3_init_9 : decode cX3_init 9 = .ok (.invokespecial 11, 3) := by decide +kernel
theorem dX3_init_12 : decode cX3_init 12 = .ok (.putfield 12, 3) := by decide +kernel
theorem dX3_init_15 : decode cX3_init 15 = .ok (.aload_n 0, 1) := by decide +kernel
theorem dX3_init_16 : decode cX3_init 16 = .ok (.new 18, 3) := by decide +kernel
theorem dX3_init_19 : decode cX3_init 19 = .ok (.dup, 1) := by decide +kernel
theorem dX3_init_20 : decode cX3_init 20 = .ok (.bipush 60, 2) := by decide +kernel
theorem dX3_init_22 : decode cX3_init 22 = .ok (.invokespecial 20, 3) := by decide +kernel
theorem dX3_init_25 : decode cX3_init 25 = .ok (.putfield 23, 3) := by decide +kernel
theorem dX3_init_28 : decode cX3_init 28 = .ok (.aload_n 0, 1) := by decide +kernel
theorem dX3_init_29 : decode cX3_init 29 = .ok (.new 18, 3) := by decide +kernel
theorem dX3_init_32 : decode cX3_init 32 = .ok (.dup, 1) := by decide +kernel
theorem dX3_init_33 : decode cX3_init 33 = .ok (.bipush 60, 2) := by decide +kernel
theorem dX3_init_35 : decode cX3_init 35 = .ok (.invokespecial 20, 3) := by decide +kernel
theorem dX3_init_38 : decode cX3_init 38 = .ok (.putfield 27, 3) := by decide +kernel
theorem dX3_init_41 : decode cX3_init 41 = .ok (.aload_n 0, 1) := by decide +kernel
theorem dX3_init_42 : decode cX3_init 42 = .ok (.new 18, 3) := by decide +kernel
theorem dX3_init_45 : decode cX3_init 45 = .ok (.dup, 1) := by decide +kernel
theorem dX3_init_46 : decode cX3_init 46 = .ok (.bipush 60, 2) := by decide +kernel
theorem dX3_init_48 : decode cX3_init 48 = .ok (.invokespecial 20, 3) := by decide +kernel
theorem dX3_init_51 : decode cX3_init 51 = .ok (.putfield 30, 3) := by decide +kernel
theorem dX3_init_54 : decode cX3_init 54 = .ok (.aload_n 0, 1) := by decide +kernel
theorem dX3_init_55 : decode cX3_init 55 = .ok (.new 18, 3) := by decide +kernel
theorem dX3_init_58 : decode cX3_init 58 = .ok (.dup, 1) := by decide +kernel
theorem dX3_init_59 : decode cX3_init 59 = .ok (.bipush 60, 2) := by decide +kernel
theorem dX3_init_61 : decode cX3_init 61 = .ok (.invokespecial 20, 3) := by decide +kernel
theorem dX3_init_64 : decode cX3_init 64 = .ok (.putfield 33, 3) := by decide +kernel
theorem dX3_init_67 : decode cX3_init 67 = .ok (.aload_n 0, 1) := by decide +kernel
theorem dX3_init_68 : decode cX3_init 68 = .ok (.new 18, 3) := by decide +kernel
theorem dX3_init_71 : decode cX3_init 71 = .ok (.dup, 1) := by decide +kernel
theorem dX3_init_72 : decode cX3_init 72 = .ok (.bipush 60, 2) := by decide +kernel
theorem dX3_init_74 : decode cX3_init 74 = .ok (.invokespecial 20, 3) := by decide +kernel
theorem dX3_init_77 : decode cX3_init 77 = .ok (.putfield 36, 3) := by decide +kernel
theorem dX3_init_80 : decode cX3_init 80 = .ok (.aload_n 0, 1) := by decide +kernel
theorem dX3_init_81 : decode cX3_init 81 = .ok (.new 18, 3) := by decide +kernel
theorem dX3_init_84 : decode cX3_init 84 = .ok (.dup, 1) := by decide +kernel
theorem dX3_init_85 : decode cX3_init 85 = .ok (.bipush 60, 2) := by decide +kernel
theorem dX3_init_87 : decode cX3_init 87 = .ok (.invokespecial 20, 3) := by decide +kernel
theorem dX3_init_90 : decode cX3_init 90 = .ok (.putfield 39, 3) := by decide +kernel
theorem dX3_init_93 : decode cX3_init 93 = .ok (.aload_n 0, 1) := by decide +kernel
theorem dX3_init_94 : decode cX3_init 94 = .ok (.new 18, 3) := by decide +kernel
theorem dX3_init_97 : decode cX3_init 97 = .ok (.dup, 1) := by decide +kernel
theorem dX3_init_98 : decode cX3_init 98 = .ok (.bipush 60, 2) := by decide +kernel
theorem dX3_init_100 : decode cX3_init 100 = .ok (.invokespecial 20, 3) := by decide +kernel
theorem dX3_init_103 : decode cX3_init 103 = .ok (.putfield 42, 3) := by decide +kernel
theorem dX3_init_106 : decode cX3_init 106 = .ok (.aload_n 0, 1) := by decide +kernel
theorem dX3_init_107 : decode cX3_init 107 = .ok (.iconst (-1), 1) := by decide +kernel
theorem dX3_init_108 : decode cX3_init 108 = .ok (.putfield 45, 3) := by decide +kernel
theorem dX3_init_111 : decode cX3_init 111 = .ok (.return_, 1) := by decide +kernel
theorem dX3_parse_0 : decode cX3_parse 0 = .ok (.aload_n 0, 1) := by decide +kernel
theorem dX3_parse_1 : decode cX3_parse 1 = .ok (.getfield 12, 3) := by decide +kernel
theorem dX3_parse_4 : decode cX3_parse 4 = .ok (.aload_n 1, 1) := by decide +kernel
theorem dX3_parse_5 : decode cX3_parse 5 = .ok (.iload_n 2, 1) := by decide +kernel
theorem dX3_parse_6 : decode cX3_parse 6 = .ok (.invokevirtual 49, 3) := by decide +kernel
theorem dX3_parse_9 : decode cX3_parse 9 = .ok (.aload_n 0, 1) := by decide +kernel
theorem dX3_parse_10 : decode cX3_parse 10 = .ok (.iconst 0, 1) := by decide +kernel
theorem dX3_parse_11 : decode cX3_parse 11 = .ok (.putfield 53, 3) := by decide +kernel
theorem dX3_parse_14 : decode cX3_parse 14 = .ok (.aload_n 0, 1) := by decide +kernel
theorem dX3_parse_15 : decode cX3_parse 15 = .ok (.iconst 0, 1) := by decide +kernel
theorem dX3_parse_16 : decode cX3_parse 16 = .ok (.putfield 56, 3) := by decide +kernel
theorem dX3_parse_19 : decode cX3_parse 19 = .ok (.aload_n 0, 1) := by decide +kernel
theorem dX3_parse_20 : decode cX3_parse 20 = .ok (.iconst 0, 1) := by decide +kernel
theorem dX3_parse_21 : decode cX3_parse 21 = .ok (.putfield 59, 3) := by decide +kernel
theorem dX3_parse_24 : decode cX3_parse 24 = .ok (.aload_n 0, 1) := by decide +kernel
theorem dX3_parse_25 : decode cX3_parse 25 = .ok (.iconst 0, 1) := by decide +kernel
theorem dX3_parse_26 : decode cX3_parse 26 = .ok (.invokevirtual 62, 3) := by decide +kernel
theorem dX3_parse_29 : decode cX3_parse 29 = .ok (.ifCond .eq 17, 3) := by decide +kernel
theorem dX3_parse_32 : decode cX3_parse 32 = .ok (.aload_n 0, 1) := by decide +kernel
theorem dX3_parse_33 : decode cX3_parse 33 = .ok (.sipush 303, 3) := by decide +kernel
theorem dX3_parse_36 : decode cX3_parse 36 = .ok (.invokevirtual 66, 3) := by decide +kernel
theorem dX3_parse_39 : decode cX3_parse 39 = .ok (.ifCond .eq 7, 3) := by decide +kernel
theorem dX3_parse_42 : decode cX3_parse 42 = .ok (.iconst 1, 1) := by decide +kernel
theorem dX3_parse_43 : decode cX3_parse 43 = .ok (.goto 4, 3) := by decide +kernel
theorem dX3_parse_46 : decode cX3_parse 46 = .ok (.iconst 0, 1) := by decide +kernel
theorem dX3_parse_47 : decode cX3_parse 47 = .ok (.istore_n 3, 1) := by decide +kernel
theorem dX3_parse_48 : decode cX3_parse 48 = .ok (.aload_n 0, 1) := by decide +kernel
theorem dX3_parse_49 : decode cX3_parse 49 = .ok (.iload_n 3, 1) := by decide +kernel
theorem dX3_parse_50 : decode cX3_parse 50 = .ok (.ifCond .eq 7, 3) := by decide +kernel
theorem dX3_parse_53 : decode cX3_parse 53 = .ok (.iconst (-1), 1) := by decide +kernel
theorem dX3_parse_54 : decode cX3_parse 54 = .ok (.goto 17, 3) := by decide +kernel
theorem dX3_parse_57 : decode cX3_parse 57 = .ok (.aload_n 0, 1) := by decide +kernel
theorem dX3_parse_58 : decode cX3_parse 58 = .ok (.getfield 12, 3) := by decide +kernel
theorem dX3_parse_61 : decode cX3_parse 61 = .ok (.getfield 69, 3) := by decide +kernel
theorem dX3_parse_64 : decode cX3_parse 64 = .ok (.aload_n 0, 1) := by decide +kernel
theorem dX3_parse_65 : decode cX3_parse 65 = .ok (.getfield 56, 3) := by decide +kernel
theorem dX3_parse_68 : decode cX3_parse 68 = .ok (.invokevirtual 72, 3) := by decide +kernel
theorem dX3_parse_71 : decode cX3_parse 71 = .ok (.putfield 45, 3) := by decide +kernel
theorem dX3_parse_74 : decode cX3_parse 74 = .ok (.iload_n 3, 1) := by decide +kernel
theorem dX3_parse_75 : decode cX3_parse 75 = .ok (.ireturn, 1) := by decide +kernel
theorem dX3_current_0 : decode cX3_current 0 = .ok (.aload_n 0, 1) := by decide +kernel
theorem dX3_current_1 : decode cX3_current 1 = .ok (.getfield 12, 3) := by decide +kernel
theorem dX3_current_4 : decode cX3_current 4 = .ok (.getfield 75, 3) := by decide +kernel
theorem dX3_current_7 : decode cX3_current 7 = .ok (.aload_n 0, 1) := by decide +kernel
theorem dX3_current_8 : decode cX3_current 8 = .ok (.getfield 56, 3) := by decide +kernel
theorem dX3_current_11 : decode cX3_current 11 = .ok (.invokevirtual 72, 3) := by decide +kernel
theorem dX3_current_14 : decode cX3_current 14 = .ok (.ireturn, 1) := by decide +kernel
theorem dX3_fault_0 : decode cX3_fault 0 = .ok (.aload_n 0, 1) := by decide +kernel
theorem dX3_fault_1 : decode cX3_fault 1 = .ok (.iload_n 1, 1) := by decide +kernel
theorem dX3_fault_2 : decode cX3_fault 2 = .ok (.putfield 59, 3) := by decide +kernel
theorem dX3_fault_5 : decode cX3_fault 5 = .ok (.iconst 0, 1) := by decide +kernel
theorem dX3_fault_6 : decode cX3_fault 6 = .ok (.ireturn, 1) := by decide +kernel
theorem dX3_accept_0 : decode cX3_accept 0 = .ok (.aload_n 0, 1) := by decide +kernel
theorem dX3_accept_1 : decode cX3_accept 1 = .ok (.getfield 12, 3) := by decide +kernel
theorem dX3_accept_4 : decode cX3_accept 4 = .ok (.getfield 75, 3) := by decide +kernel
theorem dX3_accept_7 : decode cX3_accept 7 = .ok (.aload_n 0, 1) := by decide +kernel
theorem dX3_accept_8 : decode cX3_accept 8 = .ok (.getfield 56, 3) := by decide +kernel
theorem dX3_accept_11 : decode cX3_accept 11 = .ok (.invokevirtual 72, 3) := by decide +kernel
theorem dX3_accept_14 : decode cX3_accept 14 = .ok (.iload_n 1, 1) := by decide +kernel
theorem dX3_accept_15 : decode cX3_accept 15 = .ok (.if_icmp .eq 9, 3) := by decide +kernel
theorem dX3_accept_18 : decode cX3_accept 18 = .ok (.aload_n 0, 1) := by decide +kernel
theorem dX3_accept_19 : decode cX3_accept 19 = .ok (.iconst 1, 1) := by decide +kernel
theorem dX3_accept_20 : decode cX3_accept 20 = .ok (.invokevirtual 78, 3) := by decide +kernel
theorem dX3_accept_23 : decode cX3_accept 23 = .ok (.ireturn, 1) := by decide +kernel
theorem dX3_accept_24 : decode cX3_accept 24 = .ok (.aload_n 0, 1) := by decide +kernel
theorem dX3_accept_25 : decode cX3_accept 25 = .ok (.dup, 1) := by decide +kernel
theorem dX3_accept_26 : decode cX3_accept 26 = .ok (.getfield 56, 3) := by decide +kernel
theorem dX3_accept_29 : decode cX3_accept 29 = .ok (.iconst 1, 1) := by decide +kernel
theorem dX3_accept_30 : decode cX3_accept 30 = .ok (.iadd, 1) := by decide +kernel
theorem dX3_accept_31 : decode cX3_accept 31 = .ok (.putfield 56, 3) := by decide +kernel
theorem dX3_accept_34 : decode cX3_accept 34 = .ok (.iconst 1, 1) := by decide +kernel
theorem dX3_accept_35 : decode cX3_accept 35 = .ok (.ireturn, 1) := by decide +kernel
theorem dX3_parseCommands_0 : decode cX3_parseCommands 0 = .ok (.iconst 0, 1) := by decide +kernel
theorem dX3_parseCommands_1 : decode cX3_parseCommands 1 = .ok (.istore_n 2, 1) := by decide +kernel
theorem dX3_parseCommands_2 : decode cX3_parseCommands 2 = .ok (.iload_n 2, 1) := by decide +kernel
theorem dX3_parseCommands_3 : decode cX3_parseCommands 3 = .ok (.bipush 60, 2) := by decide +kernel
theorem dX3_parseCommands_5 : decode cX3_parseCommands 5 = .ok (.if_icmp .gt 44, 3) := by decide +kernel
theorem dX3_parseCommands_8 : decode cX3_parseCommands 8 = .ok (.aload_n 0, 1) := by decide +kernel
theorem dX3_parseCommands_9 : decode cX3_parseCommands 9 = .ok (.invokevirtual 81, 3) := by decide +kernel
theorem dX3_parseCommands_12 : decode cX3_parseCommands 12 = .ok (.sipush 256, 3) := by decide +kernel
theorem dX3_parseCommands_15 : decode cX3_parseCommands 15 = .ok (.sipush 268, 3) := by decide +kernel
theorem dX3_parseCommands_18 : decode cX3_parseCommands 18 = .ok (.invokestatic 85, 3) := by decide +kernel
theorem dX3_parseCommands_21 : decode cX3_parseCommands 21 = .ok (.ifCond .eq 28, 3) := by decide +kernel
theorem dX3_parseCommands_24 : decode cX3_parseCommands 24 = .ok (.aload_n 0, 1) := by decide +kernel
theorem dX3_parseCommands_25 : decode cX3_parseCommands 25 = .ok (.iload_n 1, 1) := by decide +kernel
theorem dX3_parseCommands_26 : decode cX3_parseCommands 26 = .ok (.invokevirtual 89, 3) := by decide +kernel
theorem dX3_parseCommands_29 : decode cX3_parseCommands 29 = .ok (.ifCond .eq 12, 3) := by decide +kernel
theorem dX3_parseCommands_32 : decode cX3_parseCommands 32 = .ok (.aload_n 0, 1) := by decide +kernel
theorem dX3_parseCommands_33 : decode cX3_parseCommands 33 = .ok (.bipush 59, 2) := by decide +kernel
theorem dX3_parseCommands_35 : decode cX3_parseCommands 35 = .ok (.invokevirtual 66, 3) := by decide +kernel
theorem dX3_parseCommands_38 : decode cX3_parseCommands 38 = .ok (.ifCond .ne 5, 3) := by decide +kernel
theorem dX3_parseCommands_41 : decode cX3_parseCommands 41 = .ok (.iconst 0, 1) := by decide +kernel
theorem dX3_parseCommands_42 : decode cX3_parseCommands 42 = .ok (.ireturn, 1) := by decide +kernel
theorem dX3_parseCommands_43 : decode cX3_parseCommands 43 = .ok (.iinc 2 1, 3) := by decide +kernel
theorem dX3_parseCommands_46 : decode cX3_parseCommands 46 = .ok (.goto (-44), 3) := by decide +kernel
theorem dX3_parseCommands_49 : decode cX3_parseCommands 49 = .ok (.iconst 1, 1) := by decide +kernel
theorem dX3_parseCommands_50 : decode cX3_parseCommands 50 = .ok (.ireturn, 1) := by decide +kernel
theorem dX3_parseCommand_0 : decode cX3_parseCommand 0 = .ok (.aload_n 0, 1) := by decide +kernel
theorem dX3_parseCommand_1 : decode cX3_parseCommand 1 = .ok (.getfield 53, 3) := by decide +kernel
theorem dX3_parseCommand_4 : decode cX3_parseCommand 4 = .ok (.bipush 60, 2) := by decide +kernel
theorem dX3_parseCommand_6 : decode cX3_parseCommand 6 = .ok (.if_icmp .lt 9, 3) := by decide +kernel
theorem dX3_parseCommand_9 : decode cX3_parseCommand 9 = .ok (.aload_n 0, 1) := by decide +kernel
theorem dX3_parseCommand_10 : decode cX3_parseCommand 10 = .ok (.iconst 3, 1) := by decide +kernel
theorem dX3_parseCommand_11 : decode cX3_parseCommand 11 = .ok (.invokevirtual 78, 3) := by decide +kernel
theorem dX3_parseCommand_14 : decode cX3_parseCommand 14 = .ok (.ireturn, 1) := by decide +kernel
theorem dX3_parseCommand_15 : decode cX3_parseCommand 15 = .ok (.aload_n 0, 1) := by decide +kernel
theorem dX3_parseCommand_16 : decode cX3_parseCommand 16 = .ok (.getfield 53, 3) := by decide +kernel
theorem dX3_parseCommand_19 : decode cX3_parseCommand 19 = .ok (.istore_n 2, 1) := by decide +kernel
theorem dX3_parseCommand_20 : decode cX3_parseCommand 20 = .ok (.aload_n 0, 1) := by decide +kernel
theorem dX3_parseCommand_21 : decode cX3_parseCommand 21 = .ok (.invokevirtual 81, 3) := by decide +kernel
theorem dX3_parseCommand_24 : decode cX3_parseCommand 24 = .ok (.istore_n 3, 1) := by decide +kernel
theorem dX3_parseCommand_25 : decode cX3_parseCommand 25 = .ok (.aload_n 0, 1) := by decide +kernel
theorem dX3_parseCommand_26 : decode cX3_parseCommand 26 = .ok (.dup, 1) := by decide +kernel
theorem dX3_parseCommand_27 : decode cX3_parseCommand 27 = .ok (.getfield 53, 3) := by decide +kernel
theorem dX3_parseCommand_30 : decode cX3_parseCommand 30 = .ok (.iconst 1, 1) := by decide +kernel
theorem dX3_parseCommand_31 : decode cX3_parseCommand 31 = .ok (.iadd, 1) := by decide +kernel
theorem dX3_parseCommand_32 : decode cX3_parseCommand 32 = .ok (.putfield 53, 3) := by decide +kernel
theorem dX3_parseCommand_35 : decode cX3_parseCommand 35 = .ok (.aload_n 0, 1) := by decide +kernel
theorem dX3_parseCommand_36 : decode cX3_parseCommand 36 = .ok (.getfield 23, 3) := by decide +kernel
theorem dX3_parseCommand_39 : decode cX3_parseCommand 39 = .ok (.iload_n 2, 1) := by decide +kernel
theorem dX3_parseCommand_40 : decode cX3_parseCommand 40 = .ok (.iload_n 3, 1) := by decide +kernel
theorem dX3_parseCommand_41 : decode cX3_parseCommand 41 = .ok (.invokevirtual 92, 3) := by decide +kernel
theorem dX3_parseCommand_44 : decode cX3_parseCommand 44 = .ok (.aload_n 0, 1) := by decide +kernel
theorem dX3_parseCommand_45 : decode cX3_parseCommand 45 = .ok (.getfield 27, 3) := by decide +kernel
theorem dX3_parseCommand_48 : decode cX3_parseCommand 48 = .ok (.iload_n 2, 1) := by decide +kernel
theorem dX3_parseCommand_49 : decode cX3_parseCommand 49 = .ok (.aload_n 0, 1) := by decide +kernel
theorem dX3_parseCommand_50 : decode cX3_parseCommand 50 = .ok (.getfield 12, 3) := by decide +kernel
theorem dX3_parseCommand_53 : decode cX3_parseCommand 53 = .ok (.getfield 69, 3) := by decide +kernel
theorem dX3_parseCommand_56 : decode cX3_parseCommand 56 = .ok (.aload_n 0, 1) := by decide +kernel
theorem dX3_parseCommand_57 : decode cX3_parseCommand 57 = .ok (.getfield 56, 3) := by decide +kernel
theorem dX3_parseCommand_60 : decode cX3_parseCommand 60 = .ok (.invokevirtual 72, 3) := by decide +kernel
theorem dX3_parseCommand_63 : decode cX3_parseCommand 63 = .ok (.invokevirtual 92, 3) := by decide +kernel
theorem dX3_parseCommand_66 : decode cX3_parseCommand 66 = .ok (.aload_n 0, 1) := by decide +kernel
theorem dX3_parseCommand_67 : decode cX3_parseCommand 67 = .ok (.getfield 39, 3) := by decide +kernel
theorem dX3_parseCommand_70 : decode cX3_parseCommand 70 = .ok (.iload_n 2, 1) := by decide +kernel
theorem dX3_parseCommand_71 : decode cX3_parseCommand 71 = .ok (.iconst (-1), 1) := by decide +kernel
theorem dX3_parseCommand_72 : decode cX3_parseCommand 72 = .ok (.invokevirtual 92, 3) := by decide +kernel
theorem dX3_parseCommand_75 : decode cX3_parseCommand 75 = .ok (.aload_n 0, 1) := by decide +kernel
theorem dX3_parseCommand_76 : decode cX3_parseCommand 76 = .ok (.dup, 1) := by decide +kernel
theorem dX3_parseCommand_77 : decode cX3_parseCommand 77 = .ok (.getfield 56, 3) := by decide +kernel
theorem dX3_parseCommand_80 : decode cX3_parseCommand 80 = .ok (.iconst 1, 1) := by decide +kernel
theorem dX3_parseCommand_81 : decode cX3_parseCommand 81 = .ok (.iadd, 1) := by decide +kernel
theorem dX3_parseCommand_82 : decode cX3_parseCommand 82 = .ok (.putfield 56, 3) := by decide +kernel
theorem dX3_parseCommand_85 : decode cX3_parseCommand 85 = .ok (.iload_n 3, 1) := by decide +kernel
theorem dX3_parseCommand_86 : decode cX3_parseCommand 86 = .ok (.sipush 268, 3) := by decide +kernel
theorem dX3_parseCommand_89 : decode cX3_parseCommand 89 = .ok (.if_icmp .ne 11, 3) := by decide +kernel
theorem dX3_parseCommand_92 : decode cX3_parseCommand 92 = .ok (.aload_n 0, 1) := by decide +kernel
theorem dX3_parseCommand_93 : decode cX3_parseCommand 93 = .ok (.iload_n 2, 1) := by decide +kernel
theorem dX3_parseCommand_94 : decode cX3_parseCommand 94 = .ok (.invokevirtual 96, 3) := by decide +kernel
theorem dX3_parseCommand_97 : decode cX3_parseCommand 97 = .ok (.goto 9, 3) := by decide +kernel
theorem dX3_parseCommand_100 : decode cX3_parseCommand 100 = .ok (.aload_n 0, 1) := by decide +kernel
theorem dX3_parseCommand_101 : decode cX3_parseCommand 101 = .ok (.iload_n 2, 1) := by decide +kernel
theorem dX3_parseCommand_102 : decode cX3_parseCommand 102 = .ok (.iload_n 3, 1) := by decide +kernel
theorem dX3_parseCommand_103 : decode cX3_parseCommand 103 = .ok (.invokevirtual 99, 3) := by decide +kernel
theorem dX3_parseCommand_106 : decode cX3_parseCommand 106 = .ok (.istore 4, 2) := by decide +kernel
theorem dX3_parseCommand_108 : decode cX3_parseCommand 108 = .ok (.iload 4, 2) := by decide +kernel
theorem dX3_parseCommand_110 : decode cX3_parseCommand 110 = .ok (.ifCond .eq 24, 3) := by decide +kernel
theorem dX3_parseCommand_113 : decode cX3_parseCommand 113 = .ok (.iload_n 3, 1) := by decide +kernel
theorem dX3_parseCommand_114 : decode cX3_parseCommand 114 = .ok (.sipush 268, 3) := by decide +kernel
theorem dX3_parseCommand_117 : decode cX3_parseCommand 117 = .ok (.if_icmp .eq 10, 3) := by decide +kernel
theorem dX3_parseCommand_120 : decode cX3_parseCommand 120 = .ok (.iload_n 3, 1) := by decide +kernel
theorem dX3_parseCommand_121 : decode cX3_parseCommand 121 = .ok (.sipush 267, 3) := by decide +kernel
theorem dX3_parseCommand_124 : decode cX3_parseCommand 124 = .ok (.if_icmp .ne 10, 3) := by decide +kernel
theorem dX3_parseCommand_127 : decode cX3_parseCommand 127 = .ok (.aload_n 0, 1) := by decide +kernel
theorem dX3_parseCommand_128 : decode cX3_parseCommand 128 = .ok (.iload_n 1, 1) := by decide +kernel
theorem dX3_parseCommand_129 : decode cX3_parseCommand 129 = .ok (.invokevirtual 103, 3) := by decide +kernel
theorem dX3_parseCommand_132 : decode cX3_parseCommand 132 = .ok (.istore 4, 2) := by decide +kernel
theorem dX3_parseCommand_134 : decode cX3_parseCommand 134 = .ok (.aload_n 0, 1) := by decide +kernel
theorem dX3_parseCommand_135 : decode cX3_parseCommand 135 = .ok (.getfield 42, 3) := by decide +kernel
theorem dX3_parseCommand_138 : decode cX3_parseCommand 138 = .ok (.iload_n 2, 1) := by decide +kernel
theorem dX3_parseCommand_139 : decode cX3_parseCommand 139 = .ok (.aload_n 0, 1) := by decide +kernel
theorem dX3_parseCommand_140 : decode cX3_parseCommand 140 = .ok (.getfield 53, 3) := by decide +kernel
theorem dX3_parseCommand_143 : decode cX3_parseCommand 143 = .ok (.invokevirtual 92, 3) := by decide +kernel
theorem dX3_parseCommand_146 : decode cX3_parseCommand 146 = .ok (.iload 4, 2) := by decide +kernel
theorem dX3_parseCommand_148 : decode cX3_parseCommand 148 = .ok (.ireturn, 1) := by decide +kernel
theorem dX3_parseBlock_0 : decode cX3_parseBlock 0 = .ok (.aload_n 0, 1) := by decide +kernel
theorem dX3_parseBlock_1 : decode cX3_parseBlock 1 = .ok (.invokevirtual 81, 3) := by decide +kernel
theorem dX3_parseBlock_4 : decode cX3_parseBlock 4 = .ok (.bipush 40, 2) := by decide +kernel
theorem dX3_parseBlock_6 : decode cX3_parseBlock 6 = .ok (.if_icmp .ne 14, 3) := by decide +kernel
theorem dX3_parseBlock_9 : decode cX3_parseBlock 9 = .ok (.iload_n 1, 1) := by decide +kernel
theorem dX3_parseBlock_10 : decode cX3_parseBlock 10 = .ok (.iconst 4, 1) := by decide +kernel
theorem dX3_parseBlock_11 : decode cX3_parseBlock 11 = .ok (.if_icmp .lt 9, 3) := by decide +kernel
theorem dX3_parseBlock_14 : decode cX3_parseBlock 14 = .ok (.aload_n 0, 1) := by decide +kernel
theorem dX3_parseBlock_15 : decode cX3_parseBlock 15 = .ok (.iconst 3, 1) := by decide +kernel
theorem dX3_parseBlock_16 : decode cX3_parseBlock 16 = .ok (.invokevirtual 78, 3) := by decide +kernel
theorem dX3_parseBlock_19 : decode cX3_parseBlock 19 = .ok (.ireturn, 1) := by decide +kernel
theorem dX3_parseBlock_20 : decode cX3_parseBlock 20 = .ok (.aload_n 0, 1) := by decide +kernel
theorem dX3_parseBlock_21 : decode cX3_parseBlock 21 = .ok (.bipush 40, 2) := by decide +kernel
theorem dX3_parseBlock_23 : decode cX3_parseBlock 23 = .ok (.invokevirtual 66, 3) := by decide +kernel
theorem dX3_parseBlock_26 : decode cX3_parseBlock 26 = .ok (.ifCond .eq 26, 3) := by decide +kernel
theorem dX3_parseBlock_29 : decode cX3_parseBlock 29 = .ok (.aload_n 0, 1) := by decide +kernel
theorem dX3_parseBlock_30 : decode cX3_parseBlock 30 = .ok (.iload_n 1, 1) := by decide +kernel
theorem dX3_parseBlock_31 : decode cX3_parseBlock 31 = .ok (.iconst 1, 1) := by decide +kernel
theorem dX3_parseBlock_32 : decode cX3_parseBlock 32 = .ok (.iadd, 1) := by decide +kernel
theorem dX3_parseBlock_33 : decode cX3_parseBlock 33 = .ok (.invokevirtual 62, 3) := by decide +kernel
theorem dX3_parseBlock_36 : decode cX3_parseBlock 36 = .ok (.ifCond .eq 16, 3) := by decide +kernel
theorem dX3_parseBlock_39 : decode cX3_parseBlock 39 = .ok (.aload_n 0, 1) := by decide +kernel
theorem dX3_parseBlock_40 : decode cX3_parseBlock 40 = .ok (.bipush 41, 2) := by decide +kernel
theorem dX3_parseBlock_42 : decode cX3_parseBlock 42 = .ok (.invokevirtual 66, 3) := by decide +kernel
theorem dX3_parseBlock_45 : decode cX3_parseBlock 45 = .ok (.ifCond .eq 7, 3) := by decide +kernel
theorem dX3_parseBlock_48 : decode cX3_parseBlock 48 = .ok (.iconst 1, 1) := by decide +kernel
theorem dX3_parseBlock_49 : decode cX3_parseBlock 49 = .ok (.goto 4, 3) := by decide +kernel
theorem dX3_parseBlock_52 : decode cX3_parseBlock 52 = .ok (.iconst 0, 1) := by decide +kernel
theorem dX3_parseBlock_53 : decode cX3_parseBlock 53 = .ok (.ireturn, 1) := by decide +kernel
theorem dX3_parseNumbers_0 : decode cX3_parseNumbers 0 = .ok (.iload_n 2, 1) := by decide +kernel
theorem dX3_parseNumbers_1 : decode cX3_parseNumbers 1 = .ok (.sipush 256, 3) := by decide +kernel
theorem dX3_parseNumbers_4 : decode cX3_parseNumbers 4 = .ok (.isub, 1) := by decide +kernel
theorem dX3_parseNumbers_5 : decode cX3_parseNumbers 5 = .ok (.istore_n 3, 1) := by decide +kernel
theorem dX3_parseNumbers_6 : decode cX3_parseNumbers 6 = .ok (.iload_n 3, 1) := by decide +kernel
theorem dX3_parseNumbers_7 : decode cX3_parseNumbers 7 = .ok (.ifCond .lt 19, 3) := by decide +kernel
theorem dX3_parseNumbers_10 : decode cX3_parseNumbers 10 = .ok (.iload_n 3, 1) := by decide +kernel
theorem dX3_parseNumbers_11 : decode cX3_parseNumbers 11 = .ok (.getstatic 106, 3) := by decide +kernel
theorem dX3_parseNumbers_14 : decode cX3_parseNumbers 14 = .ok (.arraylength, 1) := by decide +kernel
theorem dX3_parseNumbers_15 : decode cX3_parseNumbers 15 = .ok (.if_icmp .ge 11, 3) := by decide +kernel
theorem dX3_parseNumbers_18 : decode cX3_parseNumbers 18 = .ok (.getstatic 106, 3) := by decide +kernel
theorem dX3_parseNumbers_21 : decode cX3_parseNumbers 21 = .ok (.iload_n 3, 1) := by decide +kernel
theorem dX3_parseNumbers_22 : decode cX3_parseNumbers 22 = .ok (.iaload, 1) := by decide +kernel
theorem dX3_parseNumbers_23 : decode cX3_parseNumbers 23 = .ok (.goto 4, 3) := by decide +kernel
theorem dX3_parseNumbers_26 : decode cX3_parseNumbers 26 = .ok (.iconst 0, 1) := by decide +kernel
theorem dX3_parseNumbers_27 : decode cX3_parseNumbers 27 = .ok (.istore 4, 2) := by decide +kernel
theorem dX3_parseNumbers_29 : decode cX3_parseNumbers 29 = .ok (.iconst 0, 1) := by decide +kernel
theorem dX3_parseNumbers_30 : decode cX3_parseNumbers 30 = .ok (.istore 5, 2) := by decide +kernel
theorem dX3_parseNumbers_32 : decode cX3_parseNumbers 32 = .ok (.iload 5, 2) := by decide +kernel
theorem dX3_parseNumbers_34 : decode cX3_parseNumbers 34 = .ok (.iload 4, 2) := by decide +kernel
theorem dX3_parseNumbers_36 : decode cX3_parseNumbers 36 = .ok (.if_icmp .ge 76, 3) := by decide +kernel
theorem dX3_parseNumbers_39 : decode cX3_parseNumbers 39 = .ok (.aload_n 0, 1) := by decide +kernel
theorem dX3_parseNumbers_40 : decode cX3_parseNumbers 40 = .ok (.getfield 12, 3) := by decide +kernel
theorem dX3_parseNumbers_43 : decode cX3_parseNumbers 43 = .ok (.getfield 110, 3) := by decide +kernel
theorem dX3_parseNumbers_46 : decode cX3_parseNumbers 46 = .ok (.aload_n 0, 1) := by decide +kernel
theorem dX3_parseNumbers_47 : decode cX3_parseNumbers 47 = .ok (.getfield 56, 3) := by decide +kernel
theorem dX3_parseNumbers_50 : decode cX3_parseNumbers 50 = .ok (.invokevirtual 72, 3) := by decide +kernel
theorem dX3_parseNumbers_53 : decode cX3_parseNumbers 53 = .ok (.istore 6, 2) := by decide +kernel
theorem dX3_parseNumbers_55 : decode cX3_parseNumbers 55 = .ok (.aload_n 0, 1) := by decide +kernel
theorem dX3_parseNumbers_56 : decode cX3_parseNumbers 56 = .ok (.invokevirtual 81, 3) := by decide +kernel
theorem dX3_parseNumbers_59 : decode cX3_parseNumbers 59 = .ok (.sipush 301, 3) := by decide +kernel
theorem dX3_parseNumbers_62 : decode cX3_parseNumbers 62 = .ok (.if_icmp .ne 23, 3) := by decide +kernel
theorem dX3_parseNumbers_65 : decode cX3_parseNumbers 65 = .ok (.iload_n 2, 1) := by decide +kernel
theorem dX3_parseNumbers_66 : decode cX3_parseNumbers 66 = .ok (.sipush 267, 3) := by decide +kernel
theorem dX3_parseNumbers_69 : decode cX3_parseNumbers 69 = .ok (.if_icmp .ne 16, 3) := by decide +kernel
theorem dX3_parseNumbers_72 : decode cX3_parseNumbers 72 = .ok (.iload 6, 2) := by decide +kernel
theorem dX3_parseNumbers_74 : decode cX3_parseNumbers 74 = .ok (.bipush 50, 2) := by decide +kernel
theorem dX3_parseNumbers_76 : decode cX3_parseNumbers 76 = .ok (.if_icmp .le 9, 3) := by decide +kernel
theorem dX3_parseNumbers_79 : decode cX3_parseNumbers 79 = .ok (.aload_n 0, 1) := by decide +kernel
theorem dX3_parseNumbers_80 : decode cX3_parseNumbers 80 = .ok (.iconst 2, 1) := by decide +kernel
theorem dX3_parseNumbers_81 : decode cX3_parseNumbers 81 = .ok (.invokevirtual 78, 3) := by decide +kernel
theorem dX3_parseNumbers_84 : decode cX3_parseNumbers 84 = .ok (.ireturn, 1) := by decide +kernel
theorem dX3_parseNumbers_85 : decode cX3_parseNumbers 85 = .ok (.aload_n 0, 1) := by decide +kernel
theorem dX3_parseNumbers_86 : decode cX3_parseNumbers 86 = .ok (.sipush 301, 3) := by decide +kernel
theorem dX3_parseNumbers_89 : decode cX3_parseNumbers 89 = .ok (.invokevirtual 66, 3) := by decide +kernel
theorem dX3_parseNumbers_92 : decode cX3_parseNumbers 92 = .ok (.ifCond .ne 5, 3) := by decide +kernel
theorem dX3_parseNumbers_95 : decode cX3_parseNumbers 95 = .ok (.iconst 0, 1) := by decide +kernel
theorem dX3_parseNumbers_96 : decode cX3_parseNumbers 96 = .ok (.ireturn, 1) := by decide +kernel
theorem dX3_parseNumbers_97 : decode cX3_parseNumbers 97 = .ok (.aload_n 0, 1) := by decide +kernel
theorem dX3_parseNumbers_98 : decode cX3_parseNumbers 98 = .ok (.iload_n 1, 1) := by decide +kernel
theorem dX3_parseNumbers_99 : decode cX3_parseNumbers 99 = .ok (.iload 5, 2) := by decide +kernel
theorem dX3_parseNumbers_101 : decode cX3_parseNumbers 101 = .ok (.iload 6, 2) := by decide +kernel
theorem dX3_parseNumbers_103 : decode cX3_parseNumbers 103 = .ok (.invokevirtual 113, 3) := by decide +kernel
theorem dX3_parseNumbers_106 : decode cX3_parseNumbers 106 = .ok (.iinc 5 1, 3) := by decide +kernel
theorem dX3_parseNumbers_109 : decode cX3_parseNumbers 109 = .ok (.goto (-77), 3) := by decide +kernel
theorem dX3_parseNumbers_112 : decode cX3_parseNumbers 112 = .ok (.iload_n 2, 1) := by decide +kernel
theorem dX3_parseNumbers_113 : decode cX3_parseNumbers 113 = .ok (.sipush 259, 3) := by decide +kernel
theorem dX3_parseNumbers_116 : decode cX3_parseNumbers 116 = .ok (.sipush 262, 3) := by decide +kernel
theorem dX3_parseNumbers_119 : decode cX3_parseNumbers 119 = .ok (.invokestatic 85, 3) := by decide +kernel
theorem dX3_parseNumbers_122 : decode cX3_parseNumbers 122 = .ok (.ifCond .eq 11, 3) := by decide +kernel
theorem dX3_parseNumbers_125 : decode cX3_parseNumbers 125 = .ok (.aload_n 0, 1) := by decide +kernel
theorem dX3_parseNumbers_126 : decode cX3_parseNumbers 126 = .ok (.iload_n 1, 1) := by decide +kernel
theorem dX3_parseNumbers_127 : decode cX3_parseNumbers 127 = .ok (.invokevirtual 117, 3) := by decide +kernel
theorem dX3_parseNumbers_130 : decode cX3_parseNumbers 130 = .ok (.ifCond .eq 7, 3) := by decide +kernel
theorem dX3_parseNumbers_133 : decode cX3_parseNumbers 133 = .ok (.iconst 1, 1) := by decide +kernel
theorem dX3_parseNumbers_134 : decode cX3_parseNumbers 134 = .ok (.goto 4, 3) := by decide +kernel
theorem dX3_parseNumbers_137 : decode cX3_parseNumbers 137 = .ok (.iconst 0, 1) := by decide +kernel
theorem dX3_parseNumbers_138 : decode cX3_parseNumbers 138 = .ok (.ireturn, 1) := by decide +kernel
theorem dX3_putNumber_0 : decode cX3_putNumber 0 = .ok (.iload_n 2, 1) := by decide +kernel
theorem dX3_putNumber_1 : decode cX3_putNumber 1 = .ok (.ifCond .ne 15, 3) := by decide +kernel
theorem dX3_putNumber_4 : decode cX3_putNumber 4 = .ok (.aload_n 0, 1) := by decide +kernel
theorem dX3_putNumber_5 : decode cX3_putNumber 5 = .ok (.getfield 30, 3) := by decide +kernel
theorem dX3_putNumber_8 : decode cX3_putNumber 8 = .ok (.iload_n 1, 1) := by decide +kernel
theorem dX3_putNumber_9 : decode cX3_putNumber 9 = .ok (.iload_n 3, 1) := by decide +kernel
theorem dX3_putNumber_10 : decode cX3_putNumber 10 = .ok (.invokevirtual 92, 3) := by decide +kernel
theorem dX3_putNumber_13 : decode cX3_putNumber 13 = .ok (.goto 29, 3) := by decide +kernel
theorem dX3_putNumber_16 : decode cX3_putNumber 16 = .ok (.iload_n 2, 1) := by decide +kernel
theorem dX3_putNumber_17 : decode cX3_putNumber 17 = .ok (.iconst 1, 1) := by decide +kernel
theorem dX3_putNumber_18 : decode cX3_putNumber 18 = .ok (.if_icmp .ne 15, 3) := by decide +kernel
theorem dX3_putNumber_21 : decode cX3_putNumber 21 = .ok (.aload_n 0, 1) := by decide +kernel
theorem dX3_putNumber_22 : decode cX3_putNumber 22 = .ok (.getfield 33, 3) := by decide +kernel
theorem dX3_putNumber_25 : decode cX3_putNumber 25 = .ok (.iload_n 1, 1) := by decide +kernel
theorem dX3_putNumber_26 : decode cX3_putNumber 26 = .ok (.iload_n 3, 1) := by decide +kernel
theorem dX3_putNumber_27 : decode cX3_putNumber 27 = .ok (.invokevirtual 92, 3) := by decide +kernel
theorem dX3_putNumber_30 : decode cX3_putNumber 30 = .ok (.goto 12, 3) := by decide +kernel
theorem dX3_putNumber_33 : decode cX3_putNumber 33 = .ok (.aload_n 0, 1) := by decide +kernel
theorem dX3_putNumber_34 : decode cX3_putNumber 34 = .ok (.getfield 36, 3) := by decide +kernel
theorem dX3_putNumber_37 : decode cX3_putNumber 37 = .ok (.iload_n 1, 1) := by decide +kernel
theorem dX3_putNumber_38 : decode cX3_putNumber 38 = .ok (.iload_n 3, 1) := by decide +kernel
theorem dX3_putNumber_39 : decode cX3_putNumber 39 = .ok (.invokevirtual 92, 3) := by decide +kernel
theorem dX3_putNumber_42 : decode cX3_putNumber 42 = .ok (.return_, 1) := by decide +kernel
theorem dX3_parseTransaction_0 : decode cX3_parseTransaction 0 = .ok (.aload_n 0, 1) := by decide +kernel
theorem dX3_parseTransaction_1 : decode cX3_parseTransaction 1 = .ok (.invokevirtual 81, 3) := by decide +kernel
theorem dX3_parseTransaction_4 : decode cX3_parseTransaction 4 = .ok (.sipush 269, 3) := by decide +kernel
theorem dX3_parseTransaction_7 : decode cX3_parseTransaction 7 = .ok (.if_icmp .eq 5, 3) := by decide +kernel
theorem dX3_parseTransaction_10 : decode cX3_parseTransaction 10 = .ok (.iconst 1, 1) := by decide +kernel
theorem dX3_parseTransaction_11 : decode cX3_parseTransaction 11 = .ok (.ireturn, 1) := by decide +kernel
theorem dX3_parseTransaction_12 : decode cX3_parseTransaction 12 = .ok (.aload_n 0, 1) := by decide +kernel
theorem dX3_parseTransaction_13 : decode cX3_parseTransaction 13 = .ok (.dup, 1) := by decide +kernel
theorem dX3_parseTransaction_14 : decode cX3_parseTransaction 14 = .ok (.getfield 56, 3) := by decide +kernel
theorem dX3_parseTransaction_17 : decode cX3_parseTransaction 17 = .ok (.iconst 1, 1) := by decide +kernel
theorem dX3_parseTransaction_18 : decode cX3_parseTransaction 18 = .ok (.iadd, 1) := by decide +kernel
theorem dX3_parseTransaction_19 : decode cX3_parseTransaction 19 = .ok (.putfield 56, 3) := by decide +kernel
theorem dX3_parseTransaction_22 : decode cX3_parseTransaction 22 = .ok (.aload_n 0, 1) := by decide +kernel
theorem dX3_parseTransaction_23 : decode cX3_parseTransaction 23 = .ok (.getfield 39, 3) := by decide +kernel
theorem dX3_parseTransaction_26 : decode cX3_parseTransaction 26 = .ok (.iload_n 1, 1) := by decide +kernel
theorem dX3_parseTransaction_27 : decode cX3_parseTransaction 27 = .ok (.aload_n 0, 1) := by decide +kernel
theorem dX3_parseTransaction_28 : decode cX3_parseTransaction 28 = .ok (.getfield 12, 3) := by decide +kernel
theorem dX3_parseTransaction_31 : decode cX3_parseTransaction 31 = .ok (.getfield 110, 3) := by decide +kernel
theorem dX3_parseTransaction_34 : decode cX3_parseTransaction 34 = .ok (.aload_n 0, 1) := by decide +kernel
theorem dX3_parseTransaction_35 : decode cX3_parseTransaction 35 = .ok (.getfield 56, 3) := by decide +kernel
theorem dX3_parseTransaction_38 : decode cX3_parseTransaction 38 = .ok (.invokevirtual 72, 3) := by decide +kernel
theorem dX3_parseTransaction_41 : decode cX3_parseTransaction 41 = .ok (.invokevirtual 92, 3) := by decide +kernel
theorem dX3_parseTransaction_44 : decode cX3_parseTransaction 44 = .ok (.aload_n 0, 1) := by decide +kernel
theorem dX3_parseTransaction_45 : decode cX3_parseTransaction 45 = .ok (.sipush 301, 3) := by decide +kernel
theorem dX3_parseTransaction_48 : decode cX3_parseTransaction 48 = .ok (.invokevirtual 66, 3) := by decide +kernel
theorem dX3_parseTransaction_51 : decode cX3_parseTransaction 51 = .ok (.ireturn, 1) := by decide +kernel
theorem dX3_parseComparison_0 : decode cX3_parseComparison 0 = .ok (.aload_n 0, 1) := by decide +kernel
theorem dX3_parseComparison_1 : decode cX3_parseComparison 1 = .ok (.getfield 30, 3) := by decide +kernel
theorem dX3_parseComparison_4 : decode cX3_parseComparison 4 = .ok (.iload_n 1, 1) := by decide +kernel
theorem dX3_parseComparison_5 : decode cX3_parseComparison 5 = .ok (.aload_n 0, 1) := by decide +kernel
theorem dX3_parseComparison_6 : decode cX3_parseComparison 6 = .ok (.getfield 56, 3) := by decide +kernel
theorem dX3_parseComparison_9 : decode cX3_parseComparison 9 = .ok (.invokevirtual 92, 3) := by decide +kernel
theorem dX3_parseComparison_12 : decode cX3_parseComparison 12 = .ok (.aload_n 0, 1) := by decide +kernel
theorem dX3_parseComparison_13 : decode cX3_parseComparison 13 = .ok (.invokevirtual 120, 3) := by decide +kernel
theorem dX3_parseComparison_16 : decode cX3_parseComparison 16 = .ok (.ifCond .ne 5, 3) := by decide +kernel
theorem dX3_parseComparison_19 : decode cX3_parseComparison 19 = .ok (.iconst 0, 1) := by decide +kernel
theorem dX3_parseComparison_20 : decode cX3_parseComparison 20 = .ok (.ireturn, 1) := by decide +kernel
theorem dX3_parseComparison_21 : decode cX3_parseComparison 21 = .ok (.aload_n 0, 1) := by decide +kernel
theorem dX3_parseComparison_22 : decode cX3_parseComparison 22 = .ok (.getfield 33, 3) := by decide +kernel
theorem dX3_parseComparison_25 : decode cX3_parseComparison 25 = .ok (.iload_n 1, 1) := by decide +kernel
theorem dX3_parseComparison_26 : decode cX3_parseComparison 26 = .ok (.aload_n 0, 1) := by decide +kernel
theorem dX3_parseComparison_27 : decode cX3_parseComparison 27 = .ok (.getfield 56, 3) := by decide +kernel
theorem dX3_parseComparison_30 : decode cX3_parseComparison 30 = .ok (.invokevirtual 92, 3) := by decide +kernel
theorem dX3_parseComparison_33 : decode cX3_parseComparison 33 = .ok (.aload_n 0, 1) := by decide +kernel
theorem dX3_parseComparison_34 : decode cX3_parseComparison 34 = .ok (.invokevirtual 81, 3) := by decide +kernel
theorem dX3_parseComparison_37 : decode cX3_parseComparison 37 = .ok (.bipush 60, 2) := by decide +kernel
theorem dX3_parseComparison_39 : decode cX3_parseComparison 39 = .ok (.if_icmp .eq 27, 3) := by decide +kernel
theorem dX3_parseComparison_42 : decode cX3_parseComparison 42 = .ok (.aload_n 0, 1) := by decide +kernel
theorem dX3_parseComparison_43 : decode cX3_parseComparison 43 = .ok (.invokevirtual 81, 3) := by decide +kernel
theorem dX3_parseComparison_46 : decode cX3_parseComparison 46 = .ok (.bipush 61, 2) := by decide +kernel
theorem dX3_parseComparison_48 : decode cX3_parseComparison 48 = .ok (.if_icmp .eq 18, 3) := by decide +kernel
theorem dX3_parseComparison_51 : decode cX3_parseComparison 51 = .ok (.aload_n 0, 1) := by decide +kernel
theorem dX3_parseComparison_52 : decode cX3_parseComparison 52 = .ok (.invokevirtual 81, 3) := by decide +kernel
theorem dX3_parseComparison_55 : decode cX3_parseComparison 55 = .ok (.bipush 62, 2) := by decide +kernel
theorem dX3_parseComparison_57 : decode cX3_parseComparison 57 = .ok (.if_icmp .eq 9, 3) := by decide +kernel
theorem dX3_parseComparison_60 : decode cX3_parseComparison 60 = .ok (.aload_n 0, 1) := by decide +kernel
theorem dX3_parseComparison_61 : decode cX3_parseComparison 61 = .ok (.iconst 1, 1) := by decide +kernel
theorem dX3_parseComparison_62 : decode cX3_parseComparison 62 = .ok (.invokevirtual 78, 3) := by decide +kernel
theorem dX3_parseComparison_65 : decode cX3_parseComparison 65 = .ok (.ireturn, 1) := by decide +kernel
theorem dX3_parseComparison_66 : decode cX3_parseComparison 66 = .ok (.aload_n 0, 1) := by decide +kernel
theorem dX3_parseComparison_67 : decode cX3_parseComparison 67 = .ok (.dup, 1) := by decide +kernel
theorem dX3_parseComparison_68 : decode cX3_parseComparison 68 = .ok (.getfield 56, 3) := by decide +kernel
theorem dX3_parseComparison_71 : decode cX3_parseComparison 71 = .ok (.iconst 1, 1) := by decide +kernel
theorem dX3_parseComparison_72 : decode cX3_parseComparison 72 = .ok (.iadd, 1) := by decide +kernel
theorem dX3_parseComparison_73 : decode cX3_parseComparison 73 = .ok (.putfield 56, 3) := by decide +kernel
theorem dX3_parseComparison_76 : decode cX3_parseComparison 76 = .ok (.aload_n 0, 1) := by decide +kernel
theorem dX3_parseComparison_77 : decode cX3_parseComparison 77 = .ok (.invokevirtual 120, 3) := by decide +kernel
theorem dX3_parseComparison_80 : decode cX3_parseComparison 80 = .ok (.istore_n 2, 1) := by decide +kernel
theorem dX3_parseComparison_81 : decode cX3_parseComparison 81 = .ok (.aload_n 0, 1) := by decide +kernel
theorem dX3_parseComparison_82 : decode cX3_parseComparison 82 = .ok (.getfield 36, 3) := by decide +kernel
theorem dX3_parseComparison_85 : decode cX3_parseComparison 85 = .ok (.iload_n 1, 1) := by decide +kernel
theorem dX3_parseComparison_86 : decode cX3_parseComparison 86 = .ok (.aload_n 0, 1) := by decide +kernel
theorem dX3_parseComparison_87 : decode cX3_parseComparison 87 = .ok (.getfield 56, 3) := by decide +kernel
theorem dX3_parseComparison_90 : decode cX3_parseComparison 90 = .ok (.invokevirtual 92, 3) := by decide +kernel
theorem dX3_parseComparison_93 : decode cX3_parseComparison 93 = .ok (.iload_n 2, 1) := by decide +kernel
theorem dX3_parseComparison_94 : decode cX3_parseComparison 94 = .ok (.ireturn, 1) := by decide +kernel
theorem dX3_parseSum_0 : decode cX3_parseSum 0 = .ok (.iconst 0, 1) := by decide +kernel
theorem dX3_parseSum_1 : decode cX3_parseSum 1 = .ok (.istore_n 1, 1) := by decide +kernel
theorem dX3_parseSum_2 : decode cX3_parseSum 2 = .ok (.iload_n 1, 1) := by decide +kernel
theorem dX3_parseSum_3 : decode cX3_parseSum 3 = .ok (.sipush 900, 3) := by decide +kernel
theorem dX3_parseSum_6 : decode cX3_parseSum 6 = .ok (.if_icmp .ge 48, 3) := by decide +kernel
theorem dX3_parseSum_9 : decode cX3_parseSum 9 = .ok (.aload_n 0, 1) := by decide +kernel
theorem dX3_parseSum_10 : decode cX3_parseSum 10 = .ok (.invokevirtual 124, 3) := by decide +kernel
theorem dX3_parseSum_13 : decode cX3_parseSum 13 = .ok (.ifCond .ne 5, 3) := by decide +kernel
theorem dX3_parseSum_16 : decode cX3_parseSum 16 = .ok (.iconst 0, 1) := by decide +kernel
theorem dX3_parseSum_17 : decode cX3_parseSum 17 = .ok (.ireturn, 1) := by decide +kernel
theorem dX3_parseSum_18 : decode cX3_parseSum 18 = .ok (.aload_n 0, 1) := by decide +kernel
theorem dX3_parseSum_19 : decode cX3_parseSum 19 = .ok (.invokevirtual 81, 3) := by decide +kernel
theorem dX3_parseSum_22 : decode cX3_parseSum 22 = .ok (.bipush 43, 2) := by decide +kernel
theorem dX3_parseSum_24 : decode cX3_parseSum 24 = .ok (.if_icmp .eq 14, 3) := by decide +kernel
theorem dX3_parseSum_27 : decode cX3_parseSum 27 = .ok (.aload_n 0, 1) := by decide +kernel
theorem dX3_parseSum_28 : decode cX3_parseSum 28 = .ok (.invokevirtual 81, 3) := by decide +kernel
theorem dX3_parseSum_31 : decode cX3_parseSum 31 = .ok (.bipush 45, 2) := by decide +kernel
theorem dX3_parseSum_33 : decode cX3_parseSum 33 = .ok (.if_icmp .eq 5, 3) := by decide +kernel
theorem dX3_parseSum_36 : decode cX3_parseSum 36 = .ok (.iconst 1, 1) := by decide +kernel
theorem dX3_parseSum_37 : decode cX3_parseSum 37 = .ok (.ireturn, 1) := by decide +kernel
theorem dX3_parseSum_38 : decode cX3_parseSum 38 = .ok (.aload_n 0, 1) := by decide +kernel
theorem dX3_parseSum_39 : decode cX3_parseSum 39 = .ok (.dup, 1) := by decide +kernel
theorem dX3_parseSum_40 : decode cX3_parseSum 40 = .ok (.getfield 56, 3) := by decide +kernel
theorem dX3_parseSum_43 : decode cX3_parseSum 43 = .ok (.iconst 1, 1) := by decide +kernel
theorem dX3_parseSum_44 : decode cX3_parseSum 44 = .ok (.iadd, 1) := by decide +kernel
theorem dX3_parseSum_45 : decode cX3_parseSum 45 = .ok (.putfield 56, 3) := by decide +kernel
theorem dX3_parseSum_48 : decode cX3_parseSum 48 = .ok (.iinc 1 1, 3) := by decide +kernel
theorem dX3_parseSum_51 : decode cX3_parseSum 51 = .ok (.goto (-49), 3) := by decide +kernel
theorem dX3_parseSum_54 : decode cX3_parseSum 54 = .ok (.aload_n 0, 1) := by decide +kernel
theorem dX3_parseSum_55 : decode cX3_parseSum 55 = .ok (.iconst 1, 1) := by decide +kernel
theorem dX3_parseSum_56 : decode cX3_parseSum 56 = .ok (.invokevirtual 78, 3) := by decide +kernel
theorem dX3_parseSum_59 : decode cX3_parseSum 59 = .ok (.ireturn, 1) := by decide +kernel
theorem dX3_parseAtom_0 : decode cX3_parseAtom 0 = .ok (.aload_n 0, 1) := by decide +kernel
theorem dX3_parseAtom_1 : decode cX3_parseAtom 1 = .ok (.getfield 12, 3) := by decide +kernel
theorem dX3_parseAtom_4 : decode cX3_parseAtom 4 = .ok (.getfield 75, 3) := by decide +kernel
theorem dX3_parseAtom_7 : decode cX3_parseAtom 7 = .ok (.aload_n 0, 1) := by decide +kernel
theorem dX3_parseAtom_8 : decode cX3_parseAtom 8 = .ok (.getfield 56, 3) := by decide +kernel
theorem dX3_parseAtom_11 : decode cX3_parseAtom 11 = .ok (.invokevirtual 72, 3) := by decide +kernel
theorem dX3_parseAtom_14 : decode cX3_parseAtom 14 = .ok (.sipush 273, 3) := by decide +kernel
theorem dX3_parseAtom_17 : decode cX3_parseAtom 17 = .ok (.if_icmp .ne 7, 3) := by decide +kernel
theorem dX3_parseAtom_20 : decode cX3_parseAtom 20 = .ok (.iconst 1, 1) := by decide +kernel
theorem dX3_parseAtom_21 : decode cX3_parseAtom 21 = .ok (.goto 4, 3) := by decide +kernel
theorem dX3_parseAtom_24 : decode cX3_parseAtom 24 = .ok (.iconst 0, 1) := by decide +kernel
theorem dX3_parseAtom_25 : decode cX3_parseAtom 25 = .ok (.istore_n 1, 1) := by decide +kernel
theorem dX3_parseAtom_26 : decode cX3_parseAtom 26 = .ok (.iload_n 1, 1) := by decide +kernel
theorem dX3_parseAtom_27 : decode cX3_parseAtom 27 = .ok (.ifCond .eq 13, 3) := by decide +kernel
theorem dX3_parseAtom_30 : decode cX3_parseAtom 30 = .ok (.aload_n 0, 1) := by decide +kernel
theorem dX3_parseAtom_31 : decode cX3_parseAtom 31 = .ok (.dup, 1) := by decide +kernel
theorem dX3_parseAtom_32 : decode cX3_parseAtom 32 = .ok (.getfield 56, 3) := by decide +kernel
theorem dX3_parseAtom_35 : decode cX3_parseAtom 35 = .ok (.iconst 1, 1) := by decide +kernel
theorem dX3_parseAtom_36 : decode cX3_parseAtom 36 = .ok (.iadd, 1) := by decide +kernel
theorem dX3_parseAtom_37 : decode cX3_parseAtom 37 = .ok (.putfield 56, 3) := by decide +kernel
theorem dX3_parseAtom_40 : decode cX3_parseAtom 40 = .ok (.aload_n 0, 1) := by decide +kernel
theorem dX3_parseAtom_41 : decode cX3_parseAtom 41 = .ok (.getfield 12, 3) := by decide +kernel
theorem dX3_parseAtom_44 : decode cX3_parseAtom 44 = .ok (.getfield 75, 3) := by decide +kernel
theorem dX3_parseAtom_47 : decode cX3_parseAtom 47 = .ok (.aload_n 0, 1) := by decide +kernel
theorem dX3_parseAtom_48 : decode cX3_parseAtom 48 = .ok (.getfield 56, 3) := by decide +kernel
theorem dX3_parseAtom_51 : decode cX3_parseAtom 51 = .ok (.invokevirtual 72, 3) := by decide +kernel
theorem dX3_parseAtom_54 : decode cX3_parseAtom 54 = .ok (.istore_n 2, 1) := by decide +kernel
theorem dX3_parseAtom_55 : decode cX3_parseAtom 55 = .ok (.iload_n 2, 1) := by decide +kernel
theorem dX3_parseAtom_56 : decode cX3_parseAtom 56 = .ok (.sipush 301, 3) := by decide +kernel
theorem dX3_parseAtom_59 : decode cX3_parseAtom 59 = .ok (.if_icmp .eq 26, 3) := by decide +kernel
theorem dX3_parseAtom_62 : decode cX3_parseAtom 62 = .ok (.iload_n 1, 1) := by decide +kernel
theorem dX3_parseAtom_63 : decode cX3_parseAtom 63 = .ok (.ifCond .ne 16, 3) := by decide +kernel
theorem dX3_parseAtom_66 : decode cX3_parseAtom 66 = .ok (.iload_n 2, 1) := by decide +kernel
theorem dX3_parseAtom_67 : decode cX3_parseAtom 67 = .ok (.sipush 270, 3) := by decide +kernel
theorem dX3_parseAtom_70 : decode cX3_parseAtom 70 = .ok (.sipush 272, 3) := by decide +kernel
theorem dX3_parseAtom_73 : decode cX3_parseAtom 73 = .ok (.invokestatic 85, 3) := by decide +kernel
theorem dX3_parseAtom_76 : decode cX3_parseAtom 76 = .ok (.ifCond .ne 9, 3) := by decide +kernel
theorem dX3_parseAtom_79 : decode cX3_parseAtom 79 = .ok (.aload_n 0, 1) := by decide +kernel
theorem dX3_parseAtom_80 : decode cX3_parseAtom 80 = .ok (.iconst 1, 1) := by decide +kernel
theorem dX3_parseAtom_81 : decode cX3_parseAtom 81 = .ok (.invokevirtual 78, 3) := by decide +kernel
theorem dX3_parseAtom_84 : decode cX3_parseAtom 84 = .ok (.ireturn, 1) := by decide +kernel
theorem dX3_parseAtom_85 : decode cX3_parseAtom 85 = .ok (.aload_n 0, 1) := by decide +kernel
theorem dX3_parseAtom_86 : decode cX3_parseAtom 86 = .ok (.dup, 1) := by decide +kernel
theorem dX3_parseAtom_87 : decode cX3_parseAtom 87 = .ok (.getfield 56, 3) := by decide +kernel
theorem dX3_parseAtom_90 : decode cX3_parseAtom 90 = .ok (.iconst 1, 1) := by decide +kernel
theorem dX3_parseAtom_91 : decode cX3_parseAtom 91 = .ok (.iadd, 1) := by decide +kernel
theorem dX3_parseAtom_92 : decode cX3_parseAtom 92 = .ok (.putfield 56, 3) := by decide +kernel
theorem dX3_parseAtom_95 : decode cX3_parseAtom 95 = .ok (.iconst 1, 1) := by decide +kernel
theorem dX3_parseAtom_96 : decode cX3_parseAtom 96 = .ok (.ireturn, 1) := by decide +kernel
theorem dX4_init_0 : decode cX4_init 0 = .ok (.aload_n 0, 1) := by decide +kernel
theorem dX4_init_1 : decode cX4_init 1 = .ok (.invokespecial 3, 3) := by decide +kernel
theorem dX4_init_4 : decode cX4_init 4 = .ok (.aload_n 0, 1) := by decide +kernel
theorem dX4_init_5 : decode cX4_init 5 = .ok (.new 9, 3) := by decide +kernel
theorem dX4_init_8 : decode cX4_init 8 = .ok (.dup, 1) := by decide +kernel
theorem dX4_init_9 : decode cX4_init 9 = .ok (.sipush 400, 3) := by decide +kernel
theorem dX4_init_12 : decode cX4_init 12 = .ok (.invokespecial 11, 3) := by decide +kernel
theorem dX4_init_15 : decode cX4_init 15 = .ok (.putfield 14, 3) := by decide +kernel
theorem dX4_init_18 : decode cX4_init 18 = .ok (.aload_n 0, 1) := by decide +kernel
theorem dX4_init_19 : decode cX4_init 19 = .ok (.new 9, 3) := by decide +kernel
theorem dX4_init_22 : decode cX4_init 22 = .ok (.dup, 1) := by decide +kernel
theorem dX4_init_23 : decode cX4_init 23 = .ok (.sipush 400, 3) := by decide +kernel
theorem dX4_init_26 : decode cX4_init 26 = .ok (.invokespecial 11, 3) := by decide +kernel
theorem dX4_init_29 : decode cX4_init 29 = .ok (.putfield 20, 3) := by decide +kernel
theorem dX4_init_32 : decode cX4_init 32 = .ok (.aload_n 0, 1) := by decide +kernel
theorem dX4_init_33 : decode cX4_init 33 = .ok (.new 9, 3) := by decide +kernel
theorem dX4_init_36 : decode cX4_init 36 = .ok (.dup, 1) := by decide +kernel
theorem dX4_init_37 : decode cX4_init 37 = .ok (.sipush 400, 3) := by decide +kernel
theorem dX4_init_40 : decode cX4_init 40 = .ok (.invokespecial 11, 3) := by decide +kernel
theorem dX4_init_43 : decode cX4_init 43 = .ok (.putfield 23, 3) := by decide +kernel
theorem dX4_init_46 : decode cX4_init 46 = .ok (.aload_n 0, 1) := by decide +kernel
theorem dX4_init_47 : decode cX4_init 47 = .ok (.new 9, 3) := by decide +kernel
theorem dX4_init_50 : decode cX4_init 50 = .ok (.dup, 1) := by decide +kernel
theorem dX4_init_51 : decode cX4_init 51 = .ok (.sipush 400, 3) := by decide +kernel
theorem dX4_init_54 : decode cX4_init 54 = .ok (.invokespecial 11, 3) := by decide +kernel
theorem dX4_init_57 : decode cX4_init 57 = .ok (.putfield 26, 3) := by decide +kernel
theorem dX4_init_60 : decode cX4_init 60 = .ok (.aload_n 0, 1) := by decide +kernel
theorem dX4_init_61 : decode cX4_init 61 = .ok (.new 9, 3) := by decide +kernel
theorem dX4_init_64 : decode cX4_init 64 = .ok (.dup, 1) := by decide +kernel
theorem dX4_init_65 : decode cX4_init 65 = .ok (.sipush 400, 3) := by decide +kernel
theorem dX4_init_68 : decode cX4_init 68 = .ok (.invokespecial 11, 3) := by decide +kernel
theorem dX4_init_71 : decode cX4_init 71 = .ok (.putfield 29, 3) := by decide +kernel
theorem dX4_init_74 : decode cX4_init 74 = .ok (.aload_n 0, 1) := by decide +kernel
theorem dX4_init_75 : decode cX4_init 75 = .ok (.new 9, 3) := by decide +kernel
theorem dX4_init_78 : decode cX4_init 78 = .ok (.dup, 1) := by decide +kernel
theorem dX4_init_79 : decode cX4_init 79 = .ok (.sipush 400, 3) := by decide +kernel
theorem dX4_init_82 : decode cX4_init 82 = .ok (.invokespecial 11, 3) := by decide +kernel
theorem dX4_init_85 : decode cX4_init 85 = .ok (.putfield 32, 3) := by decide +kernel
theorem dX4_init_88 : decode cX4_init 88 = .ok (.aload_n 0, 1) := by decide +kernel
theorem dX4_init_89 : decode cX4_init 89 = .ok (.new 9, 3) := by decide +kernel
theorem dX4_init_92 : decode cX4_init 92 = .ok (.dup, 1) := by decide +kernel
theorem dX4_init_93 : decode cX4_init 93 = .ok (.sipush 400, 3) := by decide +kernel
theorem dX4_init_96 : decode cX4_init 96 = .ok (.invokespecial 11, 3) := by decide +kernel
theorem dX4_init_99 : decode cX4_init 99 = .ok (.putfield 35, 3) := by decide +kernel
theorem dX4_init_102 : decode cX4_init 102 = .ok (.aload_n 0, 1) := by decide +kernel
theorem dX4_init_103 : decode cX4_init 103 = .ok (.new 9, 3) := by decide +kernel
theorem dX4_init_106 : decode cX4_init 106 = .ok (.dup, 1) := by decide +kernel
theorem dX4_init_107 : decode cX4_init 107 = .ok (.sipush 400, 3) := by decide +kernel
theorem dX4_init_110 : decode cX4_init 110 = .ok (.invokespecial 11, 3) := by decide +kernel
theorem dX4_init_113 : decode cX4_init 113 = .ok (.putfield 38, 3) := by decide +kernel
theorem dX4_init_116 : decode cX4_init 116 = .ok (.aload_n 0, 1) := by decide +kernel
theorem dX4_init_117 : decode cX4_init 117 = .ok (.new 9, 3) := by decide +kernel
theorem dX4_init_120 : decode cX4_init 120 = .ok (.dup, 1) := by decide +kernel
theorem dX4_init_121 : decode cX4_init 121 = .ok (.sipush 400, 3) := by decide +kernel
theorem dX4_init_124 : decode cX4_init 124 = .ok (.invokespecial 11, 3) := by decide +kernel
theorem dX4_init_127 : decode cX4_init 127 = .ok (.putfield 41, 3) := by decide +kernel
theorem dX4_init_130 : decode cX4_init 130 = .ok (.return_, 1) := by decide +kernel
theorem dX4_clear_0 : decode cX4_clear 0 = .ok (.aload_n 0, 1) := by decide +kernel
theorem dX4_clear_1 : decode cX4_clear 1 = .ok (.iconst 0, 1) := by decide +kernel
theorem dX4_clear_2 : decode cX4_clear 2 = .ok (.putfield 44, 3) := by decide +kernel
theorem dX4_clear_5 : decode cX4_clear 5 = .ok (.aload_n 0, 1) := by decide +kernel
theorem dX4_clear_6 : decode cX4_clear 6 = .ok (.iconst 0, 1) := by decide +kernel
theorem dX4_clear_7 : decode cX4_clear 7 = .ok (.putfield 48, 3) := by decide +kernel
theorem dX4_clear_10 : decode cX4_clear 10 = .ok (.return_, 1) := by decide +kernel
theorem dX4_isFull_0 : decode cX4_isFull 0 = .ok (.aload_n 0, 1) := by decide +kernel
theorem dX4_isFull_1 : decode cX4_isFull 1 = .ok (.getfield 44, 3) := by decide +kernel
theorem dX4_isFull_4 : decode cX4_isFull 4 = .ok (.sipush 400, 3) := by decide +kernel
theorem dX4_isFull_7 : decode cX4_isFull 7 = .ok (.if_icmp .lt 7, 3) := by decide +kernel
theorem dX4_isFull_10 : decode cX4_isFull 10 = .ok (.iconst 1, 1) := by decide +kernel
theorem dX4_isFull_11 : decode cX4_isFull 11 = .ok (.goto 4, 3) := by decide +kernel
theorem dX4_isFull_14 : decode cX4_isFull 14 = .ok (.iconst 0, 1) := by decide +kernel
theorem dX4_isFull_15 : decode cX4_isFull 15 = .ok (.ireturn, 1) := by decide +kernel
theorem dX4_sizeOf_0 : decode cX4_sizeOf 0 = .ok (.iload_n 0, 1) := by decide +kernel
theorem dX4_sizeOf_1 : decode cX4_sizeOf 1 = .ok (.ifCond .lt 11, 3) := by decide +kernel
theorem dX4_sizeOf_4 : decode cX4_sizeOf 4 = .ok (.iload_n 0, 1) := by decide +kernel
theorem dX4_sizeOf_5 : decode cX4_sizeOf 5 = .ok (.getstatic 51, 3) := by decide +kernel
theorem dX4_sizeOf_8 : decode cX4_sizeOf 8 = .ok (.arraylength, 1) := by decide +kernel
theorem dX4_sizeOf_9 : decode cX4_sizeOf 9 = .ok (.if_icmp .lt 5, 3) := by decide +kernel
theorem dX4_sizeOf_12 : decode cX4_sizeOf 12 = .ok (.iconst 0, 1) := by decide +kernel
theorem dX4_sizeOf_13 : decode cX4_sizeOf 13 = .ok (.ireturn, 1) := by decide +kernel
theorem dX4_sizeOf_14 : decode cX4_sizeOf 14 = .ok (.iload_n 0, 1) := by decide +kernel
theorem dX4_sizeOf_15 : decode cX4_sizeOf 15 = .ok (.bipush 6, 2) := by decide +kernel
theorem dX4_sizeOf_17 : decode cX4_sizeOf 17 = .ok (.if_icmp .ne 13, 3) := by decide +kernel
theorem dX4_sizeOf_20 : decode cX4_sizeOf 20 = .ok (.getstatic 51, 3) := by decide +kernel
theorem dX4_sizeOf_23 : decode cX4_sizeOf 23 = .ok (.iload_n 0, 1) := by decide +kernel
theorem dX4_sizeOf_24 : decode cX4_sizeOf 24 = .ok (.iaload, 1) := by decide +kernel
theorem dX4_sizeOf_25 : decode cX4_sizeOf 25 = .ok (.iload_n 1, 1) := by decide +kernel
theorem dX4_sizeOf_26 : decode cX4_sizeOf 26 = .ok (.iadd, 1) := by decide +kernel
theorem dX4_sizeOf_27 : decode cX4_sizeOf 27 = .ok (.goto 8, 3) := by decide +kernel
theorem dX4_sizeOf_30 : decode cX4_sizeOf 30 = .ok (.getstatic 51, 3) := by decide +kernel
theorem dX4_sizeOf_33 : decode cX4_sizeOf 33 = .ok (.iload_n 0, 1) := by decide +kernel
theorem dX4_sizeOf_34 : decode cX4_sizeOf 34 = .ok (.iaload, 1) := by decide +kernel
theorem dX4_sizeOf_35 : decode cX4_sizeOf 35 = .ok (.ireturn, 1) := by decide +kernel
theorem dX4_add_0 : decode cX4_add 0 = .ok (.aload_n 0, 1) := by decide +kernel
theorem dX4_add_1 : decode cX4_add 1 = .ok (.invokevirtual 55, 3) := by decide +kernel
theorem dX4_add_4 : decode cX4_add 4 = .ok (.ifCond .eq 5, 3) := by decide +kernel
theorem dX4_add_7 : decode cX4_add 7 = .ok (.iconst (-1), 1) := by decide +kernel
theorem dX4_add_8 : decode cX4_add 8 = .ok (.ireturn, 1) := by decide +kernel
theorem dX4_add_9 : decode cX4_add 9 = .ok (.aload_n 0, 1) := by decide +kernel
theorem dX4_add_10 : decode cX4_add 10 = .ok (.getfield 44, 3) := by decide +kernel
theorem dX4_add_13 : decode cX4_add 13 = .ok (.istore 7, 2) := by decide +kernel
theorem dX4_add_15 : decode cX4_add 15 = .ok (.aload_n 0, 1) := by decide +kernel
theorem dX4_add_16 : decode cX4_add 16 = .ok (.getfield 14, 3) := by decide +kernel
theorem dX4_add_19 : decode cX4_add 19 = .ok (.iload 7, 2) := by decide +kernel
theorem dX4_add_21 : decode cX4_add 21 = .ok (.iload_n 1, 1) := by decide +kernel
theorem dX4_add_22 : decode cX4_add 22 = .ok (.invokevirtual 59, 3) := by decide +kernel
theorem dX4_add_25 : decode cX4_add 25 = .ok (.aload_n 0, 1) := by decide +kernel
theorem dX4_add_26 : decode cX4_add 26 = .ok (.getfield 20, 3) := by decide +kernel
theorem dX4_add_29 : decode cX4_add 29 = .ok (.iload 7, 2) := by decide +kernel
theorem dX4_add_31 : decode cX4_add 31 = .ok (.iload_n 1, 1) := by decide +kernel
theorem dX4_add_32 : decode cX4_add 32 = .ok (.ifCond .ne 8, 3) := by decide +kernel
theorem dX4_add_35 : decode cX4_add 35 = .ok (.iload 7, 2) := by decide +kernel
theorem dX4_add_37 : decode cX4_add 37 = .ok (.goto 4, 3) := by decide +kernel
theorem dX4_add_40 : decode cX4_add 40 = .ok (.iload_n 2, 1) := by decide +kernel
theorem dX4_add_41 : decode cX4_add 41 = .ok (.invokevirtual 59, 3) := by decide +kernel
theorem dX4_add_44 : decode cX4_add 44 = .ok (.aload_n 0, 1) := by decide +kernel
theorem dX4_add_45 : decode cX4_add 45 = .ok (.getfield 23, 3) := by decide +kernel
theorem dX4_add_48 : decode cX4_add 48 = .ok (.iload 7, 2) := by decide +kernel
theorem dX4_add_50 : decode cX4_add 50 = .ok (.iload_n 3, 1) := by decide +kernel
theorem dX4_add_51 : decode cX4_add 51 = .ok (.invokevirtual 59, 3) := by decide +kernel
theorem dX4_add_54 : decode cX4_add 54 = .ok (.aload_n 0, 1) := by decide +kernel
theorem dX4_add_55 : decode cX4_add 55 = .ok (.getfield 26, 3) := by decide +kernel
theorem dX4_add_58 : decode cX4_add 58 = .ok (.iload 7, 2) := by decide +kernel
theorem dX4_add_60 : decode cX4_add 60 = .ok (.iload 4, 2) := by decide +kernel
theorem dX4_add_62 : decode cX4_add 62 = .ok (.invokevirtual 59, 3) := by decide +kernel
theorem dX4_add_65 : decode cX4_add 65 = .ok (.aload_n 0, 1) := by decide +kernel
theorem dX4_add_66 : decode cX4_add 66 = .ok (.getfield 29, 3) := by decide +kernel
theorem dX4_add_69 : decode cX4_add 69 = .ok (.iload 7, 2) := by decide +kernel
theorem dX4_add_71 : decode cX4_add 71 = .ok (.iload 5, 2) := by decide +kernel
theorem dX4_add_73 : decode cX4_add 73 = .ok (.invokevirtual 59, 3) := by decide +kernel
theorem dX4_add_76 : decode cX4_add 76 = .ok (.aload_n 0, 1) := by decide +kernel
theorem dX4_add_77 : decode cX4_add 77 = .ok (.getfield 32, 3) := by decide +kernel
theorem dX4_add_80 : decode cX4_add 80 = .ok (.iload 7, 2) := by decide +kernel
theorem dX4_add_82 : decode cX4_add 82 = .ok (.iload_n 1, 1) := by decide +kernel
theorem dX4_add_83 : decode cX4_add 83 = .ok (.iload 5, 2) := by decide +kernel
theorem dX4_add_85 : decode cX4_add 85 = .ok (.invokestatic 63, 3) := by decide +kernel
theorem dX4_add_88 : decode cX4_add 88 = .ok (.invokevirtual 59, 3) := by decide +kernel
theorem dX4_add_91 : decode cX4_add 91 = .ok (.aload_n 0, 1) := by decide +kernel
theorem dX4_add_92 : decode cX4_add 92 = .ok (.getfield 35, 3) := by decide +kernel
theorem dX4_add_95 : decode cX4_add 95 = .ok (.iload 7, 2) := by decide +kernel
theorem dX4_add_97 : decode cX4_add 97 = .ok (.iload 6, 2) := by decide +kernel
theorem dX4_add_99 : decode cX4_add 99 = .ok (.invokevirtual 59, 3) := by decide +kernel
theorem dX4_add_102 : decode cX4_add 102 = .ok (.aload_n 0, 1) := by decide +kernel
theorem dX4_add_103 : decode cX4_add 103 = .ok (.getfield 38, 3) := by decide +kernel
theorem dX4_add_106 : decode cX4_add 106 = .ok (.iload 7, 2) := by decide +kernel
theorem dX4_add_108 : decode cX4_add 108 = .ok (.iconst (-1), 1) := by decide +kernel
theorem dX4_add_109 : decode cX4_add 109 = .ok (.invokevirtual 59, 3) := by decide +kernel
theorem dX4_add_112 : decode cX4_add 112 = .ok (.aload_n 0, 1) := by decide +kernel
theorem dX4_add_113 : decode cX4_add 113 = .ok (.getfield 41, 3) := by decide +kernel
theorem dX4_add_116 : decode cX4_add 116 = .ok (.iload 7, 2) := by decide +kernel
theorem dX4_add_118 : decode cX4_add 118 = .ok (.iconst 0, 1) := by decide +kernel
theorem dX4_add_119 : decode cX4_add 119 = .ok (.invokevirtual 59, 3) := by decide +kernel
theorem dX4_add_122 : decode cX4_add 122 = .ok (.aload_n 0, 1) := by decide +kernel
theorem dX4_add_123 : decode cX4_add 123 = .ok (.dup, 1) := by decide +kernel
theorem dX4_add_124 : decode cX4_add 124 = .ok (.getfield 44, 3) := by decide +kernel
theorem dX4_add_127 : decode cX4_add 127 = .ok (.iconst 1, 1) := by decide +kernel
theorem dX4_add_128 : decode cX4_add 128 = .ok (.iadd, 1) := by decide +kernel
theorem dX4_add_129 : decode cX4_add 129 = .ok (.putfield 44, 3) := by decide +kernel
theorem dX4_add_132 : decode cX4_add 132 = .ok (.iload 7, 2) := by decide +kernel
theorem dX4_add_134 : decode cX4_add 134 = .ok (.ireturn, 1) := by decide +kernel
theorem dX4_flushAll_0 : decode cX4_flushAll 0 = .ok (.aload_n 0, 1) := by decide +kernel
theorem dX4_flushAll_1 : decode cX4_flushAll 1 = .ok (.getfield 44, 3) := by decide +kernel
theorem dX4_flushAll_4 : decode cX4_flushAll 4 = .ok (.aload_n 0, 1) := by decide +kernel
theorem dX4_flushAll_5 : decode cX4_flushAll 5 = .ok (.getfield 48, 3) := by decide +kernel
theorem dX4_flushAll_8 : decode cX4_flushAll 8 = .ok (.isub, 1) := by decide +kernel
theorem dX4_flushAll_9 : decode cX4_flushAll 9 = .ok (.istore_n 1, 1) := by decide +kernel
theorem dX4_flushAll_10 : decode cX4_flushAll 10 = .ok (.aload_n 0, 1) := by decide +kernel
theorem dX4_flushAll_11 : decode cX4_flushAll 11 = .ok (.getfield 48, 3) := by decide +kernel
theorem dX4_flushAll_14 : decode cX4_flushAll 14 = .ok (.istore_n 2, 1) := by decide +kernel
theorem dX4_flushAll_15 : decode cX4_flushAll 15 = .ok (.iload_n 2, 1) := by decide +kernel
theorem dX4_flushAll_16 : decode cX4_flushAll 16 = .ok (.aload_n 0, 1) := by decide +kernel
theorem dX4_flushAll_17 : decode cX4_flushAll 17 = .ok (.getfield 44, 3) := by decide +kernel
theorem dX4_flushAll_20 : decode cX4_flushAll 20 = .ok (.if_icmp .ge 18, 3) := by decide +kernel
theorem dX4_flushAll_23 : decode cX4_flushAll 23 = .ok (.aload_n 0, 1) := by decide +kernel
theorem dX4_flushAll_24 : decode cX4_flushAll 24 = .ok (.getfield 41, 3) := by decide +kernel
theorem dX4_flushAll_27 : decode cX4_flushAll 27 = .ok (.iload_n 2, 1) := by decide +kernel
theorem dX4_flushAll_28 : decode cX4_flushAll 28 = .ok (.iconst 0, 1) := by decide +kernel
theorem dX4_flushAll_29 : decode cX4_flushAll 29 = .ok (.invokevirtual 59, 3) := by decide +kernel
theorem dX4_flushAll_32 : decode cX4_flushAll 32 = .ok (.iinc 2 1, 3) := by decide +kernel
theorem dX4_flushAll_35 : decode cX4_flushAll 35 = .ok (.goto (-20), 3) := by decide +kernel
theorem dX4_flushAll_38 : decode cX4_flushAll 38 = .ok (.aload_n 0, 1) := by decide +kernel
theorem dX4_flushAll_39 : decode cX4_flushAll 39 = .ok (.aload_n 0, 1) := by decide +kernel
theorem dX4_flushAll_40 : decode cX4_flushAll 40 = .ok (.getfield 44, 3) := by decide +kernel
theorem dX4_flushAll_43 : decode cX4_flushAll 43 = .ok (.putfield 48, 3) := by decide +kernel
theorem dX4_flushAll_46 : decode cX4_flushAll 46 = .ok (.iload_n 1, 1) := by decide +kernel
theorem dX4_flushAll_47 : decode cX4_flushAll 47 = .ok (.ireturn, 1) := by decide +kernel
theorem dX4_firstDamaged_0 : decode cX4_firstDamaged 0 = .ok (.aload_n 0, 1) := by decide +kernel
theorem dX4_firstDamaged_1 : decode cX4_firstDamaged 1 = .ok (.getfield 48, 3) := by decide +kernel
theorem dX4_firstDamaged_4 : decode cX4_firstDamaged 4 = .ok (.istore_n 1, 1) := by decide +kernel
theorem dX4_firstDamaged_5 : decode cX4_firstDamaged 5 = .ok (.iload_n 1, 1) := by decide +kernel
theorem dX4_firstDamaged_6 : decode cX4_firstDamaged 6 = .ok (.aload_n 0, 1) := by decide +kernel
theorem dX4_firstDamaged_7 : decode cX4_firstDamaged 7 = .ok (.getfield 44, 3) := by decide +kernel
theorem dX4_firstDamaged_10 : decode cX4_firstDamaged 10 = .ok (.if_icmp .ge 23, 3) := by decide +kernel
theorem dX4_firstDamaged_13 : decode cX4_firstDamaged 13 = .ok (.aload_n 0, 1) := by decide +kernel
theorem dX4_firstDamaged_14 : decode cX4_firstDamaged 14 = .ok (.getfield 41, 3) := by decide +kernel
theorem dX4_firstDamaged_17 : decode cX4_firstDamaged 17 = .ok (.iload_n 1, 1) := by decide +kernel
theorem dX4_firstDamaged_18 : decode cX4_firstDamaged 18 = .ok (.invokevirtual 67, 3) := by decide +kernel
theorem dX4_firstDamaged_21 : decode cX4_firstDamaged 21 = .ok (.iconst 1, 1) := by decide +kernel
theorem dX4_firstDamaged_22 : decode cX4_firstDamaged 22 = .ok (.if_icmp .ne 5, 3) := by decide +kernel
theorem dX4_firstDamaged_25 : decode cX4_firstDamaged 25 = .ok (.iload_n 1, 1) := by decide +kernel
theorem dX4_firstDamaged_26 : decode cX4_firstDamaged 26 = .ok (.ireturn, 1) := by decide +kernel
theorem dX4_firstDamaged_27 : decode cX4_firstDamaged 27 = .ok (.iinc 1 1, 3) := by decide +kernel
theorem dX4_firstDamaged_30 : decode cX4_firstDamaged 30 = .ok (.goto (-25), 3) := by decide +kernel
theorem dX4_firstDamaged_33 : decode cX4_firstDamaged 33 = .ok (.aload_n 0, 1) := by decide +kernel
theorem dX4_firstDamaged_34 : decode cX4_firstDamaged 34 = .ok (.getfield 44, 3) := by decide +kernel
theorem dX4_firstDamaged_37 : decode cX4_firstDamaged 37 = .ok (.ireturn, 1) := by decide +kernel
theorem dX4_countDamaged_0 : decode cX4_countDamaged 0 = .ok (.iconst 0, 1) := by decide +kernel
theorem dX4_countDamaged_1 : decode cX4_countDamaged 1 = .ok (.istore_n 1, 1) := by decide +kernel
theorem dX4_countDamaged_2 : decode cX4_countDamaged 2 = .ok (.aload_n 0, 1) := by decide +kernel
theorem dX4_countDamaged_3 : decode cX4_countDamaged 3 = .ok (.getfield 48, 3) := by decide +kernel
theorem dX4_countDamaged_6 : decode cX4_countDamaged 6 = .ok (.istore_n 2, 1) := by decide +kernel
theorem dX4_countDamaged_7 : decode cX4_countDamaged 7 = .ok (.iload_n 2, 1) := by decide +kernel
theorem dX4_countDamaged_8 : decode cX4_countDamaged 8 = .ok (.aload_n 0, 1) := by decide +kernel
theorem dX4_countDamaged_9 : decode cX4_countDamaged 9 = .ok (.getfield 44, 3) := by decide +kernel
theorem dX4_countDamaged_12 : decode cX4_countDamaged 12 = .ok (.if_icmp .ge 20, 3) := by decide +kernel
theorem dX4_countDamaged_15 : decode cX4_countDamaged 15 = .ok (.iload_n 1, 1) := by decide +kernel
theorem dX4_countDamaged_16 : decode cX4_countDamaged 16 = .ok (.aload_n 0, 1) := by decide +kernel
theorem dX4_countDamaged_17 : decode cX4_countDamaged 17 = .ok (.getfield 41, 3) := by decide +kernel
theorem dX4_countDamaged_20 : decode cX4_countDamaged 20 = .ok (.iload_n 2, 1) := by decide +kernel
theorem dX4_countDamaged_21 : decode cX4_countDamaged 21 = .ok (.invokevirtual 67, 3) := by decide +kernel
theorem dX4_countDamaged_24 : decode cX4_countDamaged 24 = .ok (.iadd, 1) := by decide +kernel
theorem dX4_countDamaged_25 : decode cX4_countDamaged 25 = .ok (.istore_n 1, 1) := by decide +kernel
theorem dX4_countDamaged_26 : decode cX4_countDamaged 26 = .ok (.iinc 2 1, 3) := by decide +kernel
theorem dX4_countDamaged_29 : decode cX4_countDamaged 29 = .ok (.goto (-22), 3) := by decide +kernel
theorem dX4_countDamaged_32 : decode cX4_countDamaged 32 = .ok (.iload_n 1, 1) := by decide +kernel
theorem dX4_countDamaged_33 : decode cX4_countDamaged 33 = .ok (.ireturn, 1) := by decide +kernel
theorem dX4_dropFrom_0 : decode cX4_dropFrom 0 = .ok (.iconst 0, 1) := by decide +kernel
theorem dX4_dropFrom_1 : decode cX4_dropFrom 1 = .ok (.istore_n 2, 1) := by decide +kernel
theorem dX4_dropFrom_2 : decode cX4_dropFrom 2 = .ok (.iload_n 2, 1) := by decide +kernel
theorem dX4_dropFrom_3 : decode cX4_dropFrom 3 = .ok (.iload_n 1, 1) := by decide +kernel
theorem dX4_dropFrom_4 : decode cX4_dropFrom 4 = .ok (.if_icmp .ge 30, 3) := by decide +kernel
theorem dX4_dropFrom_7 : decode cX4_dropFrom 7 = .ok (.aload_n 0, 1) := by decide +kernel
theorem dX4_dropFrom_8 : decode cX4_dropFrom 8 = .ok (.getfield 38, 3) := by decide +kernel
theorem dX4_dropFrom_11 : decode cX4_dropFrom 11 = .ok (.iload_n 2, 1) := by decide +kernel
theorem dX4_dropFrom_12 : decode cX4_dropFrom 12 = .ok (.invokevirtual 67, 3) := by decide +kernel
theorem dX4_dropFrom_15 : decode cX4_dropFrom 15 = .ok (.iload_n 1, 1) := by decide +kernel
theorem dX4_dropFrom_16 : decode cX4_dropFrom 16 = .ok (.if_icmp .lt 12, 3) := by decide +kernel
theorem dX4_dropFrom_19 : decode cX4_dropFrom 19 = .ok (.aload_n 0, 1) := by decide +kernel
theorem dX4_dropFrom_20 : decode cX4_dropFrom 20 = .ok (.getfield 38, 3) := by decide +kernel
theorem dX4_dropFrom_23 : decode cX4_dropFrom 23 = .ok (.iload_n 2, 1) := by decide +kernel
theorem dX4_dropFrom_24 : decode cX4_dropFrom 24 = .ok (.iconst (-1), 1) := by decide +kernel
theorem dX4_dropFrom_25 : decode cX4_dropFrom 25 = .ok (.invokevirtual 59, 3) := by decide +kernel
theorem dX4_dropFrom_28 : decode cX4_dropFrom 28 = .ok (.iinc 2 1, 3) := by decide +kernel
theorem dX4_dropFrom_31 : decode cX4_dropFrom 31 = .ok (.goto (-29), 3) := by decide +kernel
theorem dX4_dropFrom_34 : decode cX4_dropFrom 34 = .ok (.aload_n 0, 1) := by decide +kernel
theorem dX4_dropFrom_35 : decode cX4_dropFrom 35 = .ok (.iload_n 1, 1) := by decide +kernel
theorem dX4_dropFrom_36 : decode cX4_dropFrom 36 = .ok (.putfield 44, 3) := by decide +kernel
theorem dX4_dropFrom_39 : decode cX4_dropFrom 39 = .ok (.return_, 1) := by decide +kernel
theorem dX4_listEffects_0 : decode cX4_listEffects 0 = .ok (.iconst 0, 1) := by decide +kernel
theorem dX4_listEffects_1 : decode cX4_listEffects 1 = .ok (.istore 4, 2) := by decide +kernel
theorem dX4_listEffects_3 : decode cX4_listEffects 3 = .ok (.iload_n 1, 1) := by decide +kernel
theorem dX4_listEffects_4 : decode cX4_listEffects 4 = .ok (.istore 5, 2) := by decide +kernel
theorem dX4_listEffects_6 : decode cX4_listEffects 6 = .ok (.iload 5, 2) := by decide +kernel
theorem dX4_listEffects_8 : decode cX4_listEffects 8 = .ok (.iload_n 2, 1) := by decide +kernel
theorem dX4_listEffects_9 : decode cX4_listEffects 9 = .ok (.if_icmp .ge 56, 3) := by decide +kernel
theorem dX4_listEffects_12 : decode cX4_listEffects 12 = .ok (.aload_n 0, 1) := by decide +kernel
theorem dX4_listEffects_13 : decode cX4_listEffects 13 = .ok (.getfield 14, 3) := by decide +kernel
theorem dX4_listEffects_16 : decode cX4_listEffects 16 = .ok (.iload 5, 2) := by decide +kernel
theorem dX4_listEffects_18 : decode cX4_listEffects 18 = .ok (.invokevirtual 67, 3) := by decide +kernel
theorem dX4_listEffects_21 : decode cX4_listEffects 21 = .ok (.iconst 1, 1) := by decide +kernel
theorem dX4_listEffects_22 : decode cX4_listEffects 22 = .ok (.if_icmp .ne 17, 3) := by decide +kernel
theorem dX4_listEffects_25 : decode cX4_listEffects 25 = .ok (.aload_n 0, 1) := by decide +kernel
theorem dX4_listEffects_26 : decode cX4_listEffects 26 = .ok (.iload 5, 2) := by decide +kernel
theorem dX4_listEffects_28 : decode cX4_listEffects 28 = .ok (.aload_n 3, 1) := by decide +kernel
theorem dX4_listEffects_29 : decode cX4_listEffects 29 = .ok (.iload 4, 2) := by decide +kernel
theorem dX4_listEffects_31 : decode cX4_listEffects 31 = .ok (.invokevirtual 71, 3) := by decide +kernel
theorem dX4_listEffects_34 : decode cX4_listEffects 34 = .ok (.istore 4, 2) := by decide +kernel
theorem dX4_listEffects_36 : decode cX4_listEffects 36 = .ok (.goto 23, 3) := by decide +kernel
theorem dX4_listEffects_39 : decode cX4_listEffects 39 = .ok (.aload_n 0, 1) := by decide +kernel
theorem dX4_listEffects_40 : decode cX4_listEffects 40 = .ok (.iload 5, 2) := by decide +kernel
theorem dX4_listEffects_42 : decode cX4_listEffects 42 = .ok (.invokevirtual 75, 3) := by decide +kernel
theorem dX4_listEffects_45 : decode cX4_listEffects 45 = .ok (.ifCond .eq 14, 3) := by decide +kernel
theorem dX4_listEffects_48 : decode cX4_listEffects 48 = .ok (.aload_n 3, 1) := by decide +kernel
theorem dX4_listEffects_49 : decode cX4_listEffects 49 = .ok (.iload 4, 2) := by decide +kernel
theorem dX4_listEffects_51 : decode cX4_listEffects 51 = .ok (.iload 5, 2) := by decide +kernel
theorem dX4_listEffects_53 : decode cX4_listEffects 53 = .ok (.invokevirtual 59, 3) := by decide +kernel
theorem dX4_listEffects_56 : decode cX4_listEffects 56 = .ok (.iinc 4 1, 3) := by decide +kernel
theorem dX4_listEffects_59 : decode cX4_listEffects 59 = .ok (.iinc 5 1, 3) := by decide +kernel
theorem dX4_listEffects_62 : decode cX4_listEffects 62 = .ok (.goto (-56), 3) := by decide +kernel
theorem dX4_listEffects_65 : decode cX4_listEffects 65 = .ok (.iload 4, 2) := by decide +kernel
theorem dX4_listEffects_67 : decode cX4_listEffects 67 = .ok (.ireturn, 1) := by decide +kernel
theorem dX4_listCommitted_0 : decode cX4_listCommitted 0 = .ok (.aload_n 0, 1) := by decide +kernel
theorem dX4_listCommitted_1 : decode cX4_listCommitted 1 = .ok (.getfield 20, 3) := by decide +kernel
theorem dX4_listCommitted_4 : decode cX4_listCommitted 4 = .ok (.iload_n 1, 1) := by decide +kernel
theorem dX4_listCommitted_5 : decode cX4_listCommitted 5 = .ok (.invokevirtual 67, 3) := by decide +kernel
theorem dX4_listCommitted_8 : decode cX4_listCommitted 8 = .ok (.istore 4, 2) := by decide +kernel
theorem dX4_listCommitted_10 : decode cX4_listCommitted 10 = .ok (.iload_n 3, 1) := by decide +kernel
theorem dX4_listCommitted_11 : decode cX4_listCommitted 11 = .ok (.istore 5, 2) := by decide +kernel
theorem dX4_listCommitted_13 : decode cX4_listCommitted 13 = .ok (.iload 4, 2) := by decide +kernel
theorem dX4_listCommitted_15 : decode cX4_listCommitted 15 = .ok (.iconst 1, 1) := by decide +kernel
theorem dX4_listCommitted_16 : decode cX4_listCommitted 16 = .ok (.iadd, 1) := by decide +kernel
theorem dX4_listCommitted_17 : decode cX4_listCommitted 17 = .ok (.istore 6, 2) := by decide +kernel
theorem dX4_listCommitted_19 : decode cX4_listCommitted 19 = .ok (.iload 6, 2) := by decide +kernel
theorem dX4_listCommitted_21 : decode cX4_listCommitted 21 = .ok (.iload_n 1, 1) := by decide +kernel
theorem dX4_listCommitted_22 : decode cX4_listCommitted 22 = .ok (.if_icmp .ge 34, 3) := by decide +kernel
theorem dX4_listCommitted_25 : decode cX4_listCommitted 25 = .ok (.aload_n 0, 1) := by decide +kernel
theorem dX4_listCommitted_26 : decode cX4_listCommitted 26 = .ok (.getfield 20, 3) := by decide +kernel
theorem dX4_listCommitted_29 : decode cX4_listCommitted 29 = .ok (.iload 6, 2) := by decide +kernel
theorem dX4_listCommitted_31 : decode cX4_listCommitted 31 = .ok (.invokevirtual 67, 3) := by decide +kernel
theorem dX4_listCommitted_34 : decode cX4_listCommitted 34 = .ok (.iload 4, 2) := by decide +kernel
theorem dX4_listCommitted_36 : decode cX4_listCommitted 36 = .ok (.if_icmp .ne 14, 3) := by decide +kernel
theorem dX4_listCommitted_39 : decode cX4_listCommitted 39 = .ok (.aload_n 2, 1) := by decide +kernel
theorem dX4_listCommitted_40 : decode cX4_listCommitted 40 = .ok (.iload 5, 2) := by decide +kernel
theorem dX4_listCommitted_42 : decode cX4_listCommitted 42 = .ok (.iload 6, 2) := by decide +kernel
theorem dX4_listCommitted_44 : decode cX4_listCommitted 44 = .ok (.invokevirtual 59, 3) := by decide +kernel
theorem dX4_listCommitted_47 : decode cX4_listCommitted 47 = .ok (.iinc 5 1, 3) := by decide +kernel
theorem dX4_listCommitted_50 : decode cX4_listCommitted 50 = .ok (.iinc 6 1, 3) := by decide +kernel
theorem dX4_listCommitted_53 : decode cX4_listCommitted 53 = .ok (.goto (-34), 3) := by decide +kernel
theorem dX4_listCommitted_56 : decode cX4_listCommitted 56 = .ok (.iload 5, 2) := by decide +kernel
theorem dX4_listCommitted_58 : decode cX4_listCommitted 58 = .ok (.ireturn, 1) := by decide +kernel
theorem dX4_isEffectiveAlone_0 : decode cX4_isEffectiveAlone 0 = .ok (.aload_n 0, 1) := by decide +kernel
theorem dX4_isEffectiveAlone_1 : decode cX4_isEffectiveAlone 1 = .ok (.getfield 14, 3) := by decide +kernel
theorem dX4_isEffectiveAlone_4 : decode cX4_isEffectiveAlone 4 = .ok (.iload_n 1, 1) := by decide +kernel
theorem dX4_isEffectiveAlone_5 : decode cX4_isEffectiveAlone 5 = .ok (.invokevirtual 67, 3) := by decide +kernel
theorem dX4_isEffectiveAlone_8 : decode cX4_isEffectiveAlone 8 = .ok (.iconst 3, 1) := by decide +kernel
theorem dX4_isEffectiveAlone_9 : decode cX4_isEffectiveAlone 9 = .ok (.bipush 7, 2) := by decide +kernel
theorem dX4_isEffectiveAlone_11 : decode cX4_isEffectiveAlone 11 = .ok (.invokestatic 79, 3) := by decide +kernel
theorem dX4_isEffectiveAlone_14 : decode cX4_isEffectiveAlone 14 = .ok (.ifCond .eq 19, 3) := by decide +kernel
theorem dX4_isEffectiveAlone_17 : decode cX4_isEffectiveAlone 17 = .ok (.aload_n 0, 1) := by decide +kernel
theorem dX4_isEffectiveAlone_18 : decode cX4_isEffectiveAlone 18 = .ok (.getfield 20, 3) := by decide +kernel
theorem dX4_isEffectiveAlone_21 : decode cX4_isEffectiveAlone 21 = .ok (.iload_n 1, 1) := by decide +kernel
theorem dX4_isEffectiveAlone_22 : decode cX4_isEffectiveAlone 22 = .ok (.invokevirtual 67, 3) := by decide +kernel
theorem dX4_isEffectiveAlone_25 : decode cX4_isEffectiveAlone 25 = .ok (.iconst (-1), 1) := by decide +kernel
theorem dX4_isEffectiveAlone_26 : decode cX4_isEffectiveAlone 26 = .ok (.if_icmp .ne 7, 3) := by decide +kernel
theorem dX4_isEffectiveAlone_29 : decode cX4_isEffectiveAlone 29 = .ok (.iconst 1, 1) := by decide +kernel
theorem dX4_isEffectiveAlone_30 : decode cX4_isEffectiveAlone 30 = .ok (.goto 4, 3) := by decide +kernel
theorem dX4_isEffectiveAlone_33 : decode cX4_isEffectiveAlone 33 = .ok (.iconst 0, 1) := by decide +kernel
theorem dX4_isEffectiveAlone_34 : decode cX4_isEffectiveAlone 34 = .ok (.ireturn, 1) := by decide +kernel
theorem dX4_valueOf_0 : decode cX4_valueOf 0 = .ok (.iload_n 2, 1) := by decide +kernel
theorem dX4_valueOf_1 : decode cX4_valueOf 1 = .ok (.tableswitch 129 0 8 #[51, 60, 69, 78, 87, 96, 105, 111, 120], 51) := by decide +kernel
theorem dX4_valueOf_52 : decode cX4_valueOf 52 = .ok (.aload_n 0, 1) := by decide +kernel
theorem dX4_valueOf_53 : decode cX4_valueOf 53 = .ok (.getfield 14, 3) := by decide +kernel
theorem dX4_valueOf_56 : decode cX4_valueOf 56 = .ok (.iload_n 1, 1) := by decide +kernel
theorem dX4_valueOf_57 : decode cX4_valueOf 57 = .ok (.invokevirtual 67, 3) := by decide +kernel
theorem dX4_valueOf_60 : decode cX4_valueOf 60 = .ok (.ireturn, 1) := by decide +kernel
theorem dX4_valueOf_61 : decode cX4_valueOf 61 = .ok (.aload_n 0, 1) := by decide +kernel
theorem dX4_valueOf_62 : decode cX4_valueOf 62 = .ok (.getfield 20, 3) := by decide +kernel
theorem dX4_valueOf_65 : decode cX4_valueOf 65 = .ok (.iload_n 1, 1) := by decide +kernel
theorem dX4_valueOf_66 : decode cX4_valueOf 66 = .ok (.invokevirtual 67, 3) := by decide +kernel
theorem dX4_valueOf_69 : decode cX4_valueOf 69 = .ok (.ireturn, 1) := by decide +kernel
theorem dX4_valueOf_70 : decode cX4_valueOf 70 = .ok (.aload_n 0, 1) := by decide +kernel
theorem dX4_valueOf_71 : decode cX4_valueOf 71 = .ok (.getfield 23, 3) := by decide +kernel
theorem dX4_valueOf_74 : decode cX4_valueOf 74 = .ok (.iload_n 1, 1) := by decide +kernel
theorem dX4_valueOf_75 : decode cX4_valueOf 75 = .ok (.invokevirtual 67, 3) := by decide +kernel
theorem dX4_valueOf_78 : decode cX4_valueOf 78 = .ok (.ireturn, 1) := by decide +kernel
theorem dX4_valueOf_79 : decode cX4_valueOf 79 = .ok (.aload_n 0, 1) := by decide +kernel
theorem dX4_valueOf_80 : decode cX4_valueOf 80 = .ok (.getfield 26, 3) := by decide +kernel
theorem dX4_valueOf_83 : decode cX4_valueOf 83 = .ok (.iload_n 1, 1) := by decide +kernel
theorem dX4_valueOf_84 : decode cX4_valueOf 84 = .ok (.invokevirtual 67, 3) := by decide +kernel
theorem dX4_valueOf_87 : decode cX4_valueOf 87 = .ok (.ireturn, 1) := by decide +kernel
theorem dX4_valueOf_88 : decode cX4_valueOf 88 = .ok (.aload_n 0, 1) := by decide +kernel
theorem dX4_valueOf_89 : decode cX4_valueOf 89 = .ok (.getfield 29, 3) := by decide +kernel
theorem dX4_valueOf_92 : decode cX4_valueOf 92 = .ok (.iload_n 1, 1) := by decide +kernel
theorem dX4_valueOf_93 : decode cX4_valueOf 93 = .ok (.invokevirtual 67, 3) := by decide +kernel
theorem dX4_valueOf_96 : decode cX4_valueOf 96 = .ok (.ireturn, 1) := by decide +kernel
theorem dX4_valueOf_97 : decode cX4_valueOf 97 = .ok (.aload_n 0, 1) := by decide +kernel
theorem dX4_valueOf_98 : decode cX4_valueOf 98 = .ok (.getfield 32, 3) := by decide +kernel
theorem dX4_valueOf_101 : decode cX4_valueOf 101 = .ok (.iload_n 1, 1) := by decide +kernel
theorem dX4_valueOf_102 : decode cX4_valueOf 102 = .ok (.invokevirtual 67, 3) := by decide +kernel
theorem dX4_valueOf_105 : decode cX4_valueOf 105 = .ok (.ireturn, 1) := by decide +kernel
theorem dX4_valueOf_106 : decode cX4_valueOf 106 = .ok (.aload_n 0, 1) := by decide +kernel
theorem dX4_valueOf_107 : decode cX4_valueOf 107 = .ok (.iload_n 1, 1) := by decide +kernel
theorem dX4_valueOf_108 : decode cX4_valueOf 108 = .ok (.invokevirtual 83, 3) := by decide +kernel
theorem dX4_valueOf_111 : decode cX4_valueOf 111 = .ok (.ireturn, 1) := by decide +kernel
theorem dX4_valueOf_112 : decode cX4_valueOf 112 = .ok (.aload_n 0, 1) := by decide +kernel
theorem dX4_valueOf_113 : decode cX4_valueOf 113 = .ok (.getfield 35, 3) := by decide +kernel
theorem dX4_valueOf_116 : decode cX4_valueOf 116 = .ok (.iload_n 1, 1) := by decide +kernel
theorem dX4_valueOf_117 : decode cX4_valueOf 117 = .ok (.invokevirtual 67, 3) := by decide +kernel
theorem dX4_valueOf_120 : decode cX4_valueOf 120 = .ok (.ireturn, 1) := by decide +kernel
theorem dX4_valueOf_121 : decode cX4_valueOf 121 = .ok (.aload_n 0, 1) := by decide +kernel
theorem dX4_valueOf_122 : decode cX4_valueOf 122 = .ok (.getfield 38, 3) := by decide +kernel
theorem dX4_valueOf_125 : decode cX4_valueOf 125 = .ok (.iload_n 1, 1) := by decide +kernel
theorem dX4_valueOf_126 : decode cX4_valueOf 126 = .ok (.invokevirtual 67, 3) := by decide +kernel
theorem dX4_valueOf_129 : decode cX4_valueOf 129 = .ok (.ireturn, 1) := by decide +kernel
theorem dX4_valueOf_130 : decode cX4_valueOf 130 = .ok (.aload_n 0, 1) := by decide +kernel
theorem dX4_valueOf_131 : decode cX4_valueOf 131 = .ok (.getfield 41, 3) := by decide +kernel
theorem dX4_valueOf_134 : decode cX4_valueOf 134 = .ok (.iload_n 1, 1) := by decide +kernel
theorem dX4_valueOf_135 : decode cX4_valueOf 135 = .ok (.invokevirtual 67, 3) := by decide +kernel
theorem dX4_valueOf_138 : decode cX4_valueOf 138 = .ok (.ireturn, 1) := by decide +kernel
theorem dX4_checksum_0 : decode cX4_checksum 0 = .ok (.bipush 7, 2) := by decide +kernel
theorem dX4_checksum_2 : decode cX4_checksum 2 = .ok (.iload_n 1, 1) := by decide +kernel
theorem dX4_checksum_3 : decode cX4_checksum 3 = .ok (.invokestatic 86, 3) := by decide +kernel
theorem dX4_checksum_6 : decode cX4_checksum 6 = .ok (.istore_n 2, 1) := by decide +kernel
theorem dX4_checksum_7 : decode cX4_checksum 7 = .ok (.iload_n 2, 1) := by decide +kernel
theorem dX4_checksum_8 : decode cX4_checksum 8 = .ok (.aload_n 0, 1) := by decide +kernel
theorem dX4_checksum_9 : decode cX4_checksum 9 = .ok (.getfield 14, 3) := by decide +kernel
theorem dX4_checksum_12 : decode cX4_checksum 12 = .ok (.iload_n 1, 1) := by decide +kernel
theorem dX4_checksum_13 : decode cX4_checksum 13 = .ok (.invokevirtual 67, 3) := by decide +kernel
theorem dX4_checksum_16 : decode cX4_checksum 16 = .ok (.invokestatic 86, 3) := by decide +kernel
theorem dX4_checksum_19 : decode cX4_checksum 19 = .ok (.istore_n 2, 1) := by decide +kernel
theorem dX4_checksum_20 : decode cX4_checksum 20 = .ok (.iload_n 2, 1) := by decide +kernel
theorem dX4_checksum_21 : decode cX4_checksum 21 = .ok (.aload_n 0, 1) := by decide +kernel
theorem dX4_checksum_22 : decode cX4_checksum 22 = .ok (.getfield 20, 3) := by decide +kernel
theorem dX4_checksum_25 : decode cX4_checksum 25 = .ok (.iload_n 1, 1) := by decide +kernel
theorem dX4_checksum_26 : decode cX4_checksum 26 = .ok (.invokevirtual 67, 3) := by decide +kernel
theorem dX4_checksum_29 : decode cX4_checksum 29 = .ok (.invokestatic 86, 3) := by decide +kernel
theorem dX4_checksum_32 : decode cX4_checksum 32 = .ok (.istore_n 2, 1) := by decide +kernel
theorem dX4_checksum_33 : decode cX4_checksum 33 = .ok (.iload_n 2, 1) := by decide +kernel
theorem dX4_checksum_34 : decode cX4_checksum 34 = .ok (.aload_n 0, 1) := by decide +kernel
theorem dX4_checksum_35 : decode cX4_checksum 35 = .ok (.getfield 23, 3) := by decide +kernel
theorem dX4_checksum_38 : decode cX4_checksum 38 = .ok (.iload_n 1, 1) := by decide +kernel
theorem dX4_checksum_39 : decode cX4_checksum 39 = .ok (.invokevirtual 67, 3) := by decide +kernel
theorem dX4_checksum_42 : decode cX4_checksum 42 = .ok (.invokestatic 86, 3) := by decide +kernel
theorem dX4_checksum_45 : decode cX4_checksum 45 = .ok (.istore_n 2, 1) := by decide +kernel
theorem dX4_checksum_46 : decode cX4_checksum 46 = .ok (.iload_n 2, 1) := by decide +kernel
theorem dX4_checksum_47 : decode cX4_checksum 47 = .ok (.aload_n 0, 1) := by decide +kernel
theorem dX4_checksum_48 : decode cX4_checksum 48 = .ok (.getfield 26, 3) := by decide +kernel
theorem dX4_checksum_51 : decode cX4_checksum 51 = .ok (.iload_n 1, 1) := by decide +kernel
theorem dX4_checksum_52 : decode cX4_checksum 52 = .ok (.invokevirtual 67, 3) := by decide +kernel
theorem dX4_checksum_55 : decode cX4_checksum 55 = .ok (.invokestatic 86, 3) := by decide +kernel
theorem dX4_checksum_58 : decode cX4_checksum 58 = .ok (.istore_n 2, 1) := by decide +kernel
theorem dX4_checksum_59 : decode cX4_checksum 59 = .ok (.iload_n 2, 1) := by decide +kernel
theorem dX4_checksum_60 : decode cX4_checksum 60 = .ok (.aload_n 0, 1) := by decide +kernel
theorem dX4_checksum_61 : decode cX4_checksum 61 = .ok (.getfield 29, 3) := by decide +kernel
theorem dX4_checksum_64 : decode cX4_checksum 64 = .ok (.iload_n 1, 1) := by decide +kernel
theorem dX4_checksum_65 : decode cX4_checksum 65 = .ok (.invokevirtual 67, 3) := by decide +kernel
theorem dX4_checksum_68 : decode cX4_checksum 68 = .ok (.invokestatic 86, 3) := by decide +kernel
theorem dX4_checksum_71 : decode cX4_checksum 71 = .ok (.istore_n 2, 1) := by decide +kernel
theorem dX4_checksum_72 : decode cX4_checksum 72 = .ok (.iload_n 2, 1) := by decide +kernel
theorem dX4_checksum_73 : decode cX4_checksum 73 = .ok (.aload_n 0, 1) := by decide +kernel
theorem dX4_checksum_74 : decode cX4_checksum 74 = .ok (.getfield 32, 3) := by decide +kernel
theorem dX4_checksum_77 : decode cX4_checksum 77 = .ok (.iload_n 1, 1) := by decide +kernel
theorem dX4_checksum_78 : decode cX4_checksum 78 = .ok (.invokevirtual 67, 3) := by decide +kernel
theorem dX4_checksum_81 : decode cX4_checksum 81 = .ok (.invokestatic 86, 3) := by decide +kernel
theorem dX4_checksum_84 : decode cX4_checksum 84 = .ok (.istore_n 2, 1) := by decide +kernel
theorem dX4_checksum_85 : decode cX4_checksum 85 = .ok (.aload_n 0, 1) := by decide +kernel
theorem dX4_checksum_86 : decode cX4_checksum 86 = .ok (.getfield 41, 3) := by decide +kernel
theorem dX4_checksum_89 : decode cX4_checksum 89 = .ok (.iload_n 1, 1) := by decide +kernel
theorem dX4_checksum_90 : decode cX4_checksum 90 = .ok (.invokevirtual 67, 3) := by decide +kernel
theorem dX4_checksum_93 : decode cX4_checksum 93 = .ok (.iconst 1, 1) := by decide +kernel
theorem dX4_checksum_94 : decode cX4_checksum 94 = .ok (.if_icmp .ne 9, 3) := by decide +kernel
theorem dX4_checksum_97 : decode cX4_checksum 97 = .ok (.iload_n 2, 1) := by decide +kernel
theorem dX4_checksum_98 : decode cX4_checksum 98 = .ok (.iconst 1, 1) := by decide +kernel
theorem dX4_checksum_99 : decode cX4_checksum 99 = .ok (.ixor, 1) := by decide +kernel
theorem dX4_checksum_100 : decode cX4_checksum 100 = .ok (.goto 4, 3) := by decide +kernel
theorem dX4_checksum_103 : decode cX4_checksum 103 = .ok (.iload_n 2, 1) := by decide +kernel
theorem dX4_checksum_104 : decode cX4_checksum 104 = .ok (.ireturn, 1) := by decide +kernel
theorem dX4_mix_0 : decode cX4_mix 0 = .ok (.bipush 31, 2) := by decide +kernel
theorem dX4_mix_2 : decode cX4_mix 2 = .ok (.iload_n 0, 1) := by decide +kernel
theorem dX4_mix_3 : decode cX4_mix 3 = .ok (.imul, 1) := by decide +kernel
theorem dX4_mix_4 : decode cX4_mix 4 = .ok (.iload_n 1, 1) := by decide +kernel
theorem dX4_mix_5 : decode cX4_mix 5 = .ok (.iadd, 1) := by decide +kernel
theorem dX4_mix_6 : decode cX4_mix 6 = .ok (.i2s, 1) := by decide +kernel
theorem dX4_mix_7 : decode cX4_mix 7 = .ok (.ireturn, 1) := by decide +kernel
theorem dX5_init_0 : decode cX5_init 0 = .ok (.aload_n 0, 1) := by decide +kernel
theorem dX5_init_1 : decode cX5_init 1 = .ok (.invokespecial 3, 3) := by decide +kernel
theorem dX5_init_4 : decode cX5_init 4 = .ok (.aload_n 0, 1) := by decide +kernel
theorem dX5_init_5 : decode cX5_init 5 = .ok (.iload_n 1, 1) := by decide +kernel
theorem dX5_init_6 : decode cX5_init 6 = .ok (.ifCond .le 7, 3) := by decide +kernel
theorem dX5_init_9 : decode cX5_init 9 = .ok (.iload_n 1, 1) := by decide +kernel
theorem dX5_init_10 : decode cX5_init 10 = .ok (.goto 4, 3) := by decide +kernel
theorem dX5_init_13 : decode cX5_init 13 = .ok (.iconst 0, 1) := by decide +kernel
theorem dX5_init_14 : decode cX5_init 14 = .ok (.newarray .int, 2) := by decide +kernel
theorem dX5_init_16 : decode cX5_init 16 = .ok (.putfield 9, 3) := by decide +kernel
theorem dX5_init_19 : decode cX5_init 19 = .ok (.return_, 1) := by decide +kernel
theorem dX5_at_0 : decode cX5_at 0 = .ok (.iload_n 1, 1) := by decide +kernel
theorem dX5_at_1 : decode cX5_at 1 = .ok (.ifCond .lt 21, 3) := by decide +kernel
theorem dX5_at_4 : decode cX5_at 4 = .ok (.iload_n 1, 1) := by decide +kernel
theorem dX5_at_5 : decode cX5_at 5 = .ok (.aload_n 0, 1) := by decide +kernel
theorem dX5_at_6 : decode cX5_at 6 = .ok (.getfield 9, 3) := by decide +kernel
theorem dX5_at_9 : decode cX5_at 9 = .ok (.arraylength, 1) := by decide +kernel
theorem dX5_at_10 : decode cX5_at 10 = .ok (.if_icmp .ge 12, 3) := by decide +kernel
theorem dX5_at_13 : decode cX5_at 13 = .ok (.aload_n 0, 1) := by decide +kernel
theorem dX5_at_14 : decode cX5_at 14 = .ok (.getfield 9, 3) := by decide +kernel
theorem dX5_at_17 : decode cX5_at 17 = .ok (.iload_n 1, 1) := by decide +kernel
theorem dX5_at_18 : decode cX5_at 18 = .ok (.iaload, 1) := by decide +kernel
theorem dX5_at_19 : decode cX5_at 19 = .ok (.goto 4, 3) := by decide +kernel
theorem dX5_at_22 : decode cX5_at 22 = .ok (.iconst (-1), 1) := by decide +kernel
theorem dX5_at_23 : decode cX5_at 23 = .ok (.ireturn, 1) := by decide +kernel
theorem dX5_put_0 : decode cX5_put 0 = .ok (.iload_n 1, 1) := by decide +kernel
theorem dX5_put_1 : decode cX5_put 1 = .ok (.ifCond .lt 19, 3) := by decide +kernel
theorem dX5_put_4 : decode cX5_put 4 = .ok (.iload_n 1, 1) := by decide +kernel
theorem dX5_put_5 : decode cX5_put 5 = .ok (.aload_n 0, 1) := by decide +kernel
theorem dX5_put_6 : decode cX5_put 6 = .ok (.getfield 9, 3) := by decide +kernel
theorem dX5_put_9 : decode cX5_put 9 = .ok (.arraylength, 1) := by decide +kernel
theorem dX5_put_10 : decode cX5_put 10 = .ok (.if_icmp .ge 10, 3) := by decide +kernel
theorem dX5_put_13 : decode cX5_put 13 = .ok (.aload_n 0, 1) := by decide +kernel
theorem dX5_put_14 : decode cX5_put 14 = .ok (.getfield 9, 3) := by decide +kernel
theorem dX5_put_17 : decode cX5_put 17 = .ok (.iload_n 1, 1) := by decide +kernel
theorem dX5_put_18 : decode cX5_put 18 = .ok (.iload_n 2, 1) := by decide +kernel
theorem dX5_put_19 : decode cX5_put 19 = .ok (.iastore, 1) := by decide +kernel
theorem dX5_put_20 : decode cX5_put 20 = .ok (.return_, 1) := by decide +kernel
theorem dX5_fillWith_0 : decode cX5_fillWith 0 = .ok (.iconst 0, 1) := by decide +kernel
theorem dX5_fillWith_1 : decode cX5_fillWith 1 = .ok (.istore_n 2, 1) := by decide +kernel
theorem dX5_fillWith_2 : decode cX5_fillWith 2 = .ok (.iload_n 2, 1) := by decide +kernel
theorem dX5_fillWith_3 : decode cX5_fillWith 3 = .ok (.aload_n 0, 1) := by decide +kernel
theorem dX5_fillWith_4 : decode cX5_fillWith 4 = .ok (.getfield 9, 3) := by decide +kernel
theorem dX5_fillWith_7 : decode cX5_fillWith 7 = .ok (.arraylength, 1) := by decide +kernel
theorem dX5_fillWith_8 : decode cX5_fillWith 8 = .ok (.if_icmp .ge 16, 3) := by decide +kernel
theorem dX5_fillWith_11 : decode cX5_fillWith 11 = .ok (.aload_n 0, 1) := by decide +kernel
theorem dX5_fillWith_12 : decode cX5_fillWith 12 = .ok (.getfield 9, 3) := by decide +kernel
theorem dX5_fillWith_15 : decode cX5_fillWith 15 = .ok (.iload_n 2, 1) := by decide +kernel
theorem dX5_fillWith_16 : decode cX5_fillWith 16 = .ok (.iload_n 1, 1) := by decide +kernel
theorem dX5_fillWith_17 : decode cX5_fillWith 17 = .ok (.iastore, 1) := by decide +kernel
theorem dX5_fillWith_18 : decode cX5_fillWith 18 = .ok (.iinc 2 1, 3) := by decide +kernel
theorem dX5_fillWith_21 : decode cX5_fillWith 21 = .ok (.goto (-19), 3) := by decide +kernel
theorem dX5_fillWith_24 : decode cX5_fillWith 24 = .ok (.return_, 1) := by decide +kernel
theorem dX6_init_0 : decode cX6_init 0 = .ok (.aload_n 0, 1) := by decide +kernel
theorem dX6_init_1 : decode cX6_init 1 = .ok (.invokespecial 3, 3) := by decide +kernel
theorem dX6_init_4 : decode cX6_init 4 = .ok (.aload_n 0, 1) := by decide +kernel
theorem dX6_init_5 : decode cX6_init 5 = .ok (.new 9, 3) := by decide +kernel
theorem dX6_init_8 : decode cX6_init 8 = .ok (.dup, 1) := by decide +kernel
theorem dX6_init_9 : decode cX6_init 9 = .ok (.invokespecial 11, 3) := by decide +kernel
theorem dX6_init_12 : decode cX6_init 12 = .ok (.putfield 12, 3) := by decide +kernel
theorem dX6_init_15 : decode cX6_init 15 = .ok (.aload_n 0, 1) := by decide +kernel
