theorem d_C_init_0 : decode b_C_init 0 = .ok (.aload_n 0, 1) := by decide +kernel
theorem d_C_init_1 : decode b_C_init 1 = .ok (.invokespecial 1, 3) := by decide +kernel
theorem d_C_init_4 : decode b_C_init 4 = .ok (.aload_n 0, 1) := by decide +kernel
theorem d_C_init_5 : decode b_C_init 5 = .ok (.bipush 24, 2) := by decide +kernel
theorem d_C_init_7 : decode b_C_init 7 = .ok (.newarray .int, 2) := by decide +kernel
theorem d_C_init_9 : decode b_C_init 9 = .ok (.putfield 9, 3) := by decide +kernel
theorem d_C_init_12 : decode b_C_init 12 = .ok (.aload_n 0, 1) := by decide +kernel
theorem d_C_init_13 : decode b_C_init 13 = .ok (.bipush 24, 2) := by decide +kernel
theorem d_C_init_15 : decode b_C_init 15 = .ok (.newarray .int, 2) := by decide +kernel
theorem d_C_init_17 : decode b_C_init 17 = .ok (.putfield 13, 3) := by decide +kernel
theorem d_C_init_20 : decode b_C_init 20 = .ok (.aload_n 0, 1) := by decide +kernel
theorem d_C_init_21 : decode b_C_init 21 = .ok (.bipush 24, 2) := by decide +kernel
theorem d_C_init_23 : decode b_C_init 23 = .ok (.newarray .boolean, 2) := by decide +kernel
theorem d_C_init_25 : decode b_C_init 25 = .ok (.putfield 16, 3) := by decide +kernel
theorem d_C_init_28 : decode b_C_init 28 = .ok (.aload_n 0, 1) := by decide +kernel
theorem d_C_init_29 : decode b_C_init 29 = .ok (.bipush 20, 2) := by decide +kernel
theorem d_C_init_31 : decode b_C_init 31 = .ok (.newarray .int, 2) := by decide +kernel
theorem d_C_init_33 : decode b_C_init 33 = .ok (.putfield 20, 3) := by decide +kernel
theorem d_C_init_36 : decode b_C_init 36 = .ok (.aload_n 0, 1) := by decide +kernel
theorem d_C_init_37 : decode b_C_init 37 = .ok (.bipush 20, 2) := by decide +kernel
theorem d_C_init_39 : decode b_C_init 39 = .ok (.newarray .int, 2) := by decide +kernel
theorem d_C_init_41 : decode b_C_init 41 = .ok (.putfield 23, 3) := by decide +kernel
theorem d_C_init_44 : decode b_C_init 44 = .ok (.aload_n 0, 1) := by decide +kernel
theorem d_C_init_45 : decode b_C_init 45 = .ok (.iconst 2, 1) := by decide +kernel
theorem d_C_init_46 : decode b_C_init 46 = .ok (.newarray .boolean, 2) := by decide +kernel
theorem d_C_init_48 : decode b_C_init 48 = .ok (.putfield 26, 3) := by decide +kernel
theorem d_C_init_51 : decode b_C_init 51 = .ok (.aload_n 0, 1) := by decide +kernel
theorem d_C_init_52 : decode b_C_init 52 = .ok (.bipush 8, 2) := by decide +kernel
theorem d_C_init_54 : decode b_C_init 54 = .ok (.newarray .int, 2) := by decide +kernel
theorem d_C_init_56 : decode b_C_init 56 = .ok (.putfield 29, 3) := by decide +kernel
theorem d_C_init_59 : decode b_C_init 59 = .ok (.aload_n 0, 1) := by decide +kernel
theorem d_C_init_60 : decode b_C_init 60 = .ok (.iconst 0, 1) := by decide +kernel
theorem d_C_init_61 : decode b_C_init 61 = .ok (.bipush 24, 2) := by decide +kernel
theorem d_C_init_63 : decode b_C_init 63 = .ok (.iload_n 1, 1) := by decide +kernel
theorem d_C_init_64 : decode b_C_init 64 = .ok (.invokestatic 32, 3) := by decide +kernel
theorem d_C_init_67 : decode b_C_init 67 = .ok (.invokestatic 38, 3) := by decide +kernel
theorem d_C_init_70 : decode b_C_init 70 = .ok (.putfield 41, 3) := by decide +kernel
theorem d_C_init_73 : decode b_C_init 73 = .ok (.aload_n 0, 1) := by decide +kernel
theorem d_C_init_74 : decode b_C_init 74 = .ok (.new 45, 3) := by decide +kernel
theorem d_C_init_77 : decode b_C_init 77 = .ok (.dup, 1) := by decide +kernel
theorem d_C_init_78 : decode b_C_init 78 = .ok (.aload_n 0, 1) := by decide +kernel
theorem d_C_init_79 : decode b_C_init 79 = .ok (.getfield 41, 3) := by decide +kernel
theorem d_C_init_82 : decode b_C_init 82 = .ok (.invokespecial 47, 3) := by decide +kernel
theorem d_C_init_85 : decode b_C_init 85 = .ok (.putfield 50, 3) := by decide +kernel
theorem d_C_init_88 : decode b_C_init 88 = .ok (.iconst 0, 1) := by decide +kernel
theorem d_C_init_89 : decode b_C_init 89 = .ok (.istore_n 2, 1) := by decide +kernel
theorem d_C_init_90 : decode b_C_init 90 = .ok (.iload_n 2, 1) := by decide +kernel
theorem d_C_init_91 : decode b_C_init 91 = .ok (.bipush 24, 2) := by decide +kernel
theorem d_C_init_93 : decode b_C_init 93 = .ok (.if_icmp .ge 23, 3) := by decide +kernel
theorem d_C_init_96 : decode b_C_init 96 = .ok (.aload_n 0, 1) := by decide +kernel
theorem d_C_init_97 : decode b_C_init 97 = .ok (.getfield 9, 3) := by decide +kernel
theorem d_C_init_100 : decode b_C_init 100 = .ok (.iload_n 2, 1) := by decide +kernel
theorem d_C_init_101 : decode b_C_init 101 = .ok (.iload_n 2, 1) := by decide +kernel
theorem d_C_init_102 : decode b_C_init 102 = .ok (.iastore, 1) := by decide +kernel
theorem d_C_init_103 : decode b_C_init 103 = .ok (.aload_n 0, 1) := by decide +kernel
theorem d_C_init_104 : decode b_C_init 104 = .ok (.getfield 13, 3) := by decide +kernel
theorem d_C_init_107 : decode b_C_init 107 = .ok (.iload_n 2, 1) := by decide +kernel
theorem d_C_init_108 : decode b_C_init 108 = .ok (.iload_n 2, 1) := by decide +kernel
theorem d_C_init_109 : decode b_C_init 109 = .ok (.iastore, 1) := by decide +kernel
theorem d_C_init_110 : decode b_C_init 110 = .ok (.iinc 2 1, 3) := by decide +kernel
theorem d_C_init_113 : decode b_C_init 113 = .ok (.goto (-23), 3) := by decide +kernel
theorem d_C_init_116 : decode b_C_init 116 = .ok (.iconst 0, 1) := by decide +kernel
theorem d_C_init_117 : decode b_C_init 117 = .ok (.istore_n 2, 1) := by decide +kernel
theorem d_C_init_118 : decode b_C_init 118 = .ok (.iload_n 2, 1) := by decide +kernel
theorem d_C_init_119 : decode b_C_init 119 = .ok (.bipush 20, 2) := by decide +kernel
theorem d_C_init_121 : decode b_C_init 121 = .ok (.if_icmp .ge 16, 3) := by decide +kernel
theorem d_C_init_124 : decode b_C_init 124 = .ok (.aload_n 0, 1) := by decide +kernel
theorem d_C_init_125 : decode b_C_init 125 = .ok (.getfield 20, 3) := by decide +kernel
theorem d_C_init_128 : decode b_C_init 128 = .ok (.iload_n 2, 1) := by decide +kernel
theorem d_C_init_129 : decode b_C_init 129 = .ok (.iconst (-1), 1) := by decide +kernel
theorem d_C_init_130 : decode b_C_init 130 = .ok (.iastore, 1) := by decide +kernel
theorem d_C_init_131 : decode b_C_init 131 = .ok (.iinc 2 1, 3) := by decide +kernel
theorem d_C_init_134 : decode b_C_init 134 = .ok (.goto (-16), 3) := by decide +kernel
theorem d_C_init_137 : decode b_C_init 137 = .ok (.return_, 1) := by decide +kernel
theorem d_C_put_0 : decode b_C_put 0 = .ok (.aload_n 0, 1) := by decide +kernel
theorem d_C_put_1 : decode b_C_put 1 = .ok (.iload_n 1, 1) := by decide +kernel
theorem d_C_put_2 : decode b_C_put 2 = .ok (.invokevirtual 54, 3) := by decide +kernel
theorem d_C_put_5 : decode b_C_put 5 = .ok (.iload_n 2, 1) := by decide +kernel
theorem d_C_put_6 : decode b_C_put 6 = .ok (.invokestatic 57, 3) := by decide +kernel
theorem d_C_put_9 : decode b_C_put 9 = .ok (.aload_n 0, 1) := by decide +kernel
theorem d_C_put_10 : decode b_C_put 10 = .ok (.getfield 20, 3) := by decide +kernel
theorem d_C_put_13 : decode b_C_put 13 = .ok (.iload_n 2, 1) := by decide +kernel
theorem d_C_put_14 : decode b_C_put 14 = .ok (.iaload, 1) := by decide +kernel
theorem d_C_put_15 : decode b_C_put 15 = .ok (.iconst (-1), 1) := by decide +kernel
theorem d_C_put_16 : decode b_C_put 16 = .ok (.if_icmp .eq 13, 3) := by decide +kernel
theorem d_C_put_19 : decode b_C_put 19 = .ok (.new 60, 3) := by decide +kernel
theorem d_C_put_22 : decode b_C_put 22 = .ok (.dup, 1) := by decide +kernel
theorem d_C_put_23 : decode b_C_put 23 = .ok (.ldc 62, 2) := by decide +kernel
theorem d_C_put_25 : decode b_C_put 25 = .ok (.invokespecial 64, 3) := by decide +kernel
theorem d_C_put_28 : decode b_C_put 28 = .ok (.athrow, 1) := by decide +kernel
theorem d_C_put_29 : decode b_C_put 29 = .ok (.aload_n 0, 1) := by decide +kernel
theorem d_C_put_30 : decode b_C_put 30 = .ok (.iload_n 1, 1) := by decide +kernel
theorem d_C_put_31 : decode b_C_put 31 = .ok (.invokevirtual 67, 3) := by decide +kernel
theorem d_C_put_34 : decode b_C_put 34 = .ok (.istore_n 3, 1) := by decide +kernel
theorem d_C_put_35 : decode b_C_put 35 = .ok (.iload_n 3, 1) := by decide +kernel
theorem d_C_put_36 : decode b_C_put 36 = .ok (.iconst 4, 1) := by decide +kernel
theorem d_C_put_37 : decode b_C_put 37 = .ok (.if_icmp .lt 13, 3) := by decide +kernel
theorem d_C_put_40 : decode b_C_put 40 = .ok (.new 71, 3) := by decide +kernel
theorem d_C_put_43 : decode b_C_put 43 = .ok (.dup, 1) := by decide +kernel
theorem d_C_put_44 : decode b_C_put 44 = .ok (.ldc 73, 2) := by decide +kernel
theorem d_C_put_46 : decode b_C_put 46 = .ok (.invokespecial 75, 3) := by decide +kernel
theorem d_C_put_49 : decode b_C_put 49 = .ok (.athrow, 1) := by decide +kernel
theorem d_C_put_50 : decode b_C_put 50 = .ok (.aload_n 0, 1) := by decide +kernel
theorem d_C_put_51 : decode b_C_put 51 = .ok (.getfield 20, 3) := by decide +kernel
theorem d_C_put_54 : decode b_C_put 54 = .ok (.iload_n 2, 1) := by decide +kernel
theorem d_C_put_55 : decode b_C_put 55 = .ok (.iload_n 1, 1) := by decide +kernel
theorem d_C_put_56 : decode b_C_put 56 = .ok (.iastore, 1) := by decide +kernel
theorem d_C_put_57 : decode b_C_put 57 = .ok (.iload_n 3, 1) := by decide +kernel
theorem d_C_put_58 : decode b_C_put 58 = .ok (.iconst 1, 1) := by decide +kernel
theorem d_C_put_59 : decode b_C_put 59 = .ok (.iadd, 1) := by decide +kernel
theorem d_C_put_60 : decode b_C_put 60 = .ok (.ireturn, 1) := by decide +kernel
theorem d_C_turn_0 : decode b_C_turn 0 = .ok (.aload_n 0, 1) := by decide +kernel
theorem d_C_turn_1 : decode b_C_turn 1 = .ok (.invokevirtual 76, 3) := by decide +kernel
theorem d_C_turn_4 : decode b_C_turn 4 = .ok (.iload_n 1, 1) := by decide +kernel
theorem d_C_turn_5 : decode b_C_turn 5 = .ok (.ifCond .lt 11, 3) := by decide +kernel
theorem d_C_turn_8 : decode b_C_turn 8 = .ok (.iload_n 1, 1) := by decide +kernel
theorem d_C_turn_9 : decode b_C_turn 9 = .ok (.aload_n 0, 1) := by decide +kernel
theorem d_C_turn_10 : decode b_C_turn 10 = .ok (.getfield 41, 3) := by decide +kernel
theorem d_C_turn_13 : decode b_C_turn 13 = .ok (.if_icmp .lt 13, 3) := by decide +kernel
theorem d_C_turn_16 : decode b_C_turn 16 = .ok (.new 79, 3) := by decide +kernel
theorem d_C_turn_19 : decode b_C_turn 19 = .ok (.dup, 1) := by decide +kernel
theorem d_C_turn_20 : decode b_C_turn 20 = .ok (.ldc 81, 2) := by decide +kernel
theorem d_C_turn_22 : decode b_C_turn 22 = .ok (.invokespecial 83, 3) := by decide +kernel
theorem d_C_turn_25 : decode b_C_turn 25 = .ok (.athrow, 1) := by decide +kernel
theorem d_C_turn_26 : decode b_C_turn 26 = .ok (.aload_n 0, 1) := by decide +kernel
theorem d_C_turn_27 : decode b_C_turn 27 = .ok (.invokevirtual 84, 3) := by decide +kernel
theorem d_C_turn_30 : decode b_C_turn 30 = .ok (.aload_n 0, 1) := by decide +kernel
theorem d_C_turn_31 : decode b_C_turn 31 = .ok (.getfield 87, 3) := by decide +kernel
theorem d_C_turn_34 : decode b_C_turn 34 = .ok (.iload_n 1, 1) := by decide +kernel
theorem d_C_turn_35 : decode b_C_turn 35 = .ok (.aload_n 0, 1) := by decide +kernel
theorem d_C_turn_36 : decode b_C_turn 36 = .ok (.getfield 41, 3) := by decide +kernel
theorem d_C_turn_39 : decode b_C_turn 39 = .ok (.invokestatic 90, 3) := by decide +kernel
theorem d_C_turn_42 : decode b_C_turn 42 = .ok (.istore_n 2, 1) := by decide +kernel
theorem d_C_turn_43 : decode b_C_turn 43 = .ok (.aload_n 0, 1) := by decide +kernel
theorem d_C_turn_44 : decode b_C_turn 44 = .ok (.iload_n 1, 1) := by decide +kernel
theorem d_C_turn_45 : decode b_C_turn 45 = .ok (.putfield 87, 3) := by decide +kernel
theorem d_C_turn_48 : decode b_C_turn 48 = .ok (.aload_n 0, 1) := by decide +kernel
theorem d_C_turn_49 : decode b_C_turn 49 = .ok (.dup, 1) := by decide +kernel
theorem d_C_turn_50 : decode b_C_turn 50 = .ok (.getfield 94, 3) := by decide +kernel
theorem d_C_turn_53 : decode b_C_turn 53 = .ok (.iload_n 2, 1) := by decide +kernel
theorem d_C_turn_54 : decode b_C_turn 54 = .ok (.iadd, 1) := by decide +kernel
theorem d_C_turn_55 : decode b_C_turn 55 = .ok (.putfield 94, 3) := by decide +kernel
theorem d_C_turn_58 : decode b_C_turn 58 = .ok (.iload_n 2, 1) := by decide +kernel
theorem d_C_turn_59 : decode b_C_turn 59 = .ok (.ireturn, 1) := by decide +kernel
theorem d_C_want_0 : decode b_C_want 0 = .ok (.iload_n 1, 1) := by decide +kernel
theorem d_C_want_1 : decode b_C_want 1 = .ok (.invokestatic 57, 3) := by decide +kernel
theorem d_C_want_4 : decode b_C_want 4 = .ok (.aload_n 0, 1) := by decide +kernel
theorem d_C_want_5 : decode b_C_want 5 = .ok (.iload_n 1, 1) := by decide +kernel
theorem d_C_want_6 : decode b_C_want 6 = .ok (.invokevirtual 97, 3) := by decide +kernel
theorem d_C_want_9 : decode b_C_want 9 = .ok (.ifCond .ne 13, 3) := by decide +kernel
theorem d_C_want_12 : decode b_C_want 12 = .ok (.new 60, 3) := by decide +kernel
theorem d_C_want_15 : decode b_C_want 15 = .ok (.dup, 1) := by decide +kernel
theorem d_C_want_16 : decode b_C_want 16 = .ok (.ldc 101, 2) := by decide +kernel
theorem d_C_want_18 : decode b_C_want 18 = .ok (.invokespecial 64, 3) := by decide +kernel
theorem d_C_want_21 : decode b_C_want 21 = .ok (.athrow, 1) := by decide +kernel
theorem d_C_want_22 : decode b_C_want 22 = .ok (.aload_n 0, 1) := by decide +kernel
theorem d_C_want_23 : decode b_C_want 23 = .ok (.iload_n 1, 1) := by decide +kernel
theorem d_C_want_24 : decode b_C_want 24 = .ok (.invokevirtual 103, 3) := by decide +kernel
theorem d_C_want_27 : decode b_C_want 27 = .ok (.ifCond .eq 13, 3) := by decide +kernel
theorem d_C_want_30 : decode b_C_want 30 = .ok (.new 60, 3) := by decide +kernel
theorem d_C_want_33 : decode b_C_want 33 = .ok (.dup, 1) := by decide +kernel
theorem d_C_want_34 : decode b_C_want 34 = .ok (.ldc 106, 2) := by decide +kernel
theorem d_C_want_36 : decode b_C_want 36 = .ok (.invokespecial 64, 3) := by decide +kernel
theorem d_C_want_39 : decode b_C_want 39 = .ok (.athrow, 1) := by decide +kernel
theorem d_C_want_40 : decode b_C_want 40 = .ok (.aload_n 0, 1) := by decide +kernel
theorem d_C_want_41 : decode b_C_want 41 = .ok (.getfield 108, 3) := by decide +kernel
theorem d_C_want_44 : decode b_C_want 44 = .ok (.bipush 8, 2) := by decide +kernel
theorem d_C_want_46 : decode b_C_want 46 = .ok (.if_icmp .lt 13, 3) := by decide +kernel
theorem d_C_want_49 : decode b_C_want 49 = .ok (.new 71, 3) := by decide +kernel
theorem d_C_want_52 : decode b_C_want 52 = .ok (.dup, 1) := by decide +kernel
theorem d_C_want_53 : decode b_C_want 53 = .ok (.ldc 111, 2) := by decide +kernel
theorem d_C_want_55 : decode b_C_want 55 = .ok (.invokespecial 75, 3) := by decide +kernel
theorem d_C_want_58 : decode b_C_want 58 = .ok (.athrow, 1) := by decide +kernel
theorem d_C_want_59 : decode b_C_want 59 = .ok (.aload_n 0, 1) := by decide +kernel
theorem d_C_want_60 : decode b_C_want 60 = .ok (.getfield 29, 3) := by decide +kernel
theorem d_C_want_63 : decode b_C_want 63 = .ok (.aload_n 0, 1) := by decide +kernel
theorem d_C_want_64 : decode b_C_want 64 = .ok (.getfield 108, 3) := by decide +kernel
theorem d_C_want_67 : decode b_C_want 67 = .ok (.iload_n 1, 1) := by decide +kernel
theorem d_C_want_68 : decode b_C_want 68 = .ok (.iastore, 1) := by decide +kernel
theorem d_C_want_69 : decode b_C_want 69 = .ok (.aload_n 0, 1) := by decide +kernel
theorem d_C_want_70 : decode b_C_want 70 = .ok (.dup, 1) := by decide +kernel
theorem d_C_want_71 : decode b_C_want 71 = .ok (.getfield 108, 3) := by decide +kernel
theorem d_C_want_74 : decode b_C_want 74 = .ok (.iconst 1, 1) := by decide +kernel
theorem d_C_want_75 : decode b_C_want 75 = .ok (.iadd, 1) := by decide +kernel
theorem d_C_want_76 : decode b_C_want 76 = .ok (.putfield 108, 3) := by decide +kernel
theorem d_C_want_79 : decode b_C_want 79 = .ok (.aload_n 0, 1) := by decide +kernel
theorem d_C_want_80 : decode b_C_want 80 = .ok (.getfield 108, 3) := by decide +kernel
theorem d_C_want_83 : decode b_C_want 83 = .ok (.ireturn, 1) := by decide +kernel
theorem d_C_plan_0 : decode b_C_plan 0 = .ok (.iload_n 1, 1) := by decide +kernel
theorem d_C_plan_1 : decode b_C_plan 1 = .ok (.ifCond .lt 9, 3) := by decide +kernel
theorem d_C_plan_4 : decode b_C_plan 4 = .ok (.iload_n 1, 1) := by decide +kernel
theorem d_C_plan_5 : decode b_C_plan 5 = .ok (.bipush 6, 2) := by decide +kernel
theorem d_C_plan_7 : decode b_C_plan 7 = .ok (.if_icmp .le 13, 3) := by decide +kernel
theorem d_C_plan_10 : decode b_C_plan 10 = .ok (.new 79, 3) := by decide +kernel
theorem d_C_plan_13 : decode b_C_plan 13 = .ok (.dup, 1) := by decide +kernel
theorem d_C_plan_14 : decode b_C_plan 14 = .ok (.ldc 113, 2) := by decide +kernel
theorem d_C_plan_16 : decode b_C_plan 16 = .ok (.invokespecial 83, 3) := by decide +kernel
theorem d_C_plan_19 : decode b_C_plan 19 = .ok (.athrow, 1) := by decide +kernel
theorem d_C_plan_20 : decode b_C_plan 20 = .ok (.iconst 0, 1) := by decide +kernel
theorem d_C_plan_21 : decode b_C_plan 21 = .ok (.istore_n 2, 1) := by decide +kernel
theorem d_C_plan_22 : decode b_C_plan 22 = .ok (.iload_n 2, 1) := by decide +kernel
theorem d_C_plan_23 : decode b_C_plan 23 = .ok (.aload_n 0, 1) := by decide +kernel
theorem d_C_plan_24 : decode b_C_plan 24 = .ok (.getfield 108, 3) := by decide +kernel
theorem d_C_plan_27 : decode b_C_plan 27 = .ok (.if_icmp .ge 32, 3) := by decide +kernel
theorem d_C_plan_30 : decode b_C_plan 30 = .ok (.aload_n 0, 1) := by decide +kernel
theorem d_C_plan_31 : decode b_C_plan 31 = .ok (.aload_n 0, 1) := by decide +kernel
theorem d_C_plan_32 : decode b_C_plan 32 = .ok (.getfield 29, 3) := by decide +kernel
theorem d_C_plan_35 : decode b_C_plan 35 = .ok (.iload_n 2, 1) := by decide +kernel
theorem d_C_plan_36 : decode b_C_plan 36 = .ok (.iaload, 1) := by decide +kernel
theorem d_C_plan_37 : decode b_C_plan 37 = .ok (.invokevirtual 97, 3) := by decide +kernel
theorem d_C_plan_40 : decode b_C_plan 40 = .ok (.ifCond .ne 13, 3) := by decide +kernel
theorem d_C_plan_43 : decode b_C_plan 43 = .ok (.new 60, 3) := by decide +kernel
theorem d_C_plan_46 : decode b_C_plan 46 = .ok (.dup, 1) := by decide +kernel
theorem d_C_plan_47 : decode b_C_plan 47 = .ok (.ldc 115, 2) := by decide +kernel
theorem d_C_plan_49 : decode b_C_plan 49 = .ok (.invokespecial 64, 3) := by decide +kernel
theorem d_C_plan_52 : decode b_C_plan 52 = .ok (.athrow, 1) := by decide +kernel
theorem d_C_plan_53 : decode b_C_plan 53 = .ok (.iinc 2 1, 3) := by decide +kernel
theorem d_C_plan_56 : decode b_C_plan 56 = .ok (.goto (-34), 3) := by decide +kernel
theorem d_C_plan_59 : decode b_C_plan 59 = .ok (.aload_n 0, 1) := by decide +kernel
theorem d_C_plan_60 : decode b_C_plan 60 = .ok (.getfield 50, 3) := by decide +kernel
theorem d_C_plan_63 : decode b_C_plan 63 = .ok (.invokevirtual 117, 3) := by decide +kernel
theorem d_C_plan_66 : decode b_C_plan 66 = .ok (.iconst 0, 1) := by decide +kernel
theorem d_C_plan_67 : decode b_C_plan 67 = .ok (.istore_n 2, 1) := by decide +kernel
theorem d_C_plan_68 : decode b_C_plan 68 = .ok (.iload_n 2, 1) := by decide +kernel
theorem d_C_plan_69 : decode b_C_plan 69 = .ok (.aload_n 0, 1) := by decide +kernel
theorem d_C_plan_70 : decode b_C_plan 70 = .ok (.getfield 41, 3) := by decide +kernel
theorem d_C_plan_73 : decode b_C_plan 73 = .ok (.if_icmp .ge 31, 3) := by decide +kernel
theorem d_C_plan_76 : decode b_C_plan 76 = .ok (.aload_n 0, 1) := by decide +kernel
theorem d_C_plan_77 : decode b_C_plan 77 = .ok (.iload_n 2, 1) := by decide +kernel
theorem d_C_plan_78 : decode b_C_plan 78 = .ok (.invokevirtual 120, 3) := by decide +kernel
theorem d_C_plan_81 : decode b_C_plan 81 = .ok (.ifCond .eq 17, 3) := by decide +kernel
theorem d_C_plan_84 : decode b_C_plan 84 = .ok (.aload_n 0, 1) := by decide +kernel
theorem d_C_plan_85 : decode b_C_plan 85 = .ok (.getfield 50, 3) := by decide +kernel
theorem d_C_plan_88 : decode b_C_plan 88 = .ok (.iload_n 2, 1) := by decide +kernel
theorem d_C_plan_89 : decode b_C_plan 89 = .ok (.aload_n 0, 1) := by decide +kernel
theorem d_C_plan_90 : decode b_C_plan 90 = .ok (.getfield 9, 3) := by decide +kernel
theorem d_C_plan_93 : decode b_C_plan 93 = .ok (.iload_n 2, 1) := by decide +kernel
theorem d_C_plan_94 : decode b_C_plan 94 = .ok (.iaload, 1) := by decide +kernel
theorem d_C_plan_95 : decode b_C_plan 95 = .ok (.invokevirtual 123, 3) := by decide +kernel
theorem d_C_plan_98 : decode b_C_plan 98 = .ok (.iinc 2 1, 3) := by decide +kernel
theorem d_C_plan_101 : decode b_C_plan 101 = .ok (.goto (-33), 3) := by decide +kernel
theorem d_C_plan_104 : decode b_C_plan 104 = .ok (.aload_n 0, 1) := by decide +kernel
theorem d_C_plan_105 : decode b_C_plan 105 = .ok (.getfield 50, 3) := by decide +kernel
theorem d_C_plan_108 : decode b_C_plan 108 = .ok (.aload_n 0, 1) := by decide +kernel
theorem d_C_plan_109 : decode b_C_plan 109 = .ok (.getfield 87, 3) := by decide +kernel
theorem d_C_plan_112 : decode b_C_plan 112 = .ok (.iload_n 1, 1) := by decide +kernel
theorem d_C_plan_113 : decode b_C_plan 113 = .ok (.invokevirtual 127, 3) := by decide +kernel
theorem d_C_plan_116 : decode b_C_plan 116 = .ok (.ireturn, 1) := by decide +kernel
theorem d_C_at_0 : decode b_C_at 0 = .ok (.aload_n 0, 1) := by decide +kernel
theorem d_C_at_1 : decode b_C_at 1 = .ok (.getfield 50, 3) := by decide +kernel
theorem d_C_at_4 : decode b_C_at 4 = .ok (.iload_n 1, 1) := by decide +kernel
theorem d_C_at_5 : decode b_C_at 5 = .ok (.invokevirtual 130, 3) := by decide +kernel
theorem d_C_at_8 : decode b_C_at 8 = .ok (.ireturn, 1) := by decide +kernel
theorem d_C_exact_0 : decode b_C_exact 0 = .ok (.aload_n 0, 1) := by decide +kernel
theorem d_C_exact_1 : decode b_C_exact 1 = .ok (.getfield 50, 3) := by decide +kernel
theorem d_C_exact_4 : decode b_C_exact 4 = .ok (.getfield 133, 3) := by decide +kernel
theorem d_C_exact_7 : decode b_C_exact 7 = .ok (.ireturn, 1) := by decide +kernel
theorem d_C_clear_0 : decode b_C_clear 0 = .ok (.aload_n 0, 1) := by decide +kernel
theorem d_C_clear_1 : decode b_C_clear 1 = .ok (.getfield 108, 3) := by decide +kernel
theorem d_C_clear_4 : decode b_C_clear 4 = .ok (.istore_n 1, 1) := by decide +kernel
theorem d_C_clear_5 : decode b_C_clear 5 = .ok (.aload_n 0, 1) := by decide +kernel
theorem d_C_clear_6 : decode b_C_clear 6 = .ok (.iconst 0, 1) := by decide +kernel
theorem d_C_clear_7 : decode b_C_clear 7 = .ok (.putfield 108, 3) := by decide +kernel
theorem d_C_clear_10 : decode b_C_clear 10 = .ok (.aload_n 0, 1) := by decide +kernel
theorem d_C_clear_11 : decode b_C_clear 11 = .ok (.getfield 50, 3) := by decide +kernel
theorem d_C_clear_14 : decode b_C_clear 14 = .ok (.invokevirtual 117, 3) := by decide +kernel
theorem d_C_clear_17 : decode b_C_clear 17 = .ok (.iload_n 1, 1) := by decide +kernel
theorem d_C_clear_18 : decode b_C_clear 18 = .ok (.ireturn, 1) := by decide +kernel
theorem d_C_pick_0 : decode b_C_pick 0 = .ok (.aload_n 0, 1) := by decide +kernel
theorem d_C_pick_1 : decode b_C_pick 1 = .ok (.invokevirtual 76, 3) := by decide +kernel
theorem d_C_pick_4 : decode b_C_pick 4 = .ok (.iload_n 1, 1) := by decide +kernel
theorem d_C_pick_5 : decode b_C_pick 5 = .ok (.invokestatic 57, 3) := by decide +kernel
theorem d_C_pick_8 : decode b_C_pick 8 = .ok (.iload_n 2, 1) := by decide +kernel
theorem d_C_pick_9 : decode b_C_pick 9 = .ok (.invokestatic 137, 3) := by decide +kernel
theorem d_C_pick_12 : decode b_C_pick 12 = .ok (.aload_n 0, 1) := by decide +kernel
theorem d_C_pick_13 : decode b_C_pick 13 = .ok (.getfield 13, 3) := by decide +kernel
theorem d_C_pick_16 : decode b_C_pick 16 = .ok (.aload_n 0, 1) := by decide +kernel
theorem d_C_pick_17 : decode b_C_pick 17 = .ok (.getfield 87, 3) := by decide +kernel
theorem d_C_pick_20 : decode b_C_pick 20 = .ok (.iaload, 1) := by decide +kernel
theorem d_C_pick_21 : decode b_C_pick 21 = .ok (.istore_n 3, 1) := by decide +kernel
theorem d_C_pick_22 : decode b_C_pick 22 = .ok (.aload_n 0, 1) := by decide +kernel
theorem d_C_pick_23 : decode b_C_pick 23 = .ok (.getfield 26, 3) := by decide +kernel
theorem d_C_pick_26 : decode b_C_pick 26 = .ok (.iload_n 2, 1) := by decide +kernel
theorem d_C_pick_27 : decode b_C_pick 27 = .ok (.baload, 1) := by decide +kernel
theorem d_C_pick_28 : decode b_C_pick 28 = .ok (.ifCond .ne 13, 3) := by decide +kernel
theorem d_C_pick_31 : decode b_C_pick 31 = .ok (.new 60, 3) := by decide +kernel
theorem d_C_pick_34 : decode b_C_pick 34 = .ok (.dup, 1) := by decide +kernel
theorem d_C_pick_35 : decode b_C_pick 35 = .ok (.ldc 140, 2) := by decide +kernel
theorem d_C_pick_37 : decode b_C_pick 37 = .ok (.invokespecial 64, 3) := by decide +kernel
theorem d_C_pick_40 : decode b_C_pick 40 = .ok (.athrow, 1) := by decide +kernel
theorem d_C_pick_41 : decode b_C_pick 41 = .ok (.aload_n 0, 1) := by decide +kernel
theorem d_C_pick_42 : decode b_C_pick 42 = .ok (.getfield 16, 3) := by decide +kernel
theorem d_C_pick_45 : decode b_C_pick 45 = .ok (.iload_n 3, 1) := by decide +kernel
theorem d_C_pick_46 : decode b_C_pick 46 = .ok (.baload, 1) := by decide +kernel
theorem d_C_pick_47 : decode b_C_pick 47 = .ok (.ifCond .eq 13, 3) := by decide +kernel
theorem d_C_pick_50 : decode b_C_pick 50 = .ok (.new 60, 3) := by decide +kernel
theorem d_C_pick_53 : decode b_C_pick 53 = .ok (.dup, 1) := by decide +kernel
theorem d_C_pick_54 : decode b_C_pick 54 = .ok (.ldc 142, 2) := by decide +kernel
theorem d_C_pick_56 : decode b_C_pick 56 = .ok (.invokespecial 64, 3) := by decide +kernel
theorem d_C_pick_59 : decode b_C_pick 59 = .ok (.athrow, 1) := by decide +kernel
theorem d_C_pick_60 : decode b_C_pick 60 = .ok (.aload_n 0, 1) := by decide +kernel
theorem d_C_pick_61 : decode b_C_pick 61 = .ok (.getfield 20, 3) := by decide +kernel
theorem d_C_pick_64 : decode b_C_pick 64 = .ok (.iload_n 1, 1) := by decide +kernel
theorem d_C_pick_65 : decode b_C_pick 65 = .ok (.iaload, 1) := by decide +kernel
theorem d_C_pick_66 : decode b_C_pick 66 = .ok (.iload_n 3, 1) := by decide +kernel
theorem d_C_pick_67 : decode b_C_pick 67 = .ok (.if_icmp .eq 5, 3) := by decide +kernel
theorem d_C_pick_70 : decode b_C_pick 70 = .ok (.iconst 0, 1) := by decide +kernel
theorem d_C_pick_71 : decode b_C_pick 71 = .ok (.ireturn, 1) := by decide +kernel
theorem d_C_pick_72 : decode b_C_pick 72 = .ok (.aload_n 0, 1) := by decide +kernel
theorem d_C_pick_73 : decode b_C_pick 73 = .ok (.getfield 20, 3) := by decide +kernel
theorem d_C_pick_76 : decode b_C_pick 76 = .ok (.iload_n 1, 1) := by decide +kernel
theorem d_C_pick_77 : decode b_C_pick 77 = .ok (.iconst (-1), 1) := by decide +kernel
theorem d_C_pick_78 : decode b_C_pick 78 = .ok (.iastore, 1) := by decide +kernel
theorem d_C_pick_79 : decode b_C_pick 79 = .ok (.aload_n 0, 1) := by decide +kernel
theorem d_C_pick_80 : decode b_C_pick 80 = .ok (.getfield 23, 3) := by decide +kernel
theorem d_C_pick_83 : decode b_C_pick 83 = .ok (.iload_n 1, 1) := by decide +kernel
theorem d_C_pick_84 : decode b_C_pick 84 = .ok (.dup2, 1) := by decide +kernel
theorem d_C_pick_85 : decode b_C_pick 85 = .ok (.iaload, 1) := by decide +kernel
theorem d_C_pick_86 : decode b_C_pick 86 = .ok (.bipush 64, 2) := by decide +kernel
theorem d_C_pick_88 : decode b_C_pick 88 = .ok (.iadd, 1) := by decide +kernel
theorem d_C_pick_89 : decode b_C_pick 89 = .ok (.iastore, 1) := by decide +kernel
theorem d_C_pick_90 : decode b_C_pick 90 = .ok (.aload_n 0, 1) := by decide +kernel
theorem d_C_pick_91 : decode b_C_pick 91 = .ok (.dup, 1) := by decide +kernel
theorem d_C_pick_92 : decode b_C_pick 92 = .ok (.getfield 144, 3) := by decide +kernel
theorem d_C_pick_95 : decode b_C_pick 95 = .ok (.iconst 1, 1) := by decide +kernel
theorem d_C_pick_96 : decode b_C_pick 96 = .ok (.iadd, 1) := by decide +kernel
theorem d_C_pick_97 : decode b_C_pick 97 = .ok (.putfield 144, 3) := by decide +kernel
theorem d_C_pick_100 : decode b_C_pick 100 = .ok (.iconst 1, 1) := by decide +kernel
theorem d_C_pick_101 : decode b_C_pick 101 = .ok (.ireturn, 1) := by decide +kernel
theorem d_C_door_0 : decode b_C_door 0 = .ok (.iload_n 1, 1) := by decide +kernel
theorem d_C_door_1 : decode b_C_door 1 = .ok (.invokestatic 137, 3) := by decide +kernel
theorem d_C_door_4 : decode b_C_door 4 = .ok (.aload_n 0, 1) := by decide +kernel
theorem d_C_door_5 : decode b_C_door 5 = .ok (.getfield 26, 3) := by decide +kernel
theorem d_C_door_8 : decode b_C_door 8 = .ok (.iload_n 1, 1) := by decide +kernel
theorem d_C_door_9 : decode b_C_door 9 = .ok (.baload, 1) := by decide +kernel
theorem d_C_door_10 : decode b_C_door 10 = .ok (.istore_n 3, 1) := by decide +kernel
theorem d_C_door_11 : decode b_C_door 11 = .ok (.aload_n 0, 1) := by decide +kernel
theorem d_C_door_12 : decode b_C_door 12 = .ok (.getfield 26, 3) := by decide +kernel
theorem d_C_door_15 : decode b_C_door 15 = .ok (.iload_n 1, 1) := by decide +kernel
theorem d_C_door_16 : decode b_C_door 16 = .ok (.iload_n 2, 1) := by decide +kernel
theorem d_C_door_17 : decode b_C_door 17 = .ok (.bastore, 1) := by decide +kernel
theorem d_C_door_18 : decode b_C_door 18 = .ok (.iload_n 3, 1) := by decide +kernel
theorem d_C_door_19 : decode b_C_door 19 = .ok (.ireturn, 1) := by decide +kernel
theorem d_C_move_0 : decode b_C_move 0 = .ok (.aload_n 0, 1) := by decide +kernel
theorem d_C_move_1 : decode b_C_move 1 = .ok (.iload_n 1, 1) := by decide +kernel
theorem d_C_move_2 : decode b_C_move 2 = .ok (.invokevirtual 54, 3) := by decide +kernel
theorem d_C_move_5 : decode b_C_move 5 = .ok (.aload_n 0, 1) := by decide +kernel
theorem d_C_move_6 : decode b_C_move 6 = .ok (.iload_n 2, 1) := by decide +kernel
theorem d_C_move_7 : decode b_C_move 7 = .ok (.invokevirtual 54, 3) := by decide +kernel
theorem d_C_move_10 : decode b_C_move 10 = .ok (.aload_n 0, 1) := by decide +kernel
theorem d_C_move_11 : decode b_C_move 11 = .ok (.invokevirtual 84, 3) := by decide +kernel
theorem d_C_move_14 : decode b_C_move 14 = .ok (.iload_n 1, 1) := by decide +kernel
theorem d_C_move_15 : decode b_C_move 15 = .ok (.iload_n 2, 1) := by decide +kernel
theorem d_C_move_16 : decode b_C_move 16 = .ok (.if_icmp .ne 13, 3) := by decide +kernel
theorem d_C_move_19 : decode b_C_move 19 = .ok (.new 60, 3) := by decide +kernel
theorem d_C_move_22 : decode b_C_move 22 = .ok (.dup, 1) := by decide +kernel
theorem d_C_move_23 : decode b_C_move 23 = .ok (.ldc 147, 2) := by decide +kernel
theorem d_C_move_25 : decode b_C_move 25 = .ok (.invokespecial 64, 3) := by decide +kernel
theorem d_C_move_28 : decode b_C_move 28 = .ok (.athrow, 1) := by decide +kernel
theorem d_C_move_29 : decode b_C_move 29 = .ok (.aload_n 0, 1) := by decide +kernel
theorem d_C_move_30 : decode b_C_move 30 = .ok (.getfield 9, 3) := by decide +kernel
theorem d_C_move_33 : decode b_C_move 33 = .ok (.iload_n 1, 1) := by decide +kernel
theorem d_C_move_34 : decode b_C_move 34 = .ok (.iaload, 1) := by decide +kernel
theorem d_C_move_35 : decode b_C_move 35 = .ok (.istore_n 3, 1) := by decide +kernel
theorem d_C_move_36 : decode b_C_move 36 = .ok (.aload_n 0, 1) := by decide +kernel
theorem d_C_move_37 : decode b_C_move 37 = .ok (.getfield 9, 3) := by decide +kernel
theorem d_C_move_40 : decode b_C_move 40 = .ok (.iload_n 2, 1) := by decide +kernel
theorem d_C_move_41 : decode b_C_move 41 = .ok (.iaload, 1) := by decide +kernel
theorem d_C_move_42 : decode b_C_move 42 = .ok (.istore 4, 2) := by decide +kernel
theorem d_C_move_44 : decode b_C_move 44 = .ok (.aload_n 0, 1) := by decide +kernel
theorem d_C_move_45 : decode b_C_move 45 = .ok (.iload_n 1, 1) := by decide +kernel
theorem d_C_move_46 : decode b_C_move 46 = .ok (.iload 4, 2) := by decide +kernel
theorem d_C_move_48 : decode b_C_move 48 = .ok (.invokevirtual 149, 3) := by decide +kernel
theorem d_C_move_51 : decode b_C_move 51 = .ok (.aload_n 0, 1) := by decide +kernel
theorem d_C_move_52 : decode b_C_move 52 = .ok (.iload_n 2, 1) := by decide +kernel
theorem d_C_move_53 : decode b_C_move 53 = .ok (.iload_n 3, 1) := by decide +kernel
theorem d_C_move_54 : decode b_C_move 54 = .ok (.invokevirtual 149, 3) := by decide +kernel
theorem d_C_move_57 : decode b_C_move 57 = .ok (.iload_n 3, 1) := by decide +kernel
theorem d_C_move_58 : decode b_C_move 58 = .ok (.iload 4, 2) := by decide +kernel
theorem d_C_move_60 : decode b_C_move 60 = .ok (.aload_n 0, 1) := by decide +kernel
theorem d_C_move_61 : decode b_C_move 61 = .ok (.getfield 41, 3) := by decide +kernel
theorem d_C_move_64 : decode b_C_move 64 = .ok (.invokestatic 90, 3) := by decide +kernel
theorem d_C_move_67 : decode b_C_move 67 = .ok (.ireturn, 1) := by decide +kernel
theorem d_C_blocked_0 : decode b_C_blocked 0 = .ok (.aload_n 0, 1) := by decide +kernel
theorem d_C_blocked_1 : decode b_C_blocked 1 = .ok (.iload_n 1, 1) := by decide +kernel
theorem d_C_blocked_2 : decode b_C_blocked 2 = .ok (.invokevirtual 54, 3) := by decide +kernel
theorem d_C_blocked_5 : decode b_C_blocked 5 = .ok (.aload_n 0, 1) := by decide +kernel
theorem d_C_blocked_6 : decode b_C_blocked 6 = .ok (.getfield 16, 3) := by decide +kernel
theorem d_C_blocked_9 : decode b_C_blocked 9 = .ok (.iload_n 1, 1) := by decide +kernel
theorem d_C_blocked_10 : decode b_C_blocked 10 = .ok (.baload, 1) := by decide +kernel
theorem d_C_blocked_11 : decode b_C_blocked 11 = .ok (.istore_n 3, 1) := by decide +kernel
theorem d_C_blocked_12 : decode b_C_blocked 12 = .ok (.aload_n 0, 1) := by decide +kernel
theorem d_C_blocked_13 : decode b_C_blocked 13 = .ok (.getfield 16, 3) := by decide +kernel
theorem d_C_blocked_16 : decode b_C_blocked 16 = .ok (.iload_n 1, 1) := by decide +kernel
theorem d_C_blocked_17 : decode b_C_blocked 17 = .ok (.iload_n 2, 1) := by decide +kernel
theorem d_C_blocked_18 : decode b_C_blocked 18 = .ok (.bastore, 1) := by decide +kernel
theorem d_C_blocked_19 : decode b_C_blocked 19 = .ok (.iload_n 3, 1) := by decide +kernel
theorem d_C_blocked_20 : decode b_C_blocked 20 = .ok (.ireturn, 1) := by decide +kernel
theorem d_C_days_0 : decode b_C_days 0 = .ok (.iload_n 1, 1) := by decide +kernel
theorem d_C_days_1 : decode b_C_days 1 = .ok (.ifCond .lt 9, 3) := by decide +kernel
theorem d_C_days_4 : decode b_C_days 4 = .ok (.iload_n 1, 1) := by decide +kernel
theorem d_C_days_5 : decode b_C_days 5 = .ok (.bipush 30, 2) := by decide +kernel
theorem d_C_days_7 : decode b_C_days 7 = .ok (.if_icmp .le 13, 3) := by decide +kernel
theorem d_C_days_10 : decode b_C_days 10 = .ok (.new 79, 3) := by decide +kernel
theorem d_C_days_13 : decode b_C_days 13 = .ok (.dup, 1) := by decide +kernel
theorem d_C_days_14 : decode b_C_days 14 = .ok (.ldc 152, 2) := by decide +kernel
theorem d_C_days_16 : decode b_C_days 16 = .ok (.invokespecial 83, 3) := by decide +kernel
theorem d_C_days_19 : decode b_C_days 19 = .ok (.athrow, 1) := by decide +kernel
theorem d_C_days_20 : decode b_C_days 20 = .ok (.iconst 0, 1) := by decide +kernel
theorem d_C_days_21 : decode b_C_days 21 = .ok (.istore_n 2, 1) := by decide +kernel
theorem d_C_days_22 : decode b_C_days 22 = .ok (.iload_n 2, 1) := by decide +kernel
theorem d_C_days_23 : decode b_C_days 23 = .ok (.bipush 20, 2) := by decide +kernel
theorem d_C_days_25 : decode b_C_days 25 = .ok (.if_icmp .ge 19, 3) := by decide +kernel
theorem d_C_days_28 : decode b_C_days 28 = .ok (.aload_n 0, 1) := by decide +kernel
theorem d_C_days_29 : decode b_C_days 29 = .ok (.getfield 23, 3) := by decide +kernel
theorem d_C_days_32 : decode b_C_days 32 = .ok (.iload_n 2, 1) := by decide +kernel
theorem d_C_days_33 : decode b_C_days 33 = .ok (.dup2, 1) := by decide +kernel
theorem d_C_days_34 : decode b_C_days 34 = .ok (.iaload, 1) := by decide +kernel
theorem d_C_days_35 : decode b_C_days 35 = .ok (.iload_n 1, 1) := by decide +kernel
theorem d_C_days_36 : decode b_C_days 36 = .ok (.ishr, 1) := by decide +kernel
theorem d_C_days_37 : decode b_C_days 37 = .ok (.iastore, 1) := by decide +kernel
theorem d_C_days_38 : decode b_C_days 38 = .ok (.iinc 2 1, 3) := by decide +kernel
theorem d_C_days_41 : decode b_C_days 41 = .ok (.goto (-19), 3) := by decide +kernel
theorem d_C_days_44 : decode b_C_days 44 = .ok (.return_, 1) := by decide +kernel
theorem d_C_learned_0 : decode b_C_learned 0 = .ok (.iload_n 1, 1) := by decide +kernel
theorem d_C_learned_1 : decode b_C_learned 1 = .ok (.invokestatic 57, 3) := by decide +kernel
theorem d_C_learned_4 : decode b_C_learned 4 = .ok (.aload_n 0, 1) := by decide +kernel
theorem d_C_learned_5 : decode b_C_learned 5 = .ok (.getfield 23, 3) := by decide +kernel
theorem d_C_learned_8 : decode b_C_learned 8 = .ok (.iload_n 1, 1) := by decide +kernel
theorem d_C_learned_9 : decode b_C_learned 9 = .ok (.iaload, 1) := by decide +kernel
theorem d_C_learned_10 : decode b_C_learned 10 = .ok (.ireturn, 1) := by decide +kernel
theorem d_C_rest_0 : decode b_C_rest 0 = .ok (.aload_n 0, 1) := by decide +kernel
theorem d_C_rest_1 : decode b_C_rest 1 = .ok (.getfield 41, 3) := by decide +kernel
theorem d_C_rest_4 : decode b_C_rest 4 = .ok (.ifCond .ne 5, 3) := by decide +kernel
theorem d_C_rest_7 : decode b_C_rest 7 = .ok (.iconst (-1), 1) := by decide +kernel
theorem d_C_rest_8 : decode b_C_rest 8 = .ok (.ireturn, 1) := by decide +kernel
theorem d_C_rest_9 : decode b_C_rest 9 = .ok (.iconst 0, 1) := by decide +kernel
theorem d_C_rest_10 : decode b_C_rest 10 = .ok (.istore_n 1, 1) := by decide +kernel
theorem d_C_rest_11 : decode b_C_rest 11 = .ok (.aload_n 0, 1) := by decide +kernel
theorem d_C_rest_12 : decode b_C_rest 12 = .ok (.iconst 0, 1) := by decide +kernel
theorem d_C_rest_13 : decode b_C_rest 13 = .ok (.invokevirtual 154, 3) := by decide +kernel
theorem d_C_rest_16 : decode b_C_rest 16 = .ok (.istore_n 2, 1) := by decide +kernel
theorem d_C_rest_17 : decode b_C_rest 17 = .ok (.iconst 1, 1) := by decide +kernel
theorem d_C_rest_18 : decode b_C_rest 18 = .ok (.istore_n 3, 1) := by decide +kernel
theorem d_C_rest_19 : decode b_C_rest 19 = .ok (.iload_n 3, 1) := by decide +kernel
theorem d_C_rest_20 : decode b_C_rest 20 = .ok (.aload_n 0, 1) := by decide +kernel
theorem d_C_rest_21 : decode b_C_rest 21 = .ok (.getfield 41, 3) := by decide +kernel
theorem d_C_rest_24 : decode b_C_rest 24 = .ok (.if_icmp .ge 27, 3) := by decide +kernel
theorem d_C_rest_27 : decode b_C_rest 27 = .ok (.aload_n 0, 1) := by decide +kernel
theorem d_C_rest_28 : decode b_C_rest 28 = .ok (.iload_n 3, 1) := by decide +kernel
theorem d_C_rest_29 : decode b_C_rest 29 = .ok (.invokevirtual 154, 3) := by decide +kernel
theorem d_C_rest_32 : decode b_C_rest 32 = .ok (.istore 4, 2) := by decide +kernel
theorem d_C_rest_34 : decode b_C_rest 34 = .ok (.iload 4, 2) := by decide +kernel
theorem d_C_rest_36 : decode b_C_rest 36 = .ok (.iload_n 2, 1) := by decide +kernel
theorem d_C_rest_37 : decode b_C_rest 37 = .ok (.if_icmp .le 8, 3) := by decide +kernel
theorem d_C_rest_40 : decode b_C_rest 40 = .ok (.iload_n 3, 1) := by decide +kernel
theorem d_C_rest_41 : decode b_C_rest 41 = .ok (.istore_n 1, 1) := by decide +kernel
theorem d_C_rest_42 : decode b_C_rest 42 = .ok (.iload 4, 2) := by decide +kernel
theorem d_C_rest_44 : decode b_C_rest 44 = .ok (.istore_n 2, 1) := by decide +kernel
theorem d_C_rest_45 : decode b_C_rest 45 = .ok (.iinc 3 1, 3) := by decide +kernel
theorem d_C_rest_48 : decode b_C_rest 48 = .ok (.goto (-29), 3) := by decide +kernel
theorem d_C_rest_51 : decode b_C_rest 51 = .ok (.aload_n 0, 1) := by decide +kernel
theorem d_C_rest_52 : decode b_C_rest 52 = .ok (.getfield 9, 3) := by decide +kernel
theorem d_C_rest_55 : decode b_C_rest 55 = .ok (.iload_n 1, 1) := by decide +kernel
theorem d_C_rest_56 : decode b_C_rest 56 = .ok (.iaload, 1) := by decide +kernel
theorem d_C_rest_57 : decode b_C_rest 57 = .ok (.ireturn, 1) := by decide +kernel
theorem d_C_shelf_0 : decode b_C_shelf 0 = .ok (.aload_n 0, 1) := by decide +kernel
theorem d_C_shelf_1 : decode b_C_shelf 1 = .ok (.iload_n 1, 1) := by decide +kernel
theorem d_C_shelf_2 : decode b_C_shelf 2 = .ok (.invokevirtual 54, 3) := by decide +kernel
theorem d_C_shelf_5 : decode b_C_shelf 5 = .ok (.iload_n 2, 1) := by decide +kernel
theorem d_C_shelf_6 : decode b_C_shelf 6 = .ok (.tableswitch 86 0 4 #[34, 41, 47, 62, 80], 34) := by decide +kernel
theorem d_C_shelf_40 : decode b_C_shelf 40 = .ok (.aload_n 0, 1) := by decide +kernel
theorem d_C_shelf_41 : decode b_C_shelf 41 = .ok (.getfield 9, 3) := by decide +kernel
theorem d_C_shelf_44 : decode b_C_shelf 44 = .ok (.iload_n 1, 1) := by decide +kernel
theorem d_C_shelf_45 : decode b_C_shelf 45 = .ok (.iaload, 1) := by decide +kernel
theorem d_C_shelf_46 : decode b_C_shelf 46 = .ok (.ireturn, 1) := by decide +kernel
theorem d_C_shelf_47 : decode b_C_shelf 47 = .ok (.aload_n 0, 1) := by decide +kernel
theorem d_C_shelf_48 : decode b_C_shelf 48 = .ok (.iload_n 1, 1) := by decide +kernel
theorem d_C_shelf_49 : decode b_C_shelf 49 = .ok (.invokevirtual 67, 3) := by decide +kernel
theorem d_C_shelf_52 : decode b_C_shelf 52 = .ok (.ireturn, 1) := by decide +kernel
theorem d_C_shelf_53 : decode b_C_shelf 53 = .ok (.aload_n 0, 1) := by decide +kernel
theorem d_C_shelf_54 : decode b_C_shelf 54 = .ok (.getfield 16, 3) := by decide +kernel
theorem d_C_shelf_57 : decode b_C_shelf 57 = .ok (.iload_n 1, 1) := by decide +kernel
theorem d_C_shelf_58 : decode b_C_shelf 58 = .ok (.baload, 1) := by decide +kernel
theorem d_C_shelf_59 : decode b_C_shelf 59 = .ok (.ifCond .eq 7, 3) := by decide +kernel
theorem d_C_shelf_62 : decode b_C_shelf 62 = .ok (.iconst 1, 1) := by decide +kernel
theorem d_C_shelf_63 : decode b_C_shelf 63 = .ok (.goto 4, 3) := by decide +kernel
theorem d_C_shelf_66 : decode b_C_shelf 66 = .ok (.iconst 0, 1) := by decide +kernel
theorem d_C_shelf_67 : decode b_C_shelf 67 = .ok (.ireturn, 1) := by decide +kernel
theorem d_C_shelf_68 : decode b_C_shelf 68 = .ok (.aload_n 0, 1) := by decide +kernel
theorem d_C_shelf_69 : decode b_C_shelf 69 = .ok (.getfield 87, 3) := by decide +kernel
theorem d_C_shelf_72 : decode b_C_shelf 72 = .ok (.aload_n 0, 1) := by decide +kernel
theorem d_C_shelf_73 : decode b_C_shelf 73 = .ok (.getfield 9, 3) := by decide +kernel
theorem d_C_shelf_76 : decode b_C_shelf 76 = .ok (.iload_n 1, 1) := by decide +kernel
theorem d_C_shelf_77 : decode b_C_shelf 77 = .ok (.iaload, 1) := by decide +kernel
theorem d_C_shelf_78 : decode b_C_shelf 78 = .ok (.aload_n 0, 1) := by decide +kernel
theorem d_C_shelf_79 : decode b_C_shelf 79 = .ok (.getfield 41, 3) := by decide +kernel
theorem d_C_shelf_82 : decode b_C_shelf 82 = .ok (.invokestatic 90, 3) := by decide +kernel
theorem d_C_shelf_85 : decode b_C_shelf 85 = .ok (.ireturn, 1) := by decide +kernel
theorem d_C_shelf_86 : decode b_C_shelf 86 = .ok (.aload_n 0, 1) := by decide +kernel
theorem d_C_shelf_87 : decode b_C_shelf 87 = .ok (.iload_n 1, 1) := by decide +kernel
theorem d_C_shelf_88 : decode b_C_shelf 88 = .ok (.invokevirtual 154, 3) := by decide +kernel
theorem d_C_shelf_91 : decode b_C_shelf 91 = .ok (.ireturn, 1) := by decide +kernel
theorem d_C_shelf_92 : decode b_C_shelf 92 = .ok (.new 79, 3) := by decide +kernel
theorem d_C_shelf_95 : decode b_C_shelf 95 = .ok (.dup, 1) := by decide +kernel
theorem d_C_shelf_96 : decode b_C_shelf 96 = .ok (.ldc 157, 2) := by decide +kernel
theorem d_C_shelf_98 : decode b_C_shelf 98 = .ok (.invokespecial 83, 3) := by decide +kernel
theorem d_C_shelf_101 : decode b_C_shelf 101 = .ok (.athrow, 1) := by decide +kernel
theorem d_C_unit_0 : decode b_C_unit 0 = .ok (.iload_n 1, 1) := by decide +kernel
theorem d_C_unit_1 : decode b_C_unit 1 = .ok (.invokestatic 57, 3) := by decide +kernel
theorem d_C_unit_4 : decode b_C_unit 4 = .ok (.aload_n 0, 1) := by decide +kernel
theorem d_C_unit_5 : decode b_C_unit 5 = .ok (.getfield 20, 3) := by decide +kernel
theorem d_C_unit_8 : decode b_C_unit 8 = .ok (.iload_n 1, 1) := by decide +kernel
theorem d_C_unit_9 : decode b_C_unit 9 = .ok (.iaload, 1) := by decide +kernel
theorem d_C_unit_10 : decode b_C_unit 10 = .ok (.ireturn, 1) := by decide +kernel
theorem d_C_count_0 : decode b_C_count 0 = .ok (.iload_n 1, 1) := by decide +kernel
theorem d_C_count_1 : decode b_C_count 1 = .ok (.tableswitch 80 0 5 #[39, 44, 60, 65, 70, 75], 39) := by decide +kernel
theorem d_C_count_40 : decode b_C_count 40 = .ok (.aload_n 0, 1) := by decide +kernel
theorem d_C_count_41 : decode b_C_count 41 = .ok (.getfield 41, 3) := by decide +kernel
theorem d_C_count_44 : decode b_C_count 44 = .ok (.ireturn, 1) := by decide +kernel
theorem d_C_count_45 : decode b_C_count 45 = .ok (.aload_n 0, 1) := by decide +kernel
theorem d_C_count_46 : decode b_C_count 46 = .ok (.getfield 41, 3) := by decide +kernel
theorem d_C_count_49 : decode b_C_count 49 = .ok (.ifCond .ne 7, 3) := by decide +kernel
theorem d_C_count_52 : decode b_C_count 52 = .ok (.iconst (-1), 1) := by decide +kernel
theorem d_C_count_53 : decode b_C_count 53 = .ok (.goto 7, 3) := by decide +kernel
theorem d_C_count_56 : decode b_C_count 56 = .ok (.aload_n 0, 1) := by decide +kernel
theorem d_C_count_57 : decode b_C_count 57 = .ok (.getfield 87, 3) := by decide +kernel
theorem d_C_count_60 : decode b_C_count 60 = .ok (.ireturn, 1) := by decide +kernel
theorem d_C_count_61 : decode b_C_count 61 = .ok (.aload_n 0, 1) := by decide +kernel
theorem d_C_count_62 : decode b_C_count 62 = .ok (.getfield 94, 3) := by decide +kernel
theorem d_C_count_65 : decode b_C_count 65 = .ok (.ireturn, 1) := by decide +kernel
theorem d_C_count_66 : decode b_C_count 66 = .ok (.aload_n 0, 1) := by decide +kernel
theorem d_C_count_67 : decode b_C_count 67 = .ok (.invokevirtual 159, 3) := by decide +kernel
theorem d_C_count_70 : decode b_C_count 70 = .ok (.ireturn, 1) := by decide +kernel
theorem d_C_count_71 : decode b_C_count 71 = .ok (.aload_n 0, 1) := by decide +kernel
theorem d_C_count_72 : decode b_C_count 72 = .ok (.getfield 108, 3) := by decide +kernel
theorem d_C_count_75 : decode b_C_count 75 = .ok (.ireturn, 1) := by decide +kernel
theorem d_C_count_76 : decode b_C_count 76 = .ok (.aload_n 0, 1) := by decide +kernel
theorem d_C_count_77 : decode b_C_count 77 = .ok (.getfield 144, 3) := by decide +kernel
theorem d_C_count_80 : decode b_C_count 80 = .ok (.ireturn, 1) := by decide +kernel
theorem d_C_count_81 : decode b_C_count 81 = .ok (.iconst (-1), 1) := by decide +kernel
theorem d_C_count_82 : decode b_C_count 82 = .ok (.ireturn, 1) := by decide +kernel
theorem d_C_isShelf_0 : decode b_C_isShelf 0 = .ok (.iload_n 1, 1) := by decide +kernel
theorem d_C_isShelf_1 : decode b_C_isShelf 1 = .ok (.ifCond .lt 15, 3) := by decide +kernel
theorem d_C_isShelf_4 : decode b_C_isShelf 4 = .ok (.iload_n 1, 1) := by decide +kernel
theorem d_C_isShelf_5 : decode b_C_isShelf 5 = .ok (.aload_n 0, 1) := by decide +kernel
theorem d_C_isShelf_6 : decode b_C_isShelf 6 = .ok (.getfield 41, 3) := by decide +kernel
theorem d_C_isShelf_9 : decode b_C_isShelf 9 = .ok (.if_icmp .ge 7, 3) := by decide +kernel
theorem d_C_isShelf_12 : decode b_C_isShelf 12 = .ok (.iconst 1, 1) := by decide +kernel
theorem d_C_isShelf_13 : decode b_C_isShelf 13 = .ok (.goto 4, 3) := by decide +kernel
theorem d_C_isShelf_16 : decode b_C_isShelf 16 = .ok (.iconst 0, 1) := by decide +kernel
theorem d_C_isShelf_17 : decode b_C_isShelf 17 = .ok (.ireturn, 1) := by decide +kernel
theorem d_C_needShelf_0 : decode b_C_needShelf 0 = .ok (.aload_n 0, 1) := by decide +kernel
theorem d_C_needShelf_1 : decode b_C_needShelf 1 = .ok (.iload_n 1, 1) := by decide +kernel
theorem d_C_needShelf_2 : decode b_C_needShelf 2 = .ok (.invokevirtual 163, 3) := by decide +kernel
theorem d_C_needShelf_5 : decode b_C_needShelf 5 = .ok (.ifCond .ne 13, 3) := by decide +kernel
theorem d_C_needShelf_8 : decode b_C_needShelf 8 = .ok (.new 166, 3) := by decide +kernel
theorem d_C_needShelf_11 : decode b_C_needShelf 11 = .ok (.dup, 1) := by decide +kernel
theorem d_C_needShelf_12 : decode b_C_needShelf 12 = .ok (.ldc 168, 2) := by decide +kernel
theorem d_C_needShelf_14 : decode b_C_needShelf 14 = .ok (.invokespecial 170, 3) := by decide +kernel
theorem d_C_needShelf_17 : decode b_C_needShelf 17 = .ok (.athrow, 1) := by decide +kernel
theorem d_C_needShelf_18 : decode b_C_needShelf 18 = .ok (.return_, 1) := by decide +kernel
theorem d_C_needUnit_0 : decode b_C_needUnit 0 = .ok (.iload_n 0, 1) := by decide +kernel
theorem d_C_needUnit_1 : decode b_C_needUnit 1 = .ok (.ifCond .lt 9, 3) := by decide +kernel
theorem d_C_needUnit_4 : decode b_C_needUnit 4 = .ok (.iload_n 0, 1) := by decide +kernel
theorem d_C_needUnit_5 : decode b_C_needUnit 5 = .ok (.bipush 20, 2) := by decide +kernel
theorem d_C_needUnit_7 : decode b_C_needUnit 7 = .ok (.if_icmp .lt 13, 3) := by decide +kernel
theorem d_C_needUnit_10 : decode b_C_needUnit 10 = .ok (.new 79, 3) := by decide +kernel
theorem d_C_needUnit_13 : decode b_C_needUnit 13 = .ok (.dup, 1) := by decide +kernel
theorem d_C_needUnit_14 : decode b_C_needUnit 14 = .ok (.ldc 171, 2) := by decide +kernel
theorem d_C_needUnit_16 : decode b_C_needUnit 16 = .ok (.invokespecial 83, 3) := by decide +kernel
theorem d_C_needUnit_19 : decode b_C_needUnit 19 = .ok (.athrow, 1) := by decide +kernel
theorem d_C_needUnit_20 : decode b_C_needUnit 20 = .ok (.return_, 1) := by decide +kernel
theorem d_C_needStation_0 : decode b_C_needStation 0 = .ok (.iload_n 0, 1) := by decide +kernel
theorem d_C_needStation_1 : decode b_C_needStation 1 = .ok (.ifCond .lt 8, 3) := by decide +kernel
theorem d_C_needStation_4 : decode b_C_needStation 4 = .ok (.iload_n 0, 1) := by decide +kernel
theorem d_C_needStation_5 : decode b_C_needStation 5 = .ok (.iconst 2, 1) := by decide +kernel
theorem d_C_needStation_6 : decode b_C_needStation 6 = .ok (.if_icmp .lt 13, 3) := by decide +kernel
theorem d_C_needStation_9 : decode b_C_needStation 9 = .ok (.new 79, 3) := by decide +kernel
theorem d_C_needStation_12 : decode b_C_needStation 12 = .ok (.dup, 1) := by decide +kernel
theorem d_C_needStation_13 : decode b_C_needStation 13 = .ok (.ldc 173, 2) := by decide +kernel
theorem d_C_needStation_15 : decode b_C_needStation 15 = .ok (.invokespecial 83, 3) := by decide +kernel
theorem d_C_needStation_18 : decode b_C_needStation 18 = .ok (.athrow, 1) := by decide +kernel
theorem d_C_needStation_19 : decode b_C_needStation 19 = .ok (.return_, 1) := by decide +kernel
theorem d_C_needPlaces_0 : decode b_C_needPlaces 0 = .ok (.aload_n 0, 1) := by decide +kernel
theorem d_C_needPlaces_1 : decode b_C_needPlaces 1 = .ok (.getfield 41, 3) := by decide +kernel
theorem d_C_needPlaces_4 : decode b_C_needPlaces 4 = .ok (.ifCond .ne 13, 3) := by decide +kernel
theorem d_C_needPlaces_7 : decode b_C_needPlaces 7 = .ok (.new 175, 3) := by decide +kernel
theorem d_C_needPlaces_10 : decode b_C_needPlaces 10 = .ok (.dup, 1) := by decide +kernel
theorem d_C_needPlaces_11 : decode b_C_needPlaces 11 = .ok (.ldc 177, 2) := by decide +kernel
theorem d_C_needPlaces_13 : decode b_C_needPlaces 13 = .ok (.invokespecial 179, 3) := by decide +kernel
theorem d_C_needPlaces_16 : decode b_C_needPlaces 16 = .ok (.athrow, 1) := by decide +kernel
theorem d_C_needPlaces_17 : decode b_C_needPlaces 17 = .ok (.return_, 1) := by decide +kernel
theorem d_C_needClosedDoors_0 : decode b_C_needClosedDoors 0 = .ok (.iconst 0, 1) := by decide +kernel
theorem d_C_needClosedDoors_1 : decode b_C_needClosedDoors 1 = .ok (.istore_n 1, 1) := by decide +kernel
theorem d_C_needClosedDoors_2 : decode b_C_needClosedDoors 2 = .ok (.iload_n 1, 1) := by decide +kernel
theorem d_C_needClosedDoors_3 : decode b_C_needClosedDoors 3 = .ok (.iconst 2, 1) := by decide +kernel
theorem d_C_needClosedDoors_4 : decode b_C_needClosedDoors 4 = .ok (.if_icmp .ge 28, 3) := by decide +kernel
theorem d_C_needClosedDoors_7 : decode b_C_needClosedDoors 7 = .ok (.aload_n 0, 1) := by decide +kernel
theorem d_C_needClosedDoors_8 : decode b_C_needClosedDoors 8 = .ok (.getfield 26, 3) := by decide +kernel
theorem d_C_needClosedDoors_11 : decode b_C_needClosedDoors 11 = .ok (.iload_n 1, 1) := by decide +kernel
theorem d_C_needClosedDoors_12 : decode b_C_needClosedDoors 12 = .ok (.baload, 1) := by decide +kernel
theorem d_C_needClosedDoors_13 : decode b_C_needClosedDoors 13 = .ok (.ifCond .eq 13, 3) := by decide +kernel
theorem d_C_needClosedDoors_16 : decode b_C_needClosedDoors 16 = .ok (.new 60, 3) := by decide +kernel
theorem d_C_needClosedDoors_19 : decode b_C_needClosedDoors 19 = .ok (.dup, 1) := by decide +kernel
theorem d_C_needClosedDoors_20 : decode b_C_needClosedDoors 20 = .ok (.ldc 180, 2) := by decide +kernel
theorem d_C_needClosedDoors_22 : decode b_C_needClosedDoors 22 = .ok (.invokespecial 64, 3) := by decide +kernel
theorem d_C_needClosedDoors_25 : decode b_C_needClosedDoors 25 = .ok (.athrow, 1) := by decide +kernel
theorem d_C_needClosedDoors_26 : decode b_C_needClosedDoors 26 = .ok (.iinc 1 1, 3) := by decide +kernel
theorem d_C_needClosedDoors_29 : decode b_C_needClosedDoors 29 = .ok (.goto (-27), 3) := by decide +kernel
theorem d_C_needClosedDoors_32 : decode b_C_needClosedDoors 32 = .ok (.return_, 1) := by decide +kernel
theorem d_C_distance_0 : decode b_C_distance 0 = .ok (.iload_n 0, 1) := by decide +kernel
theorem d_C_distance_1 : decode b_C_distance 1 = .ok (.iload_n 1, 1) := by decide +kernel
theorem d_C_distance_2 : decode b_C_distance 2 = .ok (.isub, 1) := by decide +kernel
theorem d_C_distance_3 : decode b_C_distance 3 = .ok (.invokestatic 182, 3) := by decide +kernel
theorem d_C_distance_6 : decode b_C_distance 6 = .ok (.istore_n 3, 1) := by decide +kernel
theorem d_C_distance_7 : decode b_C_distance 7 = .ok (.iload_n 3, 1) := by decide +kernel
theorem d_C_distance_8 : decode b_C_distance 8 = .ok (.iload_n 2, 1) := by decide +kernel
theorem d_C_distance_9 : decode b_C_distance 9 = .ok (.iload_n 3, 1) := by decide +kernel
theorem d_C_distance_10 : decode b_C_distance 10 = .ok (.isub, 1) := by decide +kernel
theorem d_C_distance_11 : decode b_C_distance 11 = .ok (.invokestatic 32, 3) := by decide +kernel
theorem d_C_distance_14 : decode b_C_distance 14 = .ok (.ireturn, 1) := by decide +kernel
theorem d_C_setPlace_0 : decode b_C_setPlace 0 = .ok (.aload_n 0, 1) := by decide +kernel
theorem d_C_setPlace_1 : decode b_C_setPlace 1 = .ok (.getfield 9, 3) := by decide +kernel
theorem d_C_setPlace_4 : decode b_C_setPlace 4 = .ok (.iload_n 1, 1) := by decide +kernel
theorem d_C_setPlace_5 : decode b_C_setPlace 5 = .ok (.iload_n 2, 1) := by decide +kernel
theorem d_C_setPlace_6 : decode b_C_setPlace 6 = .ok (.iastore, 1) := by decide +kernel
theorem d_C_setPlace_7 : decode b_C_setPlace 7 = .ok (.aload_n 0, 1) := by decide +kernel
theorem d_C_setPlace_8 : decode b_C_setPlace 8 = .ok (.getfield 13, 3) := by decide +kernel
theorem d_C_setPlace_11 : decode b_C_setPlace 11 = .ok (.iload_n 2, 1) := by decide +kernel
theorem d_C_setPlace_12 : decode b_C_setPlace 12 = .ok (.iload_n 1, 1) := by decide +kernel
theorem d_C_setPlace_13 : decode b_C_setPlace 13 = .ok (.iastore, 1) := by decide +kernel
theorem d_C_setPlace_14 : decode b_C_setPlace 14 = .ok (.return_, 1) := by decide +kernel
theorem d_C_canBeFetched_0 : decode b_C_canBeFetched 0 = .ok (.aload_n 0, 1) := by decide +kernel
theorem d_C_canBeFetched_1 : decode b_C_canBeFetched 1 = .ok (.getfield 20, 3) := by decide +kernel
theorem d_C_canBeFetched_4 : decode b_C_canBeFetched 4 = .ok (.iload_n 1, 1) := by decide +kernel
theorem d_C_canBeFetched_5 : decode b_C_canBeFetched 5 = .ok (.iaload, 1) := by decide +kernel
theorem d_C_canBeFetched_6 : decode b_C_canBeFetched 6 = .ok (.istore_n 2, 1) := by decide +kernel
theorem d_C_canBeFetched_7 : decode b_C_canBeFetched 7 = .ok (.aload_n 0, 1) := by decide +kernel
theorem d_C_canBeFetched_8 : decode b_C_canBeFetched 8 = .ok (.iload_n 2, 1) := by decide +kernel
theorem d_C_canBeFetched_9 : decode b_C_canBeFetched 9 = .ok (.invokevirtual 163, 3) := by decide +kernel
theorem d_C_canBeFetched_12 : decode b_C_canBeFetched 12 = .ok (.ifCond .eq 16, 3) := by decide +kernel
theorem d_C_canBeFetched_15 : decode b_C_canBeFetched 15 = .ok (.aload_n 0, 1) := by decide +kernel
theorem d_C_canBeFetched_16 : decode b_C_canBeFetched 16 = .ok (.getfield 16, 3) := by decide +kernel
theorem d_C_canBeFetched_19 : decode b_C_canBeFetched 19 = .ok (.iload_n 2, 1) := by decide +kernel
theorem d_C_canBeFetched_20 : decode b_C_canBeFetched 20 = .ok (.baload, 1) := by decide +kernel
theorem d_C_canBeFetched_21 : decode b_C_canBeFetched 21 = .ok (.ifCond .ne 7, 3) := by decide +kernel
theorem d_C_canBeFetched_24 : decode b_C_canBeFetched 24 = .ok (.iconst 1, 1) := by decide +kernel
theorem d_C_canBeFetched_25 : decode b_C_canBeFetched 25 = .ok (.goto 4, 3) := by decide +kernel
theorem d_C_canBeFetched_28 : decode b_C_canBeFetched 28 = .ok (.iconst 0, 1) := by decide +kernel
theorem d_C_canBeFetched_29 : decode b_C_canBeFetched 29 = .ok (.ireturn, 1) := by decide +kernel
theorem d_C_isListed_0 : decode b_C_isListed 0 = .ok (.iconst 0, 1) := by decide +kernel
theorem d_C_isListed_1 : decode b_C_isListed 1 = .ok (.istore_n 2, 1) := by decide +kernel
theorem d_C_isListed_2 : decode b_C_isListed 2 = .ok (.iload_n 2, 1) := by decide +kernel
theorem d_C_isListed_3 : decode b_C_isListed 3 = .ok (.aload_n 0, 1) := by decide +kernel
theorem d_C_isListed_4 : decode b_C_isListed 4 = .ok (.getfield 108, 3) := by decide +kernel
theorem d_C_isListed_7 : decode b_C_isListed 7 = .ok (.if_icmp .ge 21, 3) := by decide +kernel
theorem d_C_isListed_10 : decode b_C_isListed 10 = .ok (.aload_n 0, 1) := by decide +kernel
theorem d_C_isListed_11 : decode b_C_isListed 11 = .ok (.getfield 29, 3) := by decide +kernel
theorem d_C_isListed_14 : decode b_C_isListed 14 = .ok (.iload_n 2, 1) := by decide +kernel
theorem d_C_isListed_15 : decode b_C_isListed 15 = .ok (.iaload, 1) := by decide +kernel
theorem d_C_isListed_16 : decode b_C_isListed 16 = .ok (.iload_n 1, 1) := by decide +kernel
theorem d_C_isListed_17 : decode b_C_isListed 17 = .ok (.if_icmp .ne 5, 3) := by decide +kernel
theorem d_C_isListed_20 : decode b_C_isListed 20 = .ok (.iconst 1, 1) := by decide +kernel
theorem d_C_isListed_21 : decode b_C_isListed 21 = .ok (.ireturn, 1) := by decide +kernel
theorem d_C_isListed_22 : decode b_C_isListed 22 = .ok (.iinc 2 1, 3) := by decide +kernel
theorem d_C_isListed_25 : decode b_C_isListed 25 = .ok (.goto (-23), 3) := by decide +kernel
theorem d_C_isListed_28 : decode b_C_isListed 28 = .ok (.iconst 0, 1) := by decide +kernel
theorem d_C_isListed_29 : decode b_C_isListed 29 = .ok (.ireturn, 1) := by decide +kernel
theorem d_C_holdsListed_0 : decode b_C_holdsListed 0 = .ok (.iconst 0, 1) := by decide +kernel
theorem d_C_holdsListed_1 : decode b_C_holdsListed 1 = .ok (.istore_n 2, 1) := by decide +kernel
theorem d_C_holdsListed_2 : decode b_C_holdsListed 2 = .ok (.iload_n 2, 1) := by decide +kernel
theorem d_C_holdsListed_3 : decode b_C_holdsListed 3 = .ok (.aload_n 0, 1) := by decide +kernel
theorem d_C_holdsListed_4 : decode b_C_holdsListed 4 = .ok (.getfield 108, 3) := by decide +kernel
theorem d_C_holdsListed_7 : decode b_C_holdsListed 7 = .ok (.if_icmp .ge 26, 3) := by decide +kernel
theorem d_C_holdsListed_10 : decode b_C_holdsListed 10 = .ok (.aload_n 0, 1) := by decide +kernel
theorem d_C_holdsListed_11 : decode b_C_holdsListed 11 = .ok (.getfield 20, 3) := by decide +kernel
theorem d_C_holdsListed_14 : decode b_C_holdsListed 14 = .ok (.aload_n 0, 1) := by decide +kernel
theorem d_C_holdsListed_15 : decode b_C_holdsListed 15 = .ok (.getfield 29, 3) := by decide +kernel
theorem d_C_holdsListed_18 : decode b_C_holdsListed 18 = .ok (.iload_n 2, 1) := by decide +kernel
theorem d_C_holdsListed_19 : decode b_C_holdsListed 19 = .ok (.iaload, 1) := by decide +kernel
theorem d_C_holdsListed_20 : decode b_C_holdsListed 20 = .ok (.iaload, 1) := by decide +kernel
theorem d_C_holdsListed_21 : decode b_C_holdsListed 21 = .ok (.iload_n 1, 1) := by decide +kernel
theorem d_C_holdsListed_22 : decode b_C_holdsListed 22 = .ok (.if_icmp .ne 5, 3) := by decide +kernel
theorem d_C_holdsListed_25 : decode b_C_holdsListed 25 = .ok (.iconst 1, 1) := by decide +kernel
theorem d_C_holdsListed_26 : decode b_C_holdsListed 26 = .ok (.ireturn, 1) := by decide +kernel
theorem d_C_holdsListed_27 : decode b_C_holdsListed 27 = .ok (.iinc 2 1, 3) := by decide +kernel
theorem d_C_holdsListed_30 : decode b_C_holdsListed 30 = .ok (.goto (-28), 3) := by decide +kernel
theorem d_C_holdsListed_33 : decode b_C_holdsListed 33 = .ok (.iconst 0, 1) := by decide +kernel
theorem d_C_holdsListed_34 : decode b_C_holdsListed 34 = .ok (.ireturn, 1) := by decide +kernel
theorem d_C_unitsOn_0 : decode b_C_unitsOn 0 = .ok (.iconst 0, 1) := by decide +kernel
theorem d_C_unitsOn_1 : decode b_C_unitsOn 1 = .ok (.istore_n 2, 1) := by decide +kernel
theorem d_C_unitsOn_2 : decode b_C_unitsOn 2 = .ok (.iconst 0, 1) := by decide +kernel
theorem d_C_unitsOn_3 : decode b_C_unitsOn 3 = .ok (.istore_n 3, 1) := by decide +kernel
theorem d_C_unitsOn_4 : decode b_C_unitsOn 4 = .ok (.iload_n 3, 1) := by decide +kernel
theorem d_C_unitsOn_5 : decode b_C_unitsOn 5 = .ok (.bipush 20, 2) := by decide +kernel
theorem d_C_unitsOn_7 : decode b_C_unitsOn 7 = .ok (.if_icmp .ge 22, 3) := by decide +kernel
theorem d_C_unitsOn_10 : decode b_C_unitsOn 10 = .ok (.aload_n 0, 1) := by decide +kernel
theorem d_C_unitsOn_11 : decode b_C_unitsOn 11 = .ok (.getfield 20, 3) := by decide +kernel
theorem d_C_unitsOn_14 : decode b_C_unitsOn 14 = .ok (.iload_n 3, 1) := by decide +kernel
theorem d_C_unitsOn_15 : decode b_C_unitsOn 15 = .ok (.iaload, 1) := by decide +kernel
theorem d_C_unitsOn_16 : decode b_C_unitsOn 16 = .ok (.iload_n 1, 1) := by decide +kernel
theorem d_C_unitsOn_17 : decode b_C_unitsOn 17 = .ok (.if_icmp .ne 6, 3) := by decide +kernel
theorem d_C_unitsOn_20 : decode b_C_unitsOn 20 = .ok (.iinc 2 1, 3) := by decide +kernel
theorem d_C_unitsOn_23 : decode b_C_unitsOn 23 = .ok (.iinc 3 1, 3) := by decide +kernel
theorem d_C_unitsOn_26 : decode b_C_unitsOn 26 = .ok (.goto (-22), 3) := by decide +kernel
theorem d_C_unitsOn_29 : decode b_C_unitsOn 29 = .ok (.iload_n 2, 1) := by decide +kernel
theorem d_C_unitsOn_30 : decode b_C_unitsOn 30 = .ok (.ireturn, 1) := by decide +kernel
theorem d_C_unitsOnShelves_0 : decode b_C_unitsOnShelves 0 = .ok (.bipush 20, 2) := by decide +kernel
theorem d_C_unitsOnShelves_2 : decode b_C_unitsOnShelves 2 = .ok (.aload_n 0, 1) := by decide +kernel
theorem d_C_unitsOnShelves_3 : decode b_C_unitsOnShelves 3 = .ok (.iconst (-1), 1) := by decide +kernel
theorem d_C_unitsOnShelves_4 : decode b_C_unitsOnShelves 4 = .ok (.invokevirtual 67, 3) := by decide +kernel
theorem d_C_unitsOnShelves_7 : decode b_C_unitsOnShelves 7 = .ok (.isub, 1) := by decide +kernel
theorem d_C_unitsOnShelves_8 : decode b_C_unitsOnShelves 8 = .ok (.ireturn, 1) := by decide +kernel
theorem d_C_countsOn_0 : decode b_C_countsOn 0 = .ok (.iconst 0, 1) := by decide +kernel
theorem d_C_countsOn_1 : decode b_C_countsOn 1 = .ok (.istore_n 2, 1) := by decide +kernel
theorem d_C_countsOn_2 : decode b_C_countsOn 2 = .ok (.iconst 0, 1) := by decide +kernel
theorem d_C_countsOn_3 : decode b_C_countsOn 3 = .ok (.istore_n 3, 1) := by decide +kernel
theorem d_C_countsOn_4 : decode b_C_countsOn 4 = .ok (.iload_n 3, 1) := by decide +kernel
theorem d_C_countsOn_5 : decode b_C_countsOn 5 = .ok (.bipush 20, 2) := by decide +kernel
theorem d_C_countsOn_7 : decode b_C_countsOn 7 = .ok (.if_icmp .ge 28, 3) := by decide +kernel
theorem d_C_countsOn_10 : decode b_C_countsOn 10 = .ok (.aload_n 0, 1) := by decide +kernel
theorem d_C_countsOn_11 : decode b_C_countsOn 11 = .ok (.getfield 20, 3) := by decide +kernel
theorem d_C_countsOn_14 : decode b_C_countsOn 14 = .ok (.iload_n 3, 1) := by decide +kernel
theorem d_C_countsOn_15 : decode b_C_countsOn 15 = .ok (.iaload, 1) := by decide +kernel
theorem d_C_countsOn_16 : decode b_C_countsOn 16 = .ok (.iload_n 1, 1) := by decide +kernel
theorem d_C_countsOn_17 : decode b_C_countsOn 17 = .ok (.if_icmp .ne 12, 3) := by decide +kernel
theorem d_C_countsOn_20 : decode b_C_countsOn 20 = .ok (.iload_n 2, 1) := by decide +kernel
theorem d_C_countsOn_21 : decode b_C_countsOn 21 = .ok (.aload_n 0, 1) := by decide +kernel
theorem d_C_countsOn_22 : decode b_C_countsOn 22 = .ok (.getfield 23, 3) := by decide +kernel
theorem d_C_countsOn_25 : decode b_C_countsOn 25 = .ok (.iload_n 3, 1) := by decide +kernel
theorem d_C_countsOn_26 : decode b_C_countsOn 26 = .ok (.iaload, 1) := by decide +kernel
theorem d_C_countsOn_27 : decode b_C_countsOn 27 = .ok (.iadd, 1) := by decide +kernel
theorem d_C_countsOn_28 : decode b_C_countsOn 28 = .ok (.istore_n 2, 1) := by decide +kernel
theorem d_C_countsOn_29 : decode b_C_countsOn 29 = .ok (.iinc 3 1, 3) := by decide +kernel
theorem d_C_countsOn_32 : decode b_C_countsOn 32 = .ok (.goto (-28), 3) := by decide +kernel
theorem d_C_countsOn_35 : decode b_C_countsOn 35 = .ok (.iload_n 2, 1) := by decide +kernel
theorem d_C_countsOn_36 : decode b_C_countsOn 36 = .ok (.ireturn, 1) := by decide +kernel
theorem d_P_init_0 : decode b_P_init 0 = .ok (.aload_n 0, 1) := by decide +kernel
theorem d_P_init_1 : decode b_P_init 1 = .ok (.invokespecial 3, 3) := by decide +kernel
theorem d_P_init_4 : decode b_P_init 4 = .ok (.aload_n 0, 1) := by decide +kernel
theorem d_P_init_5 : decode b_P_init 5 = .ok (.bipush 8, 2) := by decide +kernel
theorem d_P_init_7 : decode b_P_init 7 = .ok (.newarray .int, 2) := by decide +kernel
theorem d_P_init_9 : decode b_P_init 9 = .ok (.putfield 9, 3) := by decide +kernel
theorem d_P_init_12 : decode b_P_init 12 = .ok (.aload_n 0, 1) := by decide +kernel
theorem d_P_init_13 : decode b_P_init 13 = .ok (.bipush 8, 2) := by decide +kernel
theorem d_P_init_15 : decode b_P_init 15 = .ok (.newarray .int, 2) := by decide +kernel
theorem d_P_init_17 : decode b_P_init 17 = .ok (.putfield 15, 3) := by decide +kernel
theorem d_P_init_20 : decode b_P_init 20 = .ok (.aload_n 0, 1) := by decide +kernel
theorem d_P_init_21 : decode b_P_init 21 = .ok (.bipush 8, 2) := by decide +kernel
theorem d_P_init_23 : decode b_P_init 23 = .ok (.newarray .boolean, 2) := by decide +kernel
theorem d_P_init_25 : decode b_P_init 25 = .ok (.putfield 18, 3) := by decide +kernel
theorem d_P_init_28 : decode b_P_init 28 = .ok (.aload_n 0, 1) := by decide +kernel
theorem d_P_init_29 : decode b_P_init 29 = .ok (.bipush 8, 2) := by decide +kernel
theorem d_P_init_31 : decode b_P_init 31 = .ok (.newarray .int, 2) := by decide +kernel
theorem d_P_init_33 : decode b_P_init 33 = .ok (.putfield 22, 3) := by decide +kernel
theorem d_P_init_36 : decode b_P_init 36 = .ok (.aload_n 0, 1) := by decide +kernel
theorem d_P_init_37 : decode b_P_init 37 = .ok (.bipush 8, 2) := by decide +kernel
theorem d_P_init_39 : decode b_P_init 39 = .ok (.newarray .int, 2) := by decide +kernel
theorem d_P_init_41 : decode b_P_init 41 = .ok (.putfield 25, 3) := by decide +kernel
theorem d_P_init_44 : decode b_P_init 44 = .ok (.aload_n 0, 1) := by decide +kernel
theorem d_P_init_45 : decode b_P_init 45 = .ok (.iload_n 1, 1) := by decide +kernel
theorem d_P_init_46 : decode b_P_init 46 = .ok (.putfield 28, 3) := by decide +kernel
theorem d_P_init_49 : decode b_P_init 49 = .ok (.return_, 1) := by decide +kernel
theorem d_P_forget_0 : decode b_P_forget 0 = .ok (.aload_n 0, 1) := by decide +kernel
theorem d_P_forget_1 : decode b_P_forget 1 = .ok (.iconst 0, 1) := by decide +kernel
theorem d_P_forget_2 : decode b_P_forget 2 = .ok (.putfield 32, 3) := by decide +kernel
theorem d_P_forget_5 : decode b_P_forget 5 = .ok (.aload_n 0, 1) := by decide +kernel
theorem d_P_forget_6 : decode b_P_forget 6 = .ok (.iconst 0, 1) := by decide +kernel
theorem d_P_forget_7 : decode b_P_forget 7 = .ok (.putfield 35, 3) := by decide +kernel
theorem d_P_forget_10 : decode b_P_forget 10 = .ok (.return_, 1) := by decide +kernel
theorem d_P_addStop_0 : decode b_P_addStop 0 = .ok (.aload_n 0, 1) := by decide +kernel
theorem d_P_addStop_1 : decode b_P_addStop 1 = .ok (.getfield 32, 3) := by decide +kernel
theorem d_P_addStop_4 : decode b_P_addStop 4 = .ok (.bipush 8, 2) := by decide +kernel
theorem d_P_addStop_6 : decode b_P_addStop 6 = .ok (.if_icmp .ge 43, 3) := by decide +kernel
theorem d_P_addStop_9 : decode b_P_addStop 9 = .ok (.aload_n 0, 1) := by decide +kernel
theorem d_P_addStop_10 : decode b_P_addStop 10 = .ok (.getfield 9, 3) := by decide +kernel
theorem d_P_addStop_13 : decode b_P_addStop 13 = .ok (.aload_n 0, 1) := by decide +kernel
theorem d_P_addStop_14 : decode b_P_addStop 14 = .ok (.getfield 32, 3) := by decide +kernel
theorem d_P_addStop_17 : decode b_P_addStop 17 = .ok (.iload_n 1, 1) := by decide +kernel
theorem d_P_addStop_18 : decode b_P_addStop 18 = .ok (.iastore, 1) := by decide +kernel
theorem d_P_addStop_19 : decode b_P_addStop 19 = .ok (.aload_n 0, 1) := by decide +kernel
theorem d_P_addStop_20 : decode b_P_addStop 20 = .ok (.getfield 15, 3) := by decide +kernel
theorem d_P_addStop_23 : decode b_P_addStop 23 = .ok (.aload_n 0, 1) := by decide +kernel
theorem d_P_addStop_24 : decode b_P_addStop 24 = .ok (.getfield 32, 3) := by decide +kernel
theorem d_P_addStop_27 : decode b_P_addStop 27 = .ok (.iload_n 2, 1) := by decide +kernel
theorem d_P_addStop_28 : decode b_P_addStop 28 = .ok (.iastore, 1) := by decide +kernel
theorem d_P_addStop_29 : decode b_P_addStop 29 = .ok (.aload_n 0, 1) := by decide +kernel
theorem d_P_addStop_30 : decode b_P_addStop 30 = .ok (.getfield 18, 3) := by decide +kernel
theorem d_P_addStop_33 : decode b_P_addStop 33 = .ok (.aload_n 0, 1) := by decide +kernel
theorem d_P_addStop_34 : decode b_P_addStop 34 = .ok (.getfield 32, 3) := by decide +kernel
theorem d_P_addStop_37 : decode b_P_addStop 37 = .ok (.iconst 0, 1) := by decide +kernel
theorem d_P_addStop_38 : decode b_P_addStop 38 = .ok (.bastore, 1) := by decide +kernel
theorem d_P_addStop_39 : decode b_P_addStop 39 = .ok (.aload_n 0, 1) := by decide +kernel
theorem d_P_addStop_40 : decode b_P_addStop 40 = .ok (.dup, 1) := by decide +kernel
theorem d_P_addStop_41 : decode b_P_addStop 41 = .ok (.getfield 32, 3) := by decide +kernel
theorem d_P_addStop_44 : decode b_P_addStop 44 = .ok (.iconst 1, 1) := by decide +kernel
theorem d_P_addStop_45 : decode b_P_addStop 45 = .ok (.iadd, 1) := by decide +kernel
theorem d_P_addStop_46 : decode b_P_addStop 46 = .ok (.putfield 32, 3) := by decide +kernel
theorem d_P_addStop_49 : decode b_P_addStop 49 = .ok (.return_, 1) := by decide +kernel
theorem d_P_order_0 : decode b_P_order 0 = .ok (.aload_n 0, 1) := by decide +kernel
theorem d_P_order_1 : decode b_P_order 1 = .ok (.aload_n 0, 1) := by decide +kernel
theorem d_P_order_2 : decode b_P_order 2 = .ok (.getfield 32, 3) := by decide +kernel
theorem d_P_order_5 : decode b_P_order 5 = .ok (.iload_n 2, 1) := by decide +kernel
theorem d_P_order_6 : decode b_P_order 6 = .ok (.if_icmp .gt 7, 3) := by decide +kernel
theorem d_P_order_9 : decode b_P_order 9 = .ok (.iconst 1, 1) := by decide +kernel
theorem d_P_order_10 : decode b_P_order 10 = .ok (.goto 4, 3) := by decide +kernel
theorem d_P_order_13 : decode b_P_order 13 = .ok (.iconst 0, 1) := by decide +kernel
theorem d_P_order_14 : decode b_P_order 14 = .ok (.putfield 35, 3) := by decide +kernel
theorem d_P_order_17 : decode b_P_order 17 = .ok (.aload_n 0, 1) := by decide +kernel
theorem d_P_order_18 : decode b_P_order 18 = .ok (.getfield 35, 3) := by decide +kernel
theorem d_P_order_21 : decode b_P_order 21 = .ok (.ifCond .eq 20, 3) := by decide +kernel
theorem d_P_order_24 : decode b_P_order 24 = .ok (.aload_n 0, 1) := by decide +kernel
theorem d_P_order_25 : decode b_P_order 25 = .ok (.sipush 216, 3) := by decide +kernel
theorem d_P_order_28 : decode b_P_order 28 = .ok (.putfield 39, 3) := by decide +kernel
theorem d_P_order_31 : decode b_P_order 31 = .ok (.aload_n 0, 1) := by decide +kernel
theorem d_P_order_32 : decode b_P_order 32 = .ok (.iconst 0, 1) := by decide +kernel
theorem d_P_order_33 : decode b_P_order 33 = .ok (.iload_n 1, 1) := by decide +kernel
theorem d_P_order_34 : decode b_P_order 34 = .ok (.iconst 0, 1) := by decide +kernel
theorem d_P_order_35 : decode b_P_order 35 = .ok (.invokevirtual 42, 3) := by decide +kernel
theorem d_P_order_38 : decode b_P_order 38 = .ok (.goto 8, 3) := by decide +kernel
theorem d_P_order_41 : decode b_P_order 41 = .ok (.aload_n 0, 1) := by decide +kernel
theorem d_P_order_42 : decode b_P_order 42 = .ok (.iload_n 1, 1) := by decide +kernel
theorem d_P_order_43 : decode b_P_order 43 = .ok (.invokevirtual 46, 3) := by decide +kernel
theorem d_P_order_46 : decode b_P_order 46 = .ok (.aload_n 0, 1) := by decide +kernel
theorem d_P_order_47 : decode b_P_order 47 = .ok (.getfield 39, 3) := by decide +kernel
theorem d_P_order_50 : decode b_P_order 50 = .ok (.ireturn, 1) := by decide +kernel
theorem d_P_tryAll_0 : decode b_P_tryAll 0 = .ok (.iload_n 3, 1) := by decide +kernel
theorem d_P_tryAll_1 : decode b_P_tryAll 1 = .ok (.aload_n 0, 1) := by decide +kernel
theorem d_P_tryAll_2 : decode b_P_tryAll 2 = .ok (.getfield 39, 3) := by decide +kernel
theorem d_P_tryAll_5 : decode b_P_tryAll 5 = .ok (.if_icmp .lt 4, 3) := by decide +kernel
theorem d_P_tryAll_8 : decode b_P_tryAll 8 = .ok (.return_, 1) := by decide +kernel
theorem d_P_tryAll_9 : decode b_P_tryAll 9 = .ok (.iload_n 1, 1) := by decide +kernel
theorem d_P_tryAll_10 : decode b_P_tryAll 10 = .ok (.aload_n 0, 1) := by decide +kernel
theorem d_P_tryAll_11 : decode b_P_tryAll 11 = .ok (.getfield 32, 3) := by decide +kernel
theorem d_P_tryAll_14 : decode b_P_tryAll 14 = .ok (.if_icmp .lt 26, 3) := by decide +kernel
theorem d_P_tryAll_17 : decode b_P_tryAll 17 = .ok (.aload_n 0, 1) := by decide +kernel
theorem d_P_tryAll_18 : decode b_P_tryAll 18 = .ok (.iload_n 3, 1) := by decide +kernel
theorem d_P_tryAll_19 : decode b_P_tryAll 19 = .ok (.putfield 39, 3) := by decide +kernel
theorem d_P_tryAll_22 : decode b_P_tryAll 22 = .ok (.aload_n 0, 1) := by decide +kernel
theorem d_P_tryAll_23 : decode b_P_tryAll 23 = .ok (.getfield 22, 3) := by decide +kernel
theorem d_P_tryAll_26 : decode b_P_tryAll 26 = .ok (.iconst 0, 1) := by decide +kernel
theorem d_P_tryAll_27 : decode b_P_tryAll 27 = .ok (.aload_n 0, 1) := by decide +kernel
theorem d_P_tryAll_28 : decode b_P_tryAll 28 = .ok (.getfield 25, 3) := by decide +kernel
theorem d_P_tryAll_31 : decode b_P_tryAll 31 = .ok (.iconst 0, 1) := by decide +kernel
theorem d_P_tryAll_32 : decode b_P_tryAll 32 = .ok (.aload_n 0, 1) := by decide +kernel
theorem d_P_tryAll_33 : decode b_P_tryAll 33 = .ok (.getfield 32, 3) := by decide +kernel
theorem d_P_tryAll_36 : decode b_P_tryAll 36 = .ok (.invokestatic 50, 3) := by decide +kernel
theorem d_P_tryAll_39 : decode b_P_tryAll 39 = .ok (.return_, 1) := by decide +kernel
theorem d_P_tryAll_40 : decode b_P_tryAll 40 = .ok (.iconst 0, 1) := by decide +kernel
theorem d_P_tryAll_41 : decode b_P_tryAll 41 = .ok (.istore 4, 2) := by decide +kernel
theorem d_P_tryAll_43 : decode b_P_tryAll 43 = .ok (.iload 4, 2) := by decide +kernel
theorem d_P_tryAll_45 : decode b_P_tryAll 45 = .ok (.aload_n 0, 1) := by decide +kernel
theorem d_P_tryAll_46 : decode b_P_tryAll 46 = .ok (.getfield 32, 3) := by decide +kernel
theorem d_P_tryAll_49 : decode b_P_tryAll 49 = .ok (.if_icmp .ge 74, 3) := by decide +kernel
theorem d_P_tryAll_52 : decode b_P_tryAll 52 = .ok (.aload_n 0, 1) := by decide +kernel
theorem d_P_tryAll_53 : decode b_P_tryAll 53 = .ok (.getfield 18, 3) := by decide +kernel
theorem d_P_tryAll_56 : decode b_P_tryAll 56 = .ok (.iload 4, 2) := by decide +kernel
theorem d_P_tryAll_58 : decode b_P_tryAll 58 = .ok (.baload, 1) := by decide +kernel
theorem d_P_tryAll_59 : decode b_P_tryAll 59 = .ok (.ifCond .ne 58, 3) := by decide +kernel
theorem d_P_tryAll_62 : decode b_P_tryAll 62 = .ok (.aload_n 0, 1) := by decide +kernel
theorem d_P_tryAll_63 : decode b_P_tryAll 63 = .ok (.getfield 18, 3) := by decide +kernel
theorem d_P_tryAll_66 : decode b_P_tryAll 66 = .ok (.iload 4, 2) := by decide +kernel
theorem d_P_tryAll_68 : decode b_P_tryAll 68 = .ok (.iconst 1, 1) := by decide +kernel
theorem d_P_tryAll_69 : decode b_P_tryAll 69 = .ok (.bastore, 1) := by decide +kernel
theorem d_P_tryAll_70 : decode b_P_tryAll 70 = .ok (.aload_n 0, 1) := by decide +kernel
theorem d_P_tryAll_71 : decode b_P_tryAll 71 = .ok (.getfield 22, 3) := by decide +kernel
theorem d_P_tryAll_74 : decode b_P_tryAll 74 = .ok (.iload_n 1, 1) := by decide +kernel
theorem d_P_tryAll_75 : decode b_P_tryAll 75 = .ok (.iload 4, 2) := by decide +kernel
theorem d_P_tryAll_77 : decode b_P_tryAll 77 = .ok (.iastore, 1) := by decide +kernel
theorem d_P_tryAll_78 : decode b_P_tryAll 78 = .ok (.aload_n 0, 1) := by decide +kernel
theorem d_P_tryAll_79 : decode b_P_tryAll 79 = .ok (.iload_n 1, 1) := by decide +kernel
theorem d_P_tryAll_80 : decode b_P_tryAll 80 = .ok (.iconst 1, 1) := by decide +kernel
theorem d_P_tryAll_81 : decode b_P_tryAll 81 = .ok (.iadd, 1) := by decide +kernel
theorem d_P_tryAll_82 : decode b_P_tryAll 82 = .ok (.aload_n 0, 1) := by decide +kernel
theorem d_P_tryAll_83 : decode b_P_tryAll 83 = .ok (.getfield 15, 3) := by decide +kernel
theorem d_P_tryAll_86 : decode b_P_tryAll 86 = .ok (.iload 4, 2) := by decide +kernel
theorem d_P_tryAll_88 : decode b_P_tryAll 88 = .ok (.iaload, 1) := by decide +kernel
theorem d_P_tryAll_89 : decode b_P_tryAll 89 = .ok (.iload_n 3, 1) := by decide +kernel
theorem d_P_tryAll_90 : decode b_P_tryAll 90 = .ok (.iload_n 2, 1) := by decide +kernel
theorem d_P_tryAll_91 : decode b_P_tryAll 91 = .ok (.aload_n 0, 1) := by decide +kernel
theorem d_P_tryAll_92 : decode b_P_tryAll 92 = .ok (.getfield 15, 3) := by decide +kernel
theorem d_P_tryAll_95 : decode b_P_tryAll 95 = .ok (.iload 4, 2) := by decide +kernel
theorem d_P_tryAll_97 : decode b_P_tryAll 97 = .ok (.iaload, 1) := by decide +kernel
theorem d_P_tryAll_98 : decode b_P_tryAll 98 = .ok (.aload_n 0, 1) := by decide +kernel
theorem d_P_tryAll_99 : decode b_P_tryAll 99 = .ok (.getfield 28, 3) := by decide +kernel
theorem d_P_tryAll_102 : decode b_P_tryAll 102 = .ok (.invokestatic 56, 3) := by decide +kernel
theorem d_P_tryAll_105 : decode b_P_tryAll 105 = .ok (.iadd, 1) := by decide +kernel
theorem d_P_tryAll_106 : decode b_P_tryAll 106 = .ok (.invokevirtual 42, 3) := by decide +kernel
theorem d_P_tryAll_109 : decode b_P_tryAll 109 = .ok (.aload_n 0, 1) := by decide +kernel
theorem d_P_tryAll_110 : decode b_P_tryAll 110 = .ok (.getfield 18, 3) := by decide +kernel
theorem d_P_tryAll_113 : decode b_P_tryAll 113 = .ok (.iload 4, 2) := by decide +kernel
theorem d_P_tryAll_115 : decode b_P_tryAll 115 = .ok (.iconst 0, 1) := by decide +kernel
theorem d_P_tryAll_116 : decode b_P_tryAll 116 = .ok (.bastore, 1) := by decide +kernel
theorem d_P_tryAll_117 : decode b_P_tryAll 117 = .ok (.iinc 4 1, 3) := by decide +kernel
theorem d_P_tryAll_120 : decode b_P_tryAll 120 = .ok (.goto (-77), 3) := by decide +kernel
theorem d_P_tryAll_123 : decode b_P_tryAll 123 = .ok (.return_, 1) := by decide +kernel
theorem d_P_followRule_0 : decode b_P_followRule 0 = .ok (.iload_n 1, 1) := by decide +kernel
theorem d_P_followRule_1 : decode b_P_followRule 1 = .ok (.istore_n 2, 1) := by decide +kernel
theorem d_P_followRule_2 : decode b_P_followRule 2 = .ok (.aload_n 0, 1) := by decide +kernel
theorem d_P_followRule_3 : decode b_P_followRule 3 = .ok (.iconst 0, 1) := by decide +kernel
theorem d_P_followRule_4 : decode b_P_followRule 4 = .ok (.putfield 39, 3) := by decide +kernel
theorem d_P_followRule_7 : decode b_P_followRule 7 = .ok (.iconst 0, 1) := by decide +kernel
theorem d_P_followRule_8 : decode b_P_followRule 8 = .ok (.istore_n 3, 1) := by decide +kernel
theorem d_P_followRule_9 : decode b_P_followRule 9 = .ok (.iload_n 3, 1) := by decide +kernel
theorem d_P_followRule_10 : decode b_P_followRule 10 = .ok (.aload_n 0, 1) := by decide +kernel
theorem d_P_followRule_11 : decode b_P_followRule 11 = .ok (.getfield 32, 3) := by decide +kernel
theorem d_P_followRule_14 : decode b_P_followRule 14 = .ok (.if_icmp .ge 71, 3) := by decide +kernel
theorem d_P_followRule_17 : decode b_P_followRule 17 = .ok (.aload_n 0, 1) := by decide +kernel
theorem d_P_followRule_18 : decode b_P_followRule 18 = .ok (.iload_n 2, 1) := by decide +kernel
theorem d_P_followRule_19 : decode b_P_followRule 19 = .ok (.invokevirtual 60, 3) := by decide +kernel
theorem d_P_followRule_22 : decode b_P_followRule 22 = .ok (.istore 4, 2) := by decide +kernel
theorem d_P_followRule_24 : decode b_P_followRule 24 = .ok (.iload 4, 2) := by decide +kernel
theorem d_P_followRule_26 : decode b_P_followRule 26 = .ok (.iconst (-1), 1) := by decide +kernel
theorem d_P_followRule_27 : decode b_P_followRule 27 = .ok (.if_icmp .ne 4, 3) := by decide +kernel
theorem d_P_followRule_30 : decode b_P_followRule 30 = .ok (.return_, 1) := by decide +kernel
theorem d_P_followRule_31 : decode b_P_followRule 31 = .ok (.aload_n 0, 1) := by decide +kernel
theorem d_P_followRule_32 : decode b_P_followRule 32 = .ok (.getfield 18, 3) := by decide +kernel
theorem d_P_followRule_35 : decode b_P_followRule 35 = .ok (.iload 4, 2) := by decide +kernel
theorem d_P_followRule_37 : decode b_P_followRule 37 = .ok (.iconst 1, 1) := by decide +kernel
theorem d_P_followRule_38 : decode b_P_followRule 38 = .ok (.bastore, 1) := by decide +kernel
theorem d_P_followRule_39 : decode b_P_followRule 39 = .ok (.aload_n 0, 1) := by decide +kernel
theorem d_P_followRule_40 : decode b_P_followRule 40 = .ok (.getfield 25, 3) := by decide +kernel
theorem d_P_followRule_43 : decode b_P_followRule 43 = .ok (.iload_n 3, 1) := by decide +kernel
theorem d_P_followRule_44 : decode b_P_followRule 44 = .ok (.iload 4, 2) := by decide +kernel
theorem d_P_followRule_46 : decode b_P_followRule 46 = .ok (.iastore, 1) := by decide +kernel
theorem d_P_followRule_47 : decode b_P_followRule 47 = .ok (.aload_n 0, 1) := by decide +kernel
theorem d_P_followRule_48 : decode b_P_followRule 48 = .ok (.dup, 1) := by decide +kernel
theorem d_P_followRule_49 : decode b_P_followRule 49 = .ok (.getfield 39, 3) := by decide +kernel
theorem d_P_followRule_52 : decode b_P_followRule 52 = .ok (.iload_n 2, 1) := by decide +kernel
theorem d_P_followRule_53 : decode b_P_followRule 53 = .ok (.aload_n 0, 1) := by decide +kernel
theorem d_P_followRule_54 : decode b_P_followRule 54 = .ok (.getfield 15, 3) := by decide +kernel
theorem d_P_followRule_57 : decode b_P_followRule 57 = .ok (.iload 4, 2) := by decide +kernel
theorem d_P_followRule_59 : decode b_P_followRule 59 = .ok (.iaload, 1) := by decide +kernel
theorem d_P_followRule_60 : decode b_P_followRule 60 = .ok (.aload_n 0, 1) := by decide +kernel
theorem d_P_followRule_61 : decode b_P_followRule 61 = .ok (.getfield 28, 3) := by decide +kernel
theorem d_P_followRule_64 : decode b_P_followRule 64 = .ok (.invokestatic 56, 3) := by decide +kernel
theorem d_P_followRule_67 : decode b_P_followRule 67 = .ok (.iadd, 1) := by decide +kernel
theorem d_P_followRule_68 : decode b_P_followRule 68 = .ok (.putfield 39, 3) := by decide +kernel
theorem d_P_followRule_71 : decode b_P_followRule 71 = .ok (.aload_n 0, 1) := by decide +kernel
theorem d_P_followRule_72 : decode b_P_followRule 72 = .ok (.getfield 15, 3) := by decide +kernel
theorem d_P_followRule_75 : decode b_P_followRule 75 = .ok (.iload 4, 2) := by decide +kernel
theorem d_P_followRule_77 : decode b_P_followRule 77 = .ok (.iaload, 1) := by decide +kernel
theorem d_P_followRule_78 : decode b_P_followRule 78 = .ok (.istore_n 2, 1) := by decide +kernel
theorem d_P_followRule_79 : decode b_P_followRule 79 = .ok (.iinc 3 1, 3) := by decide +kernel
theorem d_P_followRule_82 : decode b_P_followRule 82 = .ok (.goto (-73), 3) := by decide +kernel
theorem d_P_followRule_85 : decode b_P_followRule 85 = .ok (.return_, 1) := by decide +kernel
theorem d_P_nearest_0 : decode b_P_nearest 0 = .ok (.iconst (-1), 1) := by decide +kernel
theorem d_P_nearest_1 : decode b_P_nearest 1 = .ok (.istore_n 2, 1) := by decide +kernel
theorem d_P_nearest_2 : decode b_P_nearest 2 = .ok (.sipush 216, 3) := by decide +kernel
theorem d_P_nearest_5 : decode b_P_nearest 5 = .ok (.istore_n 3, 1) := by decide +kernel
theorem d_P_nearest_6 : decode b_P_nearest 6 = .ok (.iconst 0, 1) := by decide +kernel
theorem d_P_nearest_7 : decode b_P_nearest 7 = .ok (.istore 4, 2) := by decide +kernel
theorem d_P_nearest_9 : decode b_P_nearest 9 = .ok (.iload 4, 2) := by decide +kernel
theorem d_P_nearest_11 : decode b_P_nearest 11 = .ok (.aload_n 0, 1) := by decide +kernel
theorem d_P_nearest_12 : decode b_P_nearest 12 = .ok (.getfield 32, 3) := by decide +kernel
theorem d_P_nearest_15 : decode b_P_nearest 15 = .ok (.if_icmp .ge 48, 3) := by decide +kernel
theorem d_P_nearest_18 : decode b_P_nearest 18 = .ok (.iload_n 1, 1) := by decide +kernel
theorem d_P_nearest_19 : decode b_P_nearest 19 = .ok (.aload_n 0, 1) := by decide +kernel
theorem d_P_nearest_20 : decode b_P_nearest 20 = .ok (.getfield 15, 3) := by decide +kernel
theorem d_P_nearest_23 : decode b_P_nearest 23 = .ok (.iload 4, 2) := by decide +kernel
theorem d_P_nearest_25 : decode b_P_nearest 25 = .ok (.iaload, 1) := by decide +kernel
theorem d_P_nearest_26 : decode b_P_nearest 26 = .ok (.aload_n 0, 1) := by decide +kernel
theorem d_P_nearest_27 : decode b_P_nearest 27 = .ok (.getfield 28, 3) := by decide +kernel
theorem d_P_nearest_30 : decode b_P_nearest 30 = .ok (.invokestatic 56, 3) := by decide +kernel
theorem d_P_nearest_33 : decode b_P_nearest 33 = .ok (.istore 5, 2) := by decide +kernel
theorem d_P_nearest_35 : decode b_P_nearest 35 = .ok (.aload_n 0, 1) := by decide +kernel
theorem d_P_nearest_36 : decode b_P_nearest 36 = .ok (.getfield 18, 3) := by decide +kernel
theorem d_P_nearest_39 : decode b_P_nearest 39 = .ok (.iload 4, 2) := by decide +kernel
theorem d_P_nearest_41 : decode b_P_nearest 41 = .ok (.baload, 1) := by decide +kernel
theorem d_P_nearest_42 : decode b_P_nearest 42 = .ok (.ifCond .ne 15, 3) := by decide +kernel
theorem d_P_nearest_45 : decode b_P_nearest 45 = .ok (.iload 5, 2) := by decide +kernel
theorem d_P_nearest_47 : decode b_P_nearest 47 = .ok (.iload_n 3, 1) := by decide +kernel
theorem d_P_nearest_48 : decode b_P_nearest 48 = .ok (.if_icmp .ge 9, 3) := by decide +kernel
theorem d_P_nearest_51 : decode b_P_nearest 51 = .ok (.iload 4, 2) := by decide +kernel
theorem d_P_nearest_53 : decode b_P_nearest 53 = .ok (.istore_n 2, 1) := by decide +kernel
theorem d_P_nearest_54 : decode b_P_nearest 54 = .ok (.iload 5, 2) := by decide +kernel
theorem d_P_nearest_56 : decode b_P_nearest 56 = .ok (.istore_n 3, 1) := by decide +kernel
theorem d_P_nearest_57 : decode b_P_nearest 57 = .ok (.iinc 4 1, 3) := by decide +kernel
theorem d_P_nearest_60 : decode b_P_nearest 60 = .ok (.goto (-51), 3) := by decide +kernel
theorem d_P_nearest_63 : decode b_P_nearest 63 = .ok (.iload_n 2, 1) := by decide +kernel
theorem d_P_nearest_64 : decode b_P_nearest 64 = .ok (.ireturn, 1) := by decide +kernel
theorem d_P_shelfOfStop_0 : decode b_P_shelfOfStop 0 = .ok (.iload_n 1, 1) := by decide +kernel
theorem d_P_shelfOfStop_1 : decode b_P_shelfOfStop 1 = .ok (.ifCond .lt 11, 3) := by decide +kernel
theorem d_P_shelfOfStop_4 : decode b_P_shelfOfStop 4 = .ok (.iload_n 1, 1) := by decide +kernel
theorem d_P_shelfOfStop_5 : decode b_P_shelfOfStop 5 = .ok (.aload_n 0, 1) := by decide +kernel
theorem d_P_shelfOfStop_6 : decode b_P_shelfOfStop 6 = .ok (.getfield 32, 3) := by decide +kernel
theorem d_P_shelfOfStop_9 : decode b_P_shelfOfStop 9 = .ok (.if_icmp .lt 5, 3) := by decide +kernel
theorem d_P_shelfOfStop_12 : decode b_P_shelfOfStop 12 = .ok (.iconst (-1), 1) := by decide +kernel
theorem d_P_shelfOfStop_13 : decode b_P_shelfOfStop 13 = .ok (.ireturn, 1) := by decide +kernel
theorem d_P_shelfOfStop_14 : decode b_P_shelfOfStop 14 = .ok (.aload_n 0, 1) := by decide +kernel
theorem d_P_shelfOfStop_15 : decode b_P_shelfOfStop 15 = .ok (.getfield 9, 3) := by decide +kernel
theorem d_P_shelfOfStop_18 : decode b_P_shelfOfStop 18 = .ok (.aload_n 0, 1) := by decide +kernel
theorem d_P_shelfOfStop_19 : decode b_P_shelfOfStop 19 = .ok (.getfield 25, 3) := by decide +kernel
theorem d_P_shelfOfStop_22 : decode b_P_shelfOfStop 22 = .ok (.iload_n 1, 1) := by decide +kernel
theorem d_P_shelfOfStop_23 : decode b_P_shelfOfStop 23 = .ok (.iaload, 1) := by decide +kernel
theorem d_P_shelfOfStop_24 : decode b_P_shelfOfStop 24 = .ok (.iaload, 1) := by decide +kernel
theorem d_P_shelfOfStop_25 : decode b_P_shelfOfStop 25 = .ok (.ireturn, 1) := by decide +kernel
