theorem d_M_init_0 : decode b_M_init 0 = .ok (.aload_n 0, 1) := by decide +kernel
theorem d_M_init_1 : decode b_M_init 1 = .ok (.invokespecial 1, 3) := by decide +kernel
theorem d_M_init_4 : decode b_M_init 4 = .ok (.aload_n 0, 1) := by decide +kernel
theorem d_M_init_5 : decode b_M_init 5 = .ok (.iconst 0, 1) := by decide +kernel
theorem d_M_init_6 : decode b_M_init 6 = .ok (.putfield 7, 3) := by decide +kernel
theorem d_M_init_9 : decode b_M_init 9 = .ok (.aload_n 0, 1) := by decide +kernel
theorem d_M_init_10 : decode b_M_init 10 = .ok (.iconst 0, 1) := by decide +kernel
theorem d_M_init_11 : decode b_M_init 11 = .ok (.putfield 13, 3) := by decide +kernel
theorem d_M_init_14 : decode b_M_init 14 = .ok (.aload_n 0, 1) := by decide +kernel
theorem d_M_init_15 : decode b_M_init 15 = .ok (.bipush 24, 2) := by decide +kernel
theorem d_M_init_17 : decode b_M_init 17 = .ok (.newarray .int, 2) := by decide +kernel
theorem d_M_init_19 : decode b_M_init 19 = .ok (.putfield 16, 3) := by decide +kernel
theorem d_M_init_22 : decode b_M_init 22 = .ok (.aload_n 0, 1) := by decide +kernel
theorem d_M_init_23 : decode b_M_init 23 = .ok (.bipush 24, 2) := by decide +kernel
theorem d_M_init_25 : decode b_M_init 25 = .ok (.newarray .boolean, 2) := by decide +kernel
theorem d_M_init_27 : decode b_M_init 27 = .ok (.putfield 20, 3) := by decide +kernel
theorem d_M_init_30 : decode b_M_init 30 = .ok (.aload_n 0, 1) := by decide +kernel
theorem d_M_init_31 : decode b_M_init 31 = .ok (.bipush 20, 2) := by decide +kernel
theorem d_M_init_33 : decode b_M_init 33 = .ok (.newarray .int, 2) := by decide +kernel
theorem d_M_init_35 : decode b_M_init 35 = .ok (.putfield 24, 3) := by decide +kernel
theorem d_M_init_38 : decode b_M_init 38 = .ok (.aload_n 0, 1) := by decide +kernel
theorem d_M_init_39 : decode b_M_init 39 = .ok (.bipush 20, 2) := by decide +kernel
theorem d_M_init_41 : decode b_M_init 41 = .ok (.newarray .int, 2) := by decide +kernel
theorem d_M_init_43 : decode b_M_init 43 = .ok (.putfield 27, 3) := by decide +kernel
theorem d_M_init_46 : decode b_M_init 46 = .ok (.aload_n 0, 1) := by decide +kernel
theorem d_M_init_47 : decode b_M_init 47 = .ok (.iconst 2, 1) := by decide +kernel
theorem d_M_init_48 : decode b_M_init 48 = .ok (.newarray .boolean, 2) := by decide +kernel
theorem d_M_init_50 : decode b_M_init 50 = .ok (.putfield 30, 3) := by decide +kernel
theorem d_M_init_53 : decode b_M_init 53 = .ok (.aload_n 0, 1) := by decide +kernel
theorem d_M_init_54 : decode b_M_init 54 = .ok (.iconst 0, 1) := by decide +kernel
theorem d_M_init_55 : decode b_M_init 55 = .ok (.putfield 33, 3) := by decide +kernel
theorem d_M_init_58 : decode b_M_init 58 = .ok (.aload_n 0, 1) := by decide +kernel
theorem d_M_init_59 : decode b_M_init 59 = .ok (.iconst 0, 1) := by decide +kernel
theorem d_M_init_60 : decode b_M_init 60 = .ok (.putfield 36, 3) := by decide +kernel
theorem d_M_init_63 : decode b_M_init 63 = .ok (.aload_n 0, 1) := by decide +kernel
theorem d_M_init_64 : decode b_M_init 64 = .ok (.iconst 0, 1) := by decide +kernel
theorem d_M_init_65 : decode b_M_init 65 = .ok (.putfield 39, 3) := by decide +kernel
theorem d_M_init_68 : decode b_M_init 68 = .ok (.aload_n 0, 1) := by decide +kernel
theorem d_M_init_69 : decode b_M_init 69 = .ok (.bipush 8, 2) := by decide +kernel
theorem d_M_init_71 : decode b_M_init 71 = .ok (.newarray .int, 2) := by decide +kernel
theorem d_M_init_73 : decode b_M_init 73 = .ok (.putfield 42, 3) := by decide +kernel
theorem d_M_init_76 : decode b_M_init 76 = .ok (.aload_n 0, 1) := by decide +kernel
theorem d_M_init_77 : decode b_M_init 77 = .ok (.iconst 0, 1) := by decide +kernel
theorem d_M_init_78 : decode b_M_init 78 = .ok (.putfield 45, 3) := by decide +kernel
theorem d_M_init_81 : decode b_M_init 81 = .ok (.aload_n 0, 1) := by decide +kernel
theorem d_M_init_82 : decode b_M_init 82 = .ok (.bipush 8, 2) := by decide +kernel
theorem d_M_init_84 : decode b_M_init 84 = .ok (.newarray .int, 2) := by decide +kernel
theorem d_M_init_86 : decode b_M_init 86 = .ok (.putfield 48, 3) := by decide +kernel
theorem d_M_init_89 : decode b_M_init 89 = .ok (.aload_n 0, 1) := by decide +kernel
theorem d_M_init_90 : decode b_M_init 90 = .ok (.iconst 0, 1) := by decide +kernel
theorem d_M_init_91 : decode b_M_init 91 = .ok (.putfield 51, 3) := by decide +kernel
theorem d_M_init_94 : decode b_M_init 94 = .ok (.aload_n 0, 1) := by decide +kernel
theorem d_M_init_95 : decode b_M_init 95 = .ok (.iconst 0, 1) := by decide +kernel
theorem d_M_init_96 : decode b_M_init 96 = .ok (.putfield 55, 3) := by decide +kernel
theorem d_M_init_99 : decode b_M_init 99 = .ok (.aload_n 0, 1) := by decide +kernel
theorem d_M_init_100 : decode b_M_init 100 = .ok (.bipush 8, 2) := by decide +kernel
theorem d_M_init_102 : decode b_M_init 102 = .ok (.newarray .int, 2) := by decide +kernel
theorem d_M_init_104 : decode b_M_init 104 = .ok (.putfield 58, 3) := by decide +kernel
theorem d_M_init_107 : decode b_M_init 107 = .ok (.aload_n 0, 1) := by decide +kernel
theorem d_M_init_108 : decode b_M_init 108 = .ok (.bipush 8, 2) := by decide +kernel
theorem d_M_init_110 : decode b_M_init 110 = .ok (.newarray .int, 2) := by decide +kernel
theorem d_M_init_112 : decode b_M_init 112 = .ok (.putfield 61, 3) := by decide +kernel
theorem d_M_init_115 : decode b_M_init 115 = .ok (.aload_n 0, 1) := by decide +kernel
theorem d_M_init_116 : decode b_M_init 116 = .ok (.iload_n 1, 1) := by decide +kernel
theorem d_M_init_117 : decode b_M_init 117 = .ok (.ifCond .ge 7, 3) := by decide +kernel
theorem d_M_init_120 : decode b_M_init 120 = .ok (.iconst 0, 1) := by decide +kernel
theorem d_M_init_121 : decode b_M_init 121 = .ok (.goto 15, 3) := by decide +kernel
theorem d_M_init_124 : decode b_M_init 124 = .ok (.iload_n 1, 1) := by decide +kernel
theorem d_M_init_125 : decode b_M_init 125 = .ok (.bipush 24, 2) := by decide +kernel
theorem d_M_init_127 : decode b_M_init 127 = .ok (.if_icmp .le 8, 3) := by decide +kernel
theorem d_M_init_130 : decode b_M_init 130 = .ok (.bipush 24, 2) := by decide +kernel
theorem d_M_init_132 : decode b_M_init 132 = .ok (.goto 4, 3) := by decide +kernel
theorem d_M_init_135 : decode b_M_init 135 = .ok (.iload_n 1, 1) := by decide +kernel
theorem d_M_init_136 : decode b_M_init 136 = .ok (.putfield 64, 3) := by decide +kernel
theorem d_M_init_139 : decode b_M_init 139 = .ok (.iconst 0, 1) := by decide +kernel
theorem d_M_init_140 : decode b_M_init 140 = .ok (.istore_n 2, 1) := by decide +kernel
theorem d_M_init_141 : decode b_M_init 141 = .ok (.iload_n 2, 1) := by decide +kernel
theorem d_M_init_142 : decode b_M_init 142 = .ok (.bipush 24, 2) := by decide +kernel
theorem d_M_init_144 : decode b_M_init 144 = .ok (.if_icmp .ge 16, 3) := by decide +kernel
theorem d_M_init_147 : decode b_M_init 147 = .ok (.aload_n 0, 1) := by decide +kernel
theorem d_M_init_148 : decode b_M_init 148 = .ok (.getfield 16, 3) := by decide +kernel
theorem d_M_init_151 : decode b_M_init 151 = .ok (.iload_n 2, 1) := by decide +kernel
theorem d_M_init_152 : decode b_M_init 152 = .ok (.iload_n 2, 1) := by decide +kernel
theorem d_M_init_153 : decode b_M_init 153 = .ok (.iastore, 1) := by decide +kernel
theorem d_M_init_154 : decode b_M_init 154 = .ok (.iinc 2 1, 3) := by decide +kernel
theorem d_M_init_157 : decode b_M_init 157 = .ok (.goto (-16), 3) := by decide +kernel
theorem d_M_init_160 : decode b_M_init 160 = .ok (.iconst 0, 1) := by decide +kernel
theorem d_M_init_161 : decode b_M_init 161 = .ok (.istore_n 2, 1) := by decide +kernel
theorem d_M_init_162 : decode b_M_init 162 = .ok (.iload_n 2, 1) := by decide +kernel
theorem d_M_init_163 : decode b_M_init 163 = .ok (.bipush 20, 2) := by decide +kernel
theorem d_M_init_165 : decode b_M_init 165 = .ok (.if_icmp .ge 16, 3) := by decide +kernel
theorem d_M_init_168 : decode b_M_init 168 = .ok (.aload_n 0, 1) := by decide +kernel
theorem d_M_init_169 : decode b_M_init 169 = .ok (.getfield 24, 3) := by decide +kernel
theorem d_M_init_172 : decode b_M_init 172 = .ok (.iload_n 2, 1) := by decide +kernel
theorem d_M_init_173 : decode b_M_init 173 = .ok (.iconst (-1), 1) := by decide +kernel
theorem d_M_init_174 : decode b_M_init 174 = .ok (.iastore, 1) := by decide +kernel
theorem d_M_init_175 : decode b_M_init 175 = .ok (.iinc 2 1, 3) := by decide +kernel
theorem d_M_init_178 : decode b_M_init 178 = .ok (.goto (-16), 3) := by decide +kernel
theorem d_M_init_181 : decode b_M_init 181 = .ok (.return_, 1) := by decide +kernel
theorem d_M_distance_0 : decode b_M_distance 0 = .ok (.iload_n 1, 1) := by decide +kernel
theorem d_M_distance_1 : decode b_M_distance 1 = .ok (.iload_n 2, 1) := by decide +kernel
theorem d_M_distance_2 : decode b_M_distance 2 = .ok (.if_icmp .ge 9, 3) := by decide +kernel
theorem d_M_distance_5 : decode b_M_distance 5 = .ok (.iload_n 2, 1) := by decide +kernel
theorem d_M_distance_6 : decode b_M_distance 6 = .ok (.iload_n 1, 1) := by decide +kernel
theorem d_M_distance_7 : decode b_M_distance 7 = .ok (.isub, 1) := by decide +kernel
theorem d_M_distance_8 : decode b_M_distance 8 = .ok (.goto 6, 3) := by decide +kernel
theorem d_M_distance_11 : decode b_M_distance 11 = .ok (.iload_n 1, 1) := by decide +kernel
theorem d_M_distance_12 : decode b_M_distance 12 = .ok (.iload_n 2, 1) := by decide +kernel
theorem d_M_distance_13 : decode b_M_distance 13 = .ok (.isub, 1) := by decide +kernel
theorem d_M_distance_14 : decode b_M_distance 14 = .ok (.istore_n 3, 1) := by decide +kernel
theorem d_M_distance_15 : decode b_M_distance 15 = .ok (.iload_n 3, 1) := by decide +kernel
theorem d_M_distance_16 : decode b_M_distance 16 = .ok (.aload_n 0, 1) := by decide +kernel
theorem d_M_distance_17 : decode b_M_distance 17 = .ok (.getfield 64, 3) := by decide +kernel
theorem d_M_distance_20 : decode b_M_distance 20 = .ok (.iload_n 3, 1) := by decide +kernel
theorem d_M_distance_21 : decode b_M_distance 21 = .ok (.isub, 1) := by decide +kernel
theorem d_M_distance_22 : decode b_M_distance 22 = .ok (.if_icmp .gt 7, 3) := by decide +kernel
theorem d_M_distance_25 : decode b_M_distance 25 = .ok (.iload_n 3, 1) := by decide +kernel
theorem d_M_distance_26 : decode b_M_distance 26 = .ok (.goto 9, 3) := by decide +kernel
theorem d_M_distance_29 : decode b_M_distance 29 = .ok (.aload_n 0, 1) := by decide +kernel
theorem d_M_distance_30 : decode b_M_distance 30 = .ok (.getfield 64, 3) := by decide +kernel
theorem d_M_distance_33 : decode b_M_distance 33 = .ok (.iload_n 3, 1) := by decide +kernel
theorem d_M_distance_34 : decode b_M_distance 34 = .ok (.isub, 1) := by decide +kernel
theorem d_M_distance_35 : decode b_M_distance 35 = .ok (.ireturn, 1) := by decide +kernel
theorem d_M_none_0 : decode b_M_none 0 = .ok (.iload_n 0, 1) := by decide +kernel
theorem d_M_none_1 : decode b_M_none 1 = .ok (.ifCond .lt 8, 3) := by decide +kernel
theorem d_M_none_4 : decode b_M_none 4 = .ok (.iload_n 0, 1) := by decide +kernel
theorem d_M_none_5 : decode b_M_none 5 = .ok (.iload_n 1, 1) := by decide +kernel
theorem d_M_none_6 : decode b_M_none 6 = .ok (.if_icmp .lt 7, 3) := by decide +kernel
theorem d_M_none_9 : decode b_M_none 9 = .ok (.iconst 1, 1) := by decide +kernel
theorem d_M_none_10 : decode b_M_none 10 = .ok (.goto 4, 3) := by decide +kernel
theorem d_M_none_13 : decode b_M_none 13 = .ok (.iconst 0, 1) := by decide +kernel
theorem d_M_none_14 : decode b_M_none 14 = .ok (.ireturn, 1) := by decide +kernel
theorem d_M_lying_0 : decode b_M_lying 0 = .ok (.iconst 0, 1) := by decide +kernel
theorem d_M_lying_1 : decode b_M_lying 1 = .ok (.istore_n 2, 1) := by decide +kernel
theorem d_M_lying_2 : decode b_M_lying 2 = .ok (.iconst 0, 1) := by decide +kernel
theorem d_M_lying_3 : decode b_M_lying 3 = .ok (.istore_n 3, 1) := by decide +kernel
theorem d_M_lying_4 : decode b_M_lying 4 = .ok (.iload_n 3, 1) := by decide +kernel
theorem d_M_lying_5 : decode b_M_lying 5 = .ok (.bipush 20, 2) := by decide +kernel
theorem d_M_lying_7 : decode b_M_lying 7 = .ok (.if_icmp .ge 27, 3) := by decide +kernel
theorem d_M_lying_10 : decode b_M_lying 10 = .ok (.iload_n 2, 1) := by decide +kernel
theorem d_M_lying_11 : decode b_M_lying 11 = .ok (.aload_n 0, 1) := by decide +kernel
theorem d_M_lying_12 : decode b_M_lying 12 = .ok (.getfield 24, 3) := by decide +kernel
theorem d_M_lying_15 : decode b_M_lying 15 = .ok (.iload_n 3, 1) := by decide +kernel
theorem d_M_lying_16 : decode b_M_lying 16 = .ok (.iaload, 1) := by decide +kernel
theorem d_M_lying_17 : decode b_M_lying 17 = .ok (.iload_n 1, 1) := by decide +kernel
theorem d_M_lying_18 : decode b_M_lying 18 = .ok (.if_icmp .ne 7, 3) := by decide +kernel
theorem d_M_lying_21 : decode b_M_lying 21 = .ok (.iconst 1, 1) := by decide +kernel
theorem d_M_lying_22 : decode b_M_lying 22 = .ok (.goto 4, 3) := by decide +kernel
theorem d_M_lying_25 : decode b_M_lying 25 = .ok (.iconst 0, 1) := by decide +kernel
theorem d_M_lying_26 : decode b_M_lying 26 = .ok (.iadd, 1) := by decide +kernel
theorem d_M_lying_27 : decode b_M_lying 27 = .ok (.istore_n 2, 1) := by decide +kernel
theorem d_M_lying_28 : decode b_M_lying 28 = .ok (.iinc 3 1, 3) := by decide +kernel
theorem d_M_lying_31 : decode b_M_lying 31 = .ok (.goto (-27), 3) := by decide +kernel
theorem d_M_lying_34 : decode b_M_lying 34 = .ok (.iload_n 2, 1) := by decide +kernel
theorem d_M_lying_35 : decode b_M_lying 35 = .ok (.ireturn, 1) := by decide +kernel
theorem d_M_sum_0 : decode b_M_sum 0 = .ok (.iconst 0, 1) := by decide +kernel
theorem d_M_sum_1 : decode b_M_sum 1 = .ok (.istore_n 2, 1) := by decide +kernel
theorem d_M_sum_2 : decode b_M_sum 2 = .ok (.iconst 0, 1) := by decide +kernel
theorem d_M_sum_3 : decode b_M_sum 3 = .ok (.istore_n 3, 1) := by decide +kernel
theorem d_M_sum_4 : decode b_M_sum 4 = .ok (.iload_n 3, 1) := by decide +kernel
theorem d_M_sum_5 : decode b_M_sum 5 = .ok (.bipush 20, 2) := by decide +kernel
theorem d_M_sum_7 : decode b_M_sum 7 = .ok (.if_icmp .ge 32, 3) := by decide +kernel
theorem d_M_sum_10 : decode b_M_sum 10 = .ok (.iload_n 2, 1) := by decide +kernel
theorem d_M_sum_11 : decode b_M_sum 11 = .ok (.aload_n 0, 1) := by decide +kernel
theorem d_M_sum_12 : decode b_M_sum 12 = .ok (.getfield 24, 3) := by decide +kernel
theorem d_M_sum_15 : decode b_M_sum 15 = .ok (.iload_n 3, 1) := by decide +kernel
theorem d_M_sum_16 : decode b_M_sum 16 = .ok (.iaload, 1) := by decide +kernel
theorem d_M_sum_17 : decode b_M_sum 17 = .ok (.iload_n 1, 1) := by decide +kernel
theorem d_M_sum_18 : decode b_M_sum 18 = .ok (.if_icmp .ne 12, 3) := by decide +kernel
theorem d_M_sum_21 : decode b_M_sum 21 = .ok (.aload_n 0, 1) := by decide +kernel
theorem d_M_sum_22 : decode b_M_sum 22 = .ok (.getfield 27, 3) := by decide +kernel
theorem d_M_sum_25 : decode b_M_sum 25 = .ok (.iload_n 3, 1) := by decide +kernel
theorem d_M_sum_26 : decode b_M_sum 26 = .ok (.iaload, 1) := by decide +kernel
theorem d_M_sum_27 : decode b_M_sum 27 = .ok (.goto 4, 3) := by decide +kernel
theorem d_M_sum_30 : decode b_M_sum 30 = .ok (.iconst 0, 1) := by decide +kernel
theorem d_M_sum_31 : decode b_M_sum 31 = .ok (.iadd, 1) := by decide +kernel
theorem d_M_sum_32 : decode b_M_sum 32 = .ok (.istore_n 2, 1) := by decide +kernel
theorem d_M_sum_33 : decode b_M_sum 33 = .ok (.iinc 3 1, 3) := by decide +kernel
theorem d_M_sum_36 : decode b_M_sum 36 = .ok (.goto (-32), 3) := by decide +kernel
theorem d_M_sum_39 : decode b_M_sum 39 = .ok (.iload_n 2, 1) := by decide +kernel
theorem d_M_sum_40 : decode b_M_sum 40 = .ok (.ireturn, 1) := by decide +kernel
theorem d_M_anyDoor_0 : decode b_M_anyDoor 0 = .ok (.aload_n 0, 1) := by decide +kernel
theorem d_M_anyDoor_1 : decode b_M_anyDoor 1 = .ok (.getfield 30, 3) := by decide +kernel
theorem d_M_anyDoor_4 : decode b_M_anyDoor 4 = .ok (.iconst 0, 1) := by decide +kernel
theorem d_M_anyDoor_5 : decode b_M_anyDoor 5 = .ok (.baload, 1) := by decide +kernel
theorem d_M_anyDoor_6 : decode b_M_anyDoor 6 = .ok (.ifCond .ne 12, 3) := by decide +kernel
theorem d_M_anyDoor_9 : decode b_M_anyDoor 9 = .ok (.aload_n 0, 1) := by decide +kernel
theorem d_M_anyDoor_10 : decode b_M_anyDoor 10 = .ok (.getfield 30, 3) := by decide +kernel
theorem d_M_anyDoor_13 : decode b_M_anyDoor 13 = .ok (.iconst 1, 1) := by decide +kernel
theorem d_M_anyDoor_14 : decode b_M_anyDoor 14 = .ok (.baload, 1) := by decide +kernel
theorem d_M_anyDoor_15 : decode b_M_anyDoor 15 = .ok (.ifCond .eq 7, 3) := by decide +kernel
theorem d_M_anyDoor_18 : decode b_M_anyDoor 18 = .ok (.iconst 1, 1) := by decide +kernel
theorem d_M_anyDoor_19 : decode b_M_anyDoor 19 = .ok (.goto 4, 3) := by decide +kernel
theorem d_M_anyDoor_22 : decode b_M_anyDoor 22 = .ok (.iconst 0, 1) := by decide +kernel
theorem d_M_anyDoor_23 : decode b_M_anyDoor 23 = .ok (.ireturn, 1) := by decide +kernel
theorem d_M_findShelves_0 : decode b_M_findShelves 0 = .ok (.aload_n 0, 1) := by decide +kernel
theorem d_M_findShelves_1 : decode b_M_findShelves 1 = .ok (.iconst 0, 1) := by decide +kernel
theorem d_M_findShelves_2 : decode b_M_findShelves 2 = .ok (.putfield 55, 3) := by decide +kernel
theorem d_M_findShelves_5 : decode b_M_findShelves 5 = .ok (.iconst 0, 1) := by decide +kernel
theorem d_M_findShelves_6 : decode b_M_findShelves 6 = .ok (.istore_n 1, 1) := by decide +kernel
theorem d_M_findShelves_7 : decode b_M_findShelves 7 = .ok (.iload_n 1, 1) := by decide +kernel
theorem d_M_findShelves_8 : decode b_M_findShelves 8 = .ok (.aload_n 0, 1) := by decide +kernel
theorem d_M_findShelves_9 : decode b_M_findShelves 9 = .ok (.getfield 39, 3) := by decide +kernel
theorem d_M_findShelves_12 : decode b_M_findShelves 12 = .ok (.if_icmp .ge 44, 3) := by decide +kernel
theorem d_M_findShelves_15 : decode b_M_findShelves 15 = .ok (.aload_n 0, 1) := by decide +kernel
theorem d_M_findShelves_16 : decode b_M_findShelves 16 = .ok (.getfield 24, 3) := by decide +kernel
theorem d_M_findShelves_19 : decode b_M_findShelves 19 = .ok (.aload_n 0, 1) := by decide +kernel
theorem d_M_findShelves_20 : decode b_M_findShelves 20 = .ok (.getfield 42, 3) := by decide +kernel
theorem d_M_findShelves_23 : decode b_M_findShelves 23 = .ok (.iload_n 1, 1) := by decide +kernel
theorem d_M_findShelves_24 : decode b_M_findShelves 24 = .ok (.iaload, 1) := by decide +kernel
theorem d_M_findShelves_25 : decode b_M_findShelves 25 = .ok (.iaload, 1) := by decide +kernel
theorem d_M_findShelves_26 : decode b_M_findShelves 26 = .ok (.ifCond .lt 22, 3) := by decide +kernel
theorem d_M_findShelves_29 : decode b_M_findShelves 29 = .ok (.aload_n 0, 1) := by decide +kernel
theorem d_M_findShelves_30 : decode b_M_findShelves 30 = .ok (.getfield 20, 3) := by decide +kernel
theorem d_M_findShelves_33 : decode b_M_findShelves 33 = .ok (.aload_n 0, 1) := by decide +kernel
theorem d_M_findShelves_34 : decode b_M_findShelves 34 = .ok (.getfield 24, 3) := by decide +kernel
theorem d_M_findShelves_37 : decode b_M_findShelves 37 = .ok (.aload_n 0, 1) := by decide +kernel
theorem d_M_findShelves_38 : decode b_M_findShelves 38 = .ok (.getfield 42, 3) := by decide +kernel
theorem d_M_findShelves_41 : decode b_M_findShelves 41 = .ok (.iload_n 1, 1) := by decide +kernel
theorem d_M_findShelves_42 : decode b_M_findShelves 42 = .ok (.iaload, 1) := by decide +kernel
theorem d_M_findShelves_43 : decode b_M_findShelves 43 = .ok (.iaload, 1) := by decide +kernel
theorem d_M_findShelves_44 : decode b_M_findShelves 44 = .ok (.baload, 1) := by decide +kernel
theorem d_M_findShelves_45 : decode b_M_findShelves 45 = .ok (.ifCond .eq 5, 3) := by decide +kernel
theorem d_M_findShelves_48 : decode b_M_findShelves 48 = .ok (.iconst 0, 1) := by decide +kernel
theorem d_M_findShelves_49 : decode b_M_findShelves 49 = .ok (.ireturn, 1) := by decide +kernel
theorem d_M_findShelves_50 : decode b_M_findShelves 50 = .ok (.iinc 1 1, 3) := by decide +kernel
theorem d_M_findShelves_53 : decode b_M_findShelves 53 = .ok (.goto (-46), 3) := by decide +kernel
theorem d_M_findShelves_56 : decode b_M_findShelves 56 = .ok (.iconst 0, 1) := by decide +kernel
theorem d_M_findShelves_57 : decode b_M_findShelves 57 = .ok (.istore_n 1, 1) := by decide +kernel
theorem d_M_findShelves_58 : decode b_M_findShelves 58 = .ok (.iload_n 1, 1) := by decide +kernel
theorem d_M_findShelves_59 : decode b_M_findShelves 59 = .ok (.aload_n 0, 1) := by decide +kernel
theorem d_M_findShelves_60 : decode b_M_findShelves 60 = .ok (.getfield 64, 3) := by decide +kernel
theorem d_M_findShelves_63 : decode b_M_findShelves 63 = .ok (.if_icmp .ge 76, 3) := by decide +kernel
theorem d_M_findShelves_66 : decode b_M_findShelves 66 = .ok (.iconst 0, 1) := by decide +kernel
theorem d_M_findShelves_67 : decode b_M_findShelves 67 = .ok (.istore_n 2, 1) := by decide +kernel
theorem d_M_findShelves_68 : decode b_M_findShelves 68 = .ok (.iconst 0, 1) := by decide +kernel
theorem d_M_findShelves_69 : decode b_M_findShelves 69 = .ok (.istore_n 3, 1) := by decide +kernel
theorem d_M_findShelves_70 : decode b_M_findShelves 70 = .ok (.iload_n 3, 1) := by decide +kernel
theorem d_M_findShelves_71 : decode b_M_findShelves 71 = .ok (.aload_n 0, 1) := by decide +kernel
theorem d_M_findShelves_72 : decode b_M_findShelves 72 = .ok (.getfield 39, 3) := by decide +kernel
theorem d_M_findShelves_75 : decode b_M_findShelves 75 = .ok (.if_icmp .ge 34, 3) := by decide +kernel
theorem d_M_findShelves_78 : decode b_M_findShelves 78 = .ok (.iload_n 2, 1) := by decide +kernel
theorem d_M_findShelves_79 : decode b_M_findShelves 79 = .ok (.ifCond .ne 18, 3) := by decide +kernel
theorem d_M_findShelves_82 : decode b_M_findShelves 82 = .ok (.aload_n 0, 1) := by decide +kernel
theorem d_M_findShelves_83 : decode b_M_findShelves 83 = .ok (.getfield 24, 3) := by decide +kernel
theorem d_M_findShelves_86 : decode b_M_findShelves 86 = .ok (.aload_n 0, 1) := by decide +kernel
theorem d_M_findShelves_87 : decode b_M_findShelves 87 = .ok (.getfield 42, 3) := by decide +kernel
theorem d_M_findShelves_90 : decode b_M_findShelves 90 = .ok (.iload_n 3, 1) := by decide +kernel
theorem d_M_findShelves_91 : decode b_M_findShelves 91 = .ok (.iaload, 1) := by decide +kernel
theorem d_M_findShelves_92 : decode b_M_findShelves 92 = .ok (.iaload, 1) := by decide +kernel
theorem d_M_findShelves_93 : decode b_M_findShelves 93 = .ok (.iload_n 1, 1) := by decide +kernel
theorem d_M_findShelves_94 : decode b_M_findShelves 94 = .ok (.if_icmp .ne 7, 3) := by decide +kernel
theorem d_M_findShelves_97 : decode b_M_findShelves 97 = .ok (.iconst 1, 1) := by decide +kernel
theorem d_M_findShelves_98 : decode b_M_findShelves 98 = .ok (.goto 4, 3) := by decide +kernel
theorem d_M_findShelves_101 : decode b_M_findShelves 101 = .ok (.iconst 0, 1) := by decide +kernel
theorem d_M_findShelves_102 : decode b_M_findShelves 102 = .ok (.istore_n 2, 1) := by decide +kernel
theorem d_M_findShelves_103 : decode b_M_findShelves 103 = .ok (.iinc 3 1, 3) := by decide +kernel
theorem d_M_findShelves_106 : decode b_M_findShelves 106 = .ok (.goto (-36), 3) := by decide +kernel
theorem d_M_findShelves_109 : decode b_M_findShelves 109 = .ok (.iload_n 2, 1) := by decide +kernel
theorem d_M_findShelves_110 : decode b_M_findShelves 110 = .ok (.ifCond .eq 23, 3) := by decide +kernel
theorem d_M_findShelves_113 : decode b_M_findShelves 113 = .ok (.aload_n 0, 1) := by decide +kernel
theorem d_M_findShelves_114 : decode b_M_findShelves 114 = .ok (.getfield 58, 3) := by decide +kernel
theorem d_M_findShelves_117 : decode b_M_findShelves 117 = .ok (.aload_n 0, 1) := by decide +kernel
theorem d_M_findShelves_118 : decode b_M_findShelves 118 = .ok (.getfield 55, 3) := by decide +kernel
theorem d_M_findShelves_121 : decode b_M_findShelves 121 = .ok (.iload_n 1, 1) := by decide +kernel
theorem d_M_findShelves_122 : decode b_M_findShelves 122 = .ok (.iastore, 1) := by decide +kernel
theorem d_M_findShelves_123 : decode b_M_findShelves 123 = .ok (.aload_n 0, 1) := by decide +kernel
theorem d_M_findShelves_124 : decode b_M_findShelves 124 = .ok (.dup, 1) := by decide +kernel
theorem d_M_findShelves_125 : decode b_M_findShelves 125 = .ok (.getfield 55, 3) := by decide +kernel
theorem d_M_findShelves_128 : decode b_M_findShelves 128 = .ok (.iconst 1, 1) := by decide +kernel
theorem d_M_findShelves_129 : decode b_M_findShelves 129 = .ok (.iadd, 1) := by decide +kernel
theorem d_M_findShelves_130 : decode b_M_findShelves 130 = .ok (.putfield 55, 3) := by decide +kernel
theorem d_M_findShelves_133 : decode b_M_findShelves 133 = .ok (.iinc 1 1, 3) := by decide +kernel
theorem d_M_findShelves_136 : decode b_M_findShelves 136 = .ok (.goto (-78), 3) := by decide +kernel
theorem d_M_findShelves_139 : decode b_M_findShelves 139 = .ok (.iconst 1, 1) := by decide +kernel
theorem d_M_findShelves_140 : decode b_M_findShelves 140 = .ok (.ireturn, 1) := by decide +kernel
theorem d_M_theOrder_0 : decode b_M_theOrder 0 = .ok (.iload_n 1, 1) := by decide +kernel
theorem d_M_theOrder_1 : decode b_M_theOrder 1 = .ok (.istore_n 2, 1) := by decide +kernel
theorem d_M_theOrder_2 : decode b_M_theOrder 2 = .ok (.iconst 0, 1) := by decide +kernel
theorem d_M_theOrder_3 : decode b_M_theOrder 3 = .ok (.istore_n 3, 1) := by decide +kernel
theorem d_M_theOrder_4 : decode b_M_theOrder 4 = .ok (.iconst 0, 1) := by decide +kernel
theorem d_M_theOrder_5 : decode b_M_theOrder 5 = .ok (.istore 4, 2) := by decide +kernel
theorem d_M_theOrder_7 : decode b_M_theOrder 7 = .ok (.iload 4, 2) := by decide +kernel
theorem d_M_theOrder_9 : decode b_M_theOrder 9 = .ok (.aload_n 0, 1) := by decide +kernel
theorem d_M_theOrder_10 : decode b_M_theOrder 10 = .ok (.getfield 55, 3) := by decide +kernel
theorem d_M_theOrder_13 : decode b_M_theOrder 13 = .ok (.if_icmp .ge 108, 3) := by decide +kernel
theorem d_M_theOrder_16 : decode b_M_theOrder 16 = .ok (.iconst 1, 1) := by decide +kernel
theorem d_M_theOrder_17 : decode b_M_theOrder 17 = .ok (.istore 5, 2) := by decide +kernel
theorem d_M_theOrder_19 : decode b_M_theOrder 19 = .ok (.iconst 2, 1) := by decide +kernel
theorem d_M_theOrder_20 : decode b_M_theOrder 20 = .ok (.istore 6, 2) := by decide +kernel
theorem d_M_theOrder_22 : decode b_M_theOrder 22 = .ok (.iload 6, 2) := by decide +kernel
theorem d_M_theOrder_24 : decode b_M_theOrder 24 = .ok (.aload_n 0, 1) := by decide +kernel
theorem d_M_theOrder_25 : decode b_M_theOrder 25 = .ok (.getfield 55, 3) := by decide +kernel
theorem d_M_theOrder_28 : decode b_M_theOrder 28 = .ok (.iload 4, 2) := by decide +kernel
theorem d_M_theOrder_30 : decode b_M_theOrder 30 = .ok (.isub, 1) := by decide +kernel
theorem d_M_theOrder_31 : decode b_M_theOrder 31 = .ok (.if_icmp .ge 16, 3) := by decide +kernel
theorem d_M_theOrder_34 : decode b_M_theOrder 34 = .ok (.iload 5, 2) := by decide +kernel
theorem d_M_theOrder_36 : decode b_M_theOrder 36 = .ok (.iload 6, 2) := by decide +kernel
theorem d_M_theOrder_38 : decode b_M_theOrder 38 = .ok (.imul, 1) := by decide +kernel
theorem d_M_theOrder_39 : decode b_M_theOrder 39 = .ok (.istore 5, 2) := by decide +kernel
theorem d_M_theOrder_41 : decode b_M_theOrder 41 = .ok (.iinc 6 1, 3) := by decide +kernel
theorem d_M_theOrder_44 : decode b_M_theOrder 44 = .ok (.goto (-22), 3) := by decide +kernel
theorem d_M_theOrder_47 : decode b_M_theOrder 47 = .ok (.iload_n 2, 1) := by decide +kernel
theorem d_M_theOrder_48 : decode b_M_theOrder 48 = .ok (.iload 5, 2) := by decide +kernel
theorem d_M_theOrder_50 : decode b_M_theOrder 50 = .ok (.idiv, 1) := by decide +kernel
theorem d_M_theOrder_51 : decode b_M_theOrder 51 = .ok (.istore 6, 2) := by decide +kernel
theorem d_M_theOrder_53 : decode b_M_theOrder 53 = .ok (.iload_n 2, 1) := by decide +kernel
theorem d_M_theOrder_54 : decode b_M_theOrder 54 = .ok (.iload 5, 2) := by decide +kernel
theorem d_M_theOrder_56 : decode b_M_theOrder 56 = .ok (.irem, 1) := by decide +kernel
theorem d_M_theOrder_57 : decode b_M_theOrder 57 = .ok (.istore_n 2, 1) := by decide +kernel
theorem d_M_theOrder_58 : decode b_M_theOrder 58 = .ok (.iconst 0, 1) := by decide +kernel
theorem d_M_theOrder_59 : decode b_M_theOrder 59 = .ok (.istore 7, 2) := by decide +kernel
theorem d_M_theOrder_61 : decode b_M_theOrder 61 = .ok (.iload_n 3, 1) := by decide +kernel
theorem d_M_theOrder_62 : decode b_M_theOrder 62 = .ok (.iload 7, 2) := by decide +kernel
theorem d_M_theOrder_64 : decode b_M_theOrder 64 = .ok (.ishr, 1) := by decide +kernel
theorem d_M_theOrder_65 : decode b_M_theOrder 65 = .ok (.iconst 1, 1) := by decide +kernel
theorem d_M_theOrder_66 : decode b_M_theOrder 66 = .ok (.iand, 1) := by decide +kernel
theorem d_M_theOrder_67 : decode b_M_theOrder 67 = .ok (.iconst 1, 1) := by decide +kernel
theorem d_M_theOrder_68 : decode b_M_theOrder 68 = .ok (.if_icmp .eq 8, 3) := by decide +kernel
theorem d_M_theOrder_71 : decode b_M_theOrder 71 = .ok (.iload 6, 2) := by decide +kernel
theorem d_M_theOrder_73 : decode b_M_theOrder 73 = .ok (.ifCond .le 21, 3) := by decide +kernel
theorem d_M_theOrder_76 : decode b_M_theOrder 76 = .ok (.iload_n 3, 1) := by decide +kernel
theorem d_M_theOrder_77 : decode b_M_theOrder 77 = .ok (.iload 7, 2) := by decide +kernel
theorem d_M_theOrder_79 : decode b_M_theOrder 79 = .ok (.ishr, 1) := by decide +kernel
theorem d_M_theOrder_80 : decode b_M_theOrder 80 = .ok (.iconst 1, 1) := by decide +kernel
theorem d_M_theOrder_81 : decode b_M_theOrder 81 = .ok (.iand, 1) := by decide +kernel
theorem d_M_theOrder_82 : decode b_M_theOrder 82 = .ok (.ifCond .ne 6, 3) := by decide +kernel
theorem d_M_theOrder_85 : decode b_M_theOrder 85 = .ok (.iinc 6 (-1), 3) := by decide +kernel
theorem d_M_theOrder_88 : decode b_M_theOrder 88 = .ok (.iinc 7 1, 3) := by decide +kernel
theorem d_M_theOrder_91 : decode b_M_theOrder 91 = .ok (.goto (-30), 3) := by decide +kernel
theorem d_M_theOrder_94 : decode b_M_theOrder 94 = .ok (.iload_n 3, 1) := by decide +kernel
theorem d_M_theOrder_95 : decode b_M_theOrder 95 = .ok (.iconst 1, 1) := by decide +kernel
theorem d_M_theOrder_96 : decode b_M_theOrder 96 = .ok (.iload 7, 2) := by decide +kernel
theorem d_M_theOrder_98 : decode b_M_theOrder 98 = .ok (.ishl, 1) := by decide +kernel
theorem d_M_theOrder_99 : decode b_M_theOrder 99 = .ok (.ior, 1) := by decide +kernel
theorem d_M_theOrder_100 : decode b_M_theOrder 100 = .ok (.istore_n 3, 1) := by decide +kernel
theorem d_M_theOrder_101 : decode b_M_theOrder 101 = .ok (.aload_n 0, 1) := by decide +kernel
theorem d_M_theOrder_102 : decode b_M_theOrder 102 = .ok (.getfield 61, 3) := by decide +kernel
theorem d_M_theOrder_105 : decode b_M_theOrder 105 = .ok (.iload 4, 2) := by decide +kernel
theorem d_M_theOrder_107 : decode b_M_theOrder 107 = .ok (.aload_n 0, 1) := by decide +kernel
theorem d_M_theOrder_108 : decode b_M_theOrder 108 = .ok (.getfield 58, 3) := by decide +kernel
theorem d_M_theOrder_111 : decode b_M_theOrder 111 = .ok (.iload 7, 2) := by decide +kernel
theorem d_M_theOrder_113 : decode b_M_theOrder 113 = .ok (.iaload, 1) := by decide +kernel
theorem d_M_theOrder_114 : decode b_M_theOrder 114 = .ok (.iastore, 1) := by decide +kernel
theorem d_M_theOrder_115 : decode b_M_theOrder 115 = .ok (.iinc 4 1, 3) := by decide +kernel
theorem d_M_theOrder_118 : decode b_M_theOrder 118 = .ok (.goto (-111), 3) := by decide +kernel
theorem d_M_theOrder_121 : decode b_M_theOrder 121 = .ok (.return_, 1) := by decide +kernel
theorem d_M_turnsOf_0 : decode b_M_turnsOf 0 = .ok (.aload_n 0, 1) := by decide +kernel
theorem d_M_turnsOf_1 : decode b_M_turnsOf 1 = .ok (.getfield 13, 3) := by decide +kernel
theorem d_M_turnsOf_4 : decode b_M_turnsOf 4 = .ok (.istore_n 1, 1) := by decide +kernel
theorem d_M_turnsOf_5 : decode b_M_turnsOf 5 = .ok (.iconst 0, 1) := by decide +kernel
theorem d_M_turnsOf_6 : decode b_M_turnsOf 6 = .ok (.istore_n 2, 1) := by decide +kernel
theorem d_M_turnsOf_7 : decode b_M_turnsOf 7 = .ok (.iconst 0, 1) := by decide +kernel
theorem d_M_turnsOf_8 : decode b_M_turnsOf 8 = .ok (.istore_n 3, 1) := by decide +kernel
theorem d_M_turnsOf_9 : decode b_M_turnsOf 9 = .ok (.iload_n 3, 1) := by decide +kernel
theorem d_M_turnsOf_10 : decode b_M_turnsOf 10 = .ok (.aload_n 0, 1) := by decide +kernel
theorem d_M_turnsOf_11 : decode b_M_turnsOf 11 = .ok (.getfield 55, 3) := by decide +kernel
theorem d_M_turnsOf_14 : decode b_M_turnsOf 14 = .ok (.if_icmp .ge 40, 3) := by decide +kernel
theorem d_M_turnsOf_17 : decode b_M_turnsOf 17 = .ok (.iload_n 2, 1) := by decide +kernel
theorem d_M_turnsOf_18 : decode b_M_turnsOf 18 = .ok (.aload_n 0, 1) := by decide +kernel
theorem d_M_turnsOf_19 : decode b_M_turnsOf 19 = .ok (.iload_n 1, 1) := by decide +kernel
theorem d_M_turnsOf_20 : decode b_M_turnsOf 20 = .ok (.aload_n 0, 1) := by decide +kernel
theorem d_M_turnsOf_21 : decode b_M_turnsOf 21 = .ok (.getfield 16, 3) := by decide +kernel
theorem d_M_turnsOf_24 : decode b_M_turnsOf 24 = .ok (.aload_n 0, 1) := by decide +kernel
theorem d_M_turnsOf_25 : decode b_M_turnsOf 25 = .ok (.getfield 61, 3) := by decide +kernel
theorem d_M_turnsOf_28 : decode b_M_turnsOf 28 = .ok (.iload_n 3, 1) := by decide +kernel
theorem d_M_turnsOf_29 : decode b_M_turnsOf 29 = .ok (.iaload, 1) := by decide +kernel
theorem d_M_turnsOf_30 : decode b_M_turnsOf 30 = .ok (.iaload, 1) := by decide +kernel
theorem d_M_turnsOf_31 : decode b_M_turnsOf 31 = .ok (.invokevirtual 67, 3) := by decide +kernel
theorem d_M_turnsOf_34 : decode b_M_turnsOf 34 = .ok (.iadd, 1) := by decide +kernel
theorem d_M_turnsOf_35 : decode b_M_turnsOf 35 = .ok (.istore_n 2, 1) := by decide +kernel
theorem d_M_turnsOf_36 : decode b_M_turnsOf 36 = .ok (.aload_n 0, 1) := by decide +kernel
theorem d_M_turnsOf_37 : decode b_M_turnsOf 37 = .ok (.getfield 16, 3) := by decide +kernel
theorem d_M_turnsOf_40 : decode b_M_turnsOf 40 = .ok (.aload_n 0, 1) := by decide +kernel
theorem d_M_turnsOf_41 : decode b_M_turnsOf 41 = .ok (.getfield 61, 3) := by decide +kernel
theorem d_M_turnsOf_44 : decode b_M_turnsOf 44 = .ok (.iload_n 3, 1) := by decide +kernel
theorem d_M_turnsOf_45 : decode b_M_turnsOf 45 = .ok (.iaload, 1) := by decide +kernel
theorem d_M_turnsOf_46 : decode b_M_turnsOf 46 = .ok (.iaload, 1) := by decide +kernel
theorem d_M_turnsOf_47 : decode b_M_turnsOf 47 = .ok (.istore_n 1, 1) := by decide +kernel
theorem d_M_turnsOf_48 : decode b_M_turnsOf 48 = .ok (.iinc 3 1, 3) := by decide +kernel
theorem d_M_turnsOf_51 : decode b_M_turnsOf 51 = .ok (.goto (-42), 3) := by decide +kernel
theorem d_M_turnsOf_54 : decode b_M_turnsOf 54 = .ok (.iload_n 2, 1) := by decide +kernel
theorem d_M_turnsOf_55 : decode b_M_turnsOf 55 = .ok (.ireturn, 1) := by decide +kernel
theorem d_M_byRule_0 : decode b_M_byRule 0 = .ok (.iconst 0, 1) := by decide +kernel
theorem d_M_byRule_1 : decode b_M_byRule 1 = .ok (.istore_n 1, 1) := by decide +kernel
theorem d_M_byRule_2 : decode b_M_byRule 2 = .ok (.aload_n 0, 1) := by decide +kernel
theorem d_M_byRule_3 : decode b_M_byRule 3 = .ok (.getfield 13, 3) := by decide +kernel
theorem d_M_byRule_6 : decode b_M_byRule 6 = .ok (.istore_n 2, 1) := by decide +kernel
theorem d_M_byRule_7 : decode b_M_byRule 7 = .ok (.iconst 0, 1) := by decide +kernel
theorem d_M_byRule_8 : decode b_M_byRule 8 = .ok (.istore_n 3, 1) := by decide +kernel
theorem d_M_byRule_9 : decode b_M_byRule 9 = .ok (.iload_n 3, 1) := by decide +kernel
theorem d_M_byRule_10 : decode b_M_byRule 10 = .ok (.aload_n 0, 1) := by decide +kernel
theorem d_M_byRule_11 : decode b_M_byRule 11 = .ok (.getfield 55, 3) := by decide +kernel
theorem d_M_byRule_14 : decode b_M_byRule 14 = .ok (.if_icmp .ge 130, 3) := by decide +kernel
theorem d_M_byRule_17 : decode b_M_byRule 17 = .ok (.iconst (-1), 1) := by decide +kernel
theorem d_M_byRule_18 : decode b_M_byRule 18 = .ok (.istore 4, 2) := by decide +kernel
theorem d_M_byRule_20 : decode b_M_byRule 20 = .ok (.iconst 0, 1) := by decide +kernel
theorem d_M_byRule_21 : decode b_M_byRule 21 = .ok (.istore 5, 2) := by decide +kernel
theorem d_M_byRule_23 : decode b_M_byRule 23 = .ok (.iload 5, 2) := by decide +kernel
theorem d_M_byRule_25 : decode b_M_byRule 25 = .ok (.aload_n 0, 1) := by decide +kernel
theorem d_M_byRule_26 : decode b_M_byRule 26 = .ok (.getfield 55, 3) := by decide +kernel
theorem d_M_byRule_29 : decode b_M_byRule 29 = .ok (.if_icmp .ge 76, 3) := by decide +kernel
theorem d_M_byRule_32 : decode b_M_byRule 32 = .ok (.iload_n 1, 1) := by decide +kernel
theorem d_M_byRule_33 : decode b_M_byRule 33 = .ok (.iload 5, 2) := by decide +kernel
theorem d_M_byRule_35 : decode b_M_byRule 35 = .ok (.ishr, 1) := by decide +kernel
theorem d_M_byRule_36 : decode b_M_byRule 36 = .ok (.iconst 1, 1) := by decide +kernel
theorem d_M_byRule_37 : decode b_M_byRule 37 = .ok (.iand, 1) := by decide +kernel
theorem d_M_byRule_38 : decode b_M_byRule 38 = .ok (.ifCond .ne 7, 3) := by decide +kernel
theorem d_M_byRule_41 : decode b_M_byRule 41 = .ok (.iconst 1, 1) := by decide +kernel
theorem d_M_byRule_42 : decode b_M_byRule 42 = .ok (.goto 4, 3) := by decide +kernel
theorem d_M_byRule_45 : decode b_M_byRule 45 = .ok (.iconst 0, 1) := by decide +kernel
theorem d_M_byRule_46 : decode b_M_byRule 46 = .ok (.istore 6, 2) := by decide +kernel
theorem d_M_byRule_48 : decode b_M_byRule 48 = .ok (.iload 6, 2) := by decide +kernel
theorem d_M_byRule_50 : decode b_M_byRule 50 = .ok (.ifCond .eq 49, 3) := by decide +kernel
theorem d_M_byRule_53 : decode b_M_byRule 53 = .ok (.iload 4, 2) := by decide +kernel
theorem d_M_byRule_55 : decode b_M_byRule 55 = .ok (.ifCond .lt 40, 3) := by decide +kernel
theorem d_M_byRule_58 : decode b_M_byRule 58 = .ok (.aload_n 0, 1) := by decide +kernel
theorem d_M_byRule_59 : decode b_M_byRule 59 = .ok (.iload_n 2, 1) := by decide +kernel
theorem d_M_byRule_60 : decode b_M_byRule 60 = .ok (.aload_n 0, 1) := by decide +kernel
theorem d_M_byRule_61 : decode b_M_byRule 61 = .ok (.getfield 16, 3) := by decide +kernel
theorem d_M_byRule_64 : decode b_M_byRule 64 = .ok (.aload_n 0, 1) := by decide +kernel
theorem d_M_byRule_65 : decode b_M_byRule 65 = .ok (.getfield 58, 3) := by decide +kernel
theorem d_M_byRule_68 : decode b_M_byRule 68 = .ok (.iload 5, 2) := by decide +kernel
theorem d_M_byRule_70 : decode b_M_byRule 70 = .ok (.iaload, 1) := by decide +kernel
theorem d_M_byRule_71 : decode b_M_byRule 71 = .ok (.iaload, 1) := by decide +kernel
theorem d_M_byRule_72 : decode b_M_byRule 72 = .ok (.invokevirtual 67, 3) := by decide +kernel
theorem d_M_byRule_75 : decode b_M_byRule 75 = .ok (.aload_n 0, 1) := by decide +kernel
theorem d_M_byRule_76 : decode b_M_byRule 76 = .ok (.iload_n 2, 1) := by decide +kernel
theorem d_M_byRule_77 : decode b_M_byRule 77 = .ok (.aload_n 0, 1) := by decide +kernel
theorem d_M_byRule_78 : decode b_M_byRule 78 = .ok (.getfield 16, 3) := by decide +kernel
theorem d_M_byRule_81 : decode b_M_byRule 81 = .ok (.aload_n 0, 1) := by decide +kernel
theorem d_M_byRule_82 : decode b_M_byRule 82 = .ok (.getfield 58, 3) := by decide +kernel
theorem d_M_byRule_85 : decode b_M_byRule 85 = .ok (.iload 4, 2) := by decide +kernel
theorem d_M_byRule_87 : decode b_M_byRule 87 = .ok (.iaload, 1) := by decide +kernel
theorem d_M_byRule_88 : decode b_M_byRule 88 = .ok (.iaload, 1) := by decide +kernel
theorem d_M_byRule_89 : decode b_M_byRule 89 = .ok (.invokevirtual 67, 3) := by decide +kernel
theorem d_M_byRule_92 : decode b_M_byRule 92 = .ok (.if_icmp .ge 7, 3) := by decide +kernel
theorem d_M_byRule_95 : decode b_M_byRule 95 = .ok (.iload 5, 2) := by decide +kernel
theorem d_M_byRule_97 : decode b_M_byRule 97 = .ok (.istore 4, 2) := by decide +kernel
theorem d_M_byRule_99 : decode b_M_byRule 99 = .ok (.iinc 5 1, 3) := by decide +kernel
theorem d_M_byRule_102 : decode b_M_byRule 102 = .ok (.goto (-79), 3) := by decide +kernel
theorem d_M_byRule_105 : decode b_M_byRule 105 = .ok (.iload_n 1, 1) := by decide +kernel
theorem d_M_byRule_106 : decode b_M_byRule 106 = .ok (.iconst 1, 1) := by decide +kernel
theorem d_M_byRule_107 : decode b_M_byRule 107 = .ok (.iload 4, 2) := by decide +kernel
theorem d_M_byRule_109 : decode b_M_byRule 109 = .ok (.ishl, 1) := by decide +kernel
theorem d_M_byRule_110 : decode b_M_byRule 110 = .ok (.ior, 1) := by decide +kernel
theorem d_M_byRule_111 : decode b_M_byRule 111 = .ok (.istore_n 1, 1) := by decide +kernel
theorem d_M_byRule_112 : decode b_M_byRule 112 = .ok (.aload_n 0, 1) := by decide +kernel
theorem d_M_byRule_113 : decode b_M_byRule 113 = .ok (.getfield 61, 3) := by decide +kernel
theorem d_M_byRule_116 : decode b_M_byRule 116 = .ok (.iload_n 3, 1) := by decide +kernel
theorem d_M_byRule_117 : decode b_M_byRule 117 = .ok (.aload_n 0, 1) := by decide +kernel
theorem d_M_byRule_118 : decode b_M_byRule 118 = .ok (.getfield 58, 3) := by decide +kernel
theorem d_M_byRule_121 : decode b_M_byRule 121 = .ok (.iload 4, 2) := by decide +kernel
theorem d_M_byRule_123 : decode b_M_byRule 123 = .ok (.iaload, 1) := by decide +kernel
theorem d_M_byRule_124 : decode b_M_byRule 124 = .ok (.iastore, 1) := by decide +kernel
theorem d_M_byRule_125 : decode b_M_byRule 125 = .ok (.aload_n 0, 1) := by decide +kernel
theorem d_M_byRule_126 : decode b_M_byRule 126 = .ok (.getfield 16, 3) := by decide +kernel
theorem d_M_byRule_129 : decode b_M_byRule 129 = .ok (.aload_n 0, 1) := by decide +kernel
theorem d_M_byRule_130 : decode b_M_byRule 130 = .ok (.getfield 58, 3) := by decide +kernel
theorem d_M_byRule_133 : decode b_M_byRule 133 = .ok (.iload 4, 2) := by decide +kernel
theorem d_M_byRule_135 : decode b_M_byRule 135 = .ok (.iaload, 1) := by decide +kernel
theorem d_M_byRule_136 : decode b_M_byRule 136 = .ok (.iaload, 1) := by decide +kernel
theorem d_M_byRule_137 : decode b_M_byRule 137 = .ok (.istore_n 2, 1) := by decide +kernel
theorem d_M_byRule_138 : decode b_M_byRule 138 = .ok (.iinc 3 1, 3) := by decide +kernel
theorem d_M_byRule_141 : decode b_M_byRule 141 = .ok (.goto (-132), 3) := by decide +kernel
theorem d_M_byRule_144 : decode b_M_byRule 144 = .ok (.return_, 1) := by decide +kernel
theorem d_M_thrown_0 : decode b_M_thrown 0 = .ok (.aload_n 0, 1) := by decide +kernel
theorem d_M_thrown_1 : decode b_M_thrown 1 = .ok (.getfield 7, 3) := by decide +kernel
theorem d_M_thrown_4 : decode b_M_thrown 4 = .ok (.ireturn, 1) := by decide +kernel
theorem d_M_put_0 : decode b_M_put 0 = .ok (.aload_n 0, 1) := by decide +kernel
theorem d_M_put_1 : decode b_M_put 1 = .ok (.iload_n 1, 1) := by decide +kernel
theorem d_M_put_2 : decode b_M_put 2 = .ok (.aload_n 0, 1) := by decide +kernel
theorem d_M_put_3 : decode b_M_put 3 = .ok (.getfield 64, 3) := by decide +kernel
theorem d_M_put_6 : decode b_M_put 6 = .ok (.invokestatic 71, 3) := by decide +kernel
theorem d_M_put_9 : decode b_M_put 9 = .ok (.ifCond .eq 7, 3) := by decide +kernel
theorem d_M_put_12 : decode b_M_put 12 = .ok (.iconst 1, 1) := by decide +kernel
theorem d_M_put_13 : decode b_M_put 13 = .ok (.goto 43, 3) := by decide +kernel
theorem d_M_put_16 : decode b_M_put 16 = .ok (.iload_n 2, 1) := by decide +kernel
theorem d_M_put_17 : decode b_M_put 17 = .ok (.bipush 20, 2) := by decide +kernel
theorem d_M_put_19 : decode b_M_put 19 = .ok (.invokestatic 71, 3) := by decide +kernel
theorem d_M_put_22 : decode b_M_put 22 = .ok (.ifCond .eq 7, 3) := by decide +kernel
theorem d_M_put_25 : decode b_M_put 25 = .ok (.iconst 2, 1) := by decide +kernel
theorem d_M_put_26 : decode b_M_put 26 = .ok (.goto 30, 3) := by decide +kernel
theorem d_M_put_29 : decode b_M_put 29 = .ok (.aload_n 0, 1) := by decide +kernel
theorem d_M_put_30 : decode b_M_put 30 = .ok (.getfield 24, 3) := by decide +kernel
theorem d_M_put_33 : decode b_M_put 33 = .ok (.iload_n 2, 1) := by decide +kernel
theorem d_M_put_34 : decode b_M_put 34 = .ok (.iaload, 1) := by decide +kernel
theorem d_M_put_35 : decode b_M_put 35 = .ok (.ifCond .lt 7, 3) := by decide +kernel
theorem d_M_put_38 : decode b_M_put 38 = .ok (.iconst 3, 1) := by decide +kernel
theorem d_M_put_39 : decode b_M_put 39 = .ok (.goto 17, 3) := by decide +kernel
theorem d_M_put_42 : decode b_M_put 42 = .ok (.aload_n 0, 1) := by decide +kernel
theorem d_M_put_43 : decode b_M_put 43 = .ok (.iload_n 1, 1) := by decide +kernel
theorem d_M_put_44 : decode b_M_put 44 = .ok (.invokevirtual 75, 3) := by decide +kernel
theorem d_M_put_47 : decode b_M_put 47 = .ok (.iconst 4, 1) := by decide +kernel
theorem d_M_put_48 : decode b_M_put 48 = .ok (.if_icmp .ne 7, 3) := by decide +kernel
theorem d_M_put_51 : decode b_M_put 51 = .ok (.iconst 4, 1) := by decide +kernel
theorem d_M_put_52 : decode b_M_put 52 = .ok (.goto 4, 3) := by decide +kernel
theorem d_M_put_55 : decode b_M_put 55 = .ok (.iconst 0, 1) := by decide +kernel
theorem d_M_put_56 : decode b_M_put 56 = .ok (.putfield 7, 3) := by decide +kernel
theorem d_M_put_59 : decode b_M_put 59 = .ok (.aload_n 0, 1) := by decide +kernel
theorem d_M_put_60 : decode b_M_put 60 = .ok (.getfield 7, 3) := by decide +kernel
theorem d_M_put_63 : decode b_M_put 63 = .ok (.ifCond .eq 5, 3) := by decide +kernel
theorem d_M_put_66 : decode b_M_put 66 = .ok (.iconst 0, 1) := by decide +kernel
theorem d_M_put_67 : decode b_M_put 67 = .ok (.ireturn, 1) := by decide +kernel
theorem d_M_put_68 : decode b_M_put 68 = .ok (.aload_n 0, 1) := by decide +kernel
theorem d_M_put_69 : decode b_M_put 69 = .ok (.getfield 24, 3) := by decide +kernel
theorem d_M_put_72 : decode b_M_put 72 = .ok (.iload_n 2, 1) := by decide +kernel
theorem d_M_put_73 : decode b_M_put 73 = .ok (.iload_n 1, 1) := by decide +kernel
theorem d_M_put_74 : decode b_M_put 74 = .ok (.iastore, 1) := by decide +kernel
theorem d_M_put_75 : decode b_M_put 75 = .ok (.aload_n 0, 1) := by decide +kernel
theorem d_M_put_76 : decode b_M_put 76 = .ok (.iload_n 1, 1) := by decide +kernel
theorem d_M_put_77 : decode b_M_put 77 = .ok (.invokevirtual 75, 3) := by decide +kernel
theorem d_M_put_80 : decode b_M_put 80 = .ok (.ireturn, 1) := by decide +kernel
theorem d_M_turn_0 : decode b_M_turn 0 = .ok (.aload_n 0, 1) := by decide +kernel
theorem d_M_turn_1 : decode b_M_turn 1 = .ok (.aload_n 0, 1) := by decide +kernel
theorem d_M_turn_2 : decode b_M_turn 2 = .ok (.getfield 64, 3) := by decide +kernel
theorem d_M_turn_5 : decode b_M_turn 5 = .ok (.ifCond .ne 7, 3) := by decide +kernel
theorem d_M_turn_8 : decode b_M_turn 8 = .ok (.iconst 1, 1) := by decide +kernel
theorem d_M_turn_9 : decode b_M_turn 9 = .ok (.goto 30, 3) := by decide +kernel
theorem d_M_turn_12 : decode b_M_turn 12 = .ok (.iload_n 1, 1) := by decide +kernel
theorem d_M_turn_13 : decode b_M_turn 13 = .ok (.aload_n 0, 1) := by decide +kernel
theorem d_M_turn_14 : decode b_M_turn 14 = .ok (.getfield 64, 3) := by decide +kernel
theorem d_M_turn_17 : decode b_M_turn 17 = .ok (.invokestatic 71, 3) := by decide +kernel
theorem d_M_turn_20 : decode b_M_turn 20 = .ok (.ifCond .eq 7, 3) := by decide +kernel
theorem d_M_turn_23 : decode b_M_turn 23 = .ok (.iconst 2, 1) := by decide +kernel
theorem d_M_turn_24 : decode b_M_turn 24 = .ok (.goto 15, 3) := by decide +kernel
theorem d_M_turn_27 : decode b_M_turn 27 = .ok (.aload_n 0, 1) := by decide +kernel
theorem d_M_turn_28 : decode b_M_turn 28 = .ok (.invokevirtual 79, 3) := by decide +kernel
theorem d_M_turn_31 : decode b_M_turn 31 = .ok (.ifCond .eq 7, 3) := by decide +kernel
theorem d_M_turn_34 : decode b_M_turn 34 = .ok (.iconst 3, 1) := by decide +kernel
theorem d_M_turn_35 : decode b_M_turn 35 = .ok (.goto 4, 3) := by decide +kernel
theorem d_M_turn_38 : decode b_M_turn 38 = .ok (.iconst 0, 1) := by decide +kernel
theorem d_M_turn_39 : decode b_M_turn 39 = .ok (.putfield 7, 3) := by decide +kernel
theorem d_M_turn_42 : decode b_M_turn 42 = .ok (.aload_n 0, 1) := by decide +kernel
theorem d_M_turn_43 : decode b_M_turn 43 = .ok (.getfield 7, 3) := by decide +kernel
theorem d_M_turn_46 : decode b_M_turn 46 = .ok (.ifCond .eq 5, 3) := by decide +kernel
theorem d_M_turn_49 : decode b_M_turn 49 = .ok (.iconst 0, 1) := by decide +kernel
theorem d_M_turn_50 : decode b_M_turn 50 = .ok (.ireturn, 1) := by decide +kernel
theorem d_M_turn_51 : decode b_M_turn 51 = .ok (.aload_n 0, 1) := by decide +kernel
theorem d_M_turn_52 : decode b_M_turn 52 = .ok (.aload_n 0, 1) := by decide +kernel
theorem d_M_turn_53 : decode b_M_turn 53 = .ok (.getfield 13, 3) := by decide +kernel
theorem d_M_turn_56 : decode b_M_turn 56 = .ok (.iload_n 1, 1) := by decide +kernel
theorem d_M_turn_57 : decode b_M_turn 57 = .ok (.invokevirtual 67, 3) := by decide +kernel
theorem d_M_turn_60 : decode b_M_turn 60 = .ok (.istore_n 2, 1) := by decide +kernel
theorem d_M_turn_61 : decode b_M_turn 61 = .ok (.aload_n 0, 1) := by decide +kernel
theorem d_M_turn_62 : decode b_M_turn 62 = .ok (.iload_n 1, 1) := by decide +kernel
theorem d_M_turn_63 : decode b_M_turn 63 = .ok (.putfield 13, 3) := by decide +kernel
theorem d_M_turn_66 : decode b_M_turn 66 = .ok (.aload_n 0, 1) := by decide +kernel
theorem d_M_turn_67 : decode b_M_turn 67 = .ok (.dup, 1) := by decide +kernel
theorem d_M_turn_68 : decode b_M_turn 68 = .ok (.getfield 33, 3) := by decide +kernel
theorem d_M_turn_71 : decode b_M_turn 71 = .ok (.iload_n 2, 1) := by decide +kernel
theorem d_M_turn_72 : decode b_M_turn 72 = .ok (.iadd, 1) := by decide +kernel
theorem d_M_turn_73 : decode b_M_turn 73 = .ok (.putfield 33, 3) := by decide +kernel
theorem d_M_turn_76 : decode b_M_turn 76 = .ok (.iload_n 2, 1) := by decide +kernel
theorem d_M_turn_77 : decode b_M_turn 77 = .ok (.ireturn, 1) := by decide +kernel
theorem d_M_isListed_0 : decode b_M_isListed 0 = .ok (.iconst 0, 1) := by decide +kernel
theorem d_M_isListed_1 : decode b_M_isListed 1 = .ok (.istore_n 2, 1) := by decide +kernel
theorem d_M_isListed_2 : decode b_M_isListed 2 = .ok (.iload_n 2, 1) := by decide +kernel
theorem d_M_isListed_3 : decode b_M_isListed 3 = .ok (.aload_n 0, 1) := by decide +kernel
theorem d_M_isListed_4 : decode b_M_isListed 4 = .ok (.getfield 39, 3) := by decide +kernel
theorem d_M_isListed_7 : decode b_M_isListed 7 = .ok (.if_icmp .ge 21, 3) := by decide +kernel
theorem d_M_isListed_10 : decode b_M_isListed 10 = .ok (.aload_n 0, 1) := by decide +kernel
theorem d_M_isListed_11 : decode b_M_isListed 11 = .ok (.getfield 42, 3) := by decide +kernel
theorem d_M_isListed_14 : decode b_M_isListed 14 = .ok (.iload_n 2, 1) := by decide +kernel
theorem d_M_isListed_15 : decode b_M_isListed 15 = .ok (.iaload, 1) := by decide +kernel
theorem d_M_isListed_16 : decode b_M_isListed 16 = .ok (.iload_n 1, 1) := by decide +kernel
theorem d_M_isListed_17 : decode b_M_isListed 17 = .ok (.if_icmp .ne 5, 3) := by decide +kernel
theorem d_M_isListed_20 : decode b_M_isListed 20 = .ok (.iconst 1, 1) := by decide +kernel
theorem d_M_isListed_21 : decode b_M_isListed 21 = .ok (.ireturn, 1) := by decide +kernel
theorem d_M_isListed_22 : decode b_M_isListed 22 = .ok (.iinc 2 1, 3) := by decide +kernel
theorem d_M_isListed_25 : decode b_M_isListed 25 = .ok (.goto (-23), 3) := by decide +kernel
theorem d_M_isListed_28 : decode b_M_isListed 28 = .ok (.iconst 0, 1) := by decide +kernel
theorem d_M_isListed_29 : decode b_M_isListed 29 = .ok (.ireturn, 1) := by decide +kernel
theorem d_M_want_0 : decode b_M_want 0 = .ok (.aload_n 0, 1) := by decide +kernel
theorem d_M_want_1 : decode b_M_want 1 = .ok (.iload_n 1, 1) := by decide +kernel
theorem d_M_want_2 : decode b_M_want 2 = .ok (.bipush 20, 2) := by decide +kernel
theorem d_M_want_4 : decode b_M_want 4 = .ok (.invokestatic 71, 3) := by decide +kernel
theorem d_M_want_7 : decode b_M_want 7 = .ok (.ifCond .eq 7, 3) := by decide +kernel
theorem d_M_want_10 : decode b_M_want 10 = .ok (.iconst 1, 1) := by decide +kernel
theorem d_M_want_11 : decode b_M_want 11 = .ok (.goto 4, 3) := by decide +kernel
theorem d_M_want_14 : decode b_M_want 14 = .ok (.iconst 0, 1) := by decide +kernel
theorem d_M_want_15 : decode b_M_want 15 = .ok (.putfield 7, 3) := by decide +kernel
theorem d_M_want_18 : decode b_M_want 18 = .ok (.aload_n 0, 1) := by decide +kernel
theorem d_M_want_19 : decode b_M_want 19 = .ok (.getfield 7, 3) := by decide +kernel
theorem d_M_want_22 : decode b_M_want 22 = .ok (.ifCond .ne 60, 3) := by decide +kernel
theorem d_M_want_25 : decode b_M_want 25 = .ok (.aload_n 0, 1) := by decide +kernel
theorem d_M_want_26 : decode b_M_want 26 = .ok (.aload_n 0, 1) := by decide +kernel
theorem d_M_want_27 : decode b_M_want 27 = .ok (.getfield 24, 3) := by decide +kernel
theorem d_M_want_30 : decode b_M_want 30 = .ok (.iload_n 1, 1) := by decide +kernel
theorem d_M_want_31 : decode b_M_want 31 = .ok (.iaload, 1) := by decide +kernel
theorem d_M_want_32 : decode b_M_want 32 = .ok (.ifCond .lt 11, 3) := by decide +kernel
theorem d_M_want_35 : decode b_M_want 35 = .ok (.aload_n 0, 1) := by decide +kernel
theorem d_M_want_36 : decode b_M_want 36 = .ok (.iload_n 1, 1) := by decide +kernel
theorem d_M_want_37 : decode b_M_want 37 = .ok (.invokevirtual 83, 3) := by decide +kernel
theorem d_M_want_40 : decode b_M_want 40 = .ok (.ifCond .eq 7, 3) := by decide +kernel
theorem d_M_want_43 : decode b_M_want 43 = .ok (.iconst 2, 1) := by decide +kernel
theorem d_M_want_44 : decode b_M_want 44 = .ok (.goto 35, 3) := by decide +kernel
theorem d_M_want_47 : decode b_M_want 47 = .ok (.aload_n 0, 1) := by decide +kernel
theorem d_M_want_48 : decode b_M_want 48 = .ok (.getfield 20, 3) := by decide +kernel
theorem d_M_want_51 : decode b_M_want 51 = .ok (.aload_n 0, 1) := by decide +kernel
theorem d_M_want_52 : decode b_M_want 52 = .ok (.getfield 24, 3) := by decide +kernel
theorem d_M_want_55 : decode b_M_want 55 = .ok (.iload_n 1, 1) := by decide +kernel
theorem d_M_want_56 : decode b_M_want 56 = .ok (.iaload, 1) := by decide +kernel
theorem d_M_want_57 : decode b_M_want 57 = .ok (.baload, 1) := by decide +kernel
theorem d_M_want_58 : decode b_M_want 58 = .ok (.ifCond .eq 7, 3) := by decide +kernel
theorem d_M_want_61 : decode b_M_want 61 = .ok (.iconst 2, 1) := by decide +kernel
theorem d_M_want_62 : decode b_M_want 62 = .ok (.goto 17, 3) := by decide +kernel
theorem d_M_want_65 : decode b_M_want 65 = .ok (.aload_n 0, 1) := by decide +kernel
theorem d_M_want_66 : decode b_M_want 66 = .ok (.getfield 39, 3) := by decide +kernel
theorem d_M_want_69 : decode b_M_want 69 = .ok (.bipush 8, 2) := by decide +kernel
theorem d_M_want_71 : decode b_M_want 71 = .ok (.if_icmp .ne 7, 3) := by decide +kernel
theorem d_M_want_74 : decode b_M_want 74 = .ok (.iconst 3, 1) := by decide +kernel
theorem d_M_want_75 : decode b_M_want 75 = .ok (.goto 4, 3) := by decide +kernel
theorem d_M_want_78 : decode b_M_want 78 = .ok (.iconst 0, 1) := by decide +kernel
theorem d_M_want_79 : decode b_M_want 79 = .ok (.putfield 7, 3) := by decide +kernel
theorem d_M_want_82 : decode b_M_want 82 = .ok (.aload_n 0, 1) := by decide +kernel
theorem d_M_want_83 : decode b_M_want 83 = .ok (.getfield 7, 3) := by decide +kernel
theorem d_M_want_86 : decode b_M_want 86 = .ok (.ifCond .eq 5, 3) := by decide +kernel
theorem d_M_want_89 : decode b_M_want 89 = .ok (.iconst 0, 1) := by decide +kernel
theorem d_M_want_90 : decode b_M_want 90 = .ok (.ireturn, 1) := by decide +kernel
theorem d_M_want_91 : decode b_M_want 91 = .ok (.aload_n 0, 1) := by decide +kernel
theorem d_M_want_92 : decode b_M_want 92 = .ok (.getfield 42, 3) := by decide +kernel
theorem d_M_want_95 : decode b_M_want 95 = .ok (.aload_n 0, 1) := by decide +kernel
theorem d_M_want_96 : decode b_M_want 96 = .ok (.getfield 39, 3) := by decide +kernel
theorem d_M_want_99 : decode b_M_want 99 = .ok (.iload_n 1, 1) := by decide +kernel
theorem d_M_want_100 : decode b_M_want 100 = .ok (.iastore, 1) := by decide +kernel
theorem d_M_want_101 : decode b_M_want 101 = .ok (.aload_n 0, 1) := by decide +kernel
theorem d_M_want_102 : decode b_M_want 102 = .ok (.dup, 1) := by decide +kernel
theorem d_M_want_103 : decode b_M_want 103 = .ok (.getfield 39, 3) := by decide +kernel
theorem d_M_want_106 : decode b_M_want 106 = .ok (.iconst 1, 1) := by decide +kernel
theorem d_M_want_107 : decode b_M_want 107 = .ok (.iadd, 1) := by decide +kernel
theorem d_M_want_108 : decode b_M_want 108 = .ok (.putfield 39, 3) := by decide +kernel
theorem d_M_want_111 : decode b_M_want 111 = .ok (.aload_n 0, 1) := by decide +kernel
theorem d_M_want_112 : decode b_M_want 112 = .ok (.getfield 39, 3) := by decide +kernel
theorem d_M_want_115 : decode b_M_want 115 = .ok (.ireturn, 1) := by decide +kernel
theorem d_M_plan_0 : decode b_M_plan 0 = .ok (.aload_n 0, 1) := by decide +kernel
theorem d_M_plan_1 : decode b_M_plan 1 = .ok (.iload_n 1, 1) := by decide +kernel
theorem d_M_plan_2 : decode b_M_plan 2 = .ok (.bipush 7, 2) := by decide +kernel
theorem d_M_plan_4 : decode b_M_plan 4 = .ok (.invokestatic 71, 3) := by decide +kernel
theorem d_M_plan_7 : decode b_M_plan 7 = .ok (.ifCond .eq 7, 3) := by decide +kernel
theorem d_M_plan_10 : decode b_M_plan 10 = .ok (.iconst 1, 1) := by decide +kernel
theorem d_M_plan_11 : decode b_M_plan 11 = .ok (.goto 15, 3) := by decide +kernel
theorem d_M_plan_14 : decode b_M_plan 14 = .ok (.aload_n 0, 1) := by decide +kernel
theorem d_M_plan_15 : decode b_M_plan 15 = .ok (.invokevirtual 87, 3) := by decide +kernel
theorem d_M_plan_18 : decode b_M_plan 18 = .ok (.ifCond .ne 7, 3) := by decide +kernel
theorem d_M_plan_21 : decode b_M_plan 21 = .ok (.iconst 2, 1) := by decide +kernel
theorem d_M_plan_22 : decode b_M_plan 22 = .ok (.goto 4, 3) := by decide +kernel
theorem d_M_plan_25 : decode b_M_plan 25 = .ok (.iconst 0, 1) := by decide +kernel
theorem d_M_plan_26 : decode b_M_plan 26 = .ok (.putfield 7, 3) := by decide +kernel
theorem d_M_plan_29 : decode b_M_plan 29 = .ok (.aload_n 0, 1) := by decide +kernel
theorem d_M_plan_30 : decode b_M_plan 30 = .ok (.getfield 7, 3) := by decide +kernel
theorem d_M_plan_33 : decode b_M_plan 33 = .ok (.ifCond .eq 5, 3) := by decide +kernel
theorem d_M_plan_36 : decode b_M_plan 36 = .ok (.iconst 0, 1) := by decide +kernel
theorem d_M_plan_37 : decode b_M_plan 37 = .ok (.ireturn, 1) := by decide +kernel
theorem d_M_plan_38 : decode b_M_plan 38 = .ok (.aload_n 0, 1) := by decide +kernel
theorem d_M_plan_39 : decode b_M_plan 39 = .ok (.aload_n 0, 1) := by decide +kernel
theorem d_M_plan_40 : decode b_M_plan 40 = .ok (.getfield 55, 3) := by decide +kernel
theorem d_M_plan_43 : decode b_M_plan 43 = .ok (.iload_n 1, 1) := by decide +kernel
theorem d_M_plan_44 : decode b_M_plan 44 = .ok (.if_icmp .gt 7, 3) := by decide +kernel
theorem d_M_plan_47 : decode b_M_plan 47 = .ok (.iconst 1, 1) := by decide +kernel
theorem d_M_plan_48 : decode b_M_plan 48 = .ok (.goto 4, 3) := by decide +kernel
theorem d_M_plan_51 : decode b_M_plan 51 = .ok (.iconst 0, 1) := by decide +kernel
theorem d_M_plan_52 : decode b_M_plan 52 = .ok (.putfield 51, 3) := by decide +kernel
theorem d_M_plan_55 : decode b_M_plan 55 = .ok (.aload_n 0, 1) := by decide +kernel
theorem d_M_plan_56 : decode b_M_plan 56 = .ok (.getfield 51, 3) := by decide +kernel
theorem d_M_plan_59 : decode b_M_plan 59 = .ok (.ifCond .ne 10, 3) := by decide +kernel
theorem d_M_plan_62 : decode b_M_plan 62 = .ok (.aload_n 0, 1) := by decide +kernel
theorem d_M_plan_63 : decode b_M_plan 63 = .ok (.invokevirtual 90, 3) := by decide +kernel
theorem d_M_plan_66 : decode b_M_plan 66 = .ok (.goto 75, 3) := by decide +kernel
theorem d_M_plan_69 : decode b_M_plan 69 = .ok (.iconst 1, 1) := by decide +kernel
theorem d_M_plan_70 : decode b_M_plan 70 = .ok (.istore_n 2, 1) := by decide +kernel
theorem d_M_plan_71 : decode b_M_plan 71 = .ok (.iconst 2, 1) := by decide +kernel
theorem d_M_plan_72 : decode b_M_plan 72 = .ok (.istore_n 3, 1) := by decide +kernel
theorem d_M_plan_73 : decode b_M_plan 73 = .ok (.iload_n 3, 1) := by decide +kernel
theorem d_M_plan_74 : decode b_M_plan 74 = .ok (.aload_n 0, 1) := by decide +kernel
theorem d_M_plan_75 : decode b_M_plan 75 = .ok (.getfield 55, 3) := by decide +kernel
theorem d_M_plan_78 : decode b_M_plan 78 = .ok (.if_icmp .gt 13, 3) := by decide +kernel
theorem d_M_plan_81 : decode b_M_plan 81 = .ok (.iload_n 2, 1) := by decide +kernel
theorem d_M_plan_82 : decode b_M_plan 82 = .ok (.iload_n 3, 1) := by decide +kernel
theorem d_M_plan_83 : decode b_M_plan 83 = .ok (.imul, 1) := by decide +kernel
theorem d_M_plan_84 : decode b_M_plan 84 = .ok (.istore_n 2, 1) := by decide +kernel
theorem d_M_plan_85 : decode b_M_plan 85 = .ok (.iinc 3 1, 3) := by decide +kernel
theorem d_M_plan_88 : decode b_M_plan 88 = .ok (.goto (-15), 3) := by decide +kernel
theorem d_M_plan_91 : decode b_M_plan 91 = .ok (.iconst 0, 1) := by decide +kernel
theorem d_M_plan_92 : decode b_M_plan 92 = .ok (.istore_n 3, 1) := by decide +kernel
theorem d_M_plan_93 : decode b_M_plan 93 = .ok (.ldc 93, 2) := by decide +kernel
theorem d_M_plan_95 : decode b_M_plan 95 = .ok (.istore 4, 2) := by decide +kernel
theorem d_M_plan_97 : decode b_M_plan 97 = .ok (.iconst 0, 1) := by decide +kernel
theorem d_M_plan_98 : decode b_M_plan 98 = .ok (.istore 5, 2) := by decide +kernel
theorem d_M_plan_100 : decode b_M_plan 100 = .ok (.iload 5, 2) := by decide +kernel
theorem d_M_plan_102 : decode b_M_plan 102 = .ok (.iload_n 2, 1) := by decide +kernel
theorem d_M_plan_103 : decode b_M_plan 103 = .ok (.if_icmp .ge 33, 3) := by decide +kernel
theorem d_M_plan_106 : decode b_M_plan 106 = .ok (.aload_n 0, 1) := by decide +kernel
theorem d_M_plan_107 : decode b_M_plan 107 = .ok (.iload 5, 2) := by decide +kernel
theorem d_M_plan_109 : decode b_M_plan 109 = .ok (.invokevirtual 94, 3) := by decide +kernel
theorem d_M_plan_112 : decode b_M_plan 112 = .ok (.aload_n 0, 1) := by decide +kernel
theorem d_M_plan_113 : decode b_M_plan 113 = .ok (.invokevirtual 98, 3) := by decide +kernel
theorem d_M_plan_116 : decode b_M_plan 116 = .ok (.iload 4, 2) := by decide +kernel
theorem d_M_plan_118 : decode b_M_plan 118 = .ok (.if_icmp .ge 12, 3) := by decide +kernel
theorem d_M_plan_121 : decode b_M_plan 121 = .ok (.aload_n 0, 1) := by decide +kernel
theorem d_M_plan_122 : decode b_M_plan 122 = .ok (.invokevirtual 98, 3) := by decide +kernel
theorem d_M_plan_125 : decode b_M_plan 125 = .ok (.istore 4, 2) := by decide +kernel
theorem d_M_plan_127 : decode b_M_plan 127 = .ok (.iload 5, 2) := by decide +kernel
theorem d_M_plan_129 : decode b_M_plan 129 = .ok (.istore_n 3, 1) := by decide +kernel
theorem d_M_plan_130 : decode b_M_plan 130 = .ok (.iinc 5 1, 3) := by decide +kernel
theorem d_M_plan_133 : decode b_M_plan 133 = .ok (.goto (-33), 3) := by decide +kernel
theorem d_M_plan_136 : decode b_M_plan 136 = .ok (.aload_n 0, 1) := by decide +kernel
theorem d_M_plan_137 : decode b_M_plan 137 = .ok (.iload_n 3, 1) := by decide +kernel
theorem d_M_plan_138 : decode b_M_plan 138 = .ok (.invokevirtual 94, 3) := by decide +kernel
theorem d_M_plan_141 : decode b_M_plan 141 = .ok (.aload_n 0, 1) := by decide +kernel
theorem d_M_plan_142 : decode b_M_plan 142 = .ok (.aload_n 0, 1) := by decide +kernel
theorem d_M_plan_143 : decode b_M_plan 143 = .ok (.getfield 55, 3) := by decide +kernel
theorem d_M_plan_146 : decode b_M_plan 146 = .ok (.putfield 45, 3) := by decide +kernel
theorem d_M_plan_149 : decode b_M_plan 149 = .ok (.iconst 0, 1) := by decide +kernel
theorem d_M_plan_150 : decode b_M_plan 150 = .ok (.istore_n 2, 1) := by decide +kernel
theorem d_M_plan_151 : decode b_M_plan 151 = .ok (.iload_n 2, 1) := by decide +kernel
theorem d_M_plan_152 : decode b_M_plan 152 = .ok (.aload_n 0, 1) := by decide +kernel
theorem d_M_plan_153 : decode b_M_plan 153 = .ok (.getfield 55, 3) := by decide +kernel
theorem d_M_plan_156 : decode b_M_plan 156 = .ok (.if_icmp .ge 21, 3) := by decide +kernel
theorem d_M_plan_159 : decode b_M_plan 159 = .ok (.aload_n 0, 1) := by decide +kernel
theorem d_M_plan_160 : decode b_M_plan 160 = .ok (.getfield 48, 3) := by decide +kernel
theorem d_M_plan_163 : decode b_M_plan 163 = .ok (.iload_n 2, 1) := by decide +kernel
theorem d_M_plan_164 : decode b_M_plan 164 = .ok (.aload_n 0, 1) := by decide +kernel
theorem d_M_plan_165 : decode b_M_plan 165 = .ok (.getfield 61, 3) := by decide +kernel
theorem d_M_plan_168 : decode b_M_plan 168 = .ok (.iload_n 2, 1) := by decide +kernel
theorem d_M_plan_169 : decode b_M_plan 169 = .ok (.iaload, 1) := by decide +kernel
theorem d_M_plan_170 : decode b_M_plan 170 = .ok (.iastore, 1) := by decide +kernel
theorem d_M_plan_171 : decode b_M_plan 171 = .ok (.iinc 2 1, 3) := by decide +kernel
theorem d_M_plan_174 : decode b_M_plan 174 = .ok (.goto (-23), 3) := by decide +kernel
theorem d_M_plan_177 : decode b_M_plan 177 = .ok (.aload_n 0, 1) := by decide +kernel
theorem d_M_plan_178 : decode b_M_plan 178 = .ok (.invokevirtual 98, 3) := by decide +kernel
theorem d_M_plan_181 : decode b_M_plan 181 = .ok (.ireturn, 1) := by decide +kernel
theorem d_M_at_0 : decode b_M_at 0 = .ok (.aload_n 0, 1) := by decide +kernel
theorem d_M_at_1 : decode b_M_at 1 = .ok (.iconst 0, 1) := by decide +kernel
theorem d_M_at_2 : decode b_M_at 2 = .ok (.putfield 7, 3) := by decide +kernel
theorem d_M_at_5 : decode b_M_at 5 = .ok (.iload_n 1, 1) := by decide +kernel
theorem d_M_at_6 : decode b_M_at 6 = .ok (.aload_n 0, 1) := by decide +kernel
theorem d_M_at_7 : decode b_M_at 7 = .ok (.getfield 45, 3) := by decide +kernel
theorem d_M_at_10 : decode b_M_at 10 = .ok (.invokestatic 71, 3) := by decide +kernel
theorem d_M_at_13 : decode b_M_at 13 = .ok (.ifCond .eq 7, 3) := by decide +kernel
theorem d_M_at_16 : decode b_M_at 16 = .ok (.iconst (-1), 1) := by decide +kernel
theorem d_M_at_17 : decode b_M_at 17 = .ok (.goto 9, 3) := by decide +kernel
theorem d_M_at_20 : decode b_M_at 20 = .ok (.aload_n 0, 1) := by decide +kernel
theorem d_M_at_21 : decode b_M_at 21 = .ok (.getfield 48, 3) := by decide +kernel
theorem d_M_at_24 : decode b_M_at 24 = .ok (.iload_n 1, 1) := by decide +kernel
theorem d_M_at_25 : decode b_M_at 25 = .ok (.iaload, 1) := by decide +kernel
theorem d_M_at_26 : decode b_M_at 26 = .ok (.ireturn, 1) := by decide +kernel
theorem d_M_exact_0 : decode b_M_exact 0 = .ok (.aload_n 0, 1) := by decide +kernel
theorem d_M_exact_1 : decode b_M_exact 1 = .ok (.iconst 0, 1) := by decide +kernel
theorem d_M_exact_2 : decode b_M_exact 2 = .ok (.putfield 7, 3) := by decide +kernel
theorem d_M_exact_5 : decode b_M_exact 5 = .ok (.aload_n 0, 1) := by decide +kernel
theorem d_M_exact_6 : decode b_M_exact 6 = .ok (.getfield 51, 3) := by decide +kernel
theorem d_M_exact_9 : decode b_M_exact 9 = .ok (.ireturn, 1) := by decide +kernel
theorem d_M_clear_0 : decode b_M_clear 0 = .ok (.aload_n 0, 1) := by decide +kernel
theorem d_M_clear_1 : decode b_M_clear 1 = .ok (.iconst 0, 1) := by decide +kernel
theorem d_M_clear_2 : decode b_M_clear 2 = .ok (.putfield 7, 3) := by decide +kernel
theorem d_M_clear_5 : decode b_M_clear 5 = .ok (.aload_n 0, 1) := by decide +kernel
theorem d_M_clear_6 : decode b_M_clear 6 = .ok (.getfield 39, 3) := by decide +kernel
theorem d_M_clear_9 : decode b_M_clear 9 = .ok (.istore_n 1, 1) := by decide +kernel
theorem d_M_clear_10 : decode b_M_clear 10 = .ok (.aload_n 0, 1) := by decide +kernel
theorem d_M_clear_11 : decode b_M_clear 11 = .ok (.iconst 0, 1) := by decide +kernel
theorem d_M_clear_12 : decode b_M_clear 12 = .ok (.putfield 39, 3) := by decide +kernel
theorem d_M_clear_15 : decode b_M_clear 15 = .ok (.aload_n 0, 1) := by decide +kernel
theorem d_M_clear_16 : decode b_M_clear 16 = .ok (.iconst 0, 1) := by decide +kernel
theorem d_M_clear_17 : decode b_M_clear 17 = .ok (.putfield 45, 3) := by decide +kernel
theorem d_M_clear_20 : decode b_M_clear 20 = .ok (.aload_n 0, 1) := by decide +kernel
theorem d_M_clear_21 : decode b_M_clear 21 = .ok (.iconst 0, 1) := by decide +kernel
theorem d_M_clear_22 : decode b_M_clear 22 = .ok (.putfield 51, 3) := by decide +kernel
theorem d_M_clear_25 : decode b_M_clear 25 = .ok (.iload_n 1, 1) := by decide +kernel
theorem d_M_clear_26 : decode b_M_clear 26 = .ok (.ireturn, 1) := by decide +kernel
theorem d_M_shelfAt_0 : decode b_M_shelfAt 0 = .ok (.iconst 0, 1) := by decide +kernel
theorem d_M_shelfAt_1 : decode b_M_shelfAt 1 = .ok (.istore_n 2, 1) := by decide +kernel
theorem d_M_shelfAt_2 : decode b_M_shelfAt 2 = .ok (.iload_n 2, 1) := by decide +kernel
theorem d_M_shelfAt_3 : decode b_M_shelfAt 3 = .ok (.aload_n 0, 1) := by decide +kernel
theorem d_M_shelfAt_4 : decode b_M_shelfAt 4 = .ok (.getfield 64, 3) := by decide +kernel
theorem d_M_shelfAt_7 : decode b_M_shelfAt 7 = .ok (.if_icmp .ge 21, 3) := by decide +kernel
theorem d_M_shelfAt_10 : decode b_M_shelfAt 10 = .ok (.aload_n 0, 1) := by decide +kernel
theorem d_M_shelfAt_11 : decode b_M_shelfAt 11 = .ok (.getfield 16, 3) := by decide +kernel
theorem d_M_shelfAt_14 : decode b_M_shelfAt 14 = .ok (.iload_n 2, 1) := by decide +kernel
theorem d_M_shelfAt_15 : decode b_M_shelfAt 15 = .ok (.iaload, 1) := by decide +kernel
theorem d_M_shelfAt_16 : decode b_M_shelfAt 16 = .ok (.iload_n 1, 1) := by decide +kernel
theorem d_M_shelfAt_17 : decode b_M_shelfAt 17 = .ok (.if_icmp .ne 5, 3) := by decide +kernel
theorem d_M_shelfAt_20 : decode b_M_shelfAt 20 = .ok (.iload_n 2, 1) := by decide +kernel
theorem d_M_shelfAt_21 : decode b_M_shelfAt 21 = .ok (.ireturn, 1) := by decide +kernel
theorem d_M_shelfAt_22 : decode b_M_shelfAt 22 = .ok (.iinc 2 1, 3) := by decide +kernel
theorem d_M_shelfAt_25 : decode b_M_shelfAt 25 = .ok (.goto (-23), 3) := by decide +kernel
theorem d_M_shelfAt_28 : decode b_M_shelfAt 28 = .ok (.iconst (-1), 1) := by decide +kernel
theorem d_M_shelfAt_29 : decode b_M_shelfAt 29 = .ok (.ireturn, 1) := by decide +kernel
theorem d_M_pick_0 : decode b_M_pick 0 = .ok (.aload_n 0, 1) := by decide +kernel
theorem d_M_pick_1 : decode b_M_pick 1 = .ok (.aload_n 0, 1) := by decide +kernel
theorem d_M_pick_2 : decode b_M_pick 2 = .ok (.getfield 64, 3) := by decide +kernel
theorem d_M_pick_5 : decode b_M_pick 5 = .ok (.ifCond .ne 7, 3) := by decide +kernel
theorem d_M_pick_8 : decode b_M_pick 8 = .ok (.iconst 1, 1) := by decide +kernel
theorem d_M_pick_9 : decode b_M_pick 9 = .ok (.goto 54, 3) := by decide +kernel
theorem d_M_pick_12 : decode b_M_pick 12 = .ok (.iload_n 1, 1) := by decide +kernel
theorem d_M_pick_13 : decode b_M_pick 13 = .ok (.bipush 20, 2) := by decide +kernel
theorem d_M_pick_15 : decode b_M_pick 15 = .ok (.invokestatic 71, 3) := by decide +kernel
theorem d_M_pick_18 : decode b_M_pick 18 = .ok (.ifCond .ne 11, 3) := by decide +kernel
theorem d_M_pick_21 : decode b_M_pick 21 = .ok (.iload_n 2, 1) := by decide +kernel
theorem d_M_pick_22 : decode b_M_pick 22 = .ok (.iconst 2, 1) := by decide +kernel
theorem d_M_pick_23 : decode b_M_pick 23 = .ok (.invokestatic 71, 3) := by decide +kernel
theorem d_M_pick_26 : decode b_M_pick 26 = .ok (.ifCond .eq 7, 3) := by decide +kernel
theorem d_M_pick_29 : decode b_M_pick 29 = .ok (.iconst 2, 1) := by decide +kernel
theorem d_M_pick_30 : decode b_M_pick 30 = .ok (.goto 33, 3) := by decide +kernel
theorem d_M_pick_33 : decode b_M_pick 33 = .ok (.aload_n 0, 1) := by decide +kernel
theorem d_M_pick_34 : decode b_M_pick 34 = .ok (.getfield 30, 3) := by decide +kernel
theorem d_M_pick_37 : decode b_M_pick 37 = .ok (.iload_n 2, 1) := by decide +kernel
theorem d_M_pick_38 : decode b_M_pick 38 = .ok (.baload, 1) := by decide +kernel
theorem d_M_pick_39 : decode b_M_pick 39 = .ok (.ifCond .eq 19, 3) := by decide +kernel
theorem d_M_pick_42 : decode b_M_pick 42 = .ok (.aload_n 0, 1) := by decide +kernel
theorem d_M_pick_43 : decode b_M_pick 43 = .ok (.getfield 20, 3) := by decide +kernel
theorem d_M_pick_46 : decode b_M_pick 46 = .ok (.aload_n 0, 1) := by decide +kernel
theorem d_M_pick_47 : decode b_M_pick 47 = .ok (.aload_n 0, 1) := by decide +kernel
theorem d_M_pick_48 : decode b_M_pick 48 = .ok (.getfield 13, 3) := by decide +kernel
theorem d_M_pick_51 : decode b_M_pick 51 = .ok (.invokevirtual 102, 3) := by decide +kernel
theorem d_M_pick_54 : decode b_M_pick 54 = .ok (.baload, 1) := by decide +kernel
theorem d_M_pick_55 : decode b_M_pick 55 = .ok (.ifCond .eq 7, 3) := by decide +kernel
theorem d_M_pick_58 : decode b_M_pick 58 = .ok (.iconst 3, 1) := by decide +kernel
theorem d_M_pick_59 : decode b_M_pick 59 = .ok (.goto 4, 3) := by decide +kernel
theorem d_M_pick_62 : decode b_M_pick 62 = .ok (.iconst 0, 1) := by decide +kernel
theorem d_M_pick_63 : decode b_M_pick 63 = .ok (.putfield 7, 3) := by decide +kernel
theorem d_M_pick_66 : decode b_M_pick 66 = .ok (.aload_n 0, 1) := by decide +kernel
theorem d_M_pick_67 : decode b_M_pick 67 = .ok (.getfield 7, 3) := by decide +kernel
theorem d_M_pick_70 : decode b_M_pick 70 = .ok (.ifCond .ne 20, 3) := by decide +kernel
theorem d_M_pick_73 : decode b_M_pick 73 = .ok (.aload_n 0, 1) := by decide +kernel
theorem d_M_pick_74 : decode b_M_pick 74 = .ok (.getfield 24, 3) := by decide +kernel
theorem d_M_pick_77 : decode b_M_pick 77 = .ok (.iload_n 1, 1) := by decide +kernel
theorem d_M_pick_78 : decode b_M_pick 78 = .ok (.iaload, 1) := by decide +kernel
theorem d_M_pick_79 : decode b_M_pick 79 = .ok (.aload_n 0, 1) := by decide +kernel
theorem d_M_pick_80 : decode b_M_pick 80 = .ok (.aload_n 0, 1) := by decide +kernel
theorem d_M_pick_81 : decode b_M_pick 81 = .ok (.getfield 13, 3) := by decide +kernel
theorem d_M_pick_84 : decode b_M_pick 84 = .ok (.invokevirtual 102, 3) := by decide +kernel
theorem d_M_pick_87 : decode b_M_pick 87 = .ok (.if_icmp .eq 5, 3) := by decide +kernel
theorem d_M_pick_90 : decode b_M_pick 90 = .ok (.iconst 0, 1) := by decide +kernel
theorem d_M_pick_91 : decode b_M_pick 91 = .ok (.ireturn, 1) := by decide +kernel
theorem d_M_pick_92 : decode b_M_pick 92 = .ok (.aload_n 0, 1) := by decide +kernel
theorem d_M_pick_93 : decode b_M_pick 93 = .ok (.getfield 24, 3) := by decide +kernel
theorem d_M_pick_96 : decode b_M_pick 96 = .ok (.iload_n 1, 1) := by decide +kernel
theorem d_M_pick_97 : decode b_M_pick 97 = .ok (.iconst (-1), 1) := by decide +kernel
theorem d_M_pick_98 : decode b_M_pick 98 = .ok (.iastore, 1) := by decide +kernel
theorem d_M_pick_99 : decode b_M_pick 99 = .ok (.aload_n 0, 1) := by decide +kernel
theorem d_M_pick_100 : decode b_M_pick 100 = .ok (.getfield 27, 3) := by decide +kernel
theorem d_M_pick_103 : decode b_M_pick 103 = .ok (.iload_n 1, 1) := by decide +kernel
theorem d_M_pick_104 : decode b_M_pick 104 = .ok (.aload_n 0, 1) := by decide +kernel
theorem d_M_pick_105 : decode b_M_pick 105 = .ok (.getfield 27, 3) := by decide +kernel
theorem d_M_pick_108 : decode b_M_pick 108 = .ok (.iload_n 1, 1) := by decide +kernel
theorem d_M_pick_109 : decode b_M_pick 109 = .ok (.iaload, 1) := by decide +kernel
theorem d_M_pick_110 : decode b_M_pick 110 = .ok (.bipush 64, 2) := by decide +kernel
theorem d_M_pick_112 : decode b_M_pick 112 = .ok (.iadd, 1) := by decide +kernel
theorem d_M_pick_113 : decode b_M_pick 113 = .ok (.iastore, 1) := by decide +kernel
theorem d_M_pick_114 : decode b_M_pick 114 = .ok (.aload_n 0, 1) := by decide +kernel
theorem d_M_pick_115 : decode b_M_pick 115 = .ok (.dup, 1) := by decide +kernel
theorem d_M_pick_116 : decode b_M_pick 116 = .ok (.getfield 36, 3) := by decide +kernel
theorem d_M_pick_119 : decode b_M_pick 119 = .ok (.iconst 1, 1) := by decide +kernel
theorem d_M_pick_120 : decode b_M_pick 120 = .ok (.iadd, 1) := by decide +kernel
theorem d_M_pick_121 : decode b_M_pick 121 = .ok (.putfield 36, 3) := by decide +kernel
theorem d_M_pick_124 : decode b_M_pick 124 = .ok (.iconst 1, 1) := by decide +kernel
theorem d_M_pick_125 : decode b_M_pick 125 = .ok (.ireturn, 1) := by decide +kernel
theorem d_M_door_0 : decode b_M_door 0 = .ok (.aload_n 0, 1) := by decide +kernel
theorem d_M_door_1 : decode b_M_door 1 = .ok (.iload_n 1, 1) := by decide +kernel
theorem d_M_door_2 : decode b_M_door 2 = .ok (.iconst 2, 1) := by decide +kernel
theorem d_M_door_3 : decode b_M_door 3 = .ok (.invokestatic 71, 3) := by decide +kernel
theorem d_M_door_6 : decode b_M_door 6 = .ok (.ifCond .eq 7, 3) := by decide +kernel
theorem d_M_door_9 : decode b_M_door 9 = .ok (.iconst 1, 1) := by decide +kernel
theorem d_M_door_10 : decode b_M_door 10 = .ok (.goto 4, 3) := by decide +kernel
theorem d_M_door_13 : decode b_M_door 13 = .ok (.iconst 0, 1) := by decide +kernel
theorem d_M_door_14 : decode b_M_door 14 = .ok (.putfield 7, 3) := by decide +kernel
theorem d_M_door_17 : decode b_M_door 17 = .ok (.aload_n 0, 1) := by decide +kernel
theorem d_M_door_18 : decode b_M_door 18 = .ok (.getfield 7, 3) := by decide +kernel
theorem d_M_door_21 : decode b_M_door 21 = .ok (.ifCond .eq 5, 3) := by decide +kernel
theorem d_M_door_24 : decode b_M_door 24 = .ok (.iconst 0, 1) := by decide +kernel
theorem d_M_door_25 : decode b_M_door 25 = .ok (.ireturn, 1) := by decide +kernel
theorem d_M_door_26 : decode b_M_door 26 = .ok (.aload_n 0, 1) := by decide +kernel
theorem d_M_door_27 : decode b_M_door 27 = .ok (.getfield 30, 3) := by decide +kernel
theorem d_M_door_30 : decode b_M_door 30 = .ok (.iload_n 1, 1) := by decide +kernel
theorem d_M_door_31 : decode b_M_door 31 = .ok (.baload, 1) := by decide +kernel
theorem d_M_door_32 : decode b_M_door 32 = .ok (.istore_n 3, 1) := by decide +kernel
theorem d_M_door_33 : decode b_M_door 33 = .ok (.aload_n 0, 1) := by decide +kernel
theorem d_M_door_34 : decode b_M_door 34 = .ok (.getfield 30, 3) := by decide +kernel
theorem d_M_door_37 : decode b_M_door 37 = .ok (.iload_n 1, 1) := by decide +kernel
theorem d_M_door_38 : decode b_M_door 38 = .ok (.iload_n 2, 1) := by decide +kernel
theorem d_M_door_39 : decode b_M_door 39 = .ok (.bastore, 1) := by decide +kernel
theorem d_M_door_40 : decode b_M_door 40 = .ok (.iload_n 3, 1) := by decide +kernel
theorem d_M_door_41 : decode b_M_door 41 = .ok (.ireturn, 1) := by decide +kernel
theorem d_M_move_0 : decode b_M_move 0 = .ok (.aload_n 0, 1) := by decide +kernel
theorem d_M_move_1 : decode b_M_move 1 = .ok (.iload_n 1, 1) := by decide +kernel
theorem d_M_move_2 : decode b_M_move 2 = .ok (.aload_n 0, 1) := by decide +kernel
theorem d_M_move_3 : decode b_M_move 3 = .ok (.getfield 64, 3) := by decide +kernel
theorem d_M_move_6 : decode b_M_move 6 = .ok (.invokestatic 71, 3) := by decide +kernel
theorem d_M_move_9 : decode b_M_move 9 = .ok (.ifCond .ne 14, 3) := by decide +kernel
theorem d_M_move_12 : decode b_M_move 12 = .ok (.iload_n 2, 1) := by decide +kernel
theorem d_M_move_13 : decode b_M_move 13 = .ok (.aload_n 0, 1) := by decide +kernel
theorem d_M_move_14 : decode b_M_move 14 = .ok (.getfield 64, 3) := by decide +kernel
theorem d_M_move_17 : decode b_M_move 17 = .ok (.invokestatic 71, 3) := by decide +kernel
theorem d_M_move_20 : decode b_M_move 20 = .ok (.ifCond .eq 7, 3) := by decide +kernel
theorem d_M_move_23 : decode b_M_move 23 = .ok (.iconst 1, 1) := by decide +kernel
theorem d_M_move_24 : decode b_M_move 24 = .ok (.goto 20, 3) := by decide +kernel
theorem d_M_move_27 : decode b_M_move 27 = .ok (.aload_n 0, 1) := by decide +kernel
theorem d_M_move_28 : decode b_M_move 28 = .ok (.invokevirtual 79, 3) := by decide +kernel
theorem d_M_move_31 : decode b_M_move 31 = .ok (.ifCond .ne 8, 3) := by decide +kernel
theorem d_M_move_34 : decode b_M_move 34 = .ok (.iload_n 1, 1) := by decide +kernel
theorem d_M_move_35 : decode b_M_move 35 = .ok (.iload_n 2, 1) := by decide +kernel
theorem d_M_move_36 : decode b_M_move 36 = .ok (.if_icmp .ne 7, 3) := by decide +kernel
theorem d_M_move_39 : decode b_M_move 39 = .ok (.iconst 2, 1) := by decide +kernel
theorem d_M_move_40 : decode b_M_move 40 = .ok (.goto 4, 3) := by decide +kernel
theorem d_M_move_43 : decode b_M_move 43 = .ok (.iconst 0, 1) := by decide +kernel
theorem d_M_move_44 : decode b_M_move 44 = .ok (.putfield 7, 3) := by decide +kernel
theorem d_M_move_47 : decode b_M_move 47 = .ok (.aload_n 0, 1) := by decide +kernel
theorem d_M_move_48 : decode b_M_move 48 = .ok (.getfield 7, 3) := by decide +kernel
theorem d_M_move_51 : decode b_M_move 51 = .ok (.ifCond .eq 5, 3) := by decide +kernel
theorem d_M_move_54 : decode b_M_move 54 = .ok (.iconst 0, 1) := by decide +kernel
theorem d_M_move_55 : decode b_M_move 55 = .ok (.ireturn, 1) := by decide +kernel
theorem d_M_move_56 : decode b_M_move 56 = .ok (.aload_n 0, 1) := by decide +kernel
theorem d_M_move_57 : decode b_M_move 57 = .ok (.getfield 16, 3) := by decide +kernel
theorem d_M_move_60 : decode b_M_move 60 = .ok (.iload_n 1, 1) := by decide +kernel
theorem d_M_move_61 : decode b_M_move 61 = .ok (.iaload, 1) := by decide +kernel
theorem d_M_move_62 : decode b_M_move 62 = .ok (.istore_n 3, 1) := by decide +kernel
theorem d_M_move_63 : decode b_M_move 63 = .ok (.aload_n 0, 1) := by decide +kernel
theorem d_M_move_64 : decode b_M_move 64 = .ok (.getfield 16, 3) := by decide +kernel
theorem d_M_move_67 : decode b_M_move 67 = .ok (.iload_n 1, 1) := by decide +kernel
theorem d_M_move_68 : decode b_M_move 68 = .ok (.aload_n 0, 1) := by decide +kernel
theorem d_M_move_69 : decode b_M_move 69 = .ok (.getfield 16, 3) := by decide +kernel
theorem d_M_move_72 : decode b_M_move 72 = .ok (.iload_n 2, 1) := by decide +kernel
theorem d_M_move_73 : decode b_M_move 73 = .ok (.iaload, 1) := by decide +kernel
theorem d_M_move_74 : decode b_M_move 74 = .ok (.iastore, 1) := by decide +kernel
theorem d_M_move_75 : decode b_M_move 75 = .ok (.aload_n 0, 1) := by decide +kernel
theorem d_M_move_76 : decode b_M_move 76 = .ok (.getfield 16, 3) := by decide +kernel
theorem d_M_move_79 : decode b_M_move 79 = .ok (.iload_n 2, 1) := by decide +kernel
theorem d_M_move_80 : decode b_M_move 80 = .ok (.iload_n 3, 1) := by decide +kernel
theorem d_M_move_81 : decode b_M_move 81 = .ok (.iastore, 1) := by decide +kernel
theorem d_M_move_82 : decode b_M_move 82 = .ok (.aload_n 0, 1) := by decide +kernel
theorem d_M_move_83 : decode b_M_move 83 = .ok (.aload_n 0, 1) := by decide +kernel
theorem d_M_move_84 : decode b_M_move 84 = .ok (.getfield 16, 3) := by decide +kernel
theorem d_M_move_87 : decode b_M_move 87 = .ok (.iload_n 1, 1) := by decide +kernel
theorem d_M_move_88 : decode b_M_move 88 = .ok (.iaload, 1) := by decide +kernel
theorem d_M_move_89 : decode b_M_move 89 = .ok (.aload_n 0, 1) := by decide +kernel
theorem d_M_move_90 : decode b_M_move 90 = .ok (.getfield 16, 3) := by decide +kernel
theorem d_M_move_93 : decode b_M_move 93 = .ok (.iload_n 2, 1) := by decide +kernel
theorem d_M_move_94 : decode b_M_move 94 = .ok (.iaload, 1) := by decide +kernel
theorem d_M_move_95 : decode b_M_move 95 = .ok (.invokevirtual 67, 3) := by decide +kernel
theorem d_M_move_98 : decode b_M_move 98 = .ok (.ireturn, 1) := by decide +kernel
theorem d_M_blocked_0 : decode b_M_blocked 0 = .ok (.aload_n 0, 1) := by decide +kernel
theorem d_M_blocked_1 : decode b_M_blocked 1 = .ok (.iload_n 1, 1) := by decide +kernel
theorem d_M_blocked_2 : decode b_M_blocked 2 = .ok (.aload_n 0, 1) := by decide +kernel
theorem d_M_blocked_3 : decode b_M_blocked 3 = .ok (.getfield 64, 3) := by decide +kernel
theorem d_M_blocked_6 : decode b_M_blocked 6 = .ok (.invokestatic 71, 3) := by decide +kernel
theorem d_M_blocked_9 : decode b_M_blocked 9 = .ok (.ifCond .eq 7, 3) := by decide +kernel
theorem d_M_blocked_12 : decode b_M_blocked 12 = .ok (.iconst 1, 1) := by decide +kernel
theorem d_M_blocked_13 : decode b_M_blocked 13 = .ok (.goto 4, 3) := by decide +kernel
theorem d_M_blocked_16 : decode b_M_blocked 16 = .ok (.iconst 0, 1) := by decide +kernel
theorem d_M_blocked_17 : decode b_M_blocked 17 = .ok (.putfield 7, 3) := by decide +kernel
theorem d_M_blocked_20 : decode b_M_blocked 20 = .ok (.aload_n 0, 1) := by decide +kernel
theorem d_M_blocked_21 : decode b_M_blocked 21 = .ok (.getfield 7, 3) := by decide +kernel
theorem d_M_blocked_24 : decode b_M_blocked 24 = .ok (.ifCond .eq 5, 3) := by decide +kernel
theorem d_M_blocked_27 : decode b_M_blocked 27 = .ok (.iconst 0, 1) := by decide +kernel
theorem d_M_blocked_28 : decode b_M_blocked 28 = .ok (.ireturn, 1) := by decide +kernel
theorem d_M_blocked_29 : decode b_M_blocked 29 = .ok (.aload_n 0, 1) := by decide +kernel
theorem d_M_blocked_30 : decode b_M_blocked 30 = .ok (.getfield 20, 3) := by decide +kernel
theorem d_M_blocked_33 : decode b_M_blocked 33 = .ok (.iload_n 1, 1) := by decide +kernel
theorem d_M_blocked_34 : decode b_M_blocked 34 = .ok (.baload, 1) := by decide +kernel
theorem d_M_blocked_35 : decode b_M_blocked 35 = .ok (.istore_n 3, 1) := by decide +kernel
theorem d_M_blocked_36 : decode b_M_blocked 36 = .ok (.aload_n 0, 1) := by decide +kernel
theorem d_M_blocked_37 : decode b_M_blocked 37 = .ok (.getfield 20, 3) := by decide +kernel
theorem d_M_blocked_40 : decode b_M_blocked 40 = .ok (.iload_n 1, 1) := by decide +kernel
theorem d_M_blocked_41 : decode b_M_blocked 41 = .ok (.iload_n 2, 1) := by decide +kernel
theorem d_M_blocked_42 : decode b_M_blocked 42 = .ok (.bastore, 1) := by decide +kernel
theorem d_M_blocked_43 : decode b_M_blocked 43 = .ok (.iload_n 3, 1) := by decide +kernel
theorem d_M_blocked_44 : decode b_M_blocked 44 = .ok (.ireturn, 1) := by decide +kernel
theorem d_M_days_0 : decode b_M_days 0 = .ok (.aload_n 0, 1) := by decide +kernel
theorem d_M_days_1 : decode b_M_days 1 = .ok (.iload_n 1, 1) := by decide +kernel
theorem d_M_days_2 : decode b_M_days 2 = .ok (.bipush 31, 2) := by decide +kernel
theorem d_M_days_4 : decode b_M_days 4 = .ok (.invokestatic 71, 3) := by decide +kernel
theorem d_M_days_7 : decode b_M_days 7 = .ok (.ifCond .eq 7, 3) := by decide +kernel
theorem d_M_days_10 : decode b_M_days 10 = .ok (.iconst 1, 1) := by decide +kernel
theorem d_M_days_11 : decode b_M_days 11 = .ok (.goto 4, 3) := by decide +kernel
theorem d_M_days_14 : decode b_M_days 14 = .ok (.iconst 0, 1) := by decide +kernel
theorem d_M_days_15 : decode b_M_days 15 = .ok (.putfield 7, 3) := by decide +kernel
theorem d_M_days_18 : decode b_M_days 18 = .ok (.iconst 0, 1) := by decide +kernel
theorem d_M_days_19 : decode b_M_days 19 = .ok (.istore_n 2, 1) := by decide +kernel
theorem d_M_days_20 : decode b_M_days 20 = .ok (.iload_n 2, 1) := by decide +kernel
theorem d_M_days_21 : decode b_M_days 21 = .ok (.iload_n 1, 1) := by decide +kernel
theorem d_M_days_22 : decode b_M_days 22 = .ok (.if_icmp .ge 44, 3) := by decide +kernel
theorem d_M_days_25 : decode b_M_days 25 = .ok (.aload_n 0, 1) := by decide +kernel
theorem d_M_days_26 : decode b_M_days 26 = .ok (.getfield 7, 3) := by decide +kernel
theorem d_M_days_29 : decode b_M_days 29 = .ok (.ifCond .ne 37, 3) := by decide +kernel
theorem d_M_days_32 : decode b_M_days 32 = .ok (.iconst 0, 1) := by decide +kernel
theorem d_M_days_33 : decode b_M_days 33 = .ok (.istore_n 3, 1) := by decide +kernel
theorem d_M_days_34 : decode b_M_days 34 = .ok (.iload_n 3, 1) := by decide +kernel
theorem d_M_days_35 : decode b_M_days 35 = .ok (.bipush 20, 2) := by decide +kernel
theorem d_M_days_37 : decode b_M_days 37 = .ok (.if_icmp .ge 23, 3) := by decide +kernel
theorem d_M_days_40 : decode b_M_days 40 = .ok (.aload_n 0, 1) := by decide +kernel
theorem d_M_days_41 : decode b_M_days 41 = .ok (.getfield 27, 3) := by decide +kernel
theorem d_M_days_44 : decode b_M_days 44 = .ok (.iload_n 3, 1) := by decide +kernel
theorem d_M_days_45 : decode b_M_days 45 = .ok (.aload_n 0, 1) := by decide +kernel
theorem d_M_days_46 : decode b_M_days 46 = .ok (.getfield 27, 3) := by decide +kernel
theorem d_M_days_49 : decode b_M_days 49 = .ok (.iload_n 3, 1) := by decide +kernel
theorem d_M_days_50 : decode b_M_days 50 = .ok (.iaload, 1) := by decide +kernel
theorem d_M_days_51 : decode b_M_days 51 = .ok (.iconst 2, 1) := by decide +kernel
theorem d_M_days_52 : decode b_M_days 52 = .ok (.idiv, 1) := by decide +kernel
theorem d_M_days_53 : decode b_M_days 53 = .ok (.iastore, 1) := by decide +kernel
theorem d_M_days_54 : decode b_M_days 54 = .ok (.iinc 3 1, 3) := by decide +kernel
theorem d_M_days_57 : decode b_M_days 57 = .ok (.goto (-23), 3) := by decide +kernel
theorem d_M_days_60 : decode b_M_days 60 = .ok (.iinc 2 1, 3) := by decide +kernel
theorem d_M_days_63 : decode b_M_days 63 = .ok (.goto (-43), 3) := by decide +kernel
theorem d_M_days_66 : decode b_M_days 66 = .ok (.return_, 1) := by decide +kernel
theorem d_M_learned_0 : decode b_M_learned 0 = .ok (.aload_n 0, 1) := by decide +kernel
theorem d_M_learned_1 : decode b_M_learned 1 = .ok (.iload_n 1, 1) := by decide +kernel
theorem d_M_learned_2 : decode b_M_learned 2 = .ok (.bipush 20, 2) := by decide +kernel
theorem d_M_learned_4 : decode b_M_learned 4 = .ok (.invokestatic 71, 3) := by decide +kernel
theorem d_M_learned_7 : decode b_M_learned 7 = .ok (.ifCond .eq 7, 3) := by decide +kernel
theorem d_M_learned_10 : decode b_M_learned 10 = .ok (.iconst 1, 1) := by decide +kernel
theorem d_M_learned_11 : decode b_M_learned 11 = .ok (.goto 4, 3) := by decide +kernel
theorem d_M_learned_14 : decode b_M_learned 14 = .ok (.iconst 0, 1) := by decide +kernel
theorem d_M_learned_15 : decode b_M_learned 15 = .ok (.putfield 7, 3) := by decide +kernel
theorem d_M_learned_18 : decode b_M_learned 18 = .ok (.aload_n 0, 1) := by decide +kernel
theorem d_M_learned_19 : decode b_M_learned 19 = .ok (.getfield 7, 3) := by decide +kernel
theorem d_M_learned_22 : decode b_M_learned 22 = .ok (.ifCond .eq 7, 3) := by decide +kernel
theorem d_M_learned_25 : decode b_M_learned 25 = .ok (.iconst 0, 1) := by decide +kernel
theorem d_M_learned_26 : decode b_M_learned 26 = .ok (.goto 9, 3) := by decide +kernel
theorem d_M_learned_29 : decode b_M_learned 29 = .ok (.aload_n 0, 1) := by decide +kernel
theorem d_M_learned_30 : decode b_M_learned 30 = .ok (.getfield 27, 3) := by decide +kernel
theorem d_M_learned_33 : decode b_M_learned 33 = .ok (.iload_n 1, 1) := by decide +kernel
theorem d_M_learned_34 : decode b_M_learned 34 = .ok (.iaload, 1) := by decide +kernel
theorem d_M_learned_35 : decode b_M_learned 35 = .ok (.ireturn, 1) := by decide +kernel
theorem d_M_rest_0 : decode b_M_rest 0 = .ok (.aload_n 0, 1) := by decide +kernel
theorem d_M_rest_1 : decode b_M_rest 1 = .ok (.iconst 0, 1) := by decide +kernel
theorem d_M_rest_2 : decode b_M_rest 2 = .ok (.putfield 7, 3) := by decide +kernel
theorem d_M_rest_5 : decode b_M_rest 5 = .ok (.iconst (-1), 1) := by decide +kernel
theorem d_M_rest_6 : decode b_M_rest 6 = .ok (.istore_n 1, 1) := by decide +kernel
theorem d_M_rest_7 : decode b_M_rest 7 = .ok (.iconst 0, 1) := by decide +kernel
theorem d_M_rest_8 : decode b_M_rest 8 = .ok (.istore_n 2, 1) := by decide +kernel
theorem d_M_rest_9 : decode b_M_rest 9 = .ok (.iload_n 2, 1) := by decide +kernel
theorem d_M_rest_10 : decode b_M_rest 10 = .ok (.aload_n 0, 1) := by decide +kernel
theorem d_M_rest_11 : decode b_M_rest 11 = .ok (.getfield 64, 3) := by decide +kernel
theorem d_M_rest_14 : decode b_M_rest 14 = .ok (.if_icmp .ge 28, 3) := by decide +kernel
theorem d_M_rest_17 : decode b_M_rest 17 = .ok (.iload_n 1, 1) := by decide +kernel
theorem d_M_rest_18 : decode b_M_rest 18 = .ok (.ifCond .lt 16, 3) := by decide +kernel
theorem d_M_rest_21 : decode b_M_rest 21 = .ok (.aload_n 0, 1) := by decide +kernel
theorem d_M_rest_22 : decode b_M_rest 22 = .ok (.iload_n 2, 1) := by decide +kernel
theorem d_M_rest_23 : decode b_M_rest 23 = .ok (.invokevirtual 105, 3) := by decide +kernel
theorem d_M_rest_26 : decode b_M_rest 26 = .ok (.aload_n 0, 1) := by decide +kernel
theorem d_M_rest_27 : decode b_M_rest 27 = .ok (.iload_n 1, 1) := by decide +kernel
theorem d_M_rest_28 : decode b_M_rest 28 = .ok (.invokevirtual 105, 3) := by decide +kernel
theorem d_M_rest_31 : decode b_M_rest 31 = .ok (.if_icmp .le 5, 3) := by decide +kernel
theorem d_M_rest_34 : decode b_M_rest 34 = .ok (.iload_n 2, 1) := by decide +kernel
theorem d_M_rest_35 : decode b_M_rest 35 = .ok (.istore_n 1, 1) := by decide +kernel
theorem d_M_rest_36 : decode b_M_rest 36 = .ok (.iinc 2 1, 3) := by decide +kernel
theorem d_M_rest_39 : decode b_M_rest 39 = .ok (.goto (-30), 3) := by decide +kernel
theorem d_M_rest_42 : decode b_M_rest 42 = .ok (.iload_n 1, 1) := by decide +kernel
theorem d_M_rest_43 : decode b_M_rest 43 = .ok (.ifCond .ge 7, 3) := by decide +kernel
theorem d_M_rest_46 : decode b_M_rest 46 = .ok (.iconst (-1), 1) := by decide +kernel
theorem d_M_rest_47 : decode b_M_rest 47 = .ok (.goto 9, 3) := by decide +kernel
theorem d_M_rest_50 : decode b_M_rest 50 = .ok (.aload_n 0, 1) := by decide +kernel
theorem d_M_rest_51 : decode b_M_rest 51 = .ok (.getfield 16, 3) := by decide +kernel
theorem d_M_rest_54 : decode b_M_rest 54 = .ok (.iload_n 1, 1) := by decide +kernel
theorem d_M_rest_55 : decode b_M_rest 55 = .ok (.iaload, 1) := by decide +kernel
theorem d_M_rest_56 : decode b_M_rest 56 = .ok (.ireturn, 1) := by decide +kernel
theorem d_M_shelf_0 : decode b_M_shelf 0 = .ok (.aload_n 0, 1) := by decide +kernel
theorem d_M_shelf_1 : decode b_M_shelf 1 = .ok (.iload_n 1, 1) := by decide +kernel
theorem d_M_shelf_2 : decode b_M_shelf 2 = .ok (.aload_n 0, 1) := by decide +kernel
theorem d_M_shelf_3 : decode b_M_shelf 3 = .ok (.getfield 64, 3) := by decide +kernel
theorem d_M_shelf_6 : decode b_M_shelf 6 = .ok (.invokestatic 71, 3) := by decide +kernel
theorem d_M_shelf_9 : decode b_M_shelf 9 = .ok (.ifCond .eq 7, 3) := by decide +kernel
theorem d_M_shelf_12 : decode b_M_shelf 12 = .ok (.iconst 1, 1) := by decide +kernel
theorem d_M_shelf_13 : decode b_M_shelf 13 = .ok (.goto 16, 3) := by decide +kernel
theorem d_M_shelf_16 : decode b_M_shelf 16 = .ok (.iload_n 2, 1) := by decide +kernel
theorem d_M_shelf_17 : decode b_M_shelf 17 = .ok (.iconst 5, 1) := by decide +kernel
theorem d_M_shelf_18 : decode b_M_shelf 18 = .ok (.invokestatic 71, 3) := by decide +kernel
theorem d_M_shelf_21 : decode b_M_shelf 21 = .ok (.ifCond .eq 7, 3) := by decide +kernel
theorem d_M_shelf_24 : decode b_M_shelf 24 = .ok (.iconst 2, 1) := by decide +kernel
theorem d_M_shelf_25 : decode b_M_shelf 25 = .ok (.goto 4, 3) := by decide +kernel
theorem d_M_shelf_28 : decode b_M_shelf 28 = .ok (.iconst 0, 1) := by decide +kernel
theorem d_M_shelf_29 : decode b_M_shelf 29 = .ok (.putfield 7, 3) := by decide +kernel
theorem d_M_shelf_32 : decode b_M_shelf 32 = .ok (.aload_n 0, 1) := by decide +kernel
theorem d_M_shelf_33 : decode b_M_shelf 33 = .ok (.getfield 7, 3) := by decide +kernel
theorem d_M_shelf_36 : decode b_M_shelf 36 = .ok (.ifCond .eq 5, 3) := by decide +kernel
theorem d_M_shelf_39 : decode b_M_shelf 39 = .ok (.iconst 0, 1) := by decide +kernel
theorem d_M_shelf_40 : decode b_M_shelf 40 = .ok (.ireturn, 1) := by decide +kernel
theorem d_M_shelf_41 : decode b_M_shelf 41 = .ok (.iload_n 2, 1) := by decide +kernel
theorem d_M_shelf_42 : decode b_M_shelf 42 = .ok (.ifCond .ne 10, 3) := by decide +kernel
theorem d_M_shelf_45 : decode b_M_shelf 45 = .ok (.aload_n 0, 1) := by decide +kernel
theorem d_M_shelf_46 : decode b_M_shelf 46 = .ok (.getfield 16, 3) := by decide +kernel
theorem d_M_shelf_49 : decode b_M_shelf 49 = .ok (.iload_n 1, 1) := by decide +kernel
theorem d_M_shelf_50 : decode b_M_shelf 50 = .ok (.iaload, 1) := by decide +kernel
theorem d_M_shelf_51 : decode b_M_shelf 51 = .ok (.ireturn, 1) := by decide +kernel
theorem d_M_shelf_52 : decode b_M_shelf 52 = .ok (.iload_n 2, 1) := by decide +kernel
theorem d_M_shelf_53 : decode b_M_shelf 53 = .ok (.iconst 1, 1) := by decide +kernel
theorem d_M_shelf_54 : decode b_M_shelf 54 = .ok (.if_icmp .ne 9, 3) := by decide +kernel
theorem d_M_shelf_57 : decode b_M_shelf 57 = .ok (.aload_n 0, 1) := by decide +kernel
theorem d_M_shelf_58 : decode b_M_shelf 58 = .ok (.iload_n 1, 1) := by decide +kernel
theorem d_M_shelf_59 : decode b_M_shelf 59 = .ok (.invokevirtual 75, 3) := by decide +kernel
theorem d_M_shelf_62 : decode b_M_shelf 62 = .ok (.ireturn, 1) := by decide +kernel
theorem d_M_shelf_63 : decode b_M_shelf 63 = .ok (.iload_n 2, 1) := by decide +kernel
theorem d_M_shelf_64 : decode b_M_shelf 64 = .ok (.iconst 2, 1) := by decide +kernel
theorem d_M_shelf_65 : decode b_M_shelf 65 = .ok (.if_icmp .ne 18, 3) := by decide +kernel
theorem d_M_shelf_68 : decode b_M_shelf 68 = .ok (.aload_n 0, 1) := by decide +kernel
theorem d_M_shelf_69 : decode b_M_shelf 69 = .ok (.getfield 20, 3) := by decide +kernel
theorem d_M_shelf_72 : decode b_M_shelf 72 = .ok (.iload_n 1, 1) := by decide +kernel
theorem d_M_shelf_73 : decode b_M_shelf 73 = .ok (.baload, 1) := by decide +kernel
theorem d_M_shelf_74 : decode b_M_shelf 74 = .ok (.ifCond .eq 7, 3) := by decide +kernel
theorem d_M_shelf_77 : decode b_M_shelf 77 = .ok (.iconst 1, 1) := by decide +kernel
theorem d_M_shelf_78 : decode b_M_shelf 78 = .ok (.goto 4, 3) := by decide +kernel
theorem d_M_shelf_81 : decode b_M_shelf 81 = .ok (.iconst 0, 1) := by decide +kernel
theorem d_M_shelf_82 : decode b_M_shelf 82 = .ok (.ireturn, 1) := by decide +kernel
theorem d_M_shelf_83 : decode b_M_shelf 83 = .ok (.iload_n 2, 1) := by decide +kernel
theorem d_M_shelf_84 : decode b_M_shelf 84 = .ok (.iconst 3, 1) := by decide +kernel
theorem d_M_shelf_85 : decode b_M_shelf 85 = .ok (.if_icmp .ne 20, 3) := by decide +kernel
theorem d_M_shelf_88 : decode b_M_shelf 88 = .ok (.aload_n 0, 1) := by decide +kernel
theorem d_M_shelf_89 : decode b_M_shelf 89 = .ok (.aload_n 0, 1) := by decide +kernel
theorem d_M_shelf_90 : decode b_M_shelf 90 = .ok (.getfield 16, 3) := by decide +kernel
theorem d_M_shelf_93 : decode b_M_shelf 93 = .ok (.iload_n 1, 1) := by decide +kernel
theorem d_M_shelf_94 : decode b_M_shelf 94 = .ok (.iaload, 1) := by decide +kernel
theorem d_M_shelf_95 : decode b_M_shelf 95 = .ok (.aload_n 0, 1) := by decide +kernel
theorem d_M_shelf_96 : decode b_M_shelf 96 = .ok (.getfield 13, 3) := by decide +kernel
theorem d_M_shelf_99 : decode b_M_shelf 99 = .ok (.invokevirtual 67, 3) := by decide +kernel
theorem d_M_shelf_102 : decode b_M_shelf 102 = .ok (.goto 8, 3) := by decide +kernel
theorem d_M_shelf_105 : decode b_M_shelf 105 = .ok (.aload_n 0, 1) := by decide +kernel
theorem d_M_shelf_106 : decode b_M_shelf 106 = .ok (.iload_n 1, 1) := by decide +kernel
theorem d_M_shelf_107 : decode b_M_shelf 107 = .ok (.invokevirtual 105, 3) := by decide +kernel
theorem d_M_shelf_110 : decode b_M_shelf 110 = .ok (.ireturn, 1) := by decide +kernel
theorem d_M_unit_0 : decode b_M_unit 0 = .ok (.aload_n 0, 1) := by decide +kernel
theorem d_M_unit_1 : decode b_M_unit 1 = .ok (.iload_n 1, 1) := by decide +kernel
theorem d_M_unit_2 : decode b_M_unit 2 = .ok (.bipush 20, 2) := by decide +kernel
theorem d_M_unit_4 : decode b_M_unit 4 = .ok (.invokestatic 71, 3) := by decide +kernel
theorem d_M_unit_7 : decode b_M_unit 7 = .ok (.ifCond .eq 7, 3) := by decide +kernel
theorem d_M_unit_10 : decode b_M_unit 10 = .ok (.iconst 1, 1) := by decide +kernel
theorem d_M_unit_11 : decode b_M_unit 11 = .ok (.goto 4, 3) := by decide +kernel
theorem d_M_unit_14 : decode b_M_unit 14 = .ok (.iconst 0, 1) := by decide +kernel
theorem d_M_unit_15 : decode b_M_unit 15 = .ok (.putfield 7, 3) := by decide +kernel
theorem d_M_unit_18 : decode b_M_unit 18 = .ok (.aload_n 0, 1) := by decide +kernel
theorem d_M_unit_19 : decode b_M_unit 19 = .ok (.getfield 7, 3) := by decide +kernel
theorem d_M_unit_22 : decode b_M_unit 22 = .ok (.ifCond .eq 7, 3) := by decide +kernel
theorem d_M_unit_25 : decode b_M_unit 25 = .ok (.iconst 0, 1) := by decide +kernel
theorem d_M_unit_26 : decode b_M_unit 26 = .ok (.goto 9, 3) := by decide +kernel
theorem d_M_unit_29 : decode b_M_unit 29 = .ok (.aload_n 0, 1) := by decide +kernel
theorem d_M_unit_30 : decode b_M_unit 30 = .ok (.getfield 24, 3) := by decide +kernel
theorem d_M_unit_33 : decode b_M_unit 33 = .ok (.iload_n 1, 1) := by decide +kernel
theorem d_M_unit_34 : decode b_M_unit 34 = .ok (.iaload, 1) := by decide +kernel
theorem d_M_unit_35 : decode b_M_unit 35 = .ok (.ireturn, 1) := by decide +kernel
theorem d_M_count_0 : decode b_M_count 0 = .ok (.aload_n 0, 1) := by decide +kernel
theorem d_M_count_1 : decode b_M_count 1 = .ok (.iconst 0, 1) := by decide +kernel
theorem d_M_count_2 : decode b_M_count 2 = .ok (.putfield 7, 3) := by decide +kernel
theorem d_M_count_5 : decode b_M_count 5 = .ok (.iconst 0, 1) := by decide +kernel
theorem d_M_count_6 : decode b_M_count 6 = .ok (.istore_n 2, 1) := by decide +kernel
theorem d_M_count_7 : decode b_M_count 7 = .ok (.iconst 0, 1) := by decide +kernel
theorem d_M_count_8 : decode b_M_count 8 = .ok (.istore_n 3, 1) := by decide +kernel
theorem d_M_count_9 : decode b_M_count 9 = .ok (.iload_n 3, 1) := by decide +kernel
theorem d_M_count_10 : decode b_M_count 10 = .ok (.bipush 20, 2) := by decide +kernel
theorem d_M_count_12 : decode b_M_count 12 = .ok (.if_icmp .ge 26, 3) := by decide +kernel
theorem d_M_count_15 : decode b_M_count 15 = .ok (.iload_n 2, 1) := by decide +kernel
theorem d_M_count_16 : decode b_M_count 16 = .ok (.aload_n 0, 1) := by decide +kernel
theorem d_M_count_17 : decode b_M_count 17 = .ok (.getfield 24, 3) := by decide +kernel
theorem d_M_count_20 : decode b_M_count 20 = .ok (.iload_n 3, 1) := by decide +kernel
theorem d_M_count_21 : decode b_M_count 21 = .ok (.iaload, 1) := by decide +kernel
theorem d_M_count_22 : decode b_M_count 22 = .ok (.ifCond .lt 7, 3) := by decide +kernel
theorem d_M_count_25 : decode b_M_count 25 = .ok (.iconst 1, 1) := by decide +kernel
theorem d_M_count_26 : decode b_M_count 26 = .ok (.goto 4, 3) := by decide +kernel
theorem d_M_count_29 : decode b_M_count 29 = .ok (.iconst 0, 1) := by decide +kernel
theorem d_M_count_30 : decode b_M_count 30 = .ok (.iadd, 1) := by decide +kernel
theorem d_M_count_31 : decode b_M_count 31 = .ok (.istore_n 2, 1) := by decide +kernel
theorem d_M_count_32 : decode b_M_count 32 = .ok (.iinc 3 1, 3) := by decide +kernel
theorem d_M_count_35 : decode b_M_count 35 = .ok (.goto (-26), 3) := by decide +kernel
theorem d_M_count_38 : decode b_M_count 38 = .ok (.iload_n 1, 1) := by decide +kernel
theorem d_M_count_39 : decode b_M_count 39 = .ok (.ifCond .ne 10, 3) := by decide +kernel
theorem d_M_count_42 : decode b_M_count 42 = .ok (.aload_n 0, 1) := by decide +kernel
theorem d_M_count_43 : decode b_M_count 43 = .ok (.getfield 64, 3) := by decide +kernel
theorem d_M_count_46 : decode b_M_count 46 = .ok (.goto 72, 3) := by decide +kernel
theorem d_M_count_49 : decode b_M_count 49 = .ok (.iload_n 1, 1) := by decide +kernel
theorem d_M_count_50 : decode b_M_count 50 = .ok (.iconst 1, 1) := by decide +kernel
theorem d_M_count_51 : decode b_M_count 51 = .ok (.if_icmp .ne 21, 3) := by decide +kernel
theorem d_M_count_54 : decode b_M_count 54 = .ok (.aload_n 0, 1) := by decide +kernel
theorem d_M_count_55 : decode b_M_count 55 = .ok (.getfield 64, 3) := by decide +kernel
theorem d_M_count_58 : decode b_M_count 58 = .ok (.ifCond .ne 7, 3) := by decide +kernel
theorem d_M_count_61 : decode b_M_count 61 = .ok (.iconst (-1), 1) := by decide +kernel
theorem d_M_count_62 : decode b_M_count 62 = .ok (.goto 56, 3) := by decide +kernel
theorem d_M_count_65 : decode b_M_count 65 = .ok (.aload_n 0, 1) := by decide +kernel
theorem d_M_count_66 : decode b_M_count 66 = .ok (.getfield 13, 3) := by decide +kernel
theorem d_M_count_69 : decode b_M_count 69 = .ok (.goto 49, 3) := by decide +kernel
theorem d_M_count_72 : decode b_M_count 72 = .ok (.iload_n 1, 1) := by decide +kernel
theorem d_M_count_73 : decode b_M_count 73 = .ok (.iconst 2, 1) := by decide +kernel
theorem d_M_count_74 : decode b_M_count 74 = .ok (.if_icmp .ne 10, 3) := by decide +kernel
theorem d_M_count_77 : decode b_M_count 77 = .ok (.aload_n 0, 1) := by decide +kernel
theorem d_M_count_78 : decode b_M_count 78 = .ok (.getfield 33, 3) := by decide +kernel
theorem d_M_count_81 : decode b_M_count 81 = .ok (.goto 37, 3) := by decide +kernel
theorem d_M_count_84 : decode b_M_count 84 = .ok (.iload_n 1, 1) := by decide +kernel
theorem d_M_count_85 : decode b_M_count 85 = .ok (.iconst 3, 1) := by decide +kernel
theorem d_M_count_86 : decode b_M_count 86 = .ok (.if_icmp .ne 7, 3) := by decide +kernel
theorem d_M_count_89 : decode b_M_count 89 = .ok (.iload_n 2, 1) := by decide +kernel
theorem d_M_count_90 : decode b_M_count 90 = .ok (.goto 28, 3) := by decide +kernel
theorem d_M_count_93 : decode b_M_count 93 = .ok (.iload_n 1, 1) := by decide +kernel
theorem d_M_count_94 : decode b_M_count 94 = .ok (.iconst 4, 1) := by decide +kernel
theorem d_M_count_95 : decode b_M_count 95 = .ok (.if_icmp .ne 10, 3) := by decide +kernel
theorem d_M_count_98 : decode b_M_count 98 = .ok (.aload_n 0, 1) := by decide +kernel
theorem d_M_count_99 : decode b_M_count 99 = .ok (.getfield 39, 3) := by decide +kernel
theorem d_M_count_102 : decode b_M_count 102 = .ok (.goto 16, 3) := by decide +kernel
theorem d_M_count_105 : decode b_M_count 105 = .ok (.iload_n 1, 1) := by decide +kernel
theorem d_M_count_106 : decode b_M_count 106 = .ok (.iconst 5, 1) := by decide +kernel
theorem d_M_count_107 : decode b_M_count 107 = .ok (.if_icmp .ne 10, 3) := by decide +kernel
theorem d_M_count_110 : decode b_M_count 110 = .ok (.aload_n 0, 1) := by decide +kernel
theorem d_M_count_111 : decode b_M_count 111 = .ok (.getfield 36, 3) := by decide +kernel
theorem d_M_count_114 : decode b_M_count 114 = .ok (.goto 4, 3) := by decide +kernel
theorem d_M_count_117 : decode b_M_count 117 = .ok (.iconst (-1), 1) := by decide +kernel
theorem d_M_count_118 : decode b_M_count 118 = .ok (.ireturn, 1) := by decide +kernel
