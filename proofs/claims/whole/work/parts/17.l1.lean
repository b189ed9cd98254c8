theorem d_L_put_0 : decode b_L_put 0 = .ok (.aload_n 3, 1) := by decide +kernel
theorem d_L_put_1 : decode b_L_put 1 = .ok (.iconst 0, 1) := by decide +kernel
theorem d_L_put_2 : decode b_L_put 2 = .ok (.aload_n 0, 1) := by decide +kernel
theorem d_L_put_3 : decode b_L_put 3 = .ok (.iload_n 1, 1) := by decide +kernel
theorem d_L_put_4 : decode b_L_put 4 = .ok (.iload_n 2, 1) := by decide +kernel
theorem d_L_put_5 : decode b_L_put 5 = .ok (.invokevirtual 7, 3) := by decide +kernel
theorem d_L_put_8 : decode b_L_put 8 = .ok (.i2l, 1) := by decide +kernel
theorem d_L_put_9 : decode b_L_put 9 = .ok (.lastore, 1) := by decide +kernel
theorem d_L_put_10 : decode b_L_put 10 = .ok (.goto 19, 3) := by decide +kernel
theorem d_L_put_13 : decode b_L_put 13 = .ok (.astore 4, 2) := by decide +kernel
theorem d_L_put_15 : decode b_L_put 15 = .ok (.iconst 1, 1) := by decide +kernel
theorem d_L_put_16 : decode b_L_put 16 = .ok (.ireturn, 1) := by decide +kernel
theorem d_L_put_17 : decode b_L_put 17 = .ok (.astore 4, 2) := by decide +kernel
theorem d_L_put_19 : decode b_L_put 19 = .ok (.iconst 2, 1) := by decide +kernel
theorem d_L_put_20 : decode b_L_put 20 = .ok (.ireturn, 1) := by decide +kernel
theorem d_L_put_21 : decode b_L_put 21 = .ok (.astore 4, 2) := by decide +kernel
theorem d_L_put_23 : decode b_L_put 23 = .ok (.iconst 3, 1) := by decide +kernel
theorem d_L_put_24 : decode b_L_put 24 = .ok (.ireturn, 1) := by decide +kernel
theorem d_L_put_25 : decode b_L_put 25 = .ok (.astore 4, 2) := by decide +kernel
theorem d_L_put_27 : decode b_L_put 27 = .ok (.iconst 4, 1) := by decide +kernel
theorem d_L_put_28 : decode b_L_put 28 = .ok (.ireturn, 1) := by decide +kernel
theorem d_L_put_29 : decode b_L_put 29 = .ok (.iconst 0, 1) := by decide +kernel
theorem d_L_put_30 : decode b_L_put 30 = .ok (.ireturn, 1) := by decide +kernel
theorem d_L_turn_0 : decode b_L_turn 0 = .ok (.aload_n 2, 1) := by decide +kernel
theorem d_L_turn_1 : decode b_L_turn 1 = .ok (.iconst 0, 1) := by decide +kernel
theorem d_L_turn_2 : decode b_L_turn 2 = .ok (.aload_n 0, 1) := by decide +kernel
theorem d_L_turn_3 : decode b_L_turn 3 = .ok (.iload_n 1, 1) := by decide +kernel
theorem d_L_turn_4 : decode b_L_turn 4 = .ok (.invokevirtual 21, 3) := by decide +kernel
theorem d_L_turn_7 : decode b_L_turn 7 = .ok (.i2l, 1) := by decide +kernel
theorem d_L_turn_8 : decode b_L_turn 8 = .ok (.lastore, 1) := by decide +kernel
theorem d_L_turn_9 : decode b_L_turn 9 = .ok (.goto 12, 3) := by decide +kernel
theorem d_L_turn_12 : decode b_L_turn 12 = .ok (.astore_n 3, 1) := by decide +kernel
theorem d_L_turn_13 : decode b_L_turn 13 = .ok (.iconst 1, 1) := by decide +kernel
theorem d_L_turn_14 : decode b_L_turn 14 = .ok (.ireturn, 1) := by decide +kernel
theorem d_L_turn_15 : decode b_L_turn 15 = .ok (.astore_n 3, 1) := by decide +kernel
theorem d_L_turn_16 : decode b_L_turn 16 = .ok (.iconst 2, 1) := by decide +kernel
theorem d_L_turn_17 : decode b_L_turn 17 = .ok (.ireturn, 1) := by decide +kernel
theorem d_L_turn_18 : decode b_L_turn 18 = .ok (.astore_n 3, 1) := by decide +kernel
theorem d_L_turn_19 : decode b_L_turn 19 = .ok (.iconst 3, 1) := by decide +kernel
theorem d_L_turn_20 : decode b_L_turn 20 = .ok (.ireturn, 1) := by decide +kernel
theorem d_L_turn_21 : decode b_L_turn 21 = .ok (.iconst 0, 1) := by decide +kernel
theorem d_L_turn_22 : decode b_L_turn 22 = .ok (.ireturn, 1) := by decide +kernel
theorem d_L_want_0 : decode b_L_want 0 = .ok (.aload_n 2, 1) := by decide +kernel
theorem d_L_want_1 : decode b_L_want 1 = .ok (.iconst 0, 1) := by decide +kernel
theorem d_L_want_2 : decode b_L_want 2 = .ok (.aload_n 0, 1) := by decide +kernel
theorem d_L_want_3 : decode b_L_want 3 = .ok (.iload_n 1, 1) := by decide +kernel
theorem d_L_want_4 : decode b_L_want 4 = .ok (.invokevirtual 27, 3) := by decide +kernel
theorem d_L_want_7 : decode b_L_want 7 = .ok (.i2l, 1) := by decide +kernel
theorem d_L_want_8 : decode b_L_want 8 = .ok (.lastore, 1) := by decide +kernel
theorem d_L_want_9 : decode b_L_want 9 = .ok (.goto 12, 3) := by decide +kernel
theorem d_L_want_12 : decode b_L_want 12 = .ok (.astore_n 3, 1) := by decide +kernel
theorem d_L_want_13 : decode b_L_want 13 = .ok (.iconst 1, 1) := by decide +kernel
theorem d_L_want_14 : decode b_L_want 14 = .ok (.ireturn, 1) := by decide +kernel
theorem d_L_want_15 : decode b_L_want 15 = .ok (.astore_n 3, 1) := by decide +kernel
theorem d_L_want_16 : decode b_L_want 16 = .ok (.iconst 2, 1) := by decide +kernel
theorem d_L_want_17 : decode b_L_want 17 = .ok (.ireturn, 1) := by decide +kernel
theorem d_L_want_18 : decode b_L_want 18 = .ok (.astore_n 3, 1) := by decide +kernel
theorem d_L_want_19 : decode b_L_want 19 = .ok (.iconst 3, 1) := by decide +kernel
theorem d_L_want_20 : decode b_L_want 20 = .ok (.ireturn, 1) := by decide +kernel
theorem d_L_want_21 : decode b_L_want 21 = .ok (.iconst 0, 1) := by decide +kernel
theorem d_L_want_22 : decode b_L_want 22 = .ok (.ireturn, 1) := by decide +kernel
theorem d_L_plan_0 : decode b_L_plan 0 = .ok (.aload_n 2, 1) := by decide +kernel
theorem d_L_plan_1 : decode b_L_plan 1 = .ok (.iconst 0, 1) := by decide +kernel
theorem d_L_plan_2 : decode b_L_plan 2 = .ok (.aload_n 0, 1) := by decide +kernel
theorem d_L_plan_3 : decode b_L_plan 3 = .ok (.iload_n 1, 1) := by decide +kernel
theorem d_L_plan_4 : decode b_L_plan 4 = .ok (.invokevirtual 30, 3) := by decide +kernel
theorem d_L_plan_7 : decode b_L_plan 7 = .ok (.i2l, 1) := by decide +kernel
theorem d_L_plan_8 : decode b_L_plan 8 = .ok (.lastore, 1) := by decide +kernel
theorem d_L_plan_9 : decode b_L_plan 9 = .ok (.goto 9, 3) := by decide +kernel
theorem d_L_plan_12 : decode b_L_plan 12 = .ok (.astore_n 3, 1) := by decide +kernel
theorem d_L_plan_13 : decode b_L_plan 13 = .ok (.iconst 1, 1) := by decide +kernel
theorem d_L_plan_14 : decode b_L_plan 14 = .ok (.ireturn, 1) := by decide +kernel
theorem d_L_plan_15 : decode b_L_plan 15 = .ok (.astore_n 3, 1) := by decide +kernel
theorem d_L_plan_16 : decode b_L_plan 16 = .ok (.iconst 2, 1) := by decide +kernel
theorem d_L_plan_17 : decode b_L_plan 17 = .ok (.ireturn, 1) := by decide +kernel
theorem d_L_plan_18 : decode b_L_plan 18 = .ok (.iconst 0, 1) := by decide +kernel
theorem d_L_plan_19 : decode b_L_plan 19 = .ok (.ireturn, 1) := by decide +kernel
theorem d_L_pick_0 : decode b_L_pick 0 = .ok (.aload_n 3, 1) := by decide +kernel
theorem d_L_pick_1 : decode b_L_pick 1 = .ok (.iconst 0, 1) := by decide +kernel
theorem d_L_pick_2 : decode b_L_pick 2 = .ok (.aload_n 0, 1) := by decide +kernel
theorem d_L_pick_3 : decode b_L_pick 3 = .ok (.iload_n 1, 1) := by decide +kernel
theorem d_L_pick_4 : decode b_L_pick 4 = .ok (.iload_n 2, 1) := by decide +kernel
theorem d_L_pick_5 : decode b_L_pick 5 = .ok (.invokevirtual 33, 3) := by decide +kernel
theorem d_L_pick_8 : decode b_L_pick 8 = .ok (.ifCond .eq 7, 3) := by decide +kernel
theorem d_L_pick_11 : decode b_L_pick 11 = .ok (.lconst 1, 1) := by decide +kernel
theorem d_L_pick_12 : decode b_L_pick 12 = .ok (.goto 4, 3) := by decide +kernel
theorem d_L_pick_15 : decode b_L_pick 15 = .ok (.lconst 0, 1) := by decide +kernel
theorem d_L_pick_16 : decode b_L_pick 16 = .ok (.lastore, 1) := by decide +kernel
theorem d_L_pick_17 : decode b_L_pick 17 = .ok (.goto 15, 3) := by decide +kernel
theorem d_L_pick_20 : decode b_L_pick 20 = .ok (.astore 4, 2) := by decide +kernel
theorem d_L_pick_22 : decode b_L_pick 22 = .ok (.iconst 1, 1) := by decide +kernel
theorem d_L_pick_23 : decode b_L_pick 23 = .ok (.ireturn, 1) := by decide +kernel
theorem d_L_pick_24 : decode b_L_pick 24 = .ok (.astore 4, 2) := by decide +kernel
theorem d_L_pick_26 : decode b_L_pick 26 = .ok (.iconst 2, 1) := by decide +kernel
theorem d_L_pick_27 : decode b_L_pick 27 = .ok (.ireturn, 1) := by decide +kernel
theorem d_L_pick_28 : decode b_L_pick 28 = .ok (.astore 4, 2) := by decide +kernel
theorem d_L_pick_30 : decode b_L_pick 30 = .ok (.iconst 3, 1) := by decide +kernel
theorem d_L_pick_31 : decode b_L_pick 31 = .ok (.ireturn, 1) := by decide +kernel
theorem d_L_pick_32 : decode b_L_pick 32 = .ok (.iconst 0, 1) := by decide +kernel
theorem d_L_pick_33 : decode b_L_pick 33 = .ok (.ireturn, 1) := by decide +kernel
theorem d_L_door_0 : decode b_L_door 0 = .ok (.aload_n 3, 1) := by decide +kernel
theorem d_L_door_1 : decode b_L_door 1 = .ok (.iconst 0, 1) := by decide +kernel
theorem d_L_door_2 : decode b_L_door 2 = .ok (.aload_n 0, 1) := by decide +kernel
theorem d_L_door_3 : decode b_L_door 3 = .ok (.iload_n 1, 1) := by decide +kernel
theorem d_L_door_4 : decode b_L_door 4 = .ok (.iload_n 2, 1) := by decide +kernel
theorem d_L_door_5 : decode b_L_door 5 = .ok (.invokevirtual 37, 3) := by decide +kernel
theorem d_L_door_8 : decode b_L_door 8 = .ok (.ifCond .eq 7, 3) := by decide +kernel
theorem d_L_door_11 : decode b_L_door 11 = .ok (.lconst 1, 1) := by decide +kernel
theorem d_L_door_12 : decode b_L_door 12 = .ok (.goto 4, 3) := by decide +kernel
theorem d_L_door_15 : decode b_L_door 15 = .ok (.lconst 0, 1) := by decide +kernel
theorem d_L_door_16 : decode b_L_door 16 = .ok (.lastore, 1) := by decide +kernel
theorem d_L_door_17 : decode b_L_door 17 = .ok (.goto 7, 3) := by decide +kernel
theorem d_L_door_20 : decode b_L_door 20 = .ok (.astore 4, 2) := by decide +kernel
theorem d_L_door_22 : decode b_L_door 22 = .ok (.iconst 1, 1) := by decide +kernel
theorem d_L_door_23 : decode b_L_door 23 = .ok (.ireturn, 1) := by decide +kernel
theorem d_L_door_24 : decode b_L_door 24 = .ok (.iconst 0, 1) := by decide +kernel
theorem d_L_door_25 : decode b_L_door 25 = .ok (.ireturn, 1) := by decide +kernel
theorem d_L_move_0 : decode b_L_move 0 = .ok (.aload_n 3, 1) := by decide +kernel
theorem d_L_move_1 : decode b_L_move 1 = .ok (.iconst 0, 1) := by decide +kernel
theorem d_L_move_2 : decode b_L_move 2 = .ok (.aload_n 0, 1) := by decide +kernel
theorem d_L_move_3 : decode b_L_move 3 = .ok (.iload_n 1, 1) := by decide +kernel
theorem d_L_move_4 : decode b_L_move 4 = .ok (.iload_n 2, 1) := by decide +kernel
theorem d_L_move_5 : decode b_L_move 5 = .ok (.invokevirtual 41, 3) := by decide +kernel
theorem d_L_move_8 : decode b_L_move 8 = .ok (.i2l, 1) := by decide +kernel
theorem d_L_move_9 : decode b_L_move 9 = .ok (.lastore, 1) := by decide +kernel
theorem d_L_move_10 : decode b_L_move 10 = .ok (.goto 11, 3) := by decide +kernel
theorem d_L_move_13 : decode b_L_move 13 = .ok (.astore 4, 2) := by decide +kernel
theorem d_L_move_15 : decode b_L_move 15 = .ok (.iconst 1, 1) := by decide +kernel
theorem d_L_move_16 : decode b_L_move 16 = .ok (.ireturn, 1) := by decide +kernel
theorem d_L_move_17 : decode b_L_move 17 = .ok (.astore 4, 2) := by decide +kernel
theorem d_L_move_19 : decode b_L_move 19 = .ok (.iconst 2, 1) := by decide +kernel
theorem d_L_move_20 : decode b_L_move 20 = .ok (.ireturn, 1) := by decide +kernel
theorem d_L_move_21 : decode b_L_move 21 = .ok (.iconst 0, 1) := by decide +kernel
theorem d_L_move_22 : decode b_L_move 22 = .ok (.ireturn, 1) := by decide +kernel
theorem d_L_blocked_0 : decode b_L_blocked 0 = .ok (.aload_n 3, 1) := by decide +kernel
theorem d_L_blocked_1 : decode b_L_blocked 1 = .ok (.iconst 0, 1) := by decide +kernel
theorem d_L_blocked_2 : decode b_L_blocked 2 = .ok (.aload_n 0, 1) := by decide +kernel
theorem d_L_blocked_3 : decode b_L_blocked 3 = .ok (.iload_n 1, 1) := by decide +kernel
theorem d_L_blocked_4 : decode b_L_blocked 4 = .ok (.iload_n 2, 1) := by decide +kernel
theorem d_L_blocked_5 : decode b_L_blocked 5 = .ok (.invokevirtual 44, 3) := by decide +kernel
theorem d_L_blocked_8 : decode b_L_blocked 8 = .ok (.ifCond .eq 7, 3) := by decide +kernel
theorem d_L_blocked_11 : decode b_L_blocked 11 = .ok (.lconst 1, 1) := by decide +kernel
theorem d_L_blocked_12 : decode b_L_blocked 12 = .ok (.goto 4, 3) := by decide +kernel
theorem d_L_blocked_15 : decode b_L_blocked 15 = .ok (.lconst 0, 1) := by decide +kernel
theorem d_L_blocked_16 : decode b_L_blocked 16 = .ok (.lastore, 1) := by decide +kernel
theorem d_L_blocked_17 : decode b_L_blocked 17 = .ok (.goto 7, 3) := by decide +kernel
theorem d_L_blocked_20 : decode b_L_blocked 20 = .ok (.astore 4, 2) := by decide +kernel
theorem d_L_blocked_22 : decode b_L_blocked 22 = .ok (.iconst 1, 1) := by decide +kernel
theorem d_L_blocked_23 : decode b_L_blocked 23 = .ok (.ireturn, 1) := by decide +kernel
theorem d_L_blocked_24 : decode b_L_blocked 24 = .ok (.iconst 0, 1) := by decide +kernel
theorem d_L_blocked_25 : decode b_L_blocked 25 = .ok (.ireturn, 1) := by decide +kernel
theorem d_L_days_0 : decode b_L_days 0 = .ok (.aload_n 0, 1) := by decide +kernel
theorem d_L_days_1 : decode b_L_days 1 = .ok (.iload_n 1, 1) := by decide +kernel
theorem d_L_days_2 : decode b_L_days 2 = .ok (.invokevirtual 47, 3) := by decide +kernel
theorem d_L_days_5 : decode b_L_days 5 = .ok (.goto 6, 3) := by decide +kernel
theorem d_L_days_8 : decode b_L_days 8 = .ok (.astore_n 2, 1) := by decide +kernel
theorem d_L_days_9 : decode b_L_days 9 = .ok (.iconst 1, 1) := by decide +kernel
theorem d_L_days_10 : decode b_L_days 10 = .ok (.ireturn, 1) := by decide +kernel
theorem d_L_days_11 : decode b_L_days 11 = .ok (.iconst 0, 1) := by decide +kernel
theorem d_L_days_12 : decode b_L_days 12 = .ok (.ireturn, 1) := by decide +kernel
theorem d_L_learned_0 : decode b_L_learned 0 = .ok (.aload_n 2, 1) := by decide +kernel
theorem d_L_learned_1 : decode b_L_learned 1 = .ok (.iconst 0, 1) := by decide +kernel
theorem d_L_learned_2 : decode b_L_learned 2 = .ok (.aload_n 0, 1) := by decide +kernel
theorem d_L_learned_3 : decode b_L_learned 3 = .ok (.iload_n 1, 1) := by decide +kernel
theorem d_L_learned_4 : decode b_L_learned 4 = .ok (.invokevirtual 51, 3) := by decide +kernel
theorem d_L_learned_7 : decode b_L_learned 7 = .ok (.i2l, 1) := by decide +kernel
theorem d_L_learned_8 : decode b_L_learned 8 = .ok (.lastore, 1) := by decide +kernel
theorem d_L_learned_9 : decode b_L_learned 9 = .ok (.goto 6, 3) := by decide +kernel
theorem d_L_learned_12 : decode b_L_learned 12 = .ok (.astore_n 3, 1) := by decide +kernel
theorem d_L_learned_13 : decode b_L_learned 13 = .ok (.iconst 1, 1) := by decide +kernel
theorem d_L_learned_14 : decode b_L_learned 14 = .ok (.ireturn, 1) := by decide +kernel
theorem d_L_learned_15 : decode b_L_learned 15 = .ok (.iconst 0, 1) := by decide +kernel
theorem d_L_learned_16 : decode b_L_learned 16 = .ok (.ireturn, 1) := by decide +kernel
theorem d_L_shelf_0 : decode b_L_shelf 0 = .ok (.aload_n 3, 1) := by decide +kernel
theorem d_L_shelf_1 : decode b_L_shelf 1 = .ok (.iconst 0, 1) := by decide +kernel
theorem d_L_shelf_2 : decode b_L_shelf 2 = .ok (.aload_n 0, 1) := by decide +kernel
theorem d_L_shelf_3 : decode b_L_shelf 3 = .ok (.iload_n 1, 1) := by decide +kernel
theorem d_L_shelf_4 : decode b_L_shelf 4 = .ok (.iload_n 2, 1) := by decide +kernel
theorem d_L_shelf_5 : decode b_L_shelf 5 = .ok (.invokevirtual 54, 3) := by decide +kernel
theorem d_L_shelf_8 : decode b_L_shelf 8 = .ok (.i2l, 1) := by decide +kernel
theorem d_L_shelf_9 : decode b_L_shelf 9 = .ok (.lastore, 1) := by decide +kernel
theorem d_L_shelf_10 : decode b_L_shelf 10 = .ok (.goto 11, 3) := by decide +kernel
theorem d_L_shelf_13 : decode b_L_shelf 13 = .ok (.astore 4, 2) := by decide +kernel
theorem d_L_shelf_15 : decode b_L_shelf 15 = .ok (.iconst 1, 1) := by decide +kernel
theorem d_L_shelf_16 : decode b_L_shelf 16 = .ok (.ireturn, 1) := by decide +kernel
theorem d_L_shelf_17 : decode b_L_shelf 17 = .ok (.astore 4, 2) := by decide +kernel
theorem d_L_shelf_19 : decode b_L_shelf 19 = .ok (.iconst 2, 1) := by decide +kernel
theorem d_L_shelf_20 : decode b_L_shelf 20 = .ok (.ireturn, 1) := by decide +kernel
theorem d_L_shelf_21 : decode b_L_shelf 21 = .ok (.iconst 0, 1) := by decide +kernel
theorem d_L_shelf_22 : decode b_L_shelf 22 = .ok (.ireturn, 1) := by decide +kernel
theorem d_L_unit_0 : decode b_L_unit 0 = .ok (.aload_n 2, 1) := by decide +kernel
theorem d_L_unit_1 : decode b_L_unit 1 = .ok (.iconst 0, 1) := by decide +kernel
theorem d_L_unit_2 : decode b_L_unit 2 = .ok (.aload_n 0, 1) := by decide +kernel
theorem d_L_unit_3 : decode b_L_unit 3 = .ok (.iload_n 1, 1) := by decide +kernel
theorem d_L_unit_4 : decode b_L_unit 4 = .ok (.invokevirtual 57, 3) := by decide +kernel
theorem d_L_unit_7 : decode b_L_unit 7 = .ok (.i2l, 1) := by decide +kernel
theorem d_L_unit_8 : decode b_L_unit 8 = .ok (.lastore, 1) := by decide +kernel
theorem d_L_unit_9 : decode b_L_unit 9 = .ok (.goto 6, 3) := by decide +kernel
theorem d_L_unit_12 : decode b_L_unit 12 = .ok (.astore_n 3, 1) := by decide +kernel
theorem d_L_unit_13 : decode b_L_unit 13 = .ok (.iconst 1, 1) := by decide +kernel
theorem d_L_unit_14 : decode b_L_unit 14 = .ok (.ireturn, 1) := by decide +kernel
theorem d_L_unit_15 : decode b_L_unit 15 = .ok (.iconst 0, 1) := by decide +kernel
theorem d_L_unit_16 : decode b_L_unit 16 = .ok (.ireturn, 1) := by decide +kernel
theorem d_L_cell_0 : decode b_L_cell 0 = .ok (.iload_n 1, 1) := by decide +kernel
theorem d_L_cell_1 : decode b_L_cell 1 = .ok (.aload_n 0, 1) := by decide +kernel
theorem d_L_cell_2 : decode b_L_cell 2 = .ok (.arraylength, 1) := by decide +kernel
theorem d_L_cell_3 : decode b_L_cell 3 = .ok (.if_icmp .ge 9, 3) := by decide +kernel
theorem d_L_cell_6 : decode b_L_cell 6 = .ok (.aload_n 0, 1) := by decide +kernel
theorem d_L_cell_7 : decode b_L_cell 7 = .ok (.iload_n 1, 1) := by decide +kernel
theorem d_L_cell_8 : decode b_L_cell 8 = .ok (.iaload, 1) := by decide +kernel
theorem d_L_cell_9 : decode b_L_cell 9 = .ok (.goto 4, 3) := by decide +kernel
theorem d_L_cell_12 : decode b_L_cell 12 = .ok (.iconst 0, 1) := by decide +kernel
theorem d_L_cell_13 : decode b_L_cell 13 = .ok (.ireturn, 1) := by decide +kernel
def p_L_put (x1 : Int32) (x2 : Int32) (places : Int32) (shelfOf : Nat → Int32) (out : Nat → Int64) (post : Int32 → (Nat → Int32) → (Nat → Int64) → Prop) : Prop := (p_C_put x1 x2 places shelfOf (fun r_1 shelfOf_2 => (vp_in (0 : Int32) 1 ∧ post (0 : Int32) shelfOf_2 (vp_updL out ((0 : Int32)).toNatClampNeg ((r_1).toInt64)))) (fun E_4 shelfOf_2 => ((E_4 = "java/util/NoSuchElementException" ∧ post (1 : Int32) shelfOf_2 out) ∨ (E_4 = "java/lang/IllegalArgumentException" ∧ post (2 : Int32) shelfOf_2 out) ∨ (E_4 = "java/lang/IllegalStateException" ∧ post (3 : Int32) shelfOf_2 out) ∨ (E_4 = "java/lang/UnsupportedOperationException" ∧ post (4 : Int32) shelfOf_2 out))))
abbrev rm_L_put : Room := { frames := 8, cells := 4, slots := 24, locals := 144 }
set_option maxHeartbeats 4000000 in
set_option maxRecDepth 100000 in
theorem c_L_put {l : Launch} (hl9 : l.stackTraces = false) {D : va_G} {sa : Nat → Nat} {cI cZ : ClassId} {sz : Nat} {a : Nat → Nat} {o : Nat} {cJ : ClassId} {places : Int32} {listed : Int32} {front : Int32} {turns : Int32} {fetched : Int32} {placeOf : Nat → Int32} {shelfAt : Nat → Int32} {isBlocked : Nat → Int32} {shelfOf : Nat → Int32} {counts : Nat → Int32} {isOpen : Nat → Int32} {list : Nat → Int32} {ring : Int32} {stops : Int32} {fewest : Int32} {isExact : Int32} {shelves : Nat → Int32} {stopPlaces : Nat → Int32} {taken : Nat → Int32} {trial : Nat → Int32} {best : Nat → Int32} {out : Nat → Int64} {x1 : Int32} {x2 : Int32} {post : Int32 → (Nat → Int32) → (Nat → Int64) → Prop} (hw : p_L_put x1 x2 places shelfOf out post) : Met l y_L_put w_L_put rm_L_put (va_Pc [.ref (a 0), .int x1, .int x2, .ref o] (kP D sa [(cI, .int), (cZ, .boolean), (cJ, .long)] (lW a o cI cZ cJ places listed front turns fetched placeOf shelfAt isBlocked shelfOf counts isOpen list ring stops fewest isExact shelves stopPlaces taken trial best out) sz)) (va_Qi (fun r (u : (Nat → Int32) × (Nat → Int64)) => post r u.1 u.2) (fun (u : (Nat → Int32) × (Nat → Int64)) t => va_P D classes (lW a o cI cZ cJ places listed front turns fetched placeOf shelfAt isBlocked u.1 counts isOpen list ring stops fewest isExact shelves stopPlaces taken trial best u.2) t.heap ∧ va_K D classes [(cI, .int), (cZ, .boolean), (cJ, .long)] t ∧ va_D (va_A (lW a o cI cZ cJ places listed front turns fetched placeOf shelfAt isBlocked shelfOf counts isOpen list ring stops fewest isExact shelves stopPlaces taken trial best out) sz) (lW a o cI cZ cJ places listed front turns fetched placeOf shelfAt isBlocked u.1 counts isOpen list ring stops fewest isExact shelves stopPlaces taken trial best u.2)) (va_A (lW a o cI cZ cJ places listed front turns fetched placeOf shelfAt isBlocked shelfOf counts isOpen list ring stops fewest isExact shelves stopPlaces taken trial best out) sz)) 4 24 (va_A (lW a o cI cZ cJ places listed front turns fetched placeOf shelfAt isBlocked shelfOf counts isOpen list ring stops fewest isExact shelves stopPlaces taken trial best out) sz) := by
  refine va_MetW (cc := b_L_put) (maxL := 5) (ret := (some .int)) (hh := [(0, 10, 13, 13), (0, 10, 17, 15), (0, 10, 21, 17), (0, 10, 25, 19)]) (by decide) rfl ?_
  intro p e s m args below meth c s₁ B hml hv
  obtain ⟨rfl, hsz, hP, hK, hD0, hZ⟩ := hv
  have hx := B.exec
  have hb := B.bytes
  have hr := B.returns
  have hts := atoms_spec (ws := w_L_put) B.pre
  have hown : s.vm.findClass R_L = some m.cls := findClass_of_methodNamed B.named
  have hlocks := B.notSynchronized
  have hTab : c.exceptionTable.toList = tableOf [(0, 10, 13, 13), (0, 10, 17, 15), (0, 10, 21, 17), (0, 10, 25, 19)] := vx_table (x := y_L_put) B (hts _ List.mem_cons_self)
  subst hsz
  have hD := hD0.self (sz := s.heap.size)
  generalize hAe : (va_A (lW a o cI cZ cJ places listed front turns fetched placeOf shelfAt isBlocked shelfOf counts isOpen list ring stops fewest isExact shelves stopPlaces taken trial best out) s.heap.size) = A at hD hZ ⊢
  have hA : ∀ q : Nat, s.heap.size ≤ q → A q := fun q h => by rw [← hAe]; exact Or.inr h
  have hS : va_S A s.heap s.heap [] := va_S.rf
  have hl := lv_entry ([.ref (a 0), .int x1, .int x2, .ref o]) (n := 5) (Nat.le_of_ble_eq_true rfl)
  rw [lg_entry_eq]
  generalize (lg_sl ([.ref (a 0), .int x1, .int x2, .ref o]) ++ List.replicate (5 - (lg_sl ([.ref (a 0), .int x1, .int x2, .ref o])).length) Slot.unset).toArray = ls at hl ⊢
  have hl : lv_has ls 5 [(0, .ref (a 0)), (1, .int x1), (2, .int x2), (3, .ref o)] := hl
  refine lv_aload_n hx hb d_L_put_0 rfl (lv_at hl 3 rfl) ?_
  refine lv_iconst (v := (0 : Int32)) hx hb d_L_put_1 (by decide) ?_
  refine lv_aload_n hx hb d_L_put_2 rfl (lv_at hl 0 rfl) ?_
  refine lv_iload_n hx hb d_L_put_3 rfl (lv_at hl 1 rfl) ?_
  refine lv_iload_n hx hb d_L_put_4 rfl (lv_at hl 2 rfl) ?_
  have hPc := hP.sub (ws' := cW a cI cZ places listed front turns fetched placeOf shelfAt isBlocked shelfOf counts isOpen list ring stops fewest isExact shelves stopPlaces taken trial best) [0, 1, 2, 3, 4, 5, 6, 7, 8, 9, 10, 11, 12, 13] rfl
  have hDc := hD.sub (ws' := cW a cI cZ places listed front turns fetched placeOf shelfAt isBlocked shelfOf counts isOpen list ring stops fewest isExact shelves stopPlaces taken trial best) [0, 1, 2, 3, 4, 5, 6, 7, 8, 9, 10, 11, 12, 13] (by decide) rfl
  have hFc := va_free (wc := cW a cI cZ places listed front turns fetched placeOf shelfAt isBlocked shelfOf counts isOpen list ring stops fewest isExact shelves stopPlaces taken trial best) hD hS hA [0, 1, 2, 3, 4, 5, 6, 7, 8, 9, 10, 11, 12, 13] rfl
  have hKc : va_K D classes [(cI, .int), (cZ, .boolean)] s := hK.sub [0, 1] rfl
  refine vx_calli (vx_runV (As := [.int x1, .int x2]) (rest := [.int (0 : Int32), .ref o]) ⟨hx, hb, hml, hown, hts⟩ (c_C_put hl9 hw) (cwV 2 hts (gV k_C_put kw_ba583d9f kw_01d7ee6d kw_3a639628 kw_91859716) rfl rfl rfl (by decide +kernel) ⟨(Nat.le_of_ble_eq_true rfl), (Nat.le_of_ble_eq_true rfl)⟩) ⟨kP.blind, va_recv hK hPc (ci := 0) (q0 := 0) rfl rfl, kP.of hKc hPc hDc hZ hS hFc⟩ rfl rfl hl.1 rfl (lv_room (Nat.le_of_ble_eq_true rfl)) d_L_put_5 ⟨(Nat.le_of_ble_eq_true rfl), (Nat.le_of_ble_eq_true rfl)⟩) hS (fun q _ h => hFc q h) hFc (fun q _ h => hFc q h) (fun E9 ce q9 u t H1 locs ht hvm hw hB hz1 hk1 hS hce hcv hcl => ?_) (fun r_1 u t H1 locs ht hvm hw hB hz1 hk1 hS => ?_)
  · obtain ⟨E_4, shelfOf_2⟩ := u
    obtain ⟨hE9, hP1, hK1, hD1⟩ := hB
    try dsimp only at hw hP1 hD1 hE9
    subst hE9
    rw [ht] at hP1
    have hK1 := va_K.moved hvm.symm hK1
    obtain ⟨hP, hD⟩ := va_join (wr := [(o, .inl (cJ, 1, .inr (.inl out)))]) (w1 := cW a cI cZ places listed front turns fetched placeOf shelfAt isBlocked shelfOf_2 counts isOpen list ring stops fewest isExact shelves stopPlaces taken trial best) hP hD [0, 1, 2, 3, 4, 5, 6, 7, 8, 9, 10, 11, 12, 13] [14] rfl rfl (by decide) (by decide) hk1 hFc hP1 hD1
    generalize H1 = H at hP hS hce ⊢
    have hP := hP.sub (ws' := lW a o cI cZ cJ places listed front turns fetched placeOf shelfAt isBlocked shelfOf_2 counts isOpen list ring stops fewest isExact shelves stopPlaces taken trial best out) [1, 2, 3, 4, 5, 6, 7, 8, 9, 10, 11, 12, 13, 14, 0] rfl
    have hD := hD.sub (ws' := lW a o cI cZ cJ places listed front turns fetched placeOf shelfAt isBlocked shelfOf_2 counts isOpen list ring stops fewest isExact shelves stopPlaces taken trial best out) [1, 2, 3, 4, 5, 6, 7, 8, 9, 10, 11, 12, 13, 14, 0] (by decide) rfl
    have hP : va_P D classes (lW a o cI cZ cJ places listed front turns fetched placeOf shelfAt isBlocked shelfOf_2 counts isOpen list ring stops fewest isExact shelves stopPlaces taken trial best out) H := hP
    have hD : va_D A (lW a o cI cZ cJ places listed front turns fetched placeOf shelfAt isBlocked shelfOf_2 counts isOpen list ring stops fewest isExact shelves stopPlaces taken trial best out) := hD
    rcases hw with ⟨e9, hw⟩ | ⟨e9, hw⟩ | ⟨e9, hw⟩ | ⟨e9, hw⟩
    · subst e9
      refine vx_catch (own := R_L) (name := "java/util/NoSuchElementException") (E := "java/util/NoSuchElementException") hown [] ⟨0, 10, 13, 13⟩ [⟨0, 10, 17, 15⟩, ⟨0, 10, 21, 17⟩, ⟨0, 10, 25, 19⟩] (by rw [hTab]; rfl) (fun z hz => nomatch hz) (by decide) (by decide) (hts _ (kM kw_2b9ca627)) (hZ.f (.castable "java/util/NoSuchElementException" "java/util/NoSuchElementException") (by decide +kernel)) hce hcv hcl ?_
      refine lv_astore (lv' := [(4, .ref q9), (0, .ref (a 0)), (1, .int x1), (2, .int x2), (3, .ref o)]) hx hb d_L_put_13 hl (by decide) rfl (fun ls hl => ?_)
      refine lv_iconst (v := (1 : Int32)) hx hb d_L_put_15 (by decide) ?_
      exact W.iret (v := (1 : Int32)) hx hb hr (fun t ht hW => ⟨⟨(1 : Int32), (shelfOf_2, out), rfl, hw, by rw [ht]; exact hP, va_K.moved hW.alike hK, hD⟩, hS.F ht⟩) hS.2.2 d_L_put_16
    · subst e9
      refine vx_catch (own := R_L) (name := "java/lang/IllegalArgumentException") (E := "java/lang/IllegalArgumentException") hown [⟨0, 10, 13, 13⟩] ⟨0, 10, 17, 15⟩ [⟨0, 10, 21, 17⟩, ⟨0, 10, 25, 19⟩] (by rw [hTab]; rfl) (List.forall_mem_cons.mpr ⟨Or.inr ⟨by decide, "java/util/NoSuchElementException", (hts _ (kM kw_2b9ca627)), hZ.c (by decide +kernel)⟩, fun z hz => nomatch hz⟩) (by decide) (by decide) (hts _ (kM kw_0cdcea8a)) (hZ.f (.castable "java/lang/IllegalArgumentException" "java/lang/IllegalArgumentException") (by decide +kernel)) hce hcv hcl ?_
      refine lv_astore (lv' := [(4, .ref q9), (0, .ref (a 0)), (1, .int x1), (2, .int x2), (3, .ref o)]) hx hb d_L_put_17 hl (by decide) rfl (fun ls hl => ?_)
      refine lv_iconst (v := (2 : Int32)) hx hb d_L_put_19 (by decide) ?_
      exact W.iret (v := (2 : Int32)) hx hb hr (fun t ht hW => ⟨⟨(2 : Int32), (shelfOf_2, out), rfl, hw, by rw [ht]; exact hP, va_K.moved hW.alike hK, hD⟩, hS.F ht⟩) hS.2.2 d_L_put_20
    · subst e9
      refine vx_catch (own := R_L) (name := "java/lang/IllegalStateException") (E := "java/lang/IllegalStateException") hown [⟨0, 10, 13, 13⟩, ⟨0, 10, 17, 15⟩] ⟨0, 10, 21, 17⟩ [⟨0, 10, 25, 19⟩] (by rw [hTab]; rfl) (List.forall_mem_cons.mpr ⟨Or.inr ⟨by decide, "java/util/NoSuchElementException", (hts _ (kM kw_2b9ca627)), hZ.c (by decide +kernel)⟩, List.forall_mem_cons.mpr ⟨Or.inr ⟨by decide, "java/lang/IllegalArgumentException", (hts _ (kM kw_0cdcea8a)), hZ.c (by decide +kernel)⟩, fun z hz => nomatch hz⟩⟩) (by decide) (by decide) (hts _ (kM kw_4844d534)) (hZ.f (.castable "java/lang/IllegalStateException" "java/lang/IllegalStateException") (by decide +kernel)) hce hcv hcl ?_
      refine lv_astore (lv' := [(4, .ref q9), (0, .ref (a 0)), (1, .int x1), (2, .int x2), (3, .ref o)]) hx hb d_L_put_21 hl (by decide) rfl (fun ls hl => ?_)
      refine lv_iconst (v := (3 : Int32)) hx hb d_L_put_23 (by decide) ?_
      exact W.iret (v := (3 : Int32)) hx hb hr (fun t ht hW => ⟨⟨(3 : Int32), (shelfOf_2, out), rfl, hw, by rw [ht]; exact hP, va_K.moved hW.alike hK, hD⟩, hS.F ht⟩) hS.2.2 d_L_put_24
    · subst e9
      refine vx_catch (own := R_L) (name := "java/lang/UnsupportedOperationException") (E := "java/lang/UnsupportedOperationException") hown [⟨0, 10, 13, 13⟩, ⟨0, 10, 17, 15⟩, ⟨0, 10, 21, 17⟩] ⟨0, 10, 25, 19⟩ [] (by rw [hTab]; rfl) (List.forall_mem_cons.mpr ⟨Or.inr ⟨by decide, "java/util/NoSuchElementException", (hts _ (kM kw_2b9ca627)), hZ.c (by decide +kernel)⟩, List.forall_mem_cons.mpr ⟨Or.inr ⟨by decide, "java/lang/IllegalArgumentException", (hts _ (kM kw_0cdcea8a)), hZ.c (by decide +kernel)⟩, List.forall_mem_cons.mpr ⟨Or.inr ⟨by decide, "java/lang/IllegalStateException", (hts _ (kM kw_4844d534)), hZ.c (by decide +kernel)⟩, fun z hz => nomatch hz⟩⟩⟩) (by decide) (by decide) (hts _ (kM kw_d0c12807)) (hZ.f (.castable "java/lang/UnsupportedOperationException" "java/lang/UnsupportedOperationException") (by decide +kernel)) hce hcv hcl ?_
      refine lv_astore (lv' := [(4, .ref q9), (0, .ref (a 0)), (1, .int x1), (2, .int x2), (3, .ref o)]) hx hb d_L_put_25 hl (by decide) rfl (fun ls hl => ?_)
      refine lv_iconst (v := (4 : Int32)) hx hb d_L_put_27 (by decide) ?_
      exact W.iret (v := (4 : Int32)) hx hb hr (fun t ht hW => ⟨⟨(4 : Int32), (shelfOf_2, out), rfl, hw, by rw [ht]; exact hP, va_K.moved hW.alike hK, hD⟩, hS.F ht⟩) hS.2.2 d_L_put_28
  · obtain ⟨shelfOf_2, rfl⟩ : ∃ z, z = u := ⟨_, rfl⟩
    obtain ⟨hP1, hK1, hD1⟩ := hB
    try dsimp only at hw hP1 hD1
    rw [ht] at hP1
    have hK1 := va_K.moved hvm.symm hK1
    obtain ⟨hP, hD⟩ := va_join (wr := [(o, .inl (cJ, 1, .inr (.inl out)))]) (w1 := cW a cI cZ places listed front turns fetched placeOf shelfAt isBlocked shelfOf_2 counts isOpen list ring stops fewest isExact shelves stopPlaces taken trial best) hP hD [0, 1, 2, 3, 4, 5, 6, 7, 8, 9, 10, 11, 12, 13] [14] rfl rfl (by decide) (by decide) hk1 hFc hP1 hD1
    generalize H1 = H at hP hS ⊢
    have hP := hP.sub (ws' := lW a o cI cZ cJ places listed front turns fetched placeOf shelfAt isBlocked shelfOf_2 counts isOpen list ring stops fewest isExact shelves stopPlaces taken trial best out) [1, 2, 3, 4, 5, 6, 7, 8, 9, 10, 11, 12, 13, 14, 0] rfl
    have hD := hD.sub (ws' := lW a o cI cZ cJ places listed front turns fetched placeOf shelfAt isBlocked shelfOf_2 counts isOpen list ring stops fewest isExact shelves stopPlaces taken trial best out) [1, 2, 3, 4, 5, 6, 7, 8, 9, 10, 11, 12, 13, 14, 0] (by decide) rfl
    have hP : va_P D classes (lW a o cI cZ cJ places listed front turns fetched placeOf shelfAt isBlocked shelfOf_2 counts isOpen list ring stops fewest isExact shelves stopPlaces taken trial best out) H := hP
    have hD : va_D A (lW a o cI cZ cJ places listed front turns fetched placeOf shelfAt isBlocked shelfOf_2 counts isOpen list ring stops fewest isExact shelves stopPlaces taken trial best out) := hD
    refine lv_i2l (v := (r_1).toInt64) hx hb d_L_put_8 rfl ?_
    obtain ⟨h_3, hw⟩ := hw
    refine va_last hx hb hK hP hD hS 14 2 rfl rfl h_3 d_L_put_9 (fun H locs hP hD hS => ?_)
    have hP : va_P D classes (lW a o cI cZ cJ places listed front turns fetched placeOf shelfAt isBlocked shelfOf_2 counts isOpen list ring stops fewest isExact shelves stopPlaces taken trial best (vp_updL out ((0 : Int32)).toNatClampNeg ((r_1).toInt64))) H := hP
    have hD : va_D A (lW a o cI cZ cJ places listed front turns fetched placeOf shelfAt isBlocked shelfOf_2 counts isOpen list ring stops fewest isExact shelves stopPlaces taken trial best (vp_updL out ((0 : Int32)).toNatClampNeg ((r_1).toInt64))) := hD
    refine lv_goto (tgt := 29) hx hb d_L_put_10 (by decide) ?_
    refine lv_iconst (v := (0 : Int32)) hx hb d_L_put_29 (by decide) ?_
    exact W.iret (v := (0 : Int32)) hx hb hr (fun t ht hW => ⟨⟨(0 : Int32), (shelfOf_2, (vp_updL out ((0 : Int32)).toNatClampNeg ((r_1).toInt64))), rfl, hw, by rw [ht]; exact hP, va_K.moved hW.alike hK, hD⟩, hS.F ht⟩) hS.2.2 d_L_put_30
def p_L_turn (x1 : Int32) (places : Int32) (front : Int32) (turns : Int32) (isOpen : Nat → Int32) (out : Nat → Int64) (post : Int32 → Int32 → Int32 → (Nat → Int64) → Prop) : Prop := (p_C_turn x1 places front turns isOpen (fun r_1 front_2 turns_3 => (vp_in (0 : Int32) 1 ∧ post (0 : Int32) front_2 turns_3 (vp_updL out ((0 : Int32)).toNatClampNeg ((r_1).toInt64)))) (fun E_5 front_2 turns_3 => ((E_5 = "java/lang/ArithmeticException" ∧ post (1 : Int32) front_2 turns_3 out) ∨ (E_5 = "java/lang/IllegalArgumentException" ∧ post (2 : Int32) front_2 turns_3 out) ∨ (E_5 = "java/lang/IllegalStateException" ∧ post (3 : Int32) front_2 turns_3 out))))
abbrev rm_L_turn : Room := { frames := 8, cells := 3, slots := 18, locals := 143 }
set_option maxHeartbeats 4000000 in
set_option maxRecDepth 100000 in
theorem c_L_turn {l : Launch} (hl9 : l.stackTraces = false) {D : va_G} {sa : Nat → Nat} {cI cZ : ClassId} {sz : Nat} {a : Nat → Nat} {o : Nat} {cJ : ClassId} {places : Int32} {listed : Int32} {front : Int32} {turns : Int32} {fetched : Int32} {placeOf : Nat → Int32} {shelfAt : Nat → Int32} {isBlocked : Nat → Int32} {shelfOf : Nat → Int32} {counts : Nat → Int32} {isOpen : Nat → Int32} {list : Nat → Int32} {ring : Int32} {stops : Int32} {fewest : Int32} {isExact : Int32} {shelves : Nat → Int32} {stopPlaces : Nat → Int32} {taken : Nat → Int32} {trial : Nat → Int32} {best : Nat → Int32} {out : Nat → Int64} {x1 : Int32} {post : Int32 → Int32 → Int32 → (Nat → Int64) → Prop} (hw : p_L_turn x1 places front turns isOpen out post) : Met l y_L_turn w_L_turn rm_L_turn (va_Pc [.ref (a 0), .int x1, .ref o] (kP D sa [(cI, .int), (cZ, .boolean), (cJ, .long)] (lW a o cI cZ cJ places listed front turns fetched placeOf shelfAt isBlocked shelfOf counts isOpen list ring stops fewest isExact shelves stopPlaces taken trial best out) sz)) (va_Qi (fun r (u : Int32 × Int32 × (Nat → Int64)) => post r u.1 u.2.1 u.2.2) (fun (u : Int32 × Int32 × (Nat → Int64)) t => va_P D classes (lW a o cI cZ cJ places listed u.1 u.2.1 fetched placeOf shelfAt isBlocked shelfOf counts isOpen list ring stops fewest isExact shelves stopPlaces taken trial best u.2.2) t.heap ∧ va_K D classes [(cI, .int), (cZ, .boolean), (cJ, .long)] t ∧ va_D (va_A (lW a o cI cZ cJ places listed front turns fetched placeOf shelfAt isBlocked shelfOf counts isOpen list ring stops fewest isExact shelves stopPlaces taken trial best out) sz) (lW a o cI cZ cJ places listed u.1 u.2.1 fetched placeOf shelfAt isBlocked shelfOf counts isOpen list ring stops fewest isExact shelves stopPlaces taken trial best u.2.2)) (va_A (lW a o cI cZ cJ places listed front turns fetched placeOf shelfAt isBlocked shelfOf counts isOpen list ring stops fewest isExact shelves stopPlaces taken trial best out) sz)) 3 18 (va_A (lW a o cI cZ cJ places listed front turns fetched placeOf shelfAt isBlocked shelfOf counts isOpen list ring stops fewest isExact shelves stopPlaces taken trial best out) sz) := by
  refine va_MetW (cc := b_L_turn) (maxL := 4) (ret := (some .int)) (hh := [(0, 9, 12, 25), (0, 9, 15, 15), (0, 9, 18, 17)]) (by decide) rfl ?_
  intro p e s m args below meth c s₁ B hml hv
  obtain ⟨rfl, hsz, hP, hK, hD0, hZ⟩ := hv
  have hx := B.exec
  have hb := B.bytes
  have hr := B.returns
  have hts := atoms_spec (ws := w_L_turn) B.pre
  have hown : s.vm.findClass R_L = some m.cls := findClass_of_methodNamed B.named
  have hlocks := B.notSynchronized
  have hTab : c.exceptionTable.toList = tableOf [(0, 9, 12, 25), (0, 9, 15, 15), (0, 9, 18, 17)] := vx_table (x := y_L_turn) B (hts _ List.mem_cons_self)
  subst hsz
  have hD := hD0.self (sz := s.heap.size)
  generalize hAe : (va_A (lW a o cI cZ cJ places listed front turns fetched placeOf shelfAt isBlocked shelfOf counts isOpen list ring stops fewest isExact shelves stopPlaces taken trial best out) s.heap.size) = A at hD hZ ⊢
  have hA : ∀ q : Nat, s.heap.size ≤ q → A q := fun q h => by rw [← hAe]; exact Or.inr h
  have hS : va_S A s.heap s.heap [] := va_S.rf
  have hl := lv_entry ([.ref (a 0), .int x1, .ref o]) (n := 4) (Nat.le_of_ble_eq_true rfl)
  rw [lg_entry_eq]
  generalize (lg_sl ([.ref (a 0), .int x1, .ref o]) ++ List.replicate (4 - (lg_sl ([.ref (a 0), .int x1, .ref o])).length) Slot.unset).toArray = ls at hl ⊢
  have hl : lv_has ls 4 [(0, .ref (a 0)), (1, .int x1), (2, .ref o)] := hl
  refine lv_aload_n hx hb d_L_turn_0 rfl (lv_at hl 2 rfl) ?_
  refine lv_iconst (v := (0 : Int32)) hx hb d_L_turn_1 (by decide) ?_
  refine lv_aload_n hx hb d_L_turn_2 rfl (lv_at hl 0 rfl) ?_
  refine lv_iload_n hx hb d_L_turn_3 rfl (lv_at hl 1 rfl) ?_
  have hPc := hP.sub (ws' := cW a cI cZ places listed front turns fetched placeOf shelfAt isBlocked shelfOf counts isOpen list ring stops fewest isExact shelves stopPlaces taken trial best) [0, 1, 2, 3, 4, 5, 6, 7, 8, 9, 10, 11, 12, 13] rfl
  have hDc := hD.sub (ws' := cW a cI cZ places listed front turns fetched placeOf shelfAt isBlocked shelfOf counts isOpen list ring stops fewest isExact shelves stopPlaces taken trial best) [0, 1, 2, 3, 4, 5, 6, 7, 8, 9, 10, 11, 12, 13] (by decide) rfl
  have hFc := va_free (wc := cW a cI cZ places listed front turns fetched placeOf shelfAt isBlocked shelfOf counts isOpen list ring stops fewest isExact shelves stopPlaces taken trial best) hD hS hA [0, 1, 2, 3, 4, 5, 6, 7, 8, 9, 10, 11, 12, 13] rfl
  have hKc : va_K D classes [(cI, .int), (cZ, .boolean)] s := hK.sub [0, 1] rfl
  refine vx_calli (vx_runV (As := [.int x1]) (rest := [.int (0 : Int32), .ref o]) ⟨hx, hb, hml, hown, hts⟩ (c_C_turn hl9 hw) (cwV 1 hts (gV k_C_turn kw_060ec2cf kw_4d7ce175 kw_ca9069d5 kw_91859716) rfl rfl rfl (by decide +kernel) ⟨(Nat.le_of_ble_eq_true rfl), (Nat.le_of_ble_eq_true rfl)⟩) ⟨kP.blind, va_recv hK hPc (ci := 0) (q0 := 0) rfl rfl, kP.of hKc hPc hDc hZ hS hFc⟩ rfl rfl hl.1 rfl (lv_room (Nat.le_of_ble_eq_true rfl)) d_L_turn_4 ⟨(Nat.le_of_ble_eq_true rfl), (Nat.le_of_ble_eq_true rfl)⟩) hS (fun q _ h => hFc q h) hFc (fun q _ h => hFc q h) (fun E9 ce q9 u t H1 locs ht hvm hw hB hz1 hk1 hS hce hcv hcl => ?_) (fun r_1 u t H1 locs ht hvm hw hB hz1 hk1 hS => ?_)
  · obtain ⟨E_5, front_2, turns_3⟩ := u
    obtain ⟨hE9, hP1, hK1, hD1⟩ := hB
    try dsimp only at hw hP1 hD1 hE9
    subst hE9
    rw [ht] at hP1
    have hK1 := va_K.moved hvm.symm hK1
    obtain ⟨hP, hD⟩ := va_join (wr := [(o, .inl (cJ, 1, .inr (.inl out)))]) (w1 := cW a cI cZ places listed front_2 turns_3 fetched placeOf shelfAt isBlocked shelfOf counts isOpen list ring stops fewest isExact shelves stopPlaces taken trial best) hP hD [0, 1, 2, 3, 4, 5, 6, 7, 8, 9, 10, 11, 12, 13] [14] rfl rfl (by decide) (by decide) hk1 hFc hP1 hD1
    generalize H1 = H at hP hS hce ⊢
    have hP := hP.sub (ws' := lW a o cI cZ cJ places listed front_2 turns_3 fetched placeOf shelfAt isBlocked shelfOf counts isOpen list ring stops fewest isExact shelves stopPlaces taken trial best out) [1, 2, 3, 4, 5, 6, 7, 8, 9, 10, 11, 12, 13, 14, 0] rfl
    have hD := hD.sub (ws' := lW a o cI cZ cJ places listed front_2 turns_3 fetched placeOf shelfAt isBlocked shelfOf counts isOpen list ring stops fewest isExact shelves stopPlaces taken trial best out) [1, 2, 3, 4, 5, 6, 7, 8, 9, 10, 11, 12, 13, 14, 0] (by decide) rfl
    have hP : va_P D classes (lW a o cI cZ cJ places listed front_2 turns_3 fetched placeOf shelfAt isBlocked shelfOf counts isOpen list ring stops fewest isExact shelves stopPlaces taken trial best out) H := hP
    have hD : va_D A (lW a o cI cZ cJ places listed front_2 turns_3 fetched placeOf shelfAt isBlocked shelfOf counts isOpen list ring stops fewest isExact shelves stopPlaces taken trial best out) := hD
    rcases hw with ⟨e9, hw⟩ | ⟨e9, hw⟩ | ⟨e9, hw⟩
    · subst e9
      refine vx_catch (own := R_L) (name := "java/lang/ArithmeticException") (E := "java/lang/ArithmeticException") hown [] ⟨0, 9, 12, 25⟩ [⟨0, 9, 15, 15⟩, ⟨0, 9, 18, 17⟩] (by rw [hTab]; rfl) (fun z hz => nomatch hz) (by decide) (by decide) (hts _ (kM kw_552ab218)) (hZ.f (.castable "java/lang/ArithmeticException" "java/lang/ArithmeticException") (by decide +kernel)) hce hcv hcl ?_
      refine lv_astore_n (lv' := [(3, .ref q9), (0, .ref (a 0)), (1, .int x1), (2, .ref o)]) hx hb d_L_turn_12 rfl hl (by decide) rfl (fun ls hl => ?_)
      refine lv_iconst (v := (1 : Int32)) hx hb d_L_turn_13 (by decide) ?_
      exact W.iret (v := (1 : Int32)) hx hb hr (fun t ht hW => ⟨⟨(1 : Int32), (front_2, turns_3, out), rfl, hw, by rw [ht]; exact hP, va_K.moved hW.alike hK, hD⟩, hS.F ht⟩) hS.2.2 d_L_turn_14
    · subst e9
      refine vx_catch (own := R_L) (name := "java/lang/IllegalArgumentException") (E := "java/lang/IllegalArgumentException") hown [⟨0, 9, 12, 25⟩] ⟨0, 9, 15, 15⟩ [⟨0, 9, 18, 17⟩] (by rw [hTab]; rfl) (List.forall_mem_cons.mpr ⟨Or.inr ⟨by decide, "java/lang/ArithmeticException", (hts _ (kM kw_552ab218)), hZ.c (by decide +kernel)⟩, fun z hz => nomatch hz⟩) (by decide) (by decide) (hts _ (kM kw_0cdcea8a)) (hZ.f (.castable "java/lang/IllegalArgumentException" "java/lang/IllegalArgumentException") (by decide +kernel)) hce hcv hcl ?_
      refine lv_astore_n (lv' := [(3, .ref q9), (0, .ref (a 0)), (1, .int x1), (2, .ref o)]) hx hb d_L_turn_15 rfl hl (by decide) rfl (fun ls hl => ?_)
      refine lv_iconst (v := (2 : Int32)) hx hb d_L_turn_16 (by decide) ?_
      exact W.iret (v := (2 : Int32)) hx hb hr (fun t ht hW => ⟨⟨(2 : Int32), (front_2, turns_3, out), rfl, hw, by rw [ht]; exact hP, va_K.moved hW.alike hK, hD⟩, hS.F ht⟩) hS.2.2 d_L_turn_17
    · subst e9
      refine vx_catch (own := R_L) (name := "java/lang/IllegalStateException") (E := "java/lang/IllegalStateException") hown [⟨0, 9, 12, 25⟩, ⟨0, 9, 15, 15⟩] ⟨0, 9, 18, 17⟩ [] (by rw [hTab]; rfl) (List.forall_mem_cons.mpr ⟨Or.inr ⟨by decide, "java/lang/ArithmeticException", (hts _ (kM kw_552ab218)), hZ.c (by decide +kernel)⟩, List.forall_mem_cons.mpr ⟨Or.inr ⟨by decide, "java/lang/IllegalArgumentException", (hts _ (kM kw_0cdcea8a)), hZ.c (by decide +kernel)⟩, fun z hz => nomatch hz⟩⟩) (by decide) (by decide) (hts _ (kM kw_4844d534)) (hZ.f (.castable "java/lang/IllegalStateException" "java/lang/IllegalStateException") (by decide +kernel)) hce hcv hcl ?_
      refine lv_astore_n (lv' := [(3, .ref q9), (0, .ref (a 0)), (1, .int x1), (2, .ref o)]) hx hb d_L_turn_18 rfl hl (by decide) rfl (fun ls hl => ?_)
      refine lv_iconst (v := (3 : Int32)) hx hb d_L_turn_19 (by decide) ?_
      exact W.iret (v := (3 : Int32)) hx hb hr (fun t ht hW => ⟨⟨(3 : Int32), (front_2, turns_3, out), rfl, hw, by rw [ht]; exact hP, va_K.moved hW.alike hK, hD⟩, hS.F ht⟩) hS.2.2 d_L_turn_20
  · obtain ⟨front_2, turns_3⟩ := u
    obtain ⟨hP1, hK1, hD1⟩ := hB
    try dsimp only at hw hP1 hD1
    rw [ht] at hP1
    have hK1 := va_K.moved hvm.symm hK1
    obtain ⟨hP, hD⟩ := va_join (wr := [(o, .inl (cJ, 1, .inr (.inl out)))]) (w1 := cW a cI cZ places listed front_2 turns_3 fetched placeOf shelfAt isBlocked shelfOf counts isOpen list ring stops fewest isExact shelves stopPlaces taken trial best) hP hD [0, 1, 2, 3, 4, 5, 6, 7, 8, 9, 10, 11, 12, 13] [14] rfl rfl (by decide) (by decide) hk1 hFc hP1 hD1
    generalize H1 = H at hP hS ⊢
    have hP := hP.sub (ws' := lW a o cI cZ cJ places listed front_2 turns_3 fetched placeOf shelfAt isBlocked shelfOf counts isOpen list ring stops fewest isExact shelves stopPlaces taken trial best out) [1, 2, 3, 4, 5, 6, 7, 8, 9, 10, 11, 12, 13, 14, 0] rfl
    have hD := hD.sub (ws' := lW a o cI cZ cJ places listed front_2 turns_3 fetched placeOf shelfAt isBlocked shelfOf counts isOpen list ring stops fewest isExact shelves stopPlaces taken trial best out) [1, 2, 3, 4, 5, 6, 7, 8, 9, 10, 11, 12, 13, 14, 0] (by decide) rfl
    have hP : va_P D classes (lW a o cI cZ cJ places listed front_2 turns_3 fetched placeOf shelfAt isBlocked shelfOf counts isOpen list ring stops fewest isExact shelves stopPlaces taken trial best out) H := hP
    have hD : va_D A (lW a o cI cZ cJ places listed front_2 turns_3 fetched placeOf shelfAt isBlocked shelfOf counts isOpen list ring stops fewest isExact shelves stopPlaces taken trial best out) := hD
    refine lv_i2l (v := (r_1).toInt64) hx hb d_L_turn_7 rfl ?_
    obtain ⟨h_4, hw⟩ := hw
    refine va_last hx hb hK hP hD hS 14 2 rfl rfl h_4 d_L_turn_8 (fun H locs hP hD hS => ?_)
    have hP : va_P D classes (lW a o cI cZ cJ places listed front_2 turns_3 fetched placeOf shelfAt isBlocked shelfOf counts isOpen list ring stops fewest isExact shelves stopPlaces taken trial best (vp_updL out ((0 : Int32)).toNatClampNeg ((r_1).toInt64))) H := hP
    have hD : va_D A (lW a o cI cZ cJ places listed front_2 turns_3 fetched placeOf shelfAt isBlocked shelfOf counts isOpen list ring stops fewest isExact shelves stopPlaces taken trial best (vp_updL out ((0 : Int32)).toNatClampNeg ((r_1).toInt64))) := hD
    refine lv_goto (tgt := 21) hx hb d_L_turn_9 (by decide) ?_
    refine lv_iconst (v := (0 : Int32)) hx hb d_L_turn_21 (by decide) ?_
    exact W.iret (v := (0 : Int32)) hx hb hr (fun t ht hW => ⟨⟨(0 : Int32), (front_2, turns_3, (vp_updL out ((0 : Int32)).toNatClampNeg ((r_1).toInt64))), rfl, hw, by rw [ht]; exact hP, va_K.moved hW.alike hK, hD⟩, hS.F ht⟩) hS.2.2 d_L_turn_22
def p_L_want (x1 : Int32) (places : Int32) (listed : Int32) (isBlocked : Nat → Int32) (shelfOf : Nat → Int32) (list : Nat → Int32) (out : Nat → Int64) (post : Int32 → Int32 → (Nat → Int32) → (Nat → Int64) → Prop) : Prop := (p_C_want x1 places listed isBlocked shelfOf list (fun r_1 listed_2 list_3 => (vp_in (0 : Int32) 1 ∧ post (0 : Int32) listed_2 list_3 (vp_updL out ((0 : Int32)).toNatClampNeg ((r_1).toInt64)))) (fun E_5 listed_2 list_3 => ((E_5 = "java/lang/IllegalArgumentException" ∧ post (1 : Int32) listed_2 list_3 out) ∨ (E_5 = "java/lang/IllegalStateException" ∧ post (2 : Int32) listed_2 list_3 out) ∨ (E_5 = "java/lang/UnsupportedOperationException" ∧ post (3 : Int32) listed_2 list_3 out))))
abbrev rm_L_want : Room := { frames := 8, cells := 4, slots := 24, locals := 141 }
set_option maxHeartbeats 4000000 in
set_option maxRecDepth 100000 in
theorem c_L_want {l : Launch} (hl9 : l.stackTraces = false) {D : va_G} {sa : Nat → Nat} {cI cZ : ClassId} {sz : Nat} {a : Nat → Nat} {o : Nat} {cJ : ClassId} {places : Int32} {listed : Int32} {front : Int32} {turns : Int32} {fetched : Int32} {placeOf : Nat → Int32} {shelfAt : Nat → Int32} {isBlocked : Nat → Int32} {shelfOf : Nat → Int32} {counts : Nat → Int32} {isOpen : Nat → Int32} {list : Nat → Int32} {ring : Int32} {stops : Int32} {fewest : Int32} {isExact : Int32} {shelves : Nat → Int32} {stopPlaces : Nat → Int32} {taken : Nat → Int32} {trial : Nat → Int32} {best : Nat → Int32} {out : Nat → Int64} {x1 : Int32} {post : Int32 → Int32 → (Nat → Int32) → (Nat → Int64) → Prop} (hw : p_L_want x1 places listed isBlocked shelfOf list out post) : Met l y_L_want w_L_want rm_L_want (va_Pc [.ref (a 0), .int x1, .ref o] (kP D sa [(cI, .int), (cZ, .boolean), (cJ, .long)] (lW a o cI cZ cJ places listed front turns fetched placeOf shelfAt isBlocked shelfOf counts isOpen list ring stops fewest isExact shelves stopPlaces taken trial best out) sz)) (va_Qi (fun r (u : Int32 × (Nat → Int32) × (Nat → Int64)) => post r u.1 u.2.1 u.2.2) (fun (u : Int32 × (Nat → Int32) × (Nat → Int64)) t => va_P D classes (lW a o cI cZ cJ places u.1 front turns fetched placeOf shelfAt isBlocked shelfOf counts isOpen u.2.1 ring stops fewest isExact shelves stopPlaces taken trial best u.2.2) t.heap ∧ va_K D classes [(cI, .int), (cZ, .boolean), (cJ, .long)] t ∧ va_D (va_A (lW a o cI cZ cJ places listed front turns fetched placeOf shelfAt isBlocked shelfOf counts isOpen list ring stops fewest isExact shelves stopPlaces taken trial best out) sz) (lW a o cI cZ cJ places u.1 front turns fetched placeOf shelfAt isBlocked shelfOf counts isOpen u.2.1 ring stops fewest isExact shelves stopPlaces taken trial best u.2.2)) (va_A (lW a o cI cZ cJ places listed front turns fetched placeOf shelfAt isBlocked shelfOf counts isOpen list ring stops fewest isExact shelves stopPlaces taken trial best out) sz)) 4 24 (va_A (lW a o cI cZ cJ places listed front turns fetched placeOf shelfAt isBlocked shelfOf counts isOpen list ring stops fewest isExact shelves stopPlaces taken trial best out) sz) := by
  refine va_MetW (cc := b_L_want) (maxL := 4) (ret := (some .int)) (hh := [(0, 9, 12, 15), (0, 9, 15, 17), (0, 9, 18, 19)]) (by decide) rfl ?_
  intro p e s m args below meth c s₁ B hml hv
  obtain ⟨rfl, hsz, hP, hK, hD0, hZ⟩ := hv
  have hx := B.exec
  have hb := B.bytes
  have hr := B.returns
  have hts := atoms_spec (ws := w_L_want) B.pre
  have hown : s.vm.findClass R_L = some m.cls := findClass_of_methodNamed B.named
  have hlocks := B.notSynchronized
  have hTab : c.exceptionTable.toList = tableOf [(0, 9, 12, 15), (0, 9, 15, 17), (0, 9, 18, 19)] := vx_table (x := y_L_want) B (hts _ List.mem_cons_self)
  subst hsz
  have hD := hD0.self (sz := s.heap.size)
  generalize hAe : (va_A (lW a o cI cZ cJ places listed front turns fetched placeOf shelfAt isBlocked shelfOf counts isOpen list ring stops fewest isExact shelves stopPlaces taken trial best out) s.heap.size) = A at hD hZ ⊢
  have hA : ∀ q : Nat, s.heap.size ≤ q → A q := fun q h => by rw [← hAe]; exact Or.inr h
  have hS : va_S A s.heap s.heap [] := va_S.rf
  have hl := lv_entry ([.ref (a 0), .int x1, .ref o]) (n := 4) (Nat.le_of_ble_eq_true rfl)
  rw [lg_entry_eq]
  generalize (lg_sl ([.ref (a 0), .int x1, .ref o]) ++ List.replicate (4 - (lg_sl ([.ref (a 0), .int x1, .ref o])).length) Slot.unset).toArray = ls at hl ⊢
  have hl : lv_has ls 4 [(0, .ref (a 0)), (1, .int x1), (2, .ref o)] := hl
  refine lv_aload_n hx hb d_L_want_0 rfl (lv_at hl 2 rfl) ?_
  refine lv_iconst (v := (0 : Int32)) hx hb d_L_want_1 (by decide) ?_
  refine lv_aload_n hx hb d_L_want_2 rfl (lv_at hl 0 rfl) ?_
  refine lv_iload_n hx hb d_L_want_3 rfl (lv_at hl 1 rfl) ?_
  have hPc := hP.sub (ws' := cW a cI cZ places listed front turns fetched placeOf shelfAt isBlocked shelfOf counts isOpen list ring stops fewest isExact shelves stopPlaces taken trial best) [0, 1, 2, 3, 4, 5, 6, 7, 8, 9, 10, 11, 12, 13] rfl
  have hDc := hD.sub (ws' := cW a cI cZ places listed front turns fetched placeOf shelfAt isBlocked shelfOf counts isOpen list ring stops fewest isExact shelves stopPlaces taken trial best) [0, 1, 2, 3, 4, 5, 6, 7, 8, 9, 10, 11, 12, 13] (by decide) rfl
  have hFc := va_free (wc := cW a cI cZ places listed front turns fetched placeOf shelfAt isBlocked shelfOf counts isOpen list ring stops fewest isExact shelves stopPlaces taken trial best) hD hS hA [0, 1, 2, 3, 4, 5, 6, 7, 8, 9, 10, 11, 12, 13] rfl
  have hKc : va_K D classes [(cI, .int), (cZ, .boolean)] s := hK.sub [0, 1] rfl
  refine vx_calli (vx_runV (As := [.int x1]) (rest := [.int (0 : Int32), .ref o]) ⟨hx, hb, hml, hown, hts⟩ (c_C_want hl9 hw) (cwV 1 hts (gV k_C_want kw_11d20121 kw_c791f25b kw_64c94df4 kw_91859716) rfl rfl rfl (by decide +kernel) ⟨(Nat.le_of_ble_eq_true rfl), (Nat.le_of_ble_eq_true rfl)⟩) ⟨kP.blind, va_recv hK hPc (ci := 0) (q0 := 0) rfl rfl, kP.of hKc hPc hDc hZ hS hFc⟩ rfl rfl hl.1 rfl (lv_room (Nat.le_of_ble_eq_true rfl)) d_L_want_4 ⟨(Nat.le_of_ble_eq_true rfl), (Nat.le_of_ble_eq_true rfl)⟩) hS (fun q _ h => hFc q h) hFc (fun q _ h => hFc q h) (fun E9 ce q9 u t H1 locs ht hvm hw hB hz1 hk1 hS hce hcv hcl => ?_) (fun r_1 u t H1 locs ht hvm hw hB hz1 hk1 hS => ?_)
  · obtain ⟨E_5, listed_2, list_3⟩ := u
    obtain ⟨hE9, hP1, hK1, hD1⟩ := hB
    try dsimp only at hw hP1 hD1 hE9
    subst hE9
    rw [ht] at hP1
    have hK1 := va_K.moved hvm.symm hK1
    obtain ⟨hP, hD⟩ := va_join (wr := [(o, .inl (cJ, 1, .inr (.inl out)))]) (w1 := cW a cI cZ places listed_2 front turns fetched placeOf shelfAt isBlocked shelfOf counts isOpen list_3 ring stops fewest isExact shelves stopPlaces taken trial best) hP hD [0, 1, 2, 3, 4, 5, 6, 7, 8, 9, 10, 11, 12, 13] [14] rfl rfl (by decide) (by decide) hk1 hFc hP1 hD1
    generalize H1 = H at hP hS hce ⊢
    have hP := hP.sub (ws' := lW a o cI cZ cJ places listed_2 front turns fetched placeOf shelfAt isBlocked shelfOf counts isOpen list_3 ring stops fewest isExact shelves stopPlaces taken trial best out) [1, 2, 3, 4, 5, 6, 7, 8, 9, 10, 11, 12, 13, 14, 0] rfl
    have hD := hD.sub (ws' := lW a o cI cZ cJ places listed_2 front turns fetched placeOf shelfAt isBlocked shelfOf counts isOpen list_3 ring stops fewest isExact shelves stopPlaces taken trial best out) [1, 2, 3, 4, 5, 6, 7, 8, 9, 10, 11, 12, 13, 14, 0] (by decide) rfl
    have hP : va_P D classes (lW a o cI cZ cJ places listed_2 front turns fetched placeOf shelfAt isBlocked shelfOf counts isOpen list_3 ring stops fewest isExact shelves stopPlaces taken trial best out) H := hP
    have hD : va_D A (lW a o cI cZ cJ places listed_2 front turns fetched placeOf shelfAt isBlocked shelfOf counts isOpen list_3 ring stops fewest isExact shelves stopPlaces taken trial best out) := hD
    rcases hw with ⟨e9, hw⟩ | ⟨e9, hw⟩ | ⟨e9, hw⟩
    · subst e9
      refine vx_catch (own := R_L) (name := "java/lang/IllegalArgumentException") (E := "java/lang/IllegalArgumentException") hown [] ⟨0, 9, 12, 15⟩ [⟨0, 9, 15, 17⟩, ⟨0, 9, 18, 19⟩] (by rw [hTab]; rfl) (fun z hz => nomatch hz) (by decide) (by decide) (hts _ (kM kw_0cdcea8a)) (hZ.f (.castable "java/lang/IllegalArgumentException" "java/lang/IllegalArgumentException") (by decide +kernel)) hce hcv hcl ?_
      refine lv_astore_n (lv' := [(3, .ref q9), (0, .ref (a 0)), (1, .int x1), (2, .ref o)]) hx hb d_L_want_12 rfl hl (by decide) rfl (fun ls hl => ?_)
      refine lv_iconst (v := (1 : Int32)) hx hb d_L_want_13 (by decide) ?_
      exact W.iret (v := (1 : Int32)) hx hb hr (fun t ht hW => ⟨⟨(1 : Int32), (listed_2, list_3, out), rfl, hw, by rw [ht]; exact hP, va_K.moved hW.alike hK, hD⟩, hS.F ht⟩) hS.2.2 d_L_want_14
    · subst e9
      refine vx_catch (own := R_L) (name := "java/lang/IllegalStateException") (E := "java/lang/IllegalStateException") hown [⟨0, 9, 12, 15⟩] ⟨0, 9, 15, 17⟩ [⟨0, 9, 18, 19⟩] (by rw [hTab]; rfl) (List.forall_mem_cons.mpr ⟨Or.inr ⟨by decide, "java/lang/IllegalArgumentException", (hts _ (kM kw_0cdcea8a)), hZ.c (by decide +kernel)⟩, fun z hz => nomatch hz⟩) (by decide) (by decide) (hts _ (kM kw_4844d534)) (hZ.f (.castable "java/lang/IllegalStateException" "java/lang/IllegalStateException") (by decide +kernel)) hce hcv hcl ?_
      refine lv_astore_n (lv' := [(3, .ref q9), (0, .ref (a 0)), (1, .int x1), (2, .ref o)]) hx hb d_L_want_15 rfl hl (by decide) rfl (fun ls hl => ?_)
      refine lv_iconst (v := (2 : Int32)) hx hb d_L_want_16 (by decide) ?_
      exact W.iret (v := (2 : Int32)) hx hb hr (fun t ht hW => ⟨⟨(2 : Int32), (listed_2, list_3, out), rfl, hw, by rw [ht]; exact hP, va_K.moved hW.alike hK, hD⟩, hS.F ht⟩) hS.2.2 d_L_want_17
    · subst e9
      refine vx_catch (own := R_L) (name := "java/lang/UnsupportedOperationException") (E := "java/lang/UnsupportedOperationException") hown [⟨0, 9, 12, 15⟩, ⟨0, 9, 15, 17⟩] ⟨0, 9, 18, 19⟩ [] (by rw [hTab]; rfl) (List.forall_mem_cons.mpr ⟨Or.inr ⟨by decide, "java/lang/IllegalArgumentException", (hts _ (kM kw_0cdcea8a)), hZ.c (by decide +kernel)⟩, List.forall_mem_cons.mpr ⟨Or.inr ⟨by decide, "java/lang/IllegalStateException", (hts _ (kM kw_4844d534)), hZ.c (by decide +kernel)⟩, fun z hz => nomatch hz⟩⟩) (by decide) (by decide) (hts _ (kM kw_d0c12807)) (hZ.f (.castable "java/lang/UnsupportedOperationException" "java/lang/UnsupportedOperationException") (by decide +kernel)) hce hcv hcl ?_
      refine lv_astore_n (lv' := [(3, .ref q9), (0, .ref (a 0)), (1, .int x1), (2, .ref o)]) hx hb d_L_want_18 rfl hl (by decide) rfl (fun ls hl => ?_)
      refine lv_iconst (v := (3 : Int32)) hx hb d_L_want_19 (by decide) ?_
      exact W.iret (v := (3 : Int32)) hx hb hr (fun t ht hW => ⟨⟨(3 : Int32), (listed_2, list_3, out), rfl, hw, by rw [ht]; exact hP, va_K.moved hW.alike hK, hD⟩, hS.F ht⟩) hS.2.2 d_L_want_20
  · obtain ⟨listed_2, list_3⟩ := u
    obtain ⟨hP1, hK1, hD1⟩ := hB
    try dsimp only at hw hP1 hD1
    rw [ht] at hP1
    have hK1 := va_K.moved hvm.symm hK1
    obtain ⟨hP, hD⟩ := va_join (wr := [(o, .inl (cJ, 1, .inr (.inl out)))]) (w1 := cW a cI cZ places listed_2 front turns fetched placeOf shelfAt isBlocked shelfOf counts isOpen list_3 ring stops fewest isExact shelves stopPlaces taken trial best) hP hD [0, 1, 2, 3, 4, 5, 6, 7, 8, 9, 10, 11, 12, 13] [14] rfl rfl (by decide) (by decide) hk1 hFc hP1 hD1
    generalize H1 = H at hP hS ⊢
    have hP := hP.sub (ws' := lW a o cI cZ cJ places listed_2 front turns fetched placeOf shelfAt isBlocked shelfOf counts isOpen list_3 ring stops fewest isExact shelves stopPlaces taken trial best out) [1, 2, 3, 4, 5, 6, 7, 8, 9, 10, 11, 12, 13, 14, 0] rfl
    have hD := hD.sub (ws' := lW a o cI cZ cJ places listed_2 front turns fetched placeOf shelfAt isBlocked shelfOf counts isOpen list_3 ring stops fewest isExact shelves stopPlaces taken trial best out) [1, 2, 3, 4, 5, 6, 7, 8, 9, 10, 11, 12, 13, 14, 0] (by decide) rfl
    have hP : va_P D classes (lW a o cI cZ cJ places listed_2 front turns fetched placeOf shelfAt isBlocked shelfOf counts isOpen list_3 ring stops fewest isExact shelves stopPlaces taken trial best out) H := hP
    have hD : va_D A (lW a o cI cZ cJ places listed_2 front turns fetched placeOf shelfAt isBlocked shelfOf counts isOpen list_3 ring stops fewest isExact shelves stopPlaces taken trial best out) := hD
    refine lv_i2l (v := (r_1).toInt64) hx hb d_L_want_7 rfl ?_
    obtain ⟨h_4, hw⟩ := hw
    refine va_last hx hb hK hP hD hS 14 2 rfl rfl h_4 d_L_want_8 (fun H locs hP hD hS => ?_)
    have hP : va_P D classes (lW a o cI cZ cJ places listed_2 front turns fetched placeOf shelfAt isBlocked shelfOf counts isOpen list_3 ring stops fewest isExact shelves stopPlaces taken trial best (vp_updL out ((0 : Int32)).toNatClampNeg ((r_1).toInt64))) H := hP
    have hD : va_D A (lW a o cI cZ cJ places listed_2 front turns fetched placeOf shelfAt isBlocked shelfOf counts isOpen list_3 ring stops fewest isExact shelves stopPlaces taken trial best (vp_updL out ((0 : Int32)).toNatClampNeg ((r_1).toInt64))) := hD
    refine lv_goto (tgt := 21) hx hb d_L_want_9 (by decide) ?_
    refine lv_iconst (v := (0 : Int32)) hx hb d_L_want_21 (by decide) ?_
    exact W.iret (v := (0 : Int32)) hx hb hr (fun t ht hW => ⟨⟨(0 : Int32), (listed_2, list_3, (vp_updL out ((0 : Int32)).toNatClampNeg ((r_1).toInt64))), rfl, hw, by rw [ht]; exact hP, va_K.moved hW.alike hK, hD⟩, hS.F ht⟩) hS.2.2 d_L_want_22
def p_L_plan (x1 : Int32) (places : Int32) (listed : Int32) (front : Int32) (placeOf : Nat → Int32) (isBlocked : Nat → Int32) (shelfOf : Nat → Int32) (list : Nat → Int32) (ring : Int32) (stops : Int32) (fewest : Int32) (isExact : Int32) (shelves : Nat → Int32) (stopPlaces : Nat → Int32) (taken : Nat → Int32) (trial : Nat → Int32) (best : Nat → Int32) (out : Nat → Int64) (post : Int32 → Int32 → Int32 → Int32 → (Nat → Int32) → (Nat → Int32) → (Nat → Int32) → (Nat → Int32) → (Nat → Int32) → (Nat → Int64) → Prop) : Prop := (p_C_plan x1 places listed front placeOf isBlocked shelfOf list ring stops fewest isExact shelves stopPlaces taken trial best (fun r_1 stops_2 fewest_3 isExact_4 shelves_5 stopPlaces_6 taken_7 trial_8 best_9 => (vp_in (0 : Int32) 1 ∧ post (0 : Int32) stops_2 fewest_3 isExact_4 shelves_5 stopPlaces_6 taken_7 trial_8 best_9 (vp_updL out ((0 : Int32)).toNatClampNeg ((r_1).toInt64)))) (fun E_11 stops_2 fewest_3 isExact_4 shelves_5 stopPlaces_6 taken_7 trial_8 best_9 => ((E_11 = "java/lang/IllegalArgumentException" ∧ post (1 : Int32) stops_2 fewest_3 isExact_4 shelves_5 stopPlaces_6 taken_7 trial_8 best_9 out) ∨ (E_11 = "java/lang/IllegalStateException" ∧ post (2 : Int32) stops_2 fewest_3 isExact_4 shelves_5 stopPlaces_6 taken_7 trial_8 best_9 out))))
abbrev rm_L_plan : Room := { frames := 13, cells := 2, slots := 12, locals := 451 }
set_option maxHeartbeats 4000000 in
set_option maxRecDepth 100000 in
theorem c_L_plan {l : Launch} (hl9 : l.stackTraces = false) {D : va_G} {sa : Nat → Nat} {cI cZ : ClassId} {sz : Nat} {a : Nat → Nat} {o : Nat} {cJ : ClassId} {places : Int32} {listed : Int32} {front : Int32} {turns : Int32} {fetched : Int32} {placeOf : Nat → Int32} {shelfAt : Nat → Int32} {isBlocked : Nat → Int32} {shelfOf : Nat → Int32} {counts : Nat → Int32} {isOpen : Nat → Int32} {list : Nat → Int32} {ring : Int32} {stops : Int32} {fewest : Int32} {isExact : Int32} {shelves : Nat → Int32} {stopPlaces : Nat → Int32} {taken : Nat → Int32} {trial : Nat → Int32} {best : Nat → Int32} {out : Nat → Int64} {x1 : Int32} {post : Int32 → Int32 → Int32 → Int32 → (Nat → Int32) → (Nat → Int32) → (Nat → Int32) → (Nat → Int32) → (Nat → Int32) → (Nat → Int64) → Prop} (hw : p_L_plan x1 places listed front placeOf isBlocked shelfOf list ring stops fewest isExact shelves stopPlaces taken trial best out post) : Met l y_L_plan w_L_plan rm_L_plan (va_Pc [.ref (a 0), .int x1, .ref o] (kP D sa [(cI, .int), (cZ, .boolean), (cJ, .long)] (lW a o cI cZ cJ places listed front turns fetched placeOf shelfAt isBlocked shelfOf counts isOpen list ring stops fewest isExact shelves stopPlaces taken trial best out) sz)) (va_Qi (fun r (u : Int32 × Int32 × Int32 × (Nat → Int32) × (Nat → Int32) × (Nat → Int32) × (Nat → Int32) × (Nat → Int32) × (Nat → Int64)) => post r u.1 u.2.1 u.2.2.1 u.2.2.2.1 u.2.2.2.2.1 u.2.2.2.2.2.1 u.2.2.2.2.2.2.1 u.2.2.2.2.2.2.2.1 u.2.2.2.2.2.2.2.2) (fun (u : Int32 × Int32 × Int32 × (Nat → Int32) × (Nat → Int32) × (Nat → Int32) × (Nat → Int32) × (Nat → Int32) × (Nat → Int64)) t => va_P D classes (lW a o cI cZ cJ places listed front turns fetched placeOf shelfAt isBlocked shelfOf counts isOpen list ring u.1 u.2.1 u.2.2.1 u.2.2.2.1 u.2.2.2.2.1 u.2.2.2.2.2.1 u.2.2.2.2.2.2.1 u.2.2.2.2.2.2.2.1 u.2.2.2.2.2.2.2.2) t.heap ∧ va_K D classes [(cI, .int), (cZ, .boolean), (cJ, .long)] t ∧ va_D (va_A (lW a o cI cZ cJ places listed front turns fetched placeOf shelfAt isBlocked shelfOf counts isOpen list ring stops fewest isExact shelves stopPlaces taken trial best out) sz) (lW a o cI cZ cJ places listed front turns fetched placeOf shelfAt isBlocked shelfOf counts isOpen list ring u.1 u.2.1 u.2.2.1 u.2.2.2.1 u.2.2.2.2.1 u.2.2.2.2.2.1 u.2.2.2.2.2.2.1 u.2.2.2.2.2.2.2.1 u.2.2.2.2.2.2.2.2)) (va_A (lW a o cI cZ cJ places listed front turns fetched placeOf shelfAt isBlocked shelfOf counts isOpen list ring stops fewest isExact shelves stopPlaces taken trial best out) sz)) 2 12 (va_A (lW a o cI cZ cJ places listed front turns fetched placeOf shelfAt isBlocked shelfOf counts isOpen list ring stops fewest isExact shelves stopPlaces taken trial best out) sz) := by
  refine va_MetW (cc := b_L_plan) (maxL := 4) (ret := (some .int)) (hh := [(0, 9, 12, 15), (0, 9, 15, 17)]) (by decide) rfl ?_
  intro p e s m args below meth c s₁ B hml hv
  obtain ⟨rfl, hsz, hP, hK, hD0, hZ⟩ := hv
  have hx := B.exec
  have hb := B.bytes
  have hr := B.returns
  have hts := atoms_spec (ws := w_L_plan) B.pre
  have hown : s.vm.findClass R_L = some m.cls := findClass_of_methodNamed B.named
  have hlocks := B.notSynchronized
  have hTab : c.exceptionTable.toList = tableOf [(0, 9, 12, 15), (0, 9, 15, 17)] := vx_table (x := y_L_plan) B (hts _ List.mem_cons_self)
  subst hsz
  have hD := hD0.self (sz := s.heap.size)
  generalize hAe : (va_A (lW a o cI cZ cJ places listed front turns fetched placeOf shelfAt isBlocked shelfOf counts isOpen list ring stops fewest isExact shelves stopPlaces taken trial best out) s.heap.size) = A at hD hZ ⊢
  have hA : ∀ q : Nat, s.heap.size ≤ q → A q := fun q h => by rw [← hAe]; exact Or.inr h
  have hS : va_S A s.heap s.heap [] := va_S.rf
  have hl := lv_entry ([.ref (a 0), .int x1, .ref o]) (n := 4) (Nat.le_of_ble_eq_true rfl)
  rw [lg_entry_eq]
  generalize (lg_sl ([.ref (a 0), .int x1, .ref o]) ++ List.replicate (4 - (lg_sl ([.ref (a 0), .int x1, .ref o])).length) Slot.unset).toArray = ls at hl ⊢
  have hl : lv_has ls 4 [(0, .ref (a 0)), (1, .int x1), (2, .ref o)] := hl
  refine lv_aload_n hx hb d_L_plan_0 rfl (lv_at hl 2 rfl) ?_
  refine lv_iconst (v := (0 : Int32)) hx hb d_L_plan_1 (by decide) ?_
  refine lv_aload_n hx hb d_L_plan_2 rfl (lv_at hl 0 rfl) ?_
  refine lv_iload_n hx hb d_L_plan_3 rfl (lv_at hl 1 rfl) ?_
  have hPc := hP.sub (ws' := cW a cI cZ places listed front turns fetched placeOf shelfAt isBlocked shelfOf counts isOpen list ring stops fewest isExact shelves stopPlaces taken trial best) [0, 1, 2, 3, 4, 5, 6, 7, 8, 9, 10, 11, 12, 13] rfl
  have hDc := hD.sub (ws' := cW a cI cZ places listed front turns fetched placeOf shelfAt isBlocked shelfOf counts isOpen list ring stops fewest isExact shelves stopPlaces taken trial best) [0, 1, 2, 3, 4, 5, 6, 7, 8, 9, 10, 11, 12, 13] (by decide) rfl
  have hFc := va_free (wc := cW a cI cZ places listed front turns fetched placeOf shelfAt isBlocked shelfOf counts isOpen list ring stops fewest isExact shelves stopPlaces taken trial best) hD hS hA [0, 1, 2, 3, 4, 5, 6, 7, 8, 9, 10, 11, 12, 13] rfl
  have hKc : va_K D classes [(cI, .int), (cZ, .boolean)] s := hK.sub [0, 1] rfl
  refine vx_calli (vx_runV (As := [.int x1]) (rest := [.int (0 : Int32), .ref o]) ⟨hx, hb, hml, hown, hts⟩ (c_C_plan hl9 hw) (cwV 1 hts (gV k_C_plan kw_38081c9e kw_891ab2e7 kw_10811f77 kw_91859716) rfl rfl rfl (by decide +kernel) ⟨(Nat.le_of_ble_eq_true rfl), (Nat.le_of_ble_eq_true rfl)⟩) ⟨kP.blind, va_recv hK hPc (ci := 0) (q0 := 0) rfl rfl, kP.of hKc hPc hDc hZ hS hFc⟩ rfl rfl hl.1 rfl (lv_room (Nat.le_of_ble_eq_true rfl)) d_L_plan_4 ⟨(Nat.le_of_ble_eq_true rfl), (Nat.le_of_ble_eq_true rfl)⟩) hS (fun q _ h => hFc q h) hFc (fun q _ h => hFc q h) (fun E9 ce q9 u t H1 locs ht hvm hw hB hz1 hk1 hS hce hcv hcl => ?_) (fun r_1 u t H1 locs ht hvm hw hB hz1 hk1 hS => ?_)
  · obtain ⟨E_11, stops_2, fewest_3, isExact_4, shelves_5, stopPlaces_6, taken_7, trial_8, best_9⟩ := u
    obtain ⟨hE9, hP1, hK1, hD1⟩ := hB
    try dsimp only at hw hP1 hD1 hE9
    subst hE9
    rw [ht] at hP1
    have hK1 := va_K.moved hvm.symm hK1
    obtain ⟨hP, hD⟩ := va_join (wr := [(o, .inl (cJ, 1, .inr (.inl out)))]) (w1 := cW a cI cZ places listed front turns fetched placeOf shelfAt isBlocked shelfOf counts isOpen list ring stops_2 fewest_3 isExact_4 shelves_5 stopPlaces_6 taken_7 trial_8 best_9) hP hD [0, 1, 2, 3, 4, 5, 6, 7, 8, 9, 10, 11, 12, 13] [14] rfl rfl (by decide) (by decide) hk1 hFc hP1 hD1
    generalize H1 = H at hP hS hce ⊢
    have hP := hP.sub (ws' := lW a o cI cZ cJ places listed front turns fetched placeOf shelfAt isBlocked shelfOf counts isOpen list ring stops_2 fewest_3 isExact_4 shelves_5 stopPlaces_6 taken_7 trial_8 best_9 out) [1, 2, 3, 4, 5, 6, 7, 8, 9, 10, 11, 12, 13, 14, 0] rfl
    have hD := hD.sub (ws' := lW a o cI cZ cJ places listed front turns fetched placeOf shelfAt isBlocked shelfOf counts isOpen list ring stops_2 fewest_3 isExact_4 shelves_5 stopPlaces_6 taken_7 trial_8 best_9 out) [1, 2, 3, 4, 5, 6, 7, 8, 9, 10, 11, 12, 13, 14, 0] (by decide) rfl
    have hP : va_P D classes (lW a o cI cZ cJ places listed front turns fetched placeOf shelfAt isBlocked shelfOf counts isOpen list ring stops_2 fewest_3 isExact_4 shelves_5 stopPlaces_6 taken_7 trial_8 best_9 out) H := hP
    have hD : va_D A (lW a o cI cZ cJ places listed front turns fetched placeOf shelfAt isBlocked shelfOf counts isOpen list ring stops_2 fewest_3 isExact_4 shelves_5 stopPlaces_6 taken_7 trial_8 best_9 out) := hD
    rcases hw with ⟨e9, hw⟩ | ⟨e9, hw⟩
    · subst e9
      refine vx_catch (own := R_L) (name := "java/lang/IllegalArgumentException") (E := "java/lang/IllegalArgumentException") hown [] ⟨0, 9, 12, 15⟩ [⟨0, 9, 15, 17⟩] (by rw [hTab]; rfl) (fun z hz => nomatch hz) (by decide) (by decide) (hts _ (kM kw_0cdcea8a)) (hZ.f (.castable "java/lang/IllegalArgumentException" "java/lang/IllegalArgumentException") (by decide +kernel)) hce hcv hcl ?_
      refine lv_astore_n (lv' := [(3, .ref q9), (0, .ref (a 0)), (1, .int x1), (2, .ref o)]) hx hb d_L_plan_12 rfl hl (by decide) rfl (fun ls hl => ?_)
      refine lv_iconst (v := (1 : Int32)) hx hb d_L_plan_13 (by decide) ?_
      exact W.iret (v := (1 : Int32)) hx hb hr (fun t ht hW => ⟨⟨(1 : Int32), (stops_2, fewest_3, isExact_4, shelves_5, stopPlaces_6, taken_7, trial_8, best_9, out), rfl, hw, by rw [ht]; exact hP, va_K.moved hW.alike hK, hD⟩, hS.F ht⟩) hS.2.2 d_L_plan_14
    · subst e9
      refine vx_catch (own := R_L) (name := "java/lang/IllegalStateException") (E := "java/lang/IllegalStateException") hown [⟨0, 9, 12, 15⟩] ⟨0, 9, 15, 17⟩ [] (by rw [hTab]; rfl) (List.forall_mem_cons.mpr ⟨Or.inr ⟨by decide, "java/lang/IllegalArgumentException", (hts _ (kM kw_0cdcea8a)), hZ.c (by decide +kernel)⟩, fun z hz => nomatch hz⟩) (by decide) (by decide) (hts _ (kM kw_4844d534)) (hZ.f (.castable "java/lang/IllegalStateException" "java/lang/IllegalStateException") (by decide +kernel)) hce hcv hcl ?_
      refine lv_astore_n (lv' := [(3, .ref q9), (0, .ref (a 0)), (1, .int x1), (2, .ref o)]) hx hb d_L_plan_15 rfl hl (by decide) rfl (fun ls hl => ?_)
      refine lv_iconst (v := (2 : Int32)) hx hb d_L_plan_16 (by decide) ?_
      exact W.iret (v := (2 : Int32)) hx hb hr (fun t ht hW => ⟨⟨(2 : Int32), (stops_2, fewest_3, isExact_4, shelves_5, stopPlaces_6, taken_7, trial_8, best_9, out), rfl, hw, by rw [ht]; exact hP, va_K.moved hW.alike hK, hD⟩, hS.F ht⟩) hS.2.2 d_L_plan_17
  · obtain ⟨stops_2, fewest_3, isExact_4, shelves_5, stopPlaces_6, taken_7, trial_8, best_9⟩ := u
    obtain ⟨hP1, hK1, hD1⟩ := hB
    try dsimp only at hw hP1 hD1
    rw [ht] at hP1
    have hK1 := va_K.moved hvm.symm hK1
    obtain ⟨hP, hD⟩ := va_join (wr := [(o, .inl (cJ, 1, .inr (.inl out)))]) (w1 := cW a cI cZ places listed front turns fetched placeOf shelfAt isBlocked shelfOf counts isOpen list ring stops_2 fewest_3 isExact_4 shelves_5 stopPlaces_6 taken_7 trial_8 best_9) hP hD [0, 1, 2, 3, 4, 5, 6, 7, 8, 9, 10, 11, 12, 13] [14] rfl rfl (by decide) (by decide) hk1 hFc hP1 hD1
    generalize H1 = H at hP hS ⊢
    have hP := hP.sub (ws' := lW a o cI cZ cJ places listed front turns fetched placeOf shelfAt isBlocked shelfOf counts isOpen list ring stops_2 fewest_3 isExact_4 shelves_5 stopPlaces_6 taken_7 trial_8 best_9 out) [1, 2, 3, 4, 5, 6, 7, 8, 9, 10, 11, 12, 13, 14, 0] rfl
    have hD := hD.sub (ws' := lW a o cI cZ cJ places listed front turns fetched placeOf shelfAt isBlocked shelfOf counts isOpen list ring stops_2 fewest_3 isExact_4 shelves_5 stopPlaces_6 taken_7 trial_8 best_9 out) [1, 2, 3, 4, 5, 6, 7, 8, 9, 10, 11, 12, 13, 14, 0] (by decide) rfl
    have hP : va_P D classes (lW a o cI cZ cJ places listed front turns fetched placeOf shelfAt isBlocked shelfOf counts isOpen list ring stops_2 fewest_3 isExact_4 shelves_5 stopPlaces_6 taken_7 trial_8 best_9 out) H := hP
    have hD : va_D A (lW a o cI cZ cJ places listed front turns fetched placeOf shelfAt isBlocked shelfOf counts isOpen list ring stops_2 fewest_3 isExact_4 shelves_5 stopPlaces_6 taken_7 trial_8 best_9 out) := hD
    refine lv_i2l (v := (r_1).toInt64) hx hb d_L_plan_7 rfl ?_
    obtain ⟨h_10, hw⟩ := hw
    refine va_last hx hb hK hP hD hS 14 2 rfl rfl h_10 d_L_plan_8 (fun H locs hP hD hS => ?_)
    have hP : va_P D classes (lW a o cI cZ cJ places listed front turns fetched placeOf shelfAt isBlocked shelfOf counts isOpen list ring stops_2 fewest_3 isExact_4 shelves_5 stopPlaces_6 taken_7 trial_8 best_9 (vp_updL out ((0 : Int32)).toNatClampNeg ((r_1).toInt64))) H := hP
    have hD : va_D A (lW a o cI cZ cJ places listed front turns fetched placeOf shelfAt isBlocked shelfOf counts isOpen list ring stops_2 fewest_3 isExact_4 shelves_5 stopPlaces_6 taken_7 trial_8 best_9 (vp_updL out ((0 : Int32)).toNatClampNeg ((r_1).toInt64))) := hD
    refine lv_goto (tgt := 18) hx hb d_L_plan_9 (by decide) ?_
    refine lv_iconst (v := (0 : Int32)) hx hb d_L_plan_18 (by decide) ?_
    exact W.iret (v := (0 : Int32)) hx hb hr (fun t ht hW => ⟨⟨(0 : Int32), (stops_2, fewest_3, isExact_4, shelves_5, stopPlaces_6, taken_7, trial_8, best_9, (vp_updL out ((0 : Int32)).toNatClampNeg ((r_1).toInt64))), rfl, hw, by rw [ht]; exact hP, va_K.moved hW.alike hK, hD⟩, hS.F ht⟩) hS.2.2 d_L_plan_19
def p_L_pick (x1 : Int32) (x2 : Int32) (places : Int32) (front : Int32) (fetched : Int32) (shelfAt : Nat → Int32) (isBlocked : Nat → Int32) (shelfOf : Nat → Int32) (counts : Nat → Int32) (isOpen : Nat → Int32) (out : Nat → Int64) (post : Int32 → Int32 → (Nat → Int32) → (Nat → Int32) → (Nat → Int64) → Prop) : Prop := (p_C_pick x1 x2 places front fetched shelfAt isBlocked shelfOf counts isOpen (fun r_1 fetched_2 shelfOf_3 counts_4 => ((r_1 = 0 → (vp_in (0 : Int32) 1 ∧ post (0 : Int32) fetched_2 shelfOf_3 counts_4 (vp_updL out ((0 : Int32)).toNatClampNeg (0 : Int64)))) ∧ (¬ r_1 = 0 → (vp_in (0 : Int32) 1 ∧ post (0 : Int32) fetched_2 shelfOf_3 counts_4 (vp_updL out ((0 : Int32)).toNatClampNeg (1 : Int64)))))) (fun E_8 fetched_2 shelfOf_3 counts_4 => ((E_8 = "java/lang/ArithmeticException" ∧ post (1 : Int32) fetched_2 shelfOf_3 counts_4 out) ∨ (E_8 = "java/lang/IllegalArgumentException" ∧ post (2 : Int32) fetched_2 shelfOf_3 counts_4 out) ∨ (E_8 = "java/lang/IllegalStateException" ∧ post (3 : Int32) fetched_2 shelfOf_3 counts_4 out))))
abbrev rm_L_pick : Room := { frames := 8, cells := 5, slots := 30, locals := 143 }
set_option maxHeartbeats 4000000 in
set_option maxRecDepth 100000 in
theorem c_L_pick {l : Launch} (hl9 : l.stackTraces = false) {D : va_G} {sa : Nat → Nat} {cI cZ : ClassId} {sz : Nat} {a : Nat → Nat} {o : Nat} {cJ : ClassId} {places : Int32} {listed : Int32} {front : Int32} {turns : Int32} {fetched : Int32} {placeOf : Nat → Int32} {shelfAt : Nat → Int32} {isBlocked : Nat → Int32} {shelfOf : Nat → Int32} {counts : Nat → Int32} {isOpen : Nat → Int32} {list : Nat → Int32} {ring : Int32} {stops : Int32} {fewest : Int32} {isExact : Int32} {shelves : Nat → Int32} {stopPlaces : Nat → Int32} {taken : Nat → Int32} {trial : Nat → Int32} {best : Nat → Int32} {out : Nat → Int64} {x1 : Int32} {x2 : Int32} {post : Int32 → Int32 → (Nat → Int32) → (Nat → Int32) → (Nat → Int64) → Prop} (hw : p_L_pick x1 x2 places front fetched shelfAt isBlocked shelfOf counts isOpen out post) : Met l y_L_pick w_L_pick rm_L_pick (va_Pc [.ref (a 0), .int x1, .int x2, .ref o] (kP D sa [(cI, .int), (cZ, .boolean), (cJ, .long)] (lW a o cI cZ cJ places listed front turns fetched placeOf shelfAt isBlocked shelfOf counts isOpen list ring stops fewest isExact shelves stopPlaces taken trial best out) sz)) (va_Qi (fun r (u : Int32 × (Nat → Int32) × (Nat → Int32) × (Nat → Int64)) => post r u.1 u.2.1 u.2.2.1 u.2.2.2) (fun (u : Int32 × (Nat → Int32) × (Nat → Int32) × (Nat → Int64)) t => va_P D classes (lW a o cI cZ cJ places listed front turns u.1 placeOf shelfAt isBlocked u.2.1 u.2.2.1 isOpen list ring stops fewest isExact shelves stopPlaces taken trial best u.2.2.2) t.heap ∧ va_K D classes [(cI, .int), (cZ, .boolean), (cJ, .long)] t ∧ va_D (va_A (lW a o cI cZ cJ places listed front turns fetched placeOf shelfAt isBlocked shelfOf counts isOpen list ring stops fewest isExact shelves stopPlaces taken trial best out) sz) (lW a o cI cZ cJ places listed front turns u.1 placeOf shelfAt isBlocked u.2.1 u.2.2.1 isOpen list ring stops fewest isExact shelves stopPlaces taken trial best u.2.2.2)) (va_A (lW a o cI cZ cJ places listed front turns fetched placeOf shelfAt isBlocked shelfOf counts isOpen list ring stops fewest isExact shelves stopPlaces taken trial best out) sz)) 5 30 (va_A (lW a o cI cZ cJ places listed front turns fetched placeOf shelfAt isBlocked shelfOf counts isOpen list ring stops fewest isExact shelves stopPlaces taken trial best out) sz) := by
  refine va_MetW (cc := b_L_pick) (maxL := 5) (ret := (some .int)) (hh := [(0, 17, 20, 25), (0, 17, 24, 15), (0, 17, 28, 17)]) (by decide) rfl ?_
  intro p e s m args below meth c s₁ B hml hv
  obtain ⟨rfl, hsz, hP, hK, hD0, hZ⟩ := hv
  have hx := B.exec
  have hb := B.bytes
  have hr := B.returns
  have hts := atoms_spec (ws := w_L_pick) B.pre
  have hown : s.vm.findClass R_L = some m.cls := findClass_of_methodNamed B.named
  have hlocks := B.notSynchronized
  have hTab : c.exceptionTable.toList = tableOf [(0, 17, 20, 25), (0, 17, 24, 15), (0, 17, 28, 17)] := vx_table (x := y_L_pick) B (hts _ List.mem_cons_self)
  subst hsz
  have hD := hD0.self (sz := s.heap.size)
  generalize hAe : (va_A (lW a o cI cZ cJ places listed front turns fetched placeOf shelfAt isBlocked shelfOf counts isOpen list ring stops fewest isExact shelves stopPlaces taken trial best out) s.heap.size) = A at hD hZ ⊢
  have hA : ∀ q : Nat, s.heap.size ≤ q → A q := fun q h => by rw [← hAe]; exact Or.inr h
  have hS : va_S A s.heap s.heap [] := va_S.rf
  have hl := lv_entry ([.ref (a 0), .int x1, .int x2, .ref o]) (n := 5) (Nat.le_of_ble_eq_true rfl)
  rw [lg_entry_eq]
  generalize (lg_sl ([.ref (a 0), .int x1, .int x2, .ref o]) ++ List.replicate (5 - (lg_sl ([.ref (a 0), .int x1, .int x2, .ref o])).length) Slot.unset).toArray = ls at hl ⊢
  have hl : lv_has ls 5 [(0, .ref (a 0)), (1, .int x1), (2, .int x2), (3, .ref o)] := hl
  refine lv_aload_n hx hb d_L_pick_0 rfl (lv_at hl 3 rfl) ?_
  refine lv_iconst (v := (0 : Int32)) hx hb d_L_pick_1 (by decide) ?_
  refine lv_aload_n hx hb d_L_pick_2 rfl (lv_at hl 0 rfl) ?_
  refine lv_iload_n hx hb d_L_pick_3 rfl (lv_at hl 1 rfl) ?_
  refine lv_iload_n hx hb d_L_pick_4 rfl (lv_at hl 2 rfl) ?_
  have hPc := hP.sub (ws' := cW a cI cZ places listed front turns fetched placeOf shelfAt isBlocked shelfOf counts isOpen list ring stops fewest isExact shelves stopPlaces taken trial best) [0, 1, 2, 3, 4, 5, 6, 7, 8, 9, 10, 11, 12, 13] rfl
  have hDc := hD.sub (ws' := cW a cI cZ places listed front turns fetched placeOf shelfAt isBlocked shelfOf counts isOpen list ring stops fewest isExact shelves stopPlaces taken trial best) [0, 1, 2, 3, 4, 5, 6, 7, 8, 9, 10, 11, 12, 13] (by decide) rfl
  have hFc := va_free (wc := cW a cI cZ places listed front turns fetched placeOf shelfAt isBlocked shelfOf counts isOpen list ring stops fewest isExact shelves stopPlaces taken trial best) hD hS hA [0, 1, 2, 3, 4, 5, 6, 7, 8, 9, 10, 11, 12, 13] rfl
  have hKc : va_K D classes [(cI, .int), (cZ, .boolean)] s := hK.sub [0, 1] rfl
  refine vx_calli (vx_runV (As := [.int x1, .int x2]) (rest := [.int (0 : Int32), .ref o]) ⟨hx, hb, hml, hown, hts⟩ (c_C_pick hl9 hw) (cwV 2 hts (gV k_C_pick kw_b4c32396 kw_f96db60d kw_7558db99 kw_91859716) rfl rfl rfl (by decide +kernel) ⟨(Nat.le_of_ble_eq_true rfl), (Nat.le_of_ble_eq_true rfl)⟩) ⟨kP.blind, va_recv hK hPc (ci := 0) (q0 := 0) rfl rfl, kP.of hKc hPc hDc hZ hS hFc⟩ rfl rfl hl.1 rfl (lv_room (Nat.le_of_ble_eq_true rfl)) d_L_pick_5 ⟨(Nat.le_of_ble_eq_true rfl), (Nat.le_of_ble_eq_true rfl)⟩) hS (fun q _ h => hFc q h) hFc (fun q _ h => hFc q h) (fun E9 ce q9 u t H1 locs ht hvm hw hB hz1 hk1 hS hce hcv hcl => ?_) (fun r_1 u t H1 locs ht hvm hw hB hz1 hk1 hS => ?_)
  · obtain ⟨E_8, fetched_2, shelfOf_3, counts_4⟩ := u
    obtain ⟨hE9, hP1, hK1, hD1⟩ := hB
    try dsimp only at hw hP1 hD1 hE9
    subst hE9
    rw [ht] at hP1
    have hK1 := va_K.moved hvm.symm hK1
    obtain ⟨hP, hD⟩ := va_join (wr := [(o, .inl (cJ, 1, .inr (.inl out)))]) (w1 := cW a cI cZ places listed front turns fetched_2 placeOf shelfAt isBlocked shelfOf_3 counts_4 isOpen list ring stops fewest isExact shelves stopPlaces taken trial best) hP hD [0, 1, 2, 3, 4, 5, 6, 7, 8, 9, 10, 11, 12, 13] [14] rfl rfl (by decide) (by decide) hk1 hFc hP1 hD1
    generalize H1 = H at hP hS hce ⊢
    have hP := hP.sub (ws' := lW a o cI cZ cJ places listed front turns fetched_2 placeOf shelfAt isBlocked shelfOf_3 counts_4 isOpen list ring stops fewest isExact shelves stopPlaces taken trial best out) [1, 2, 3, 4, 5, 6, 7, 8, 9, 10, 11, 12, 13, 14, 0] rfl
    have hD := hD.sub (ws' := lW a o cI cZ cJ places listed front turns fetched_2 placeOf shelfAt isBlocked shelfOf_3 counts_4 isOpen list ring stops fewest isExact shelves stopPlaces taken trial best out) [1, 2, 3, 4, 5, 6, 7, 8, 9, 10, 11, 12, 13, 14, 0] (by decide) rfl
    have hP : va_P D classes (lW a o cI cZ cJ places listed front turns fetched_2 placeOf shelfAt isBlocked shelfOf_3 counts_4 isOpen list ring stops fewest isExact shelves stopPlaces taken trial best out) H := hP
    have hD : va_D A (lW a o cI cZ cJ places listed front turns fetched_2 placeOf shelfAt isBlocked shelfOf_3 counts_4 isOpen list ring stops fewest isExact shelves stopPlaces taken trial best out) := hD
    rcases hw with ⟨e9, hw⟩ | ⟨e9, hw⟩ | ⟨e9, hw⟩
    · subst e9
      refine vx_catch (own := R_L) (name := "java/lang/ArithmeticException") (E := "java/lang/ArithmeticException") hown [] ⟨0, 17, 20, 25⟩ [⟨0, 17, 24, 15⟩, ⟨0, 17, 28, 17⟩] (by rw [hTab]; rfl) (fun z hz => nomatch hz) (by decide) (by decide) (hts _ (kM kw_552ab218)) (hZ.f (.castable "java/lang/ArithmeticException" "java/lang/ArithmeticException") (by decide +kernel)) hce hcv hcl ?_
      refine lv_astore (lv' := [(4, .ref q9), (0, .ref (a 0)), (1, .int x1), (2, .int x2), (3, .ref o)]) hx hb d_L_pick_20 hl (by decide) rfl (fun ls hl => ?_)
      refine lv_iconst (v := (1 : Int32)) hx hb d_L_pick_22 (by decide) ?_
      exact W.iret (v := (1 : Int32)) hx hb hr (fun t ht hW => ⟨⟨(1 : Int32), (fetched_2, shelfOf_3, counts_4, out), rfl, hw, by rw [ht]; exact hP, va_K.moved hW.alike hK, hD⟩, hS.F ht⟩) hS.2.2 d_L_pick_23
    · subst e9
      refine vx_catch (own := R_L) (name := "java/lang/IllegalArgumentException") (E := "java/lang/IllegalArgumentException") hown [⟨0, 17, 20, 25⟩] ⟨0, 17, 24, 15⟩ [⟨0, 17, 28, 17⟩] (by rw [hTab]; rfl) (List.forall_mem_cons.mpr ⟨Or.inr ⟨by decide, "java/lang/ArithmeticException", (hts _ (kM kw_552ab218)), hZ.c (by decide +kernel)⟩, fun z hz => nomatch hz⟩) (by decide) (by decide) (hts _ (kM kw_0cdcea8a)) (hZ.f (.castable "java/lang/IllegalArgumentException" "java/lang/IllegalArgumentException") (by decide +kernel)) hce hcv hcl ?_
      refine lv_astore (lv' := [(4, .ref q9), (0, .ref (a 0)), (1, .int x1), (2, .int x2), (3, .ref o)]) hx hb d_L_pick_24 hl (by decide) rfl (fun ls hl => ?_)
      refine lv_iconst (v := (2 : Int32)) hx hb d_L_pick_26 (by decide) ?_
      exact W.iret (v := (2 : Int32)) hx hb hr (fun t ht hW => ⟨⟨(2 : Int32), (fetched_2, shelfOf_3, counts_4, out), rfl, hw, by rw [ht]; exact hP, va_K.moved hW.alike hK, hD⟩, hS.F ht⟩) hS.2.2 d_L_pick_27
    · subst e9
      refine vx_catch (own := R_L) (name := "java/lang/IllegalStateException") (E := "java/lang/IllegalStateException") hown [⟨0, 17, 20, 25⟩, ⟨0, 17, 24, 15⟩] ⟨0, 17, 28, 17⟩ [] (by rw [hTab]; rfl) (List.forall_mem_cons.mpr ⟨Or.inr ⟨by decide, "java/lang/ArithmeticException", (hts _ (kM kw_552ab218)), hZ.c (by decide +kernel)⟩, List.forall_mem_cons.mpr ⟨Or.inr ⟨by decide, "java/lang/IllegalArgumentException", (hts _ (kM kw_0cdcea8a)), hZ.c (by decide +kernel)⟩, fun z hz => nomatch hz⟩⟩) (by decide) (by decide) (hts _ (kM kw_4844d534)) (hZ.f (.castable "java/lang/IllegalStateException" "java/lang/IllegalStateException") (by decide +kernel)) hce hcv hcl ?_
      refine lv_astore (lv' := [(4, .ref q9), (0, .ref (a 0)), (1, .int x1), (2, .int x2), (3, .ref o)]) hx hb d_L_pick_28 hl (by decide) rfl (fun ls hl => ?_)
      refine lv_iconst (v := (3 : Int32)) hx hb d_L_pick_30 (by decide) ?_
      exact W.iret (v := (3 : Int32)) hx hb hr (fun t ht hW => ⟨⟨(3 : Int32), (fetched_2, shelfOf_3, counts_4, out), rfl, hw, by rw [ht]; exact hP, va_K.moved hW.alike hK, hD⟩, hS.F ht⟩) hS.2.2 d_L_pick_31
  · obtain ⟨fetched_2, shelfOf_3, counts_4⟩ := u
    obtain ⟨hP1, hK1, hD1⟩ := hB
    try dsimp only at hw hP1 hD1
    rw [ht] at hP1
    have hK1 := va_K.moved hvm.symm hK1
    obtain ⟨hP, hD⟩ := va_join (wr := [(o, .inl (cJ, 1, .inr (.inl out)))]) (w1 := cW a cI cZ places listed front turns fetched_2 placeOf shelfAt isBlocked shelfOf_3 counts_4 isOpen list ring stops fewest isExact shelves stopPlaces taken trial best) hP hD [0, 1, 2, 3, 4, 5, 6, 7, 8, 9, 10, 11, 12, 13] [14] rfl rfl (by decide) (by decide) hk1 hFc hP1 hD1
    generalize H1 = H at hP hS ⊢
    have hP := hP.sub (ws' := lW a o cI cZ cJ places listed front turns fetched_2 placeOf shelfAt isBlocked shelfOf_3 counts_4 isOpen list ring stops fewest isExact shelves stopPlaces taken trial best out) [1, 2, 3, 4, 5, 6, 7, 8, 9, 10, 11, 12, 13, 14, 0] rfl
    have hD := hD.sub (ws' := lW a o cI cZ cJ places listed front turns fetched_2 placeOf shelfAt isBlocked shelfOf_3 counts_4 isOpen list ring stops fewest isExact shelves stopPlaces taken trial best out) [1, 2, 3, 4, 5, 6, 7, 8, 9, 10, 11, 12, 13, 14, 0] (by decide) rfl
    have hP : va_P D classes (lW a o cI cZ cJ places listed front turns fetched_2 placeOf shelfAt isBlocked shelfOf_3 counts_4 isOpen list ring stops fewest isExact shelves stopPlaces taken trial best out) H := hP
    have hD : va_D A (lW a o cI cZ cJ places listed front turns fetched_2 placeOf shelfAt isBlocked shelfOf_3 counts_4 isOpen list ring stops fewest isExact shelves stopPlaces taken trial best out) := hD
    refine lv_if_eq (tgt := 15) hx hb d_L_pick_8 (by decide) (fun c_5 => ?_) (fun c_5 => ?_)
    · have hw := hw.1 c_5
      refine lv_lconst (v := 0) hx hb d_L_pick_15 (by decide) ?_
      obtain ⟨h_6, hw⟩ := hw
      refine va_last hx hb hK hP hD hS 14 2 rfl rfl h_6 d_L_pick_16 (fun H locs hP hD hS => ?_)
      have hP : va_P D classes (lW a o cI cZ cJ places listed front turns fetched_2 placeOf shelfAt isBlocked shelfOf_3 counts_4 isOpen list ring stops fewest isExact shelves stopPlaces taken trial best (vp_updL out ((0 : Int32)).toNatClampNeg (0 : Int64))) H := hP
      have hD : va_D A (lW a o cI cZ cJ places listed front turns fetched_2 placeOf shelfAt isBlocked shelfOf_3 counts_4 isOpen list ring stops fewest isExact shelves stopPlaces taken trial best (vp_updL out ((0 : Int32)).toNatClampNeg (0 : Int64))) := hD
      refine lv_goto (tgt := 32) hx hb d_L_pick_17 (by decide) ?_
      refine lv_iconst (v := (0 : Int32)) hx hb d_L_pick_32 (by decide) ?_
      exact W.iret (v := (0 : Int32)) hx hb hr (fun t ht hW => ⟨⟨(0 : Int32), (fetched_2, shelfOf_3, counts_4, (vp_updL out ((0 : Int32)).toNatClampNeg (0 : Int64))), rfl, hw, by rw [ht]; exact hP, va_K.moved hW.alike hK, hD⟩, hS.F ht⟩) hS.2.2 d_L_pick_33
    · have hw := hw.2 c_5
      refine lv_lconst (v := 1) hx hb d_L_pick_11 (by decide) ?_
      refine lv_goto (tgt := 16) hx hb d_L_pick_12 (by decide) ?_
      obtain ⟨h_7, hw⟩ := hw
      refine va_last hx hb hK hP hD hS 14 2 rfl rfl h_7 d_L_pick_16 (fun H locs hP hD hS => ?_)
      have hP : va_P D classes (lW a o cI cZ cJ places listed front turns fetched_2 placeOf shelfAt isBlocked shelfOf_3 counts_4 isOpen list ring stops fewest isExact shelves stopPlaces taken trial best (vp_updL out ((0 : Int32)).toNatClampNeg (1 : Int64))) H := hP
      have hD : va_D A (lW a o cI cZ cJ places listed front turns fetched_2 placeOf shelfAt isBlocked shelfOf_3 counts_4 isOpen list ring stops fewest isExact shelves stopPlaces taken trial best (vp_updL out ((0 : Int32)).toNatClampNeg (1 : Int64))) := hD
      refine lv_goto (tgt := 32) hx hb d_L_pick_17 (by decide) ?_
      refine lv_iconst (v := (0 : Int32)) hx hb d_L_pick_32 (by decide) ?_
      exact W.iret (v := (0 : Int32)) hx hb hr (fun t ht hW => ⟨⟨(0 : Int32), (fetched_2, shelfOf_3, counts_4, (vp_updL out ((0 : Int32)).toNatClampNeg (1 : Int64))), rfl, hw, by rw [ht]; exact hP, va_K.moved hW.alike hK, hD⟩, hS.F ht⟩) hS.2.2 d_L_pick_33
def p_L_door (x1 : Int32) (x2 : Int32) (isOpen : Nat → Int32) (out : Nat → Int64) (post : Int32 → (Nat → Int32) → (Nat → Int64) → Prop) : Prop := (p_C_door x1 x2 isOpen (fun r_1 isOpen_2 => ((r_1 = 0 → (vp_in (0 : Int32) 1 ∧ post (0 : Int32) isOpen_2 (vp_updL out ((0 : Int32)).toNatClampNeg (0 : Int64)))) ∧ (¬ r_1 = 0 → (vp_in (0 : Int32) 1 ∧ post (0 : Int32) isOpen_2 (vp_updL out ((0 : Int32)).toNatClampNeg (1 : Int64)))))) (fun E_6 isOpen_2 => ((E_6 = "java/lang/IllegalArgumentException" ∧ post (1 : Int32) isOpen_2 out))))
abbrev rm_L_door : Room := { frames := 8, cells := 1, slots := 6, locals := 143 }
set_option maxHeartbeats 4000000 in
set_option maxRecDepth 100000 in
theorem c_L_door {l : Launch} (hl9 : l.stackTraces = false) {D : va_G} {sa : Nat → Nat} {cI cZ : ClassId} {sz : Nat} {a : Nat → Nat} {o : Nat} {cJ : ClassId} {places : Int32} {listed : Int32} {front : Int32} {turns : Int32} {fetched : Int32} {placeOf : Nat → Int32} {shelfAt : Nat → Int32} {isBlocked : Nat → Int32} {shelfOf : Nat → Int32} {counts : Nat → Int32} {isOpen : Nat → Int32} {list : Nat → Int32} {ring : Int32} {stops : Int32} {fewest : Int32} {isExact : Int32} {shelves : Nat → Int32} {stopPlaces : Nat → Int32} {taken : Nat → Int32} {trial : Nat → Int32} {best : Nat → Int32} {out : Nat → Int64} {x1 : Int32} {x2 : Int32} {post : Int32 → (Nat → Int32) → (Nat → Int64) → Prop} (hw : p_L_door x1 x2 isOpen out post) : Met l y_L_door w_L_door rm_L_door (va_Pc [.ref (a 0), .int x1, .int x2, .ref o] (kP D sa [(cI, .int), (cZ, .boolean), (cJ, .long)] (lW a o cI cZ cJ places listed front turns fetched placeOf shelfAt isBlocked shelfOf counts isOpen list ring stops fewest isExact shelves stopPlaces taken trial best out) sz)) (va_Qi (fun r (u : (Nat → Int32) × (Nat → Int64)) => post r u.1 u.2) (fun (u : (Nat → Int32) × (Nat → Int64)) t => va_P D classes (lW a o cI cZ cJ places listed front turns fetched placeOf shelfAt isBlocked shelfOf counts u.1 list ring stops fewest isExact shelves stopPlaces taken trial best u.2) t.heap ∧ va_K D classes [(cI, .int), (cZ, .boolean), (cJ, .long)] t ∧ va_D (va_A (lW a o cI cZ cJ places listed front turns fetched placeOf shelfAt isBlocked shelfOf counts isOpen list ring stops fewest isExact shelves stopPlaces taken trial best out) sz) (lW a o cI cZ cJ places listed front turns fetched placeOf shelfAt isBlocked shelfOf counts u.1 list ring stops fewest isExact shelves stopPlaces taken trial best u.2)) (va_A (lW a o cI cZ cJ places listed front turns fetched placeOf shelfAt isBlocked shelfOf counts isOpen list ring stops fewest isExact shelves stopPlaces taken trial best out) sz)) 1 6 (va_A (lW a o cI cZ cJ places listed front turns fetched placeOf shelfAt isBlocked shelfOf counts isOpen list ring stops fewest isExact shelves stopPlaces taken trial best out) sz) := by
  refine va_MetW (cc := b_L_door) (maxL := 5) (ret := (some .int)) (hh := [(0, 17, 20, 15)]) (by decide) rfl ?_
  intro p e s m args below meth c s₁ B hml hv
  obtain ⟨rfl, hsz, hP, hK, hD0, hZ⟩ := hv
  have hx := B.exec
  have hb := B.bytes
  have hr := B.returns
  have hts := atoms_spec (ws := w_L_door) B.pre
  have hown : s.vm.findClass R_L = some m.cls := findClass_of_methodNamed B.named
  have hlocks := B.notSynchronized
  have hTab : c.exceptionTable.toList = tableOf [(0, 17, 20, 15)] := vx_table (x := y_L_door) B (hts _ List.mem_cons_self)
  subst hsz
  have hD := hD0.self (sz := s.heap.size)
  generalize hAe : (va_A (lW a o cI cZ cJ places listed front turns fetched placeOf shelfAt isBlocked shelfOf counts isOpen list ring stops fewest isExact shelves stopPlaces taken trial best out) s.heap.size) = A at hD hZ ⊢
  have hA : ∀ q : Nat, s.heap.size ≤ q → A q := fun q h => by rw [← hAe]; exact Or.inr h
  have hS : va_S A s.heap s.heap [] := va_S.rf
  have hl := lv_entry ([.ref (a 0), .int x1, .int x2, .ref o]) (n := 5) (Nat.le_of_ble_eq_true rfl)
  rw [lg_entry_eq]
  generalize (lg_sl ([.ref (a 0), .int x1, .int x2, .ref o]) ++ List.replicate (5 - (lg_sl ([.ref (a 0), .int x1, .int x2, .ref o])).length) Slot.unset).toArray = ls at hl ⊢
  have hl : lv_has ls 5 [(0, .ref (a 0)), (1, .int x1), (2, .int x2), (3, .ref o)] := hl
  refine lv_aload_n hx hb d_L_door_0 rfl (lv_at hl 3 rfl) ?_
  refine lv_iconst (v := (0 : Int32)) hx hb d_L_door_1 (by decide) ?_
  refine lv_aload_n hx hb d_L_door_2 rfl (lv_at hl 0 rfl) ?_
  refine lv_iload_n hx hb d_L_door_3 rfl (lv_at hl 1 rfl) ?_
  refine lv_iload_n hx hb d_L_door_4 rfl (lv_at hl 2 rfl) ?_
  have hPc := hP.sub (ws' := cW a cI cZ places listed front turns fetched placeOf shelfAt isBlocked shelfOf counts isOpen list ring stops fewest isExact shelves stopPlaces taken trial best) [0, 1, 2, 3, 4, 5, 6, 7, 8, 9, 10, 11, 12, 13] rfl
  have hDc := hD.sub (ws' := cW a cI cZ places listed front turns fetched placeOf shelfAt isBlocked shelfOf counts isOpen list ring stops fewest isExact shelves stopPlaces taken trial best) [0, 1, 2, 3, 4, 5, 6, 7, 8, 9, 10, 11, 12, 13] (by decide) rfl
  have hFc := va_free (wc := cW a cI cZ places listed front turns fetched placeOf shelfAt isBlocked shelfOf counts isOpen list ring stops fewest isExact shelves stopPlaces taken trial best) hD hS hA [0, 1, 2, 3, 4, 5, 6, 7, 8, 9, 10, 11, 12, 13] rfl
  have hKc : va_K D classes [(cI, .int), (cZ, .boolean)] s := hK.sub [0, 1] rfl
  refine vx_calli (vx_runV (As := [.int x1, .int x2]) (rest := [.int (0 : Int32), .ref o]) ⟨hx, hb, hml, hown, hts⟩ (c_C_door hl9 hw) (cwV 2 hts (gV k_C_door kw_9b586c6d kw_e5c18161 kw_a6cff684 kw_91859716) rfl rfl rfl (by decide +kernel) ⟨(Nat.le_of_ble_eq_true rfl), (Nat.le_of_ble_eq_true rfl)⟩) ⟨kP.blind, va_recv hK hPc (ci := 0) (q0 := 0) rfl rfl, kP.of hKc hPc hDc hZ hS hFc⟩ rfl rfl hl.1 rfl (lv_room (Nat.le_of_ble_eq_true rfl)) d_L_door_5 ⟨(Nat.le_of_ble_eq_true rfl), (Nat.le_of_ble_eq_true rfl)⟩) hS (fun q _ h => hFc q h) hFc (fun q _ h => hFc q h) (fun E9 ce q9 u t H1 locs ht hvm hw hB hz1 hk1 hS hce hcv hcl => ?_) (fun r_1 u t H1 locs ht hvm hw hB hz1 hk1 hS => ?_)
  · obtain ⟨E_6, isOpen_2⟩ := u
    obtain ⟨hE9, hP1, hK1, hD1⟩ := hB
    try dsimp only at hw hP1 hD1 hE9
    subst hE9
    rw [ht] at hP1
    have hK1 := va_K.moved hvm.symm hK1
    obtain ⟨hP, hD⟩ := va_join (wr := [(o, .inl (cJ, 1, .inr (.inl out)))]) (w1 := cW a cI cZ places listed front turns fetched placeOf shelfAt isBlocked shelfOf counts isOpen_2 list ring stops fewest isExact shelves stopPlaces taken trial best) hP hD [0, 1, 2, 3, 4, 5, 6, 7, 8, 9, 10, 11, 12, 13] [14] rfl rfl (by decide) (by decide) hk1 hFc hP1 hD1
    generalize H1 = H at hP hS hce ⊢
    have hP := hP.sub (ws' := lW a o cI cZ cJ places listed front turns fetched placeOf shelfAt isBlocked shelfOf counts isOpen_2 list ring stops fewest isExact shelves stopPlaces taken trial best out) [1, 2, 3, 4, 5, 6, 7, 8, 9, 10, 11, 12, 13, 14, 0] rfl
    have hD := hD.sub (ws' := lW a o cI cZ cJ places listed front turns fetched placeOf shelfAt isBlocked shelfOf counts isOpen_2 list ring stops fewest isExact shelves stopPlaces taken trial best out) [1, 2, 3, 4, 5, 6, 7, 8, 9, 10, 11, 12, 13, 14, 0] (by decide) rfl
    have hP : va_P D classes (lW a o cI cZ cJ places listed front turns fetched placeOf shelfAt isBlocked shelfOf counts isOpen_2 list ring stops fewest isExact shelves stopPlaces taken trial best out) H := hP
    have hD : va_D A (lW a o cI cZ cJ places listed front turns fetched placeOf shelfAt isBlocked shelfOf counts isOpen_2 list ring stops fewest isExact shelves stopPlaces taken trial best out) := hD
    rcases hw with ⟨e9, hw⟩
    · subst e9
      refine vx_catch (own := R_L) (name := "java/lang/IllegalArgumentException") (E := "java/lang/IllegalArgumentException") hown [] ⟨0, 17, 20, 15⟩ [] (by rw [hTab]; rfl) (fun z hz => nomatch hz) (by decide) (by decide) (hts _ (kM kw_0cdcea8a)) (hZ.f (.castable "java/lang/IllegalArgumentException" "java/lang/IllegalArgumentException") (by decide +kernel)) hce hcv hcl ?_
      refine lv_astore (lv' := [(4, .ref q9), (0, .ref (a 0)), (1, .int x1), (2, .int x2), (3, .ref o)]) hx hb d_L_door_20 hl (by decide) rfl (fun ls hl => ?_)
      refine lv_iconst (v := (1 : Int32)) hx hb d_L_door_22 (by decide) ?_
      exact W.iret (v := (1 : Int32)) hx hb hr (fun t ht hW => ⟨⟨(1 : Int32), (isOpen_2, out), rfl, hw, by rw [ht]; exact hP, va_K.moved hW.alike hK, hD⟩, hS.F ht⟩) hS.2.2 d_L_door_23
  · obtain ⟨isOpen_2, rfl⟩ : ∃ z, z = u := ⟨_, rfl⟩
    obtain ⟨hP1, hK1, hD1⟩ := hB
    try dsimp only at hw hP1 hD1
    rw [ht] at hP1
    have hK1 := va_K.moved hvm.symm hK1
    obtain ⟨hP, hD⟩ := va_join (wr := [(o, .inl (cJ, 1, .inr (.inl out)))]) (w1 := cW a cI cZ places listed front turns fetched placeOf shelfAt isBlocked shelfOf counts isOpen_2 list ring stops fewest isExact shelves stopPlaces taken trial best) hP hD [0, 1, 2, 3, 4, 5, 6, 7, 8, 9, 10, 11, 12, 13] [14] rfl rfl (by decide) (by decide) hk1 hFc hP1 hD1
    generalize H1 = H at hP hS ⊢
    have hP := hP.sub (ws' := lW a o cI cZ cJ places listed front turns fetched placeOf shelfAt isBlocked shelfOf counts isOpen_2 list ring stops fewest isExact shelves stopPlaces taken trial best out) [1, 2, 3, 4, 5, 6, 7, 8, 9, 10, 11, 12, 13, 14, 0] rfl
    have hD := hD.sub (ws' := lW a o cI cZ cJ places listed front turns fetched placeOf shelfAt isBlocked shelfOf counts isOpen_2 list ring stops fewest isExact shelves stopPlaces taken trial best out) [1, 2, 3, 4, 5, 6, 7, 8, 9, 10, 11, 12, 13, 14, 0] (by decide) rfl
    have hP : va_P D classes (lW a o cI cZ cJ places listed front turns fetched placeOf shelfAt isBlocked shelfOf counts isOpen_2 list ring stops fewest isExact shelves stopPlaces taken trial best out) H := hP
    have hD : va_D A (lW a o cI cZ cJ places listed front turns fetched placeOf shelfAt isBlocked shelfOf counts isOpen_2 list ring stops fewest isExact shelves stopPlaces taken trial best out) := hD
    refine lv_if_eq (tgt := 15) hx hb d_L_door_8 (by decide) (fun c_3 => ?_) (fun c_3 => ?_)
    · have hw := hw.1 c_3
      refine lv_lconst (v := 0) hx hb d_L_door_15 (by decide) ?_
      obtain ⟨h_4, hw⟩ := hw
      refine va_last hx hb hK hP hD hS 14 2 rfl rfl h_4 d_L_door_16 (fun H locs hP hD hS => ?_)
      have hP : va_P D classes (lW a o cI cZ cJ places listed front turns fetched placeOf shelfAt isBlocked shelfOf counts isOpen_2 list ring stops fewest isExact shelves stopPlaces taken trial best (vp_updL out ((0 : Int32)).toNatClampNeg (0 : Int64))) H := hP
      have hD : va_D A (lW a o cI cZ cJ places listed front turns fetched placeOf shelfAt isBlocked shelfOf counts isOpen_2 list ring stops fewest isExact shelves stopPlaces taken trial best (vp_updL out ((0 : Int32)).toNatClampNeg (0 : Int64))) := hD
      refine lv_goto (tgt := 24) hx hb d_L_door_17 (by decide) ?_
      refine lv_iconst (v := (0 : Int32)) hx hb d_L_door_24 (by decide) ?_
      exact W.iret (v := (0 : Int32)) hx hb hr (fun t ht hW => ⟨⟨(0 : Int32), (isOpen_2, (vp_updL out ((0 : Int32)).toNatClampNeg (0 : Int64))), rfl, hw, by rw [ht]; exact hP, va_K.moved hW.alike hK, hD⟩, hS.F ht⟩) hS.2.2 d_L_door_25
    · have hw := hw.2 c_3
      refine lv_lconst (v := 1) hx hb d_L_door_11 (by decide) ?_
      refine lv_goto (tgt := 16) hx hb d_L_door_12 (by decide) ?_
      obtain ⟨h_5, hw⟩ := hw
      refine va_last hx hb hK hP hD hS 14 2 rfl rfl h_5 d_L_door_16 (fun H locs hP hD hS => ?_)
      have hP : va_P D classes (lW a o cI cZ cJ places listed front turns fetched placeOf shelfAt isBlocked shelfOf counts isOpen_2 list ring stops fewest isExact shelves stopPlaces taken trial best (vp_updL out ((0 : Int32)).toNatClampNeg (1 : Int64))) H := hP
      have hD : va_D A (lW a o cI cZ cJ places listed front turns fetched placeOf shelfAt isBlocked shelfOf counts isOpen_2 list ring stops fewest isExact shelves stopPlaces taken trial best (vp_updL out ((0 : Int32)).toNatClampNeg (1 : Int64))) := hD
      refine lv_goto (tgt := 24) hx hb d_L_door_17 (by decide) ?_
      refine lv_iconst (v := (0 : Int32)) hx hb d_L_door_24 (by decide) ?_
      exact W.iret (v := (0 : Int32)) hx hb hr (fun t ht hW => ⟨⟨(0 : Int32), (isOpen_2, (vp_updL out ((0 : Int32)).toNatClampNeg (1 : Int64))), rfl, hw, by rw [ht]; exact hP, va_K.moved hW.alike hK, hD⟩, hS.F ht⟩) hS.2.2 d_L_door_25
def p_L_move (x1 : Int32) (x2 : Int32) (places : Int32) (placeOf : Nat → Int32) (shelfAt : Nat → Int32) (isOpen : Nat → Int32) (out : Nat → Int64) (post : Int32 → (Nat → Int32) → (Nat → Int32) → (Nat → Int64) → Prop) : Prop := (p_C_move x1 x2 places placeOf shelfAt isOpen (fun r_1 placeOf_2 shelfAt_3 => (vp_in (0 : Int32) 1 ∧ post (0 : Int32) placeOf_2 shelfAt_3 (vp_updL out ((0 : Int32)).toNatClampNeg ((r_1).toInt64)))) (fun E_5 placeOf_2 shelfAt_3 => ((E_5 = "java/util/NoSuchElementException" ∧ post (1 : Int32) placeOf_2 shelfAt_3 out) ∨ (E_5 = "java/lang/IllegalStateException" ∧ post (2 : Int32) placeOf_2 shelfAt_3 out))))
abbrev rm_L_move : Room := { frames := 8, cells := 4, slots := 24, locals := 145 }
set_option maxHeartbeats 4000000 in
set_option maxRecDepth 100000 in
theorem c_L_move {l : Launch} (hl9 : l.stackTraces = false) {D : va_G} {sa : Nat → Nat} {cI cZ : ClassId} {sz : Nat} {a : Nat → Nat} {o : Nat} {cJ : ClassId} {places : Int32} {listed : Int32} {front : Int32} {turns : Int32} {fetched : Int32} {placeOf : Nat → Int32} {shelfAt : Nat → Int32} {isBlocked : Nat → Int32} {shelfOf : Nat → Int32} {counts : Nat → Int32} {isOpen : Nat → Int32} {list : Nat → Int32} {ring : Int32} {stops : Int32} {fewest : Int32} {isExact : Int32} {shelves : Nat → Int32} {stopPlaces : Nat → Int32} {taken : Nat → Int32} {trial : Nat → Int32} {best : Nat → Int32} {out : Nat → Int64} {x1 : Int32} {x2 : Int32} {post : Int32 → (Nat → Int32) → (Nat → Int32) → (Nat → Int64) → Prop} (hw : p_L_move x1 x2 places placeOf shelfAt isOpen out post) : Met l y_L_move w_L_move rm_L_move (va_Pc [.ref (a 0), .int x1, .int x2, .ref o] (kP D sa [(cI, .int), (cZ, .boolean), (cJ, .long)] (lW a o cI cZ cJ places listed front turns fetched placeOf shelfAt isBlocked shelfOf counts isOpen list ring stops fewest isExact shelves stopPlaces taken trial best out) sz)) (va_Qi (fun r (u : (Nat → Int32) × (Nat → Int32) × (Nat → Int64)) => post r u.1 u.2.1 u.2.2) (fun (u : (Nat → Int32) × (Nat → Int32) × (Nat → Int64)) t => va_P D classes (lW a o cI cZ cJ places listed front turns fetched u.1 u.2.1 isBlocked shelfOf counts isOpen list ring stops fewest isExact shelves stopPlaces taken trial best u.2.2) t.heap ∧ va_K D classes [(cI, .int), (cZ, .boolean), (cJ, .long)] t ∧ va_D (va_A (lW a o cI cZ cJ places listed front turns fetched placeOf shelfAt isBlocked shelfOf counts isOpen list ring stops fewest isExact shelves stopPlaces taken trial best out) sz) (lW a o cI cZ cJ places listed front turns fetched u.1 u.2.1 isBlocked shelfOf counts isOpen list ring stops fewest isExact shelves stopPlaces taken trial best u.2.2)) (va_A (lW a o cI cZ cJ places listed front turns fetched placeOf shelfAt isBlocked shelfOf counts isOpen list ring stops fewest isExact shelves stopPlaces taken trial best out) sz)) 4 24 (va_A (lW a o cI cZ cJ places listed front turns fetched placeOf shelfAt isBlocked shelfOf counts isOpen list ring stops fewest isExact shelves stopPlaces taken trial best out) sz) := by
  refine va_MetW (cc := b_L_move) (maxL := 5) (ret := (some .int)) (hh := [(0, 10, 13, 13), (0, 10, 17, 17)]) (by decide) rfl ?_
  intro p e s m args below meth c s₁ B hml hv
  obtain ⟨rfl, hsz, hP, hK, hD0, hZ⟩ := hv
  have hx := B.exec
  have hb := B.bytes
  have hr := B.returns
  have hts := atoms_spec (ws := w_L_move) B.pre
  have hown : s.vm.findClass R_L = some m.cls := findClass_of_methodNamed B.named
  have hlocks := B.notSynchronized
  have hTab : c.exceptionTable.toList = tableOf [(0, 10, 13, 13), (0, 10, 17, 17)] := vx_table (x := y_L_move) B (hts _ List.mem_cons_self)
  subst hsz
  have hD := hD0.self (sz := s.heap.size)
  generalize hAe : (va_A (lW a o cI cZ cJ places listed front turns fetched placeOf shelfAt isBlocked shelfOf counts isOpen list ring stops fewest isExact shelves stopPlaces taken trial best out) s.heap.size) = A at hD hZ ⊢
  have hA : ∀ q : Nat, s.heap.size ≤ q → A q := fun q h => by rw [← hAe]; exact Or.inr h
  have hS : va_S A s.heap s.heap [] := va_S.rf
  have hl := lv_entry ([.ref (a 0), .int x1, .int x2, .ref o]) (n := 5) (Nat.le_of_ble_eq_true rfl)
  rw [lg_entry_eq]
  generalize (lg_sl ([.ref (a 0), .int x1, .int x2, .ref o]) ++ List.replicate (5 - (lg_sl ([.ref (a 0), .int x1, .int x2, .ref o])).length) Slot.unset).toArray = ls at hl ⊢
  have hl : lv_has ls 5 [(0, .ref (a 0)), (1, .int x1), (2, .int x2), (3, .ref o)] := hl
  refine lv_aload_n hx hb d_L_move_0 rfl (lv_at hl 3 rfl) ?_
  refine lv_iconst (v := (0 : Int32)) hx hb d_L_move_1 (by decide) ?_
  refine lv_aload_n hx hb d_L_move_2 rfl (lv_at hl 0 rfl) ?_
  refine lv_iload_n hx hb d_L_move_3 rfl (lv_at hl 1 rfl) ?_
  refine lv_iload_n hx hb d_L_move_4 rfl (lv_at hl 2 rfl) ?_
  have hPc := hP.sub (ws' := cW a cI cZ places listed front turns fetched placeOf shelfAt isBlocked shelfOf counts isOpen list ring stops fewest isExact shelves stopPlaces taken trial best) [0, 1, 2, 3, 4, 5, 6, 7, 8, 9, 10, 11, 12, 13] rfl
  have hDc := hD.sub (ws' := cW a cI cZ places listed front turns fetched placeOf shelfAt isBlocked shelfOf counts isOpen list ring stops fewest isExact shelves stopPlaces taken trial best) [0, 1, 2, 3, 4, 5, 6, 7, 8, 9, 10, 11, 12, 13] (by decide) rfl
  have hFc := va_free (wc := cW a cI cZ places listed front turns fetched placeOf shelfAt isBlocked shelfOf counts isOpen list ring stops fewest isExact shelves stopPlaces taken trial best) hD hS hA [0, 1, 2, 3, 4, 5, 6, 7, 8, 9, 10, 11, 12, 13] rfl
  have hKc : va_K D classes [(cI, .int), (cZ, .boolean)] s := hK.sub [0, 1] rfl
  refine vx_calli (vx_runV (As := [.int x1, .int x2]) (rest := [.int (0 : Int32), .ref o]) ⟨hx, hb, hml, hown, hts⟩ (c_C_move hl9 hw) (cwV 2 hts (gV k_C_move kw_7a30c32c kw_10510dee kw_30931f08 kw_91859716) rfl rfl rfl (by decide +kernel) ⟨(Nat.le_of_ble_eq_true rfl), (Nat.le_of_ble_eq_true rfl)⟩) ⟨kP.blind, va_recv hK hPc (ci := 0) (q0 := 0) rfl rfl, kP.of hKc hPc hDc hZ hS hFc⟩ rfl rfl hl.1 rfl (lv_room (Nat.le_of_ble_eq_true rfl)) d_L_move_5 ⟨(Nat.le_of_ble_eq_true rfl), (Nat.le_of_ble_eq_true rfl)⟩) hS (fun q _ h => hFc q h) hFc (fun q _ h => hFc q h) (fun E9 ce q9 u t H1 locs ht hvm hw hB hz1 hk1 hS hce hcv hcl => ?_) (fun r_1 u t H1 locs ht hvm hw hB hz1 hk1 hS => ?_)
  · obtain ⟨E_5, placeOf_2, shelfAt_3⟩ := u
    obtain ⟨hE9, hP1, hK1, hD1⟩ := hB
    try dsimp only at hw hP1 hD1 hE9
    subst hE9
    rw [ht] at hP1
    have hK1 := va_K.moved hvm.symm hK1
    obtain ⟨hP, hD⟩ := va_join (wr := [(o, .inl (cJ, 1, .inr (.inl out)))]) (w1 := cW a cI cZ places listed front turns fetched placeOf_2 shelfAt_3 isBlocked shelfOf counts isOpen list ring stops fewest isExact shelves stopPlaces taken trial best) hP hD [0, 1, 2, 3, 4, 5, 6, 7, 8, 9, 10, 11, 12, 13] [14] rfl rfl (by decide) (by decide) hk1 hFc hP1 hD1
    generalize H1 = H at hP hS hce ⊢
    have hP := hP.sub (ws' := lW a o cI cZ cJ places listed front turns fetched placeOf_2 shelfAt_3 isBlocked shelfOf counts isOpen list ring stops fewest isExact shelves stopPlaces taken trial best out) [1, 2, 3, 4, 5, 6, 7, 8, 9, 10, 11, 12, 13, 14, 0] rfl
    have hD := hD.sub (ws' := lW a o cI cZ cJ places listed front turns fetched placeOf_2 shelfAt_3 isBlocked shelfOf counts isOpen list ring stops fewest isExact shelves stopPlaces taken trial best out) [1, 2, 3, 4, 5, 6, 7, 8, 9, 10, 11, 12, 13, 14, 0] (by decide) rfl
    have hP : va_P D classes (lW a o cI cZ cJ places listed front turns fetched placeOf_2 shelfAt_3 isBlocked shelfOf counts isOpen list ring stops fewest isExact shelves stopPlaces taken trial best out) H := hP
    have hD : va_D A (lW a o cI cZ cJ places listed front turns fetched placeOf_2 shelfAt_3 isBlocked shelfOf counts isOpen list ring stops fewest isExact shelves stopPlaces taken trial best out) := hD
    rcases hw with ⟨e9, hw⟩ | ⟨e9, hw⟩
    · subst e9
      refine vx_catch (own := R_L) (name := "java/util/NoSuchElementException") (E := "java/util/NoSuchElementException") hown [] ⟨0, 10, 13, 13⟩ [⟨0, 10, 17, 17⟩] (by rw [hTab]; rfl) (fun z hz => nomatch hz) (by decide) (by decide) (hts _ (kM kw_2b9ca627)) (hZ.f (.castable "java/util/NoSuchElementException" "java/util/NoSuchElementException") (by decide +kernel)) hce hcv hcl ?_
      refine lv_astore (lv' := [(4, .ref q9), (0, .ref (a 0)), (1, .int x1), (2, .int x2), (3, .ref o)]) hx hb d_L_move_13 hl (by decide) rfl (fun ls hl => ?_)
      refine lv_iconst (v := (1 : Int32)) hx hb d_L_move_15 (by decide) ?_
      exact W.iret (v := (1 : Int32)) hx hb hr (fun t ht hW => ⟨⟨(1 : Int32), (placeOf_2, shelfAt_3, out), rfl, hw, by rw [ht]; exact hP, va_K.moved hW.alike hK, hD⟩, hS.F ht⟩) hS.2.2 d_L_move_16
    · subst e9
      refine vx_catch (own := R_L) (name := "java/lang/IllegalStateException") (E := "java/lang/IllegalStateException") hown [⟨0, 10, 13, 13⟩] ⟨0, 10, 17, 17⟩ [] (by rw [hTab]; rfl) (List.forall_mem_cons.mpr ⟨Or.inr ⟨by decide, "java/util/NoSuchElementException", (hts _ (kM kw_2b9ca627)), hZ.c (by decide +kernel)⟩, fun z hz => nomatch hz⟩) (by decide) (by decide) (hts _ (kM kw_4844d534)) (hZ.f (.castable "java/lang/IllegalStateException" "java/lang/IllegalStateException") (by decide +kernel)) hce hcv hcl ?_
      refine lv_astore (lv' := [(4, .ref q9), (0, .ref (a 0)), (1, .int x1), (2, .int x2), (3, .ref o)]) hx hb d_L_move_17 hl (by decide) rfl (fun ls hl => ?_)
      refine lv_iconst (v := (2 : Int32)) hx hb d_L_move_19 (by decide) ?_
      exact W.iret (v := (2 : Int32)) hx hb hr (fun t ht hW => ⟨⟨(2 : Int32), (placeOf_2, shelfAt_3, out), rfl, hw, by rw [ht]; exact hP, va_K.moved hW.alike hK, hD⟩, hS.F ht⟩) hS.2.2 d_L_move_20
  · obtain ⟨placeOf_2, shelfAt_3⟩ := u
    obtain ⟨hP1, hK1, hD1⟩ := hB
    try dsimp only at hw hP1 hD1
    rw [ht] at hP1
    have hK1 := va_K.moved hvm.symm hK1
    obtain ⟨hP, hD⟩ := va_join (wr := [(o, .inl (cJ, 1, .inr (.inl out)))]) (w1 := cW a cI cZ places listed front turns fetched placeOf_2 shelfAt_3 isBlocked shelfOf counts isOpen list ring stops fewest isExact shelves stopPlaces taken trial best) hP hD [0, 1, 2, 3, 4, 5, 6, 7, 8, 9, 10, 11, 12, 13] [14] rfl rfl (by decide) (by decide) hk1 hFc hP1 hD1
    generalize H1 = H at hP hS ⊢
    have hP := hP.sub (ws' := lW a o cI cZ cJ places listed front turns fetched placeOf_2 shelfAt_3 isBlocked shelfOf counts isOpen list ring stops fewest isExact shelves stopPlaces taken trial best out) [1, 2, 3, 4, 5, 6, 7, 8, 9, 10, 11, 12, 13, 14, 0] rfl
    have hD := hD.sub (ws' := lW a o cI cZ cJ places listed front turns fetched placeOf_2 shelfAt_3 isBlocked shelfOf counts isOpen list ring stops fewest isExact shelves stopPlaces taken trial best out) [1, 2, 3, 4, 5, 6, 7, 8, 9, 10, 11, 12, 13, 14, 0] (by decide) rfl
    have hP : va_P D classes (lW a o cI cZ cJ places listed front turns fetched placeOf_2 shelfAt_3 isBlocked shelfOf counts isOpen list ring stops fewest isExact shelves stopPlaces taken trial best out) H := hP
    have hD : va_D A (lW a o cI cZ cJ places listed front turns fetched placeOf_2 shelfAt_3 isBlocked shelfOf counts isOpen list ring stops fewest isExact shelves stopPlaces taken trial best out) := hD
    refine lv_i2l (v := (r_1).toInt64) hx hb d_L_move_8 rfl ?_
    obtain ⟨h_4, hw⟩ := hw
    refine va_last hx hb hK hP hD hS 14 2 rfl rfl h_4 d_L_move_9 (fun H locs hP hD hS => ?_)
    have hP : va_P D classes (lW a o cI cZ cJ places listed front turns fetched placeOf_2 shelfAt_3 isBlocked shelfOf counts isOpen list ring stops fewest isExact shelves stopPlaces taken trial best (vp_updL out ((0 : Int32)).toNatClampNeg ((r_1).toInt64))) H := hP
    have hD : va_D A (lW a o cI cZ cJ places listed front turns fetched placeOf_2 shelfAt_3 isBlocked shelfOf counts isOpen list ring stops fewest isExact shelves stopPlaces taken trial best (vp_updL out ((0 : Int32)).toNatClampNeg ((r_1).toInt64))) := hD
    refine lv_goto (tgt := 21) hx hb d_L_move_10 (by decide) ?_
    refine lv_iconst (v := (0 : Int32)) hx hb d_L_move_21 (by decide) ?_
    exact W.iret (v := (0 : Int32)) hx hb hr (fun t ht hW => ⟨⟨(0 : Int32), (placeOf_2, shelfAt_3, (vp_updL out ((0 : Int32)).toNatClampNeg ((r_1).toInt64))), rfl, hw, by rw [ht]; exact hP, va_K.moved hW.alike hK, hD⟩, hS.F ht⟩) hS.2.2 d_L_move_22
def p_L_blocked (x1 : Int32) (x2 : Int32) (places : Int32) (isBlocked : Nat → Int32) (out : Nat → Int64) (post : Int32 → (Nat → Int32) → (Nat → Int64) → Prop) : Prop := (p_C_blocked x1 x2 places isBlocked (fun r_1 isBlocked_2 => ((r_1 = 0 → (vp_in (0 : Int32) 1 ∧ post (0 : Int32) isBlocked_2 (vp_updL out ((0 : Int32)).toNatClampNeg (0 : Int64)))) ∧ (¬ r_1 = 0 → (vp_in (0 : Int32) 1 ∧ post (0 : Int32) isBlocked_2 (vp_updL out ((0 : Int32)).toNatClampNeg (1 : Int64)))))) (fun E_6 isBlocked_2 => ((E_6 = "java/util/NoSuchElementException" ∧ post (1 : Int32) isBlocked_2 out))))
abbrev rm_L_blocked : Room := { frames := 8, cells := 1, slots := 6, locals := 144 }
set_option maxHeartbeats 4000000 in
set_option maxRecDepth 100000 in
theorem c_L_blocked {l : Launch} (hl9 : l.stackTraces = false) {D : va_G} {sa : Nat → Nat} {cI cZ : ClassId} {sz : Nat} {a : Nat → Nat} {o : Nat} {cJ : ClassId} {places : Int32} {listed : Int32} {front : Int32} {turns : Int32} {fetched : Int32} {placeOf : Nat → Int32} {shelfAt : Nat → Int32} {isBlocked : Nat → Int32} {shelfOf : Nat → Int32} {counts : Nat → Int32} {isOpen : Nat → Int32} {list : Nat → Int32} {ring : Int32} {stops : Int32} {fewest : Int32} {isExact : Int32} {shelves : Nat → Int32} {stopPlaces : Nat → Int32} {taken : Nat → Int32} {trial : Nat → Int32} {best : Nat → Int32} {out : Nat → Int64} {x1 : Int32} {x2 : Int32} {post : Int32 → (Nat → Int32) → (Nat → Int64) → Prop} (hw : p_L_blocked x1 x2 places isBlocked out post) : Met l y_L_blocked w_L_blocked rm_L_blocked (va_Pc [.ref (a 0), .int x1, .int x2, .ref o] (kP D sa [(cI, .int), (cZ, .boolean), (cJ, .long)] (lW a o cI cZ cJ places listed front turns fetched placeOf shelfAt isBlocked shelfOf counts isOpen list ring stops fewest isExact shelves stopPlaces taken trial best out) sz)) (va_Qi (fun r (u : (Nat → Int32) × (Nat → Int64)) => post r u.1 u.2) (fun (u : (Nat → Int32) × (Nat → Int64)) t => va_P D classes (lW a o cI cZ cJ places listed front turns fetched placeOf shelfAt u.1 shelfOf counts isOpen list ring stops fewest isExact shelves stopPlaces taken trial best u.2) t.heap ∧ va_K D classes [(cI, .int), (cZ, .boolean), (cJ, .long)] t ∧ va_D (va_A (lW a o cI cZ cJ places listed front turns fetched placeOf shelfAt isBlocked shelfOf counts isOpen list ring stops fewest isExact shelves stopPlaces taken trial best out) sz) (lW a o cI cZ cJ places listed front turns fetched placeOf shelfAt u.1 shelfOf counts isOpen list ring stops fewest isExact shelves stopPlaces taken trial best u.2)) (va_A (lW a o cI cZ cJ places listed front turns fetched placeOf shelfAt isBlocked shelfOf counts isOpen list ring stops fewest isExact shelves stopPlaces taken trial best out) sz)) 1 6 (va_A (lW a o cI cZ cJ places listed front turns fetched placeOf shelfAt isBlocked shelfOf counts isOpen list ring stops fewest isExact shelves stopPlaces taken trial best out) sz) := by
  refine va_MetW (cc := b_L_blocked) (maxL := 5) (ret := (some .int)) (hh := [(0, 17, 20, 13)]) (by decide) rfl ?_
  intro p e s m args below meth c s₁ B hml hv
  obtain ⟨rfl, hsz, hP, hK, hD0, hZ⟩ := hv
  have hx := B.exec
  have hb := B.bytes
  have hr := B.returns
  have hts := atoms_spec (ws := w_L_blocked) B.pre
  have hown : s.vm.findClass R_L = some m.cls := findClass_of_methodNamed B.named
  have hlocks := B.notSynchronized
  have hTab : c.exceptionTable.toList = tableOf [(0, 17, 20, 13)] := vx_table (x := y_L_blocked) B (hts _ List.mem_cons_self)
  subst hsz
  have hD := hD0.self (sz := s.heap.size)
  generalize hAe : (va_A (lW a o cI cZ cJ places listed front turns fetched placeOf shelfAt isBlocked shelfOf counts isOpen list ring stops fewest isExact shelves stopPlaces taken trial best out) s.heap.size) = A at hD hZ ⊢
  have hA : ∀ q : Nat, s.heap.size ≤ q → A q := fun q h => by rw [← hAe]; exact Or.inr h
  have hS : va_S A s.heap s.heap [] := va_S.rf
  have hl := lv_entry ([.ref (a 0), .int x1, .int x2, .ref o]) (n := 5) (Nat.le_of_ble_eq_true rfl)
  rw [lg_entry_eq]
  generalize (lg_sl ([.ref (a 0), .int x1, .int x2, .ref o]) ++ List.replicate (5 - (lg_sl ([.ref (a 0), .int x1, .int x2, .ref o])).length) Slot.unset).toArray = ls at hl ⊢
  have hl : lv_has ls 5 [(0, .ref (a 0)), (1, .int x1), (2, .int x2), (3, .ref o)] := hl
  refine lv_aload_n hx hb d_L_blocked_0 rfl (lv_at hl 3 rfl) ?_
  refine lv_iconst (v := (0 : Int32)) hx hb d_L_blocked_1 (by decide) ?_
  refine lv_aload_n hx hb d_L_blocked_2 rfl (lv_at hl 0 rfl) ?_
  refine lv_iload_n hx hb d_L_blocked_3 rfl (lv_at hl 1 rfl) ?_
  refine lv_iload_n hx hb d_L_blocked_4 rfl (lv_at hl 2 rfl) ?_
  have hPc := hP.sub (ws' := cW a cI cZ places listed front turns fetched placeOf shelfAt isBlocked shelfOf counts isOpen list ring stops fewest isExact shelves stopPlaces taken trial best) [0, 1, 2, 3, 4, 5, 6, 7, 8, 9, 10, 11, 12, 13] rfl
  have hDc := hD.sub (ws' := cW a cI cZ places listed front turns fetched placeOf shelfAt isBlocked shelfOf counts isOpen list ring stops fewest isExact shelves stopPlaces taken trial best) [0, 1, 2, 3, 4, 5, 6, 7, 8, 9, 10, 11, 12, 13] (by decide) rfl
  have hFc := va_free (wc := cW a cI cZ places listed front turns fetched placeOf shelfAt isBlocked shelfOf counts isOpen list ring stops fewest isExact shelves stopPlaces taken trial best) hD hS hA [0, 1, 2, 3, 4, 5, 6, 7, 8, 9, 10, 11, 12, 13] rfl
  have hKc : va_K D classes [(cI, .int), (cZ, .boolean)] s := hK.sub [0, 1] rfl
  refine vx_calli (vx_runV (As := [.int x1, .int x2]) (rest := [.int (0 : Int32), .ref o]) ⟨hx, hb, hml, hown, hts⟩ (c_C_blocked hl9 hw) (cwV 2 hts (gV k_C_blocked kw_c40a671c kw_e13dfc98 kw_72bc9aac kw_91859716) rfl rfl rfl (by decide +kernel) ⟨(Nat.le_of_ble_eq_true rfl), (Nat.le_of_ble_eq_true rfl)⟩) ⟨kP.blind, va_recv hK hPc (ci := 0) (q0 := 0) rfl rfl, kP.of hKc hPc hDc hZ hS hFc⟩ rfl rfl hl.1 rfl (lv_room (Nat.le_of_ble_eq_true rfl)) d_L_blocked_5 ⟨(Nat.le_of_ble_eq_true rfl), (Nat.le_of_ble_eq_true rfl)⟩) hS (fun q _ h => hFc q h) hFc (fun q _ h => hFc q h) (fun E9 ce q9 u t H1 locs ht hvm hw hB hz1 hk1 hS hce hcv hcl => ?_) (fun r_1 u t H1 locs ht hvm hw hB hz1 hk1 hS => ?_)
  · obtain ⟨E_6, isBlocked_2⟩ := u
    obtain ⟨hE9, hP1, hK1, hD1⟩ := hB
    try dsimp only at hw hP1 hD1 hE9
    subst hE9
    rw [ht] at hP1
    have hK1 := va_K.moved hvm.symm hK1
    obtain ⟨hP, hD⟩ := va_join (wr := [(o, .inl (cJ, 1, .inr (.inl out)))]) (w1 := cW a cI cZ places listed front turns fetched placeOf shelfAt isBlocked_2 shelfOf counts isOpen list ring stops fewest isExact shelves stopPlaces taken trial best) hP hD [0, 1, 2, 3, 4, 5, 6, 7, 8, 9, 10, 11, 12, 13] [14] rfl rfl (by decide) (by decide) hk1 hFc hP1 hD1
    generalize H1 = H at hP hS hce ⊢
    have hP := hP.sub (ws' := lW a o cI cZ cJ places listed front turns fetched placeOf shelfAt isBlocked_2 shelfOf counts isOpen list ring stops fewest isExact shelves stopPlaces taken trial best out) [1, 2, 3, 4, 5, 6, 7, 8, 9, 10, 11, 12, 13, 14, 0] rfl
    have hD := hD.sub (ws' := lW a o cI cZ cJ places listed front turns fetched placeOf shelfAt isBlocked_2 shelfOf counts isOpen list ring stops fewest isExact shelves stopPlaces taken trial best out) [1, 2, 3, 4, 5, 6, 7, 8, 9, 10, 11, 12, 13, 14, 0] (by decide) rfl
    have hP : va_P D classes (lW a o cI cZ cJ places listed front turns fetched placeOf shelfAt isBlocked_2 shelfOf counts isOpen list ring stops fewest isExact shelves stopPlaces taken trial best out) H := hP
    have hD : va_D A (lW a o cI cZ cJ places listed front turns fetched placeOf shelfAt isBlocked_2 shelfOf counts isOpen list ring stops fewest isExact shelves stopPlaces taken trial best out) := hD
    rcases hw with ⟨e9, hw⟩
    · subst e9
      refine vx_catch (own := R_L) (name := "java/util/NoSuchElementException") (E := "java/util/NoSuchElementException") hown [] ⟨0, 17, 20, 13⟩ [] (by rw [hTab]; rfl) (fun z hz => nomatch hz) (by decide) (by decide) (hts _ (kM kw_2b9ca627)) (hZ.f (.castable "java/util/NoSuchElementException" "java/util/NoSuchElementException") (by decide +kernel)) hce hcv hcl ?_
      refine lv_astore (lv' := [(4, .ref q9), (0, .ref (a 0)), (1, .int x1), (2, .int x2), (3, .ref o)]) hx hb d_L_blocked_20 hl (by decide) rfl (fun ls hl => ?_)
      refine lv_iconst (v := (1 : Int32)) hx hb d_L_blocked_22 (by decide) ?_
      exact W.iret (v := (1 : Int32)) hx hb hr (fun t ht hW => ⟨⟨(1 : Int32), (isBlocked_2, out), rfl, hw, by rw [ht]; exact hP, va_K.moved hW.alike hK, hD⟩, hS.F ht⟩) hS.2.2 d_L_blocked_23
  · obtain ⟨isBlocked_2, rfl⟩ : ∃ z, z = u := ⟨_, rfl⟩
    obtain ⟨hP1, hK1, hD1⟩ := hB
    try dsimp only at hw hP1 hD1
    rw [ht] at hP1
    have hK1 := va_K.moved hvm.symm hK1
    obtain ⟨hP, hD⟩ := va_join (wr := [(o, .inl (cJ, 1, .inr (.inl out)))]) (w1 := cW a cI cZ places listed front turns fetched placeOf shelfAt isBlocked_2 shelfOf counts isOpen list ring stops fewest isExact shelves stopPlaces taken trial best) hP hD [0, 1, 2, 3, 4, 5, 6, 7, 8, 9, 10, 11, 12, 13] [14] rfl rfl (by decide) (by decide) hk1 hFc hP1 hD1
    generalize H1 = H at hP hS ⊢
    have hP := hP.sub (ws' := lW a o cI cZ cJ places listed front turns fetched placeOf shelfAt isBlocked_2 shelfOf counts isOpen list ring stops fewest isExact shelves stopPlaces taken trial best out) [1, 2, 3, 4, 5, 6, 7, 8, 9, 10, 11, 12, 13, 14, 0] rfl
    have hD := hD.sub (ws' := lW a o cI cZ cJ places listed front turns fetched placeOf shelfAt isBlocked_2 shelfOf counts isOpen list ring stops fewest isExact shelves stopPlaces taken trial best out) [1, 2, 3, 4, 5, 6, 7, 8, 9, 10, 11, 12, 13, 14, 0] (by decide) rfl
    have hP : va_P D classes (lW a o cI cZ cJ places listed front turns fetched placeOf shelfAt isBlocked_2 shelfOf counts isOpen list ring stops fewest isExact shelves stopPlaces taken trial best out) H := hP
    have hD : va_D A (lW a o cI cZ cJ places listed front turns fetched placeOf shelfAt isBlocked_2 shelfOf counts isOpen list ring stops fewest isExact shelves stopPlaces taken trial best out) := hD
    refine lv_if_eq (tgt := 15) hx hb d_L_blocked_8 (by decide) (fun c_3 => ?_) (fun c_3 => ?_)
    · have hw := hw.1 c_3
      refine lv_lconst (v := 0) hx hb d_L_blocked_15 (by decide) ?_
      obtain ⟨h_4, hw⟩ := hw
      refine va_last hx hb hK hP hD hS 14 2 rfl rfl h_4 d_L_blocked_16 (fun H locs hP hD hS => ?_)
      have hP : va_P D classes (lW a o cI cZ cJ places listed front turns fetched placeOf shelfAt isBlocked_2 shelfOf counts isOpen list ring stops fewest isExact shelves stopPlaces taken trial best (vp_updL out ((0 : Int32)).toNatClampNeg (0 : Int64))) H := hP
      have hD : va_D A (lW a o cI cZ cJ places listed front turns fetched placeOf shelfAt isBlocked_2 shelfOf counts isOpen list ring stops fewest isExact shelves stopPlaces taken trial best (vp_updL out ((0 : Int32)).toNatClampNeg (0 : Int64))) := hD
      refine lv_goto (tgt := 24) hx hb d_L_blocked_17 (by decide) ?_
      refine lv_iconst (v := (0 : Int32)) hx hb d_L_blocked_24 (by decide) ?_
      exact W.iret (v := (0 : Int32)) hx hb hr (fun t ht hW => ⟨⟨(0 : Int32), (isBlocked_2, (vp_updL out ((0 : Int32)).toNatClampNeg (0 : Int64))), rfl, hw, by rw [ht]; exact hP, va_K.moved hW.alike hK, hD⟩, hS.F ht⟩) hS.2.2 d_L_blocked_25
    · have hw := hw.2 c_3
      refine lv_lconst (v := 1) hx hb d_L_blocked_11 (by decide) ?_
      refine lv_goto (tgt := 16) hx hb d_L_blocked_12 (by decide) ?_
      obtain ⟨h_5, hw⟩ := hw
      refine va_last hx hb hK hP hD hS 14 2 rfl rfl h_5 d_L_blocked_16 (fun H locs hP hD hS => ?_)
      have hP : va_P D classes (lW a o cI cZ cJ places listed front turns fetched placeOf shelfAt isBlocked_2 shelfOf counts isOpen list ring stops fewest isExact shelves stopPlaces taken trial best (vp_updL out ((0 : Int32)).toNatClampNeg (1 : Int64))) H := hP
      have hD : va_D A (lW a o cI cZ cJ places listed front turns fetched placeOf shelfAt isBlocked_2 shelfOf counts isOpen list ring stops fewest isExact shelves stopPlaces taken trial best (vp_updL out ((0 : Int32)).toNatClampNeg (1 : Int64))) := hD
      refine lv_goto (tgt := 24) hx hb d_L_blocked_17 (by decide) ?_
      refine lv_iconst (v := (0 : Int32)) hx hb d_L_blocked_24 (by decide) ?_
      exact W.iret (v := (0 : Int32)) hx hb hr (fun t ht hW => ⟨⟨(0 : Int32), (isBlocked_2, (vp_updL out ((0 : Int32)).toNatClampNeg (1 : Int64))), rfl, hw, by rw [ht]; exact hP, va_K.moved hW.alike hK, hD⟩, hS.F ht⟩) hS.2.2 d_L_blocked_25
def p_L_days (x1 : Int32) (counts : Nat → Int32) (post : Int32 → (Nat → Int32) → Prop) : Prop := (p_C_days x1 counts (fun counts_1 => post (0 : Int32) counts_1) (fun E_2 counts_1 => ((E_2 = "java/lang/IllegalArgumentException" ∧ post (1 : Int32) counts_1))))
abbrev rm_L_days : Room := { frames := 7, cells := 1, slots := 6, locals := 122 }
set_option maxHeartbeats 4000000 in
set_option maxRecDepth 100000 in
theorem c_L_days {l : Launch} (hl9 : l.stackTraces = false) {D : va_G} {sa : Nat → Nat} {cI cZ : ClassId} {sz : Nat} {a : Nat → Nat} {places : Int32} {listed : Int32} {front : Int32} {turns : Int32} {fetched : Int32} {placeOf : Nat → Int32} {shelfAt : Nat → Int32} {isBlocked : Nat → Int32} {shelfOf : Nat → Int32} {counts : Nat → Int32} {isOpen : Nat → Int32} {list : Nat → Int32} {ring : Int32} {stops : Int32} {fewest : Int32} {isExact : Int32} {shelves : Nat → Int32} {stopPlaces : Nat → Int32} {taken : Nat → Int32} {trial : Nat → Int32} {best : Nat → Int32} {x1 : Int32} {post : Int32 → (Nat → Int32) → Prop} (hw : p_L_days x1 counts post) : Met l y_L_days w_L_days rm_L_days (va_Pc [.ref (a 0), .int x1] (kP D sa [(cI, .int), (cZ, .boolean)] (cW a cI cZ places listed front turns fetched placeOf shelfAt isBlocked shelfOf counts isOpen list ring stops fewest isExact shelves stopPlaces taken trial best) sz)) (va_Qi (fun r (u : (Nat → Int32)) => post r u) (fun (u : (Nat → Int32)) t => va_P D classes (cW a cI cZ places listed front turns fetched placeOf shelfAt isBlocked shelfOf u isOpen list ring stops fewest isExact shelves stopPlaces taken trial best) t.heap ∧ va_K D classes [(cI, .int), (cZ, .boolean)] t ∧ va_D (va_A (cW a cI cZ places listed front turns fetched placeOf shelfAt isBlocked shelfOf counts isOpen list ring stops fewest isExact shelves stopPlaces taken trial best) sz) (cW a cI cZ places listed front turns fetched placeOf shelfAt isBlocked shelfOf u isOpen list ring stops fewest isExact shelves stopPlaces taken trial best)) (va_A (cW a cI cZ places listed front turns fetched placeOf shelfAt isBlocked shelfOf counts isOpen list ring stops fewest isExact shelves stopPlaces taken trial best) sz)) 1 6 (va_A (cW a cI cZ places listed front turns fetched placeOf shelfAt isBlocked shelfOf counts isOpen list ring stops fewest isExact shelves stopPlaces taken trial best) sz) := by
  refine va_MetW (cc := b_L_days) (maxL := 3) (ret := (some .int)) (hh := [(0, 5, 8, 15)]) (by decide) rfl ?_
  intro p e s m args below meth c s₁ B hml hv
  obtain ⟨rfl, hsz, hP, hK, hD0, hZ⟩ := hv
  have hx := B.exec
  have hb := B.bytes
  have hr := B.returns
  have hts := atoms_spec (ws := w_L_days) B.pre
  have hown : s.vm.findClass R_L = some m.cls := findClass_of_methodNamed B.named
  have hlocks := B.notSynchronized
  have hTab : c.exceptionTable.toList = tableOf [(0, 5, 8, 15)] := vx_table (x := y_L_days) B (hts _ List.mem_cons_self)
  subst hsz
  have hD := hD0.self (sz := s.heap.size)
  generalize hAe : (va_A (cW a cI cZ places listed front turns fetched placeOf shelfAt isBlocked shelfOf counts isOpen list ring stops fewest isExact shelves stopPlaces taken trial best) s.heap.size) = A at hD hZ ⊢
  have hA : ∀ q : Nat, s.heap.size ≤ q → A q := fun q h => by rw [← hAe]; exact Or.inr h
  have hS : va_S A s.heap s.heap [] := va_S.rf
  have hl := lv_entry ([.ref (a 0), .int x1]) (n := 3) (Nat.le_of_ble_eq_true rfl)
  rw [lg_entry_eq]
  generalize (lg_sl ([.ref (a 0), .int x1]) ++ List.replicate (3 - (lg_sl ([.ref (a 0), .int x1])).length) Slot.unset).toArray = ls at hl ⊢
  have hl : lv_has ls 3 [(0, .ref (a 0)), (1, .int x1)] := hl
  refine lv_aload_n hx hb d_L_days_0 rfl (lv_at hl 0 rfl) ?_
  refine lv_iload_n hx hb d_L_days_1 rfl (lv_at hl 1 rfl) ?_
  have hPc := hP
  have hDc := hD
  have hFc := va_free (wc := cW a cI cZ places listed front turns fetched placeOf shelfAt isBlocked shelfOf counts isOpen list ring stops fewest isExact shelves stopPlaces taken trial best) hD hS hA [0, 1, 2, 3, 4, 5, 6, 7, 8, 9, 10, 11, 12, 13] rfl
  refine vx_callv (vx_runV (As := [.int x1]) (rest := []) ⟨hx, hb, hml, hown, hts⟩ (c_C_days hl9 hw) (cwV 1 hts (gV k_C_days kw_28af114f kw_29446660 kw_58d9b249 kw_91859716) rfl rfl rfl (by decide +kernel) ⟨(Nat.le_of_ble_eq_true rfl), (Nat.le_of_ble_eq_true rfl)⟩) ⟨kP.blind, va_recv hK hPc (ci := 0) (q0 := 0) rfl rfl, kP.of hK hPc hDc hZ hS hFc⟩ rfl rfl hl.1 rfl (lv_room (Nat.le_of_ble_eq_true rfl)) d_L_days_2 ⟨(Nat.le_of_ble_eq_true rfl), (Nat.le_of_ble_eq_true rfl)⟩) hS (fun q _ h => hFc q h) hFc (fun q _ h => hFc q h) (fun E9 ce q9 u t H1 locs ht hvm hw hB hz1 hk1 hS hce hcv hcl => ?_) (fun u t H1 locs ht hvm hw hB hz1 hk1 hS => ?_)
  · obtain ⟨E_2, counts_1⟩ := u
    obtain ⟨hE9, hP1, hK1, hD1⟩ := hB
    try dsimp only at hw hP1 hD1 hE9
    subst hE9
    rw [ht] at hP1
    have hK1 := va_K.moved hvm.symm hK1
    obtain ⟨hP, hD⟩ := va_join (wr := []) (w1 := cW a cI cZ places listed front turns fetched placeOf shelfAt isBlocked shelfOf counts_1 isOpen list ring stops fewest isExact shelves stopPlaces taken trial best) hP hD [0, 1, 2, 3, 4, 5, 6, 7, 8, 9, 10, 11, 12, 13] [] rfl rfl (by decide) (by decide) hk1 hFc hP1 hD1
    generalize H1 = H at hP hS hce ⊢
    have hP : va_P D classes (cW a cI cZ places listed front turns fetched placeOf shelfAt isBlocked shelfOf counts_1 isOpen list ring stops fewest isExact shelves stopPlaces taken trial best) H := hP
    have hD : va_D A (cW a cI cZ places listed front turns fetched placeOf shelfAt isBlocked shelfOf counts_1 isOpen list ring stops fewest isExact shelves stopPlaces taken trial best) := hD
    rcases hw with ⟨e9, hw⟩
    · subst e9
      refine vx_catch (own := R_L) (name := "java/lang/IllegalArgumentException") (E := "java/lang/IllegalArgumentException") hown [] ⟨0, 5, 8, 15⟩ [] (by rw [hTab]; rfl) (fun z hz => nomatch hz) (by decide) (by decide) (hts _ (kM kw_0cdcea8a)) (hZ.f (.castable "java/lang/IllegalArgumentException" "java/lang/IllegalArgumentException") (by decide +kernel)) hce hcv hcl ?_
      refine lv_astore_n (lv' := [(2, .ref q9), (0, .ref (a 0)), (1, .int x1)]) hx hb d_L_days_8 rfl hl (by decide) rfl (fun ls hl => ?_)
      refine lv_iconst (v := (1 : Int32)) hx hb d_L_days_9 (by decide) ?_
      exact W.iret (v := (1 : Int32)) hx hb hr (fun t ht hW => ⟨⟨(1 : Int32), counts_1, rfl, hw, by rw [ht]; exact hP, va_K.moved hW.alike hK, hD⟩, hS.F ht⟩) hS.2.2 d_L_days_10
  · obtain ⟨counts_1, rfl⟩ : ∃ z, z = u := ⟨_, rfl⟩
    obtain ⟨hP1, hK1, hD1⟩ := hB
    try dsimp only at hw hP1 hD1
    rw [ht] at hP1
    have hK1 := va_K.moved hvm.symm hK1
    obtain ⟨hP, hD⟩ := va_join (wr := []) (w1 := cW a cI cZ places listed front turns fetched placeOf shelfAt isBlocked shelfOf counts_1 isOpen list ring stops fewest isExact shelves stopPlaces taken trial best) hP hD [0, 1, 2, 3, 4, 5, 6, 7, 8, 9, 10, 11, 12, 13] [] rfl rfl (by decide) (by decide) hk1 hFc hP1 hD1
    generalize H1 = H at hP hS ⊢
    have hP : va_P D classes (cW a cI cZ places listed front turns fetched placeOf shelfAt isBlocked shelfOf counts_1 isOpen list ring stops fewest isExact shelves stopPlaces taken trial best) H := hP
    have hD : va_D A (cW a cI cZ places listed front turns fetched placeOf shelfAt isBlocked shelfOf counts_1 isOpen list ring stops fewest isExact shelves stopPlaces taken trial best) := hD
    refine lv_goto (tgt := 11) hx hb d_L_days_5 (by decide) ?_
    refine lv_iconst (v := (0 : Int32)) hx hb d_L_days_11 (by decide) ?_
    exact W.iret (v := (0 : Int32)) hx hb hr (fun t ht hW => ⟨⟨(0 : Int32), counts_1, rfl, hw, by rw [ht]; exact hP, va_K.moved hW.alike hK, hD⟩, hS.F ht⟩) hS.2.2 d_L_days_12
def p_L_learned (x1 : Int32) (counts : Nat → Int32) (out : Nat → Int64) (post : Int32 → (Nat → Int64) → Prop) : Prop := (p_C_learned x1 counts (fun r_1  => (vp_in (0 : Int32) 1 ∧ post (0 : Int32) (vp_updL out ((0 : Int32)).toNatClampNeg ((r_1).toInt64)))) (fun E_3 => ((E_3 = "java/lang/IllegalArgumentException" ∧ post (1 : Int32) out))))
abbrev rm_L_learned : Room := { frames := 8, cells := 1, slots := 6, locals := 141 }
set_option maxHeartbeats 4000000 in
set_option maxRecDepth 100000 in
theorem c_L_learned {l : Launch} (hl9 : l.stackTraces = false) {D : va_G} {sa : Nat → Nat} {cI cZ : ClassId} {sz : Nat} {a : Nat → Nat} {o : Nat} {cJ : ClassId} {places : Int32} {listed : Int32} {front : Int32} {turns : Int32} {fetched : Int32} {placeOf : Nat → Int32} {shelfAt : Nat → Int32} {isBlocked : Nat → Int32} {shelfOf : Nat → Int32} {counts : Nat → Int32} {isOpen : Nat → Int32} {list : Nat → Int32} {ring : Int32} {stops : Int32} {fewest : Int32} {isExact : Int32} {shelves : Nat → Int32} {stopPlaces : Nat → Int32} {taken : Nat → Int32} {trial : Nat → Int32} {best : Nat → Int32} {out : Nat → Int64} {x1 : Int32} {post : Int32 → (Nat → Int64) → Prop} (hw : p_L_learned x1 counts out post) : Met l y_L_learned w_L_learned rm_L_learned (va_Pc [.ref (a 0), .int x1, .ref o] (kP D sa [(cI, .int), (cZ, .boolean), (cJ, .long)] (lW a o cI cZ cJ places listed front turns fetched placeOf shelfAt isBlocked shelfOf counts isOpen list ring stops fewest isExact shelves stopPlaces taken trial best out) sz)) (va_Qi (fun r (u : (Nat → Int64)) => post r u) (fun (u : (Nat → Int64)) t => va_P D classes (lW a o cI cZ cJ places listed front turns fetched placeOf shelfAt isBlocked shelfOf counts isOpen list ring stops fewest isExact shelves stopPlaces taken trial best u) t.heap ∧ va_K D classes [(cI, .int), (cZ, .boolean), (cJ, .long)] t ∧ va_D (va_A (lW a o cI cZ cJ places listed front turns fetched placeOf shelfAt isBlocked shelfOf counts isOpen list ring stops fewest isExact shelves stopPlaces taken trial best out) sz) (lW a o cI cZ cJ places listed front turns fetched placeOf shelfAt isBlocked shelfOf counts isOpen list ring stops fewest isExact shelves stopPlaces taken trial best u)) (va_A (lW a o cI cZ cJ places listed front turns fetched placeOf shelfAt isBlocked shelfOf counts isOpen list ring stops fewest isExact shelves stopPlaces taken trial best out) sz)) 1 6 (va_A (lW a o cI cZ cJ places listed front turns fetched placeOf shelfAt isBlocked shelfOf counts isOpen list ring stops fewest isExact shelves stopPlaces taken trial best out) sz) := by
  refine va_MetW (cc := b_L_learned) (maxL := 4) (ret := (some .int)) (hh := [(0, 9, 12, 15)]) (by decide) rfl ?_
  intro p e s m args below meth c s₁ B hml hv
  obtain ⟨rfl, hsz, hP, hK, hD0, hZ⟩ := hv
  have hx := B.exec
  have hb := B.bytes
  have hr := B.returns
  have hts := atoms_spec (ws := w_L_learned) B.pre
  have hown : s.vm.findClass R_L = some m.cls := findClass_of_methodNamed B.named
  have hlocks := B.notSynchronized
  have hTab : c.exceptionTable.toList = tableOf [(0, 9, 12, 15)] := vx_table (x := y_L_learned) B (hts _ List.mem_cons_self)
  subst hsz
  have hD := hD0.self (sz := s.heap.size)
  generalize hAe : (va_A (lW a o cI cZ cJ places listed front turns fetched placeOf shelfAt isBlocked shelfOf counts isOpen list ring stops fewest isExact shelves stopPlaces taken trial best out) s.heap.size) = A at hD hZ ⊢
  have hA : ∀ q : Nat, s.heap.size ≤ q → A q := fun q h => by rw [← hAe]; exact Or.inr h
  have hS : va_S A s.heap s.heap [] := va_S.rf
  have hl := lv_entry ([.ref (a 0), .int x1, .ref o]) (n := 4) (Nat.le_of_ble_eq_true rfl)
  rw [lg_entry_eq]
  generalize (lg_sl ([.ref (a 0), .int x1, .ref o]) ++ List.replicate (4 - (lg_sl ([.ref (a 0), .int x1, .ref o])).length) Slot.unset).toArray = ls at hl ⊢
  have hl : lv_has ls 4 [(0, .ref (a 0)), (1, .int x1), (2, .ref o)] := hl
  refine lv_aload_n hx hb d_L_learned_0 rfl (lv_at hl 2 rfl) ?_
  refine lv_iconst (v := (0 : Int32)) hx hb d_L_learned_1 (by decide) ?_
  refine lv_aload_n hx hb d_L_learned_2 rfl (lv_at hl 0 rfl) ?_
  refine lv_iload_n hx hb d_L_learned_3 rfl (lv_at hl 1 rfl) ?_
  have hPc := hP.sub (ws' := cW a cI cZ places listed front turns fetched placeOf shelfAt isBlocked shelfOf counts isOpen list ring stops fewest isExact shelves stopPlaces taken trial best) [0, 1, 2, 3, 4, 5, 6, 7, 8, 9, 10, 11, 12, 13] rfl
  have hDc := hD.sub (ws' := cW a cI cZ places listed front turns fetched placeOf shelfAt isBlocked shelfOf counts isOpen list ring stops fewest isExact shelves stopPlaces taken trial best) [0, 1, 2, 3, 4, 5, 6, 7, 8, 9, 10, 11, 12, 13] (by decide) rfl
  have hFc := va_free (wc := cW a cI cZ places listed front turns fetched placeOf shelfAt isBlocked shelfOf counts isOpen list ring stops fewest isExact shelves stopPlaces taken trial best) hD hS hA [0, 1, 2, 3, 4, 5, 6, 7, 8, 9, 10, 11, 12, 13] rfl
  have hKc : va_K D classes [(cI, .int), (cZ, .boolean)] s := hK.sub [0, 1] rfl
  refine vx_calli (vx_runV (As := [.int x1]) (rest := [.int (0 : Int32), .ref o]) ⟨hx, hb, hml, hown, hts⟩ (c_C_learned hl9 hw) (cwV 1 hts (gV k_C_learned kw_1da5e6bb kw_9bc52af2 kw_dedbcb90 kw_91859716) rfl rfl rfl (by decide +kernel) ⟨(Nat.le_of_ble_eq_true rfl), (Nat.le_of_ble_eq_true rfl)⟩) ⟨kP.blind, va_recv hK hPc (ci := 0) (q0 := 0) rfl rfl, kP.of hKc hPc hDc hZ hS hFc⟩ rfl rfl hl.1 rfl (lv_room (Nat.le_of_ble_eq_true rfl)) d_L_learned_4 ⟨(Nat.le_of_ble_eq_true rfl), (Nat.le_of_ble_eq_true rfl)⟩) hS (fun q _ h => hFc q h) hFc (fun q _ h => hFc q h) (fun E9 ce q9 u t H1 locs ht hvm hw hB hz1 hk1 hS hce hcv hcl => ?_) (fun r_1 u t H1 locs ht hvm hw hB hz1 hk1 hS => ?_)
  · obtain ⟨E_3, rfl⟩ : ∃ z, z = u := ⟨_, rfl⟩
    obtain ⟨hE9, hP1, hK1, hD1⟩ := hB
    try dsimp only at hw hP1 hD1 hE9
    subst hE9
    rw [ht] at hP1
    have hK1 := va_K.moved hvm.symm hK1
    obtain ⟨hP, hD⟩ := va_join (wr := [(o, .inl (cJ, 1, .inr (.inl out)))]) (w1 := cW a cI cZ places listed front turns fetched placeOf shelfAt isBlocked shelfOf counts isOpen list ring stops fewest isExact shelves stopPlaces taken trial best) hP hD [0, 1, 2, 3, 4, 5, 6, 7, 8, 9, 10, 11, 12, 13] [14] rfl rfl (by decide) (by decide) hk1 hFc hP1 hD1
    generalize H1 = H at hP hS hce ⊢
    have hP := hP.sub (ws' := lW a o cI cZ cJ places listed front turns fetched placeOf shelfAt isBlocked shelfOf counts isOpen list ring stops fewest isExact shelves stopPlaces taken trial best out) [1, 2, 3, 4, 5, 6, 7, 8, 9, 10, 11, 12, 13, 14, 0] rfl
    have hD := hD.sub (ws' := lW a o cI cZ cJ places listed front turns fetched placeOf shelfAt isBlocked shelfOf counts isOpen list ring stops fewest isExact shelves stopPlaces taken trial best out) [1, 2, 3, 4, 5, 6, 7, 8, 9, 10, 11, 12, 13, 14, 0] (by decide) rfl
    have hP : va_P D classes (lW a o cI cZ cJ places listed front turns fetched placeOf shelfAt isBlocked shelfOf counts isOpen list ring stops fewest isExact shelves stopPlaces taken trial best out) H := hP
    have hD : va_D A (lW a o cI cZ cJ places listed front turns fetched placeOf shelfAt isBlocked shelfOf counts isOpen list ring stops fewest isExact shelves stopPlaces taken trial best out) := hD
    rcases hw with ⟨e9, hw⟩
    · subst e9
      refine vx_catch (own := R_L) (name := "java/lang/IllegalArgumentException") (E := "java/lang/IllegalArgumentException") hown [] ⟨0, 9, 12, 15⟩ [] (by rw [hTab]; rfl) (fun z hz => nomatch hz) (by decide) (by decide) (hts _ (kM kw_0cdcea8a)) (hZ.f (.castable "java/lang/IllegalArgumentException" "java/lang/IllegalArgumentException") (by decide +kernel)) hce hcv hcl ?_
      refine lv_astore_n (lv' := [(3, .ref q9), (0, .ref (a 0)), (1, .int x1), (2, .ref o)]) hx hb d_L_learned_12 rfl hl (by decide) rfl (fun ls hl => ?_)
      refine lv_iconst (v := (1 : Int32)) hx hb d_L_learned_13 (by decide) ?_
      exact W.iret (v := (1 : Int32)) hx hb hr (fun t ht hW => ⟨⟨(1 : Int32), out, rfl, hw, by rw [ht]; exact hP, va_K.moved hW.alike hK, hD⟩, hS.F ht⟩) hS.2.2 d_L_learned_14
  · obtain ⟨⟩ := u
    obtain ⟨hP1, hK1, hD1⟩ := hB
    try dsimp only at hw hP1 hD1
    rw [ht] at hP1
    have hK1 := va_K.moved hvm.symm hK1
    obtain ⟨hP, hD⟩ := va_join (wr := [(o, .inl (cJ, 1, .inr (.inl out)))]) (w1 := cW a cI cZ places listed front turns fetched placeOf shelfAt isBlocked shelfOf counts isOpen list ring stops fewest isExact shelves stopPlaces taken trial best) hP hD [0, 1, 2, 3, 4, 5, 6, 7, 8, 9, 10, 11, 12, 13] [14] rfl rfl (by decide) (by decide) hk1 hFc hP1 hD1
    generalize H1 = H at hP hS ⊢
    have hP := hP.sub (ws' := lW a o cI cZ cJ places listed front turns fetched placeOf shelfAt isBlocked shelfOf counts isOpen list ring stops fewest isExact shelves stopPlaces taken trial best out) [1, 2, 3, 4, 5, 6, 7, 8, 9, 10, 11, 12, 13, 14, 0] rfl
    have hD := hD.sub (ws' := lW a o cI cZ cJ places listed front turns fetched placeOf shelfAt isBlocked shelfOf counts isOpen list ring stops fewest isExact shelves stopPlaces taken trial best out) [1, 2, 3, 4, 5, 6, 7, 8, 9, 10, 11, 12, 13, 14, 0] (by decide) rfl
    have hP : va_P D classes (lW a o cI cZ cJ places listed front turns fetched placeOf shelfAt isBlocked shelfOf counts isOpen list ring stops fewest isExact shelves stopPlaces taken trial best out) H := hP
    have hD : va_D A (lW a o cI cZ cJ places listed front turns fetched placeOf shelfAt isBlocked shelfOf counts isOpen list ring stops fewest isExact shelves stopPlaces taken trial best out) := hD
    refine lv_i2l (v := (r_1).toInt64) hx hb d_L_learned_7 rfl ?_
    obtain ⟨h_2, hw⟩ := hw
    refine va_last hx hb hK hP hD hS 14 2 rfl rfl h_2 d_L_learned_8 (fun H locs hP hD hS => ?_)
    have hP : va_P D classes (lW a o cI cZ cJ places listed front turns fetched placeOf shelfAt isBlocked shelfOf counts isOpen list ring stops fewest isExact shelves stopPlaces taken trial best (vp_updL out ((0 : Int32)).toNatClampNeg ((r_1).toInt64))) H := hP
    have hD : va_D A (lW a o cI cZ cJ places listed front turns fetched placeOf shelfAt isBlocked shelfOf counts isOpen list ring stops fewest isExact shelves stopPlaces taken trial best (vp_updL out ((0 : Int32)).toNatClampNeg ((r_1).toInt64))) := hD
    refine lv_goto (tgt := 15) hx hb d_L_learned_9 (by decide) ?_
    refine lv_iconst (v := (0 : Int32)) hx hb d_L_learned_15 (by decide) ?_
    exact W.iret (v := (0 : Int32)) hx hb hr (fun t ht hW => ⟨⟨(0 : Int32), (vp_updL out ((0 : Int32)).toNatClampNeg ((r_1).toInt64)), rfl, hw, by rw [ht]; exact hP, va_K.moved hW.alike hK, hD⟩, hS.F ht⟩) hS.2.2 d_L_learned_16
def p_L_shelf (x1 : Int32) (x2 : Int32) (places : Int32) (front : Int32) (placeOf : Nat → Int32) (isBlocked : Nat → Int32) (shelfOf : Nat → Int32) (counts : Nat → Int32) (out : Nat → Int64) (post : Int32 → (Nat → Int64) → Prop) : Prop := (p_C_shelf x1 x2 places front placeOf isBlocked shelfOf counts (fun r_1  => (vp_in (0 : Int32) 1 ∧ post (0 : Int32) (vp_updL out ((0 : Int32)).toNatClampNeg ((r_1).toInt64)))) (fun E_3 => ((E_3 = "java/util/NoSuchElementException" ∧ post (1 : Int32) out) ∨ (E_3 = "java/lang/IllegalArgumentException" ∧ post (2 : Int32) out))))
abbrev rm_L_shelf : Room := { frames := 8, cells := 2, slots := 12, locals := 143 }
set_option maxHeartbeats 4000000 in
set_option maxRecDepth 100000 in
theorem c_L_shelf {l : Launch} (hl9 : l.stackTraces = false) {D : va_G} {sa : Nat → Nat} {cI cZ : ClassId} {sz : Nat} {a : Nat → Nat} {o : Nat} {cJ : ClassId} {places : Int32} {listed : Int32} {front : Int32} {turns : Int32} {fetched : Int32} {placeOf : Nat → Int32} {shelfAt : Nat → Int32} {isBlocked : Nat → Int32} {shelfOf : Nat → Int32} {counts : Nat → Int32} {isOpen : Nat → Int32} {list : Nat → Int32} {ring : Int32} {stops : Int32} {fewest : Int32} {isExact : Int32} {shelves : Nat → Int32} {stopPlaces : Nat → Int32} {taken : Nat → Int32} {trial : Nat → Int32} {best : Nat → Int32} {out : Nat → Int64} {x1 : Int32} {x2 : Int32} {post : Int32 → (Nat → Int64) → Prop} (hw : p_L_shelf x1 x2 places front placeOf isBlocked shelfOf counts out post) : Met l y_L_shelf w_L_shelf rm_L_shelf (va_Pc [.ref (a 0), .int x1, .int x2, .ref o] (kP D sa [(cI, .int), (cZ, .boolean), (cJ, .long)] (lW a o cI cZ cJ places listed front turns fetched placeOf shelfAt isBlocked shelfOf counts isOpen list ring stops fewest isExact shelves stopPlaces taken trial best out) sz)) (va_Qi (fun r (u : (Nat → Int64)) => post r u) (fun (u : (Nat → Int64)) t => va_P D classes (lW a o cI cZ cJ places listed front turns fetched placeOf shelfAt isBlocked shelfOf counts isOpen list ring stops fewest isExact shelves stopPlaces taken trial best u) t.heap ∧ va_K D classes [(cI, .int), (cZ, .boolean), (cJ, .long)] t ∧ va_D (va_A (lW a o cI cZ cJ places listed front turns fetched placeOf shelfAt isBlocked shelfOf counts isOpen list ring stops fewest isExact shelves stopPlaces taken trial best out) sz) (lW a o cI cZ cJ places listed front turns fetched placeOf shelfAt isBlocked shelfOf counts isOpen list ring stops fewest isExact shelves stopPlaces taken trial best u)) (va_A (lW a o cI cZ cJ places listed front turns fetched placeOf shelfAt isBlocked shelfOf counts isOpen list ring stops fewest isExact shelves stopPlaces taken trial best out) sz)) 2 12 (va_A (lW a o cI cZ cJ places listed front turns fetched placeOf shelfAt isBlocked shelfOf counts isOpen list ring stops fewest isExact shelves stopPlaces taken trial best out) sz) := by
  refine va_MetW (cc := b_L_shelf) (maxL := 5) (ret := (some .int)) (hh := [(0, 10, 13, 13), (0, 10, 17, 15)]) (by decide) rfl ?_
  intro p e s m args below meth c s₁ B hml hv
  obtain ⟨rfl, hsz, hP, hK, hD0, hZ⟩ := hv
  have hx := B.exec
  have hb := B.bytes
  have hr := B.returns
  have hts := atoms_spec (ws := w_L_shelf) B.pre
  have hown : s.vm.findClass R_L = some m.cls := findClass_of_methodNamed B.named
  have hlocks := B.notSynchronized
  have hTab : c.exceptionTable.toList = tableOf [(0, 10, 13, 13), (0, 10, 17, 15)] := vx_table (x := y_L_shelf) B (hts _ List.mem_cons_self)
  subst hsz
  have hD := hD0.self (sz := s.heap.size)
  generalize hAe : (va_A (lW a o cI cZ cJ places listed front turns fetched placeOf shelfAt isBlocked shelfOf counts isOpen list ring stops fewest isExact shelves stopPlaces taken trial best out) s.heap.size) = A at hD hZ ⊢
  have hA : ∀ q : Nat, s.heap.size ≤ q → A q := fun q h => by rw [← hAe]; exact Or.inr h
  have hS : va_S A s.heap s.heap [] := va_S.rf
  have hl := lv_entry ([.ref (a 0), .int x1, .int x2, .ref o]) (n := 5) (Nat.le_of_ble_eq_true rfl)
  rw [lg_entry_eq]
  generalize (lg_sl ([.ref (a 0), .int x1, .int x2, .ref o]) ++ List.replicate (5 - (lg_sl ([.ref (a 0), .int x1, .int x2, .ref o])).length) Slot.unset).toArray = ls at hl ⊢
  have hl : lv_has ls 5 [(0, .ref (a 0)), (1, .int x1), (2, .int x2), (3, .ref o)] := hl
  refine lv_aload_n hx hb d_L_shelf_0 rfl (lv_at hl 3 rfl) ?_
  refine lv_iconst (v := (0 : Int32)) hx hb d_L_shelf_1 (by decide) ?_
  refine lv_aload_n hx hb d_L_shelf_2 rfl (lv_at hl 0 rfl) ?_
  refine lv_iload_n hx hb d_L_shelf_3 rfl (lv_at hl 1 rfl) ?_
  refine lv_iload_n hx hb d_L_shelf_4 rfl (lv_at hl 2 rfl) ?_
  have hPc := hP.sub (ws' := cW a cI cZ places listed front turns fetched placeOf shelfAt isBlocked shelfOf counts isOpen list ring stops fewest isExact shelves stopPlaces taken trial best) [0, 1, 2, 3, 4, 5, 6, 7, 8, 9, 10, 11, 12, 13] rfl
  have hDc := hD.sub (ws' := cW a cI cZ places listed front turns fetched placeOf shelfAt isBlocked shelfOf counts isOpen list ring stops fewest isExact shelves stopPlaces taken trial best) [0, 1, 2, 3, 4, 5, 6, 7, 8, 9, 10, 11, 12, 13] (by decide) rfl
  have hFc := va_free (wc := cW a cI cZ places listed front turns fetched placeOf shelfAt isBlocked shelfOf counts isOpen list ring stops fewest isExact shelves stopPlaces taken trial best) hD hS hA [0, 1, 2, 3, 4, 5, 6, 7, 8, 9, 10, 11, 12, 13] rfl
  have hKc : va_K D classes [(cI, .int), (cZ, .boolean)] s := hK.sub [0, 1] rfl
  refine vx_calli (vx_runV (As := [.int x1, .int x2]) (rest := [.int (0 : Int32), .ref o]) ⟨hx, hb, hml, hown, hts⟩ (c_C_shelf hl9 hw) (cwV 2 hts (gV k_C_shelf kw_3fc3b901 kw_f7bb29fd kw_def077b3 kw_91859716) rfl rfl rfl (by decide +kernel) ⟨(Nat.le_of_ble_eq_true rfl), (Nat.le_of_ble_eq_true rfl)⟩) ⟨kP.blind, va_recv hK hPc (ci := 0) (q0 := 0) rfl rfl, kP.of hKc hPc hDc hZ hS hFc⟩ rfl rfl hl.1 rfl (lv_room (Nat.le_of_ble_eq_true rfl)) d_L_shelf_5 ⟨(Nat.le_of_ble_eq_true rfl), (Nat.le_of_ble_eq_true rfl)⟩) hS (fun q _ h => hFc q h) hFc (fun q _ h => hFc q h) (fun E9 ce q9 u t H1 locs ht hvm hw hB hz1 hk1 hS hce hcv hcl => ?_) (fun r_1 u t H1 locs ht hvm hw hB hz1 hk1 hS => ?_)
  · obtain ⟨E_3, rfl⟩ : ∃ z, z = u := ⟨_, rfl⟩
    obtain ⟨hE9, hP1, hK1, hD1⟩ := hB
    try dsimp only at hw hP1 hD1 hE9
    subst hE9
    rw [ht] at hP1
    have hK1 := va_K.moved hvm.symm hK1
    obtain ⟨hP, hD⟩ := va_join (wr := [(o, .inl (cJ, 1, .inr (.inl out)))]) (w1 := cW a cI cZ places listed front turns fetched placeOf shelfAt isBlocked shelfOf counts isOpen list ring stops fewest isExact shelves stopPlaces taken trial best) hP hD [0, 1, 2, 3, 4, 5, 6, 7, 8, 9, 10, 11, 12, 13] [14] rfl rfl (by decide) (by decide) hk1 hFc hP1 hD1
    generalize H1 = H at hP hS hce ⊢
    have hP := hP.sub (ws' := lW a o cI cZ cJ places listed front turns fetched placeOf shelfAt isBlocked shelfOf counts isOpen list ring stops fewest isExact shelves stopPlaces taken trial best out) [1, 2, 3, 4, 5, 6, 7, 8, 9, 10, 11, 12, 13, 14, 0] rfl
    have hD := hD.sub (ws' := lW a o cI cZ cJ places listed front turns fetched placeOf shelfAt isBlocked shelfOf counts isOpen list ring stops fewest isExact shelves stopPlaces taken trial best out) [1, 2, 3, 4, 5, 6, 7, 8, 9, 10, 11, 12, 13, 14, 0] (by decide) rfl
    have hP : va_P D classes (lW a o cI cZ cJ places listed front turns fetched placeOf shelfAt isBlocked shelfOf counts isOpen list ring stops fewest isExact shelves stopPlaces taken trial best out) H := hP
    have hD : va_D A (lW a o cI cZ cJ places listed front turns fetched placeOf shelfAt isBlocked shelfOf counts isOpen list ring stops fewest isExact shelves stopPlaces taken trial best out) := hD
    rcases hw with ⟨e9, hw⟩ | ⟨e9, hw⟩
    · subst e9
      refine vx_catch (own := R_L) (name := "java/util/NoSuchElementException") (E := "java/util/NoSuchElementException") hown [] ⟨0, 10, 13, 13⟩ [⟨0, 10, 17, 15⟩] (by rw [hTab]; rfl) (fun z hz => nomatch hz) (by decide) (by decide) (hts _ (kM kw_2b9ca627)) (hZ.f (.castable "java/util/NoSuchElementException" "java/util/NoSuchElementException") (by decide +kernel)) hce hcv hcl ?_
      refine lv_astore (lv' := [(4, .ref q9), (0, .ref (a 0)), (1, .int x1), (2, .int x2), (3, .ref o)]) hx hb d_L_shelf_13 hl (by decide) rfl (fun ls hl => ?_)
      refine lv_iconst (v := (1 : Int32)) hx hb d_L_shelf_15 (by decide) ?_
      exact W.iret (v := (1 : Int32)) hx hb hr (fun t ht hW => ⟨⟨(1 : Int32), out, rfl, hw, by rw [ht]; exact hP, va_K.moved hW.alike hK, hD⟩, hS.F ht⟩) hS.2.2 d_L_shelf_16
    · subst e9
      refine vx_catch (own := R_L) (name := "java/lang/IllegalArgumentException") (E := "java/lang/IllegalArgumentException") hown [⟨0, 10, 13, 13⟩] ⟨0, 10, 17, 15⟩ [] (by rw [hTab]; rfl) (List.forall_mem_cons.mpr ⟨Or.inr ⟨by decide, "java/util/NoSuchElementException", (hts _ (kM kw_2b9ca627)), hZ.c (by decide +kernel)⟩, fun z hz => nomatch hz⟩) (by decide) (by decide) (hts _ (kM kw_0cdcea8a)) (hZ.f (.castable "java/lang/IllegalArgumentException" "java/lang/IllegalArgumentException") (by decide +kernel)) hce hcv hcl ?_
      refine lv_astore (lv' := [(4, .ref q9), (0, .ref (a 0)), (1, .int x1), (2, .int x2), (3, .ref o)]) hx hb d_L_shelf_17 hl (by decide) rfl (fun ls hl => ?_)
      refine lv_iconst (v := (2 : Int32)) hx hb d_L_shelf_19 (by decide) ?_
      exact W.iret (v := (2 : Int32)) hx hb hr (fun t ht hW => ⟨⟨(2 : Int32), out, rfl, hw, by rw [ht]; exact hP, va_K.moved hW.alike hK, hD⟩, hS.F ht⟩) hS.2.2 d_L_shelf_20
  · obtain ⟨⟩ := u
    obtain ⟨hP1, hK1, hD1⟩ := hB
    try dsimp only at hw hP1 hD1
    rw [ht] at hP1
    have hK1 := va_K.moved hvm.symm hK1
    obtain ⟨hP, hD⟩ := va_join (wr := [(o, .inl (cJ, 1, .inr (.inl out)))]) (w1 := cW a cI cZ places listed front turns fetched placeOf shelfAt isBlocked shelfOf counts isOpen list ring stops fewest isExact shelves stopPlaces taken trial best) hP hD [0, 1, 2, 3, 4, 5, 6, 7, 8, 9, 10, 11, 12, 13] [14] rfl rfl (by decide) (by decide) hk1 hFc hP1 hD1
    generalize H1 = H at hP hS ⊢
    have hP := hP.sub (ws' := lW a o cI cZ cJ places listed front turns fetched placeOf shelfAt isBlocked shelfOf counts isOpen list ring stops fewest isExact shelves stopPlaces taken trial best out) [1, 2, 3, 4, 5, 6, 7, 8, 9, 10, 11, 12, 13, 14, 0] rfl
    have hD := hD.sub (ws' := lW a o cI cZ cJ places listed front turns fetched placeOf shelfAt isBlocked shelfOf counts isOpen list ring stops fewest isExact shelves stopPlaces taken trial best out) [1, 2, 3, 4, 5, 6, 7, 8, 9, 10, 11, 12, 13, 14, 0] (by decide) rfl
    have hP : va_P D classes (lW a o cI cZ cJ places listed front turns fetched placeOf shelfAt isBlocked shelfOf counts isOpen list ring stops fewest isExact shelves stopPlaces taken trial best out) H := hP
    have hD : va_D A (lW a o cI cZ cJ places listed front turns fetched placeOf shelfAt isBlocked shelfOf counts isOpen list ring stops fewest isExact shelves stopPlaces taken trial best out) := hD
    refine lv_i2l (v := (r_1).toInt64) hx hb d_L_shelf_8 rfl ?_
    obtain ⟨h_2, hw⟩ := hw
    refine va_last hx hb hK hP hD hS 14 2 rfl rfl h_2 d_L_shelf_9 (fun H locs hP hD hS => ?_)
    have hP : va_P D classes (lW a o cI cZ cJ places listed front turns fetched placeOf shelfAt isBlocked shelfOf counts isOpen list ring stops fewest isExact shelves stopPlaces taken trial best (vp_updL out ((0 : Int32)).toNatClampNeg ((r_1).toInt64))) H := hP
    have hD : va_D A (lW a o cI cZ cJ places listed front turns fetched placeOf shelfAt isBlocked shelfOf counts isOpen list ring stops fewest isExact shelves stopPlaces taken trial best (vp_updL out ((0 : Int32)).toNatClampNeg ((r_1).toInt64))) := hD
    refine lv_goto (tgt := 21) hx hb d_L_shelf_10 (by decide) ?_
    refine lv_iconst (v := (0 : Int32)) hx hb d_L_shelf_21 (by decide) ?_
    exact W.iret (v := (0 : Int32)) hx hb hr (fun t ht hW => ⟨⟨(0 : Int32), (vp_updL out ((0 : Int32)).toNatClampNeg ((r_1).toInt64)), rfl, hw, by rw [ht]; exact hP, va_K.moved hW.alike hK, hD⟩, hS.F ht⟩) hS.2.2 d_L_shelf_22
def p_L_unit (x1 : Int32) (shelfOf : Nat → Int32) (out : Nat → Int64) (post : Int32 → (Nat → Int64) → Prop) : Prop := (p_C_unit x1 shelfOf (fun r_1  => (vp_in (0 : Int32) 1 ∧ post (0 : Int32) (vp_updL out ((0 : Int32)).toNatClampNeg ((r_1).toInt64)))) (fun E_3 => ((E_3 = "java/lang/IllegalArgumentException" ∧ post (1 : Int32) out))))
abbrev rm_L_unit : Room := { frames := 8, cells := 1, slots := 6, locals := 141 }
set_option maxHeartbeats 4000000 in
set_option maxRecDepth 100000 in
theorem c_L_unit {l : Launch} (hl9 : l.stackTraces = false) {D : va_G} {sa : Nat → Nat} {cI cZ : ClassId} {sz : Nat} {a : Nat → Nat} {o : Nat} {cJ : ClassId} {places : Int32} {listed : Int32} {front : Int32} {turns : Int32} {fetched : Int32} {placeOf : Nat → Int32} {shelfAt : Nat → Int32} {isBlocked : Nat → Int32} {shelfOf : Nat → Int32} {counts : Nat → Int32} {isOpen : Nat → Int32} {list : Nat → Int32} {ring : Int32} {stops : Int32} {fewest : Int32} {isExact : Int32} {shelves : Nat → Int32} {stopPlaces : Nat → Int32} {taken : Nat → Int32} {trial : Nat → Int32} {best : Nat → Int32} {out : Nat → Int64} {x1 : Int32} {post : Int32 → (Nat → Int64) → Prop} (hw : p_L_unit x1 shelfOf out post) : Met l y_L_unit w_L_unit rm_L_unit (va_Pc [.ref (a 0), .int x1, .ref o] (kP D sa [(cI, .int), (cZ, .boolean), (cJ, .long)] (lW a o cI cZ cJ places listed front turns fetched placeOf shelfAt isBlocked shelfOf counts isOpen list ring stops fewest isExact shelves stopPlaces taken trial best out) sz)) (va_Qi (fun r (u : (Nat → Int64)) => post r u) (fun (u : (Nat → Int64)) t => va_P D classes (lW a o cI cZ cJ places listed front turns fetched placeOf shelfAt isBlocked shelfOf counts isOpen list ring stops fewest isExact shelves stopPlaces taken trial best u) t.heap ∧ va_K D classes [(cI, .int), (cZ, .boolean), (cJ, .long)] t ∧ va_D (va_A (lW a o cI cZ cJ places listed front turns fetched placeOf shelfAt isBlocked shelfOf counts isOpen list ring stops fewest isExact shelves stopPlaces taken trial best out) sz) (lW a o cI cZ cJ places listed front turns fetched placeOf shelfAt isBlocked shelfOf counts isOpen list ring stops fewest isExact shelves stopPlaces taken trial best u)) (va_A (lW a o cI cZ cJ places listed front turns fetched placeOf shelfAt isBlocked shelfOf counts isOpen list ring stops fewest isExact shelves stopPlaces taken trial best out) sz)) 1 6 (va_A (lW a o cI cZ cJ places listed front turns fetched placeOf shelfAt isBlocked shelfOf counts isOpen list ring stops fewest isExact shelves stopPlaces taken trial best out) sz) := by
  refine va_MetW (cc := b_L_unit) (maxL := 4) (ret := (some .int)) (hh := [(0, 9, 12, 15)]) (by decide) rfl ?_
  intro p e s m args below meth c s₁ B hml hv
  obtain ⟨rfl, hsz, hP, hK, hD0, hZ⟩ := hv
  have hx := B.exec
  have hb := B.bytes
  have hr := B.returns
  have hts := atoms_spec (ws := w_L_unit) B.pre
  have hown : s.vm.findClass R_L = some m.cls := findClass_of_methodNamed B.named
  have hlocks := B.notSynchronized
  have hTab : c.exceptionTable.toList = tableOf [(0, 9, 12, 15)] := vx_table (x := y_L_unit) B (hts _ List.mem_cons_self)
  subst hsz
  have hD := hD0.self (sz := s.heap.size)
  generalize hAe : (va_A (lW a o cI cZ cJ places listed front turns fetched placeOf shelfAt isBlocked shelfOf counts isOpen list ring stops fewest isExact shelves stopPlaces taken trial best out) s.heap.size) = A at hD hZ ⊢
  have hA : ∀ q : Nat, s.heap.size ≤ q → A q := fun q h => by rw [← hAe]; exact Or.inr h
  have hS : va_S A s.heap s.heap [] := va_S.rf
  have hl := lv_entry ([.ref (a 0), .int x1, .ref o]) (n := 4) (Nat.le_of_ble_eq_true rfl)
  rw [lg_entry_eq]
  generalize (lg_sl ([.ref (a 0), .int x1, .ref o]) ++ List.replicate (4 - (lg_sl ([.ref (a 0), .int x1, .ref o])).length) Slot.unset).toArray = ls at hl ⊢
  have hl : lv_has ls 4 [(0, .ref (a 0)), (1, .int x1), (2, .ref o)] := hl
  refine lv_aload_n hx hb d_L_unit_0 rfl (lv_at hl 2 rfl) ?_
  refine lv_iconst (v := (0 : Int32)) hx hb d_L_unit_1 (by decide) ?_
  refine lv_aload_n hx hb d_L_unit_2 rfl (lv_at hl 0 rfl) ?_
  refine lv_iload_n hx hb d_L_unit_3 rfl (lv_at hl 1 rfl) ?_
  have hPc := hP.sub (ws' := cW a cI cZ places listed front turns fetched placeOf shelfAt isBlocked shelfOf counts isOpen list ring stops fewest isExact shelves stopPlaces taken trial best) [0, 1, 2, 3, 4, 5, 6, 7, 8, 9, 10, 11, 12, 13] rfl
  have hDc := hD.sub (ws' := cW a cI cZ places listed front turns fetched placeOf shelfAt isBlocked shelfOf counts isOpen list ring stops fewest isExact shelves stopPlaces taken trial best) [0, 1, 2, 3, 4, 5, 6, 7, 8, 9, 10, 11, 12, 13] (by decide) rfl
  have hFc := va_free (wc := cW a cI cZ places listed front turns fetched placeOf shelfAt isBlocked shelfOf counts isOpen list ring stops fewest isExact shelves stopPlaces taken trial best) hD hS hA [0, 1, 2, 3, 4, 5, 6, 7, 8, 9, 10, 11, 12, 13] rfl
  have hKc : va_K D classes [(cI, .int), (cZ, .boolean)] s := hK.sub [0, 1] rfl
  refine vx_calli (vx_runV (As := [.int x1]) (rest := [.int (0 : Int32), .ref o]) ⟨hx, hb, hml, hown, hts⟩ (c_C_unit hl9 hw) (cwV 1 hts (gV k_C_unit kw_bc1c81aa kw_fb4a503c kw_80ab89db kw_91859716) rfl rfl rfl (by decide +kernel) ⟨(Nat.le_of_ble_eq_true rfl), (Nat.le_of_ble_eq_true rfl)⟩) ⟨kP.blind, va_recv hK hPc (ci := 0) (q0 := 0) rfl rfl, kP.of hKc hPc hDc hZ hS hFc⟩ rfl rfl hl.1 rfl (lv_room (Nat.le_of_ble_eq_true rfl)) d_L_unit_4 ⟨(Nat.le_of_ble_eq_true rfl), (Nat.le_of_ble_eq_true rfl)⟩) hS (fun q _ h => hFc q h) hFc (fun q _ h => hFc q h) (fun E9 ce q9 u t H1 locs ht hvm hw hB hz1 hk1 hS hce hcv hcl => ?_) (fun r_1 u t H1 locs ht hvm hw hB hz1 hk1 hS => ?_)
  · obtain ⟨E_3, rfl⟩ : ∃ z, z = u := ⟨_, rfl⟩
    obtain ⟨hE9, hP1, hK1, hD1⟩ := hB
    try dsimp only at hw hP1 hD1 hE9
    subst hE9
    rw [ht] at hP1
    have hK1 := va_K.moved hvm.symm hK1
    obtain ⟨hP, hD⟩ := va_join (wr := [(o, .inl (cJ, 1, .inr (.inl out)))]) (w1 := cW a cI cZ places listed front turns fetched placeOf shelfAt isBlocked shelfOf counts isOpen list ring stops fewest isExact shelves stopPlaces taken trial best) hP hD [0, 1, 2, 3, 4, 5, 6, 7, 8, 9, 10, 11, 12, 13] [14] rfl rfl (by decide) (by decide) hk1 hFc hP1 hD1
    generalize H1 = H at hP hS hce ⊢
    have hP := hP.sub (ws' := lW a o cI cZ cJ places listed front turns fetched placeOf shelfAt isBlocked shelfOf counts isOpen list ring stops fewest isExact shelves stopPlaces taken trial best out) [1, 2, 3, 4, 5, 6, 7, 8, 9, 10, 11, 12, 13, 14, 0] rfl
    have hD := hD.sub (ws' := lW a o cI cZ cJ places listed front turns fetched placeOf shelfAt isBlocked shelfOf counts isOpen list ring stops fewest isExact shelves stopPlaces taken trial best out) [1, 2, 3, 4, 5, 6, 7, 8, 9, 10, 11, 12, 13, 14, 0] (by decide) rfl
    have hP : va_P D classes (lW a o cI cZ cJ places listed front turns fetched placeOf shelfAt isBlocked shelfOf counts isOpen list ring stops fewest isExact shelves stopPlaces taken trial best out) H := hP
    have hD : va_D A (lW a o cI cZ cJ places listed front turns fetched placeOf shelfAt isBlocked shelfOf counts isOpen list ring stops fewest isExact shelves stopPlaces taken trial best out) := hD
    rcases hw with ⟨e9, hw⟩
    · subst e9
      refine vx_catch (own := R_L) (name := "java/lang/IllegalArgumentException") (E := "java/lang/IllegalArgumentException") hown [] ⟨0, 9, 12, 15⟩ [] (by rw [hTab]; rfl) (fun z hz => nomatch hz) (by decide) (by decide) (hts _ (kM kw_0cdcea8a)) (hZ.f (.castable "java/lang/IllegalArgumentException" "java/lang/IllegalArgumentException") (by decide +kernel)) hce hcv hcl ?_
      refine lv_astore_n (lv' := [(3, .ref q9), (0, .ref (a 0)), (1, .int x1), (2, .ref o)]) hx hb d_L_unit_12 rfl hl (by decide) rfl (fun ls hl => ?_)
      refine lv_iconst (v := (1 : Int32)) hx hb d_L_unit_13 (by decide) ?_
      exact W.iret (v := (1 : Int32)) hx hb hr (fun t ht hW => ⟨⟨(1 : Int32), out, rfl, hw, by rw [ht]; exact hP, va_K.moved hW.alike hK, hD⟩, hS.F ht⟩) hS.2.2 d_L_unit_14
  · obtain ⟨⟩ := u
    obtain ⟨hP1, hK1, hD1⟩ := hB
    try dsimp only at hw hP1 hD1
    rw [ht] at hP1
    have hK1 := va_K.moved hvm.symm hK1
    obtain ⟨hP, hD⟩ := va_join (wr := [(o, .inl (cJ, 1, .inr (.inl out)))]) (w1 := cW a cI cZ places listed front turns fetched placeOf shelfAt isBlocked shelfOf counts isOpen list ring stops fewest isExact shelves stopPlaces taken trial best) hP hD [0, 1, 2, 3, 4, 5, 6, 7, 8, 9, 10, 11, 12, 13] [14] rfl rfl (by decide) (by decide) hk1 hFc hP1 hD1
    generalize H1 = H at hP hS ⊢
    have hP := hP.sub (ws' := lW a o cI cZ cJ places listed front turns fetched placeOf shelfAt isBlocked shelfOf counts isOpen list ring stops fewest isExact shelves stopPlaces taken trial best out) [1, 2, 3, 4, 5, 6, 7, 8, 9, 10, 11, 12, 13, 14, 0] rfl
    have hD := hD.sub (ws' := lW a o cI cZ cJ places listed front turns fetched placeOf shelfAt isBlocked shelfOf counts isOpen list ring stops fewest isExact shelves stopPlaces taken trial best out) [1, 2, 3, 4, 5, 6, 7, 8, 9, 10, 11, 12, 13, 14, 0] (by decide) rfl
    have hP : va_P D classes (lW a o cI cZ cJ places listed front turns fetched placeOf shelfAt isBlocked shelfOf counts isOpen list ring stops fewest isExact shelves stopPlaces taken trial best out) H := hP
    have hD : va_D A (lW a o cI cZ cJ places listed front turns fetched placeOf shelfAt isBlocked shelfOf counts isOpen list ring stops fewest isExact shelves stopPlaces taken trial best out) := hD
    refine lv_i2l (v := (r_1).toInt64) hx hb d_L_unit_7 rfl ?_
    obtain ⟨h_2, hw⟩ := hw
    refine va_last hx hb hK hP hD hS 14 2 rfl rfl h_2 d_L_unit_8 (fun H locs hP hD hS => ?_)
    have hP : va_P D classes (lW a o cI cZ cJ places listed front turns fetched placeOf shelfAt isBlocked shelfOf counts isOpen list ring stops fewest isExact shelves stopPlaces taken trial best (vp_updL out ((0 : Int32)).toNatClampNeg ((r_1).toInt64))) H := hP
    have hD : va_D A (lW a o cI cZ cJ places listed front turns fetched placeOf shelfAt isBlocked shelfOf counts isOpen list ring stops fewest isExact shelves stopPlaces taken trial best (vp_updL out ((0 : Int32)).toNatClampNeg ((r_1).toInt64))) := hD
    refine lv_goto (tgt := 15) hx hb d_L_unit_9 (by decide) ?_
    refine lv_iconst (v := (0 : Int32)) hx hb d_L_unit_15 (by decide) ?_
    exact W.iret (v := (0 : Int32)) hx hb hr (fun t ht hW => ⟨⟨(0 : Int32), (vp_updL out ((0 : Int32)).toNatClampNeg ((r_1).toInt64)), rfl, hw, by rw [ht]; exact hP, va_K.moved hW.alike hK, hD⟩, hS.F ht⟩) hS.2.2 d_L_unit_16
def p_L_cell (L : Nat) (xs : Nat → Int32) (x1 : Int32) (post : Int32 → Prop) : Prop := (((nI L) ≤ x1 → post (0 : Int32)) ∧ (¬ (nI L) ≤ x1 → (vp_in x1 L ∧ post (xs (x1).toNatClampNeg))))
abbrev rm_L_cell : Room := { frames := 1, cells := 0, slots := 0, locals := 40 }
set_option maxHeartbeats 4000000 in
set_option maxRecDepth 100000 in
theorem c_L_cell {l : Launch} {b L : Nat} {xs : Nat → Int32} {x1 : Int32} {post : Int32 → Prop} (hw : p_L_cell L xs x1 post) : Met l y_L_cell w_L_cell rm_L_cell (va_Pc [.ref b, .int x1] (xP b L xs)) (vp_Si post) 0 0 (fun _ => False) := by
  refine Met.ofW (cc := b_L_cell) (maxL := 2) (ret := (some .int)) (by decide) rfl ?_
  intro p e s m args below meth c s₁ B hml hv
  obtain ⟨rfl, hX, hbl⟩ := hv
  have hx := B.exec
  have hb := B.bytes
  have hr := B.returns
  have hts := atoms_spec (ws := w_L_cell) B.pre
  have hown : s.vm.findClass R_L = some m.cls := findClass_of_methodNamed B.named
  have hlocks := B.notSynchronized
  have hS : va_S (fun _ => False) s.heap s.heap [] := va_S.rf
  have hbA : ¬ (fun _ : Nat => False) b := fun h => h
  have hl := lv_entry ([.ref b, .int x1]) (n := 2) (Nat.le_of_ble_eq_true rfl)
  rw [lg_entry_eq]
  generalize (lg_sl ([.ref b, .int x1]) ++ List.replicate (2 - (lg_sl ([.ref b, .int x1])).length) Slot.unset).toArray = ls at hl ⊢
  have hl : lv_has ls 2 [(0, .ref b), (1, .int x1)] := hl
  refine lv_iload_n hx hb d_L_cell_0 rfl (lv_at hl 1 rfl) ?_
  refine lv_aload_n hx hb d_L_cell_1 rfl (lv_at hl 0 rfl) ?_
  refine va_slen hx hb hX hbl hbA hS d_L_cell_2 ?_
  refine lv_icmp_ge (tgt := 12) hx hb d_L_cell_3 (by decide) (fun c_1 => ?_) (fun c_1 => ?_)
  · have hw := hw.1 c_1
    refine lv_iconst (v := (0 : Int32)) hx hb d_L_cell_12 (by decide) ?_
    exact W.iret (v := (0 : Int32)) hx hb hr (fun t ht _ => ⟨(0 : Int32), rfl, hw, ht⟩) (by simp) d_L_cell_13
  · have hw := hw.2 c_1
    refine lv_aload_n hx hb d_L_cell_6 rfl (lv_at hl 0 rfl) ?_
    refine lv_iload_n hx hb d_L_cell_7 rfl (lv_at hl 1 rfl) ?_
    obtain ⟨h_2, hw⟩ := hw
    refine va_sld hx hb hX hbl hbA hS h_2 d_L_cell_8 ?_
    refine lv_goto (tgt := 13) hx hb d_L_cell_9 (by decide) ?_
    exact W.iret (v := (xs (x1).toNatClampNeg)) hx hb hr (fun t ht _ => ⟨(xs (x1).toNatClampNeg), rfl, hw, ht⟩) (by simp) d_L_cell_13
