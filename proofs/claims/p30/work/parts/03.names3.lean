/-! NAMES (printed): what each instruction is, 3 -/
theorem dX5_init_11 : decode cX5_init 11 = .ok (.putfield 15, 3) := by decide +kernel
theorem dX5_init_14 : decode cX5_init 14 = .ok (.return_, 1) := by decide +kernel
theorem dX5_copyFrom_0 : decode cX5_copyFrom 0 = .ok (.aload_n 0, 1) := by decide +kernel
theorem dX5_copyFrom_1 : decode cX5_copyFrom 1 = .ok (.aload_n 1, 1) := by decide +kernel
theorem dX5_copyFrom_2 : decode cX5_copyFrom 2 = .ok (.getfield 9, 3) := by decide +kernel
theorem dX5_copyFrom_5 : decode cX5_copyFrom 5 = .ok (.putfield 9, 3) := by decide +kernel
theorem dX5_copyFrom_8 : decode cX5_copyFrom 8 = .ok (.aload_n 0, 1) := by decide +kernel
theorem dX5_copyFrom_9 : decode cX5_copyFrom 9 = .ok (.aload_n 1, 1) := by decide +kernel
theorem dX5_copyFrom_10 : decode cX5_copyFrom 10 = .ok (.getfield 18, 3) := by decide +kernel
theorem dX5_copyFrom_13 : decode cX5_copyFrom 13 = .ok (.putfield 18, 3) := by decide +kernel
theorem dX5_copyFrom_16 : decode cX5_copyFrom 16 = .ok (.aload_n 0, 1) := by decide +kernel
theorem dX5_copyFrom_17 : decode cX5_copyFrom 17 = .ok (.aload_n 1, 1) := by decide +kernel
theorem dX5_copyFrom_18 : decode cX5_copyFrom 18 = .ok (.getfield 21, 3) := by decide +kernel
theorem dX5_copyFrom_21 : decode cX5_copyFrom 21 = .ok (.putfield 21, 3) := by decide +kernel
theorem dX5_copyFrom_24 : decode cX5_copyFrom 24 = .ok (.aload_n 0, 1) := by decide +kernel
theorem dX5_copyFrom_25 : decode cX5_copyFrom 25 = .ok (.aload_n 1, 1) := by decide +kernel
theorem dX5_copyFrom_26 : decode cX5_copyFrom 26 = .ok (.getfield 24, 3) := by decide +kernel
theorem dX5_copyFrom_29 : decode cX5_copyFrom 29 = .ok (.putfield 24, 3) := by decide +kernel
theorem dX5_copyFrom_32 : decode cX5_copyFrom 32 = .ok (.aload_n 0, 1) := by decide +kernel
theorem dX5_copyFrom_33 : decode cX5_copyFrom 33 = .ok (.aload_n 1, 1) := by decide +kernel
theorem dX5_copyFrom_34 : decode cX5_copyFrom 34 = .ok (.getfield 27, 3) := by decide +kernel
theorem dX5_copyFrom_37 : decode cX5_copyFrom 37 = .ok (.putfield 27, 3) := by decide +kernel
theorem dX5_copyFrom_40 : decode cX5_copyFrom 40 = .ok (.aload_n 0, 1) := by decide +kernel
theorem dX5_copyFrom_41 : decode cX5_copyFrom 41 = .ok (.aload_n 1, 1) := by decide +kernel
theorem dX5_copyFrom_42 : decode cX5_copyFrom 42 = .ok (.getfield 15, 3) := by decide +kernel
theorem dX5_copyFrom_45 : decode cX5_copyFrom 45 = .ok (.putfield 15, 3) := by decide +kernel
theorem dX5_copyFrom_48 : decode cX5_copyFrom 48 = .ok (.aload_n 0, 1) := by decide +kernel
theorem dX5_copyFrom_49 : decode cX5_copyFrom 49 = .ok (.aload_n 1, 1) := by decide +kernel
theorem dX5_copyFrom_50 : decode cX5_copyFrom 50 = .ok (.getfield 30, 3) := by decide +kernel
theorem dX5_copyFrom_53 : decode cX5_copyFrom 53 = .ok (.putfield 30, 3) := by decide +kernel
theorem dX5_copyFrom_56 : decode cX5_copyFrom 56 = .ok (.return_, 1) := by decide +kernel
theorem dX5_begin_0 : decode cX5_begin 0 = .ok (.aload_n 0, 1) := by decide +kernel
theorem dX5_begin_1 : decode cX5_begin 1 = .ok (.iload_n 1, 1) := by decide +kernel
theorem dX5_begin_2 : decode cX5_begin 2 = .ok (.putfield 9, 3) := by decide +kernel
theorem dX5_begin_5 : decode cX5_begin 5 = .ok (.aload_n 0, 1) := by decide +kernel
theorem dX5_begin_6 : decode cX5_begin 6 = .ok (.iload_n 2, 1) := by decide +kernel
theorem dX5_begin_7 : decode cX5_begin 7 = .ok (.putfield 18, 3) := by decide +kernel
theorem dX5_begin_10 : decode cX5_begin 10 = .ok (.aload_n 0, 1) := by decide +kernel
theorem dX5_begin_11 : decode cX5_begin 11 = .ok (.iload_n 2, 1) := by decide +kernel
theorem dX5_begin_12 : decode cX5_begin 12 = .ok (.putfield 21, 3) := by decide +kernel
theorem dX5_begin_15 : decode cX5_begin 15 = .ok (.aload_n 0, 1) := by decide +kernel
theorem dX5_begin_16 : decode cX5_begin 16 = .ok (.iload_n 3, 1) := by decide +kernel
theorem dX5_begin_17 : decode cX5_begin 17 = .ok (.putfield 24, 3) := by decide +kernel
theorem dX5_begin_20 : decode cX5_begin 20 = .ok (.aload_n 0, 1) := by decide +kernel
theorem dX5_begin_21 : decode cX5_begin 21 = .ok (.iconst 0, 1) := by decide +kernel
theorem dX5_begin_22 : decode cX5_begin 22 = .ok (.putfield 27, 3) := by decide +kernel
theorem dX5_begin_25 : decode cX5_begin 25 = .ok (.aload_n 0, 1) := by decide +kernel
theorem dX5_begin_26 : decode cX5_begin 26 = .ok (.invokevirtual 34, 3) := by decide +kernel
theorem dX5_begin_29 : decode cX5_begin 29 = .ok (.return_, 1) := by decide +kernel
theorem dX5_loseOneAhead_0 : decode cX5_loseOneAhead 0 = .ok (.aload_n 0, 1) := by decide +kernel
theorem dX5_loseOneAhead_1 : decode cX5_loseOneAhead 1 = .ok (.iconst (-1), 1) := by decide +kernel
theorem dX5_loseOneAhead_2 : decode cX5_loseOneAhead 2 = .ok (.putfield 15, 3) := by decide +kernel
theorem dX5_loseOneAhead_5 : decode cX5_loseOneAhead 5 = .ok (.aload_n 0, 1) := by decide +kernel
theorem dX5_loseOneAhead_6 : decode cX5_loseOneAhead 6 = .ok (.iconst 0, 1) := by decide +kernel
theorem dX5_loseOneAhead_7 : decode cX5_loseOneAhead 7 = .ok (.putfield 30, 3) := by decide +kernel
theorem dX5_loseOneAhead_10 : decode cX5_loseOneAhead 10 = .ok (.return_, 1) := by decide +kernel
theorem dX6_init_0 : decode cX6_init 0 = .ok (.aload_n 0, 1) := by decide +kernel
theorem dX6_init_1 : decode cX6_init 1 = .ok (.invokespecial 1, 3) := by decide +kernel
theorem dX6_init_4 : decode cX6_init 4 = .ok (.aload_n 0, 1) := by decide +kernel
theorem dX6_init_5 : decode cX6_init 5 = .ok (.new 7, 3) := by decide +kernel
theorem dX6_init_8 : decode cX6_init 8 = .ok (.dup, 1) := by decide +kernel
theorem dX6_init_9 : decode cX6_init 9 = .ok (.invokespecial 9, 3) := by decide +kernel
theorem dX6_init_12 : decode cX6_init 12 = .ok (.putfield 10, 3) := by decide +kernel
theorem dX6_init_15 : decode cX6_init 15 = .ok (.aload_n 0, 1) := by decide +kernel
theorem dX6_init_16 : decode cX6_init 16 = .ok (.new 7, 3) := by decide +kernel
theorem dX6_init_19 : decode cX6_init 19 = .ok (.dup, 1) := by decide +kernel
theorem dX6_init_20 : decode cX6_init 20 = .ok (.invokespecial 9, 3) := by decide +kernel
theorem dX6_init_23 : decode cX6_init 23 = .ok (.putfield 16, 3) := by decide +kernel
theorem dX6_init_26 : decode cX6_init 26 = .ok (.aload_n 0, 1) := by decide +kernel
theorem dX6_init_27 : decode cX6_init 27 = .ok (.new 19, 3) := by decide +kernel
theorem dX6_init_30 : decode cX6_init 30 = .ok (.dup, 1) := by decide +kernel
theorem dX6_init_31 : decode cX6_init 31 = .ok (.invokespecial 21, 3) := by decide +kernel
theorem dX6_init_34 : decode cX6_init 34 = .ok (.putfield 22, 3) := by decide +kernel
theorem dX6_init_37 : decode cX6_init 37 = .ok (.aload_n 0, 1) := by decide +kernel
theorem dX6_init_38 : decode cX6_init 38 = .ok (.new 26, 3) := by decide +kernel
theorem dX6_init_41 : decode cX6_init 41 = .ok (.dup, 1) := by decide +kernel
theorem dX6_init_42 : decode cX6_init 42 = .ok (.invokespecial 28, 3) := by decide +kernel
theorem dX6_init_45 : decode cX6_init 45 = .ok (.putfield 29, 3) := by decide +kernel
theorem dX6_init_48 : decode cX6_init 48 = .ok (.return_, 1) := by decide +kernel
theorem dX6_join_0 : decode cX6_join 0 = .ok (.aload_n 0, 1) := by decide +kernel
theorem dX6_join_1 : decode cX6_join 1 = .ok (.getstatic 33, 3) := by decide +kernel
theorem dX6_join_4 : decode cX6_join 4 = .ok (.iload_n 1, 1) := by decide +kernel
theorem dX6_join_5 : decode cX6_join 5 = .ok (.iload_n 2, 1) := by decide +kernel
theorem dX6_join_6 : decode cX6_join 6 = .ok (.iconst 0, 1) := by decide +kernel
theorem dX6_join_7 : decode cX6_join 7 = .ok (.invokevirtual 39, 3) := by decide +kernel
theorem dX6_join_10 : decode cX6_join 10 = .ok (.ireturn, 1) := by decide +kernel
theorem dX6_joinAt_0 : decode cX6_joinAt 0 = .ok (.aload_n 0, 1) := by decide +kernel
theorem dX6_joinAt_1 : decode cX6_joinAt 1 = .ok (.getstatic 43, 3) := by decide +kernel
theorem dX6_joinAt_4 : decode cX6_joinAt 4 = .ok (.iload_n 1, 1) := by decide +kernel
theorem dX6_joinAt_5 : decode cX6_joinAt 5 = .ok (.iload_n 2, 1) := by decide +kernel
theorem dX6_joinAt_6 : decode cX6_joinAt 6 = .ok (.iload_n 3, 1) := by decide +kernel
theorem dX6_joinAt_7 : decode cX6_joinAt 7 = .ok (.invokevirtual 39, 3) := by decide +kernel
theorem dX6_joinAt_10 : decode cX6_joinAt 10 = .ok (.ireturn, 1) := by decide +kernel
theorem dX6_leave_0 : decode cX6_leave 0 = .ok (.aload_n 0, 1) := by decide +kernel
theorem dX6_leave_1 : decode cX6_leave 1 = .ok (.getstatic 46, 3) := by decide +kernel
theorem dX6_leave_4 : decode cX6_leave 4 = .ok (.iload_n 1, 1) := by decide +kernel
theorem dX6_leave_5 : decode cX6_leave 5 = .ok (.iconst 0, 1) := by decide +kernel
theorem dX6_leave_6 : decode cX6_leave 6 = .ok (.iconst 0, 1) := by decide +kernel
theorem dX6_leave_7 : decode cX6_leave 7 = .ok (.invokevirtual 39, 3) := by decide +kernel
theorem dX6_leave_10 : decode cX6_leave 10 = .ok (.ireturn, 1) := by decide +kernel
theorem dX6_serve_0 : decode cX6_serve 0 = .ok (.aload_n 0, 1) := by decide +kernel
theorem dX6_serve_1 : decode cX6_serve 1 = .ok (.getstatic 49, 3) := by decide +kernel
theorem dX6_serve_4 : decode cX6_serve 4 = .ok (.iconst 0, 1) := by decide +kernel
theorem dX6_serve_5 : decode cX6_serve 5 = .ok (.iconst 0, 1) := by decide +kernel
theorem dX6_serve_6 : decode cX6_serve 6 = .ok (.iconst 0, 1) := by decide +kernel
theorem dX6_serve_7 : decode cX6_serve 7 = .ok (.invokevirtual 39, 3) := by decide +kernel
theorem dX6_serve_10 : decode cX6_serve 10 = .ok (.ireturn, 1) := by decide +kernel
theorem dX6_say_0 : decode cX6_say 0 = .ok (.aload_n 0, 1) := by decide +kernel
theorem dX6_say_1 : decode cX6_say 1 = .ok (.getstatic 52, 3) := by decide +kernel
theorem dX6_say_4 : decode cX6_say 4 = .ok (.iload_n 1, 1) := by decide +kernel
theorem dX6_say_5 : decode cX6_say 5 = .ok (.iload_n 2, 1) := by decide +kernel
theorem dX6_say_6 : decode cX6_say 6 = .ok (.iconst 0, 1) := by decide +kernel
theorem dX6_say_7 : decode cX6_say 7 = .ok (.invokevirtual 39, 3) := by decide +kernel
theorem dX6_say_10 : decode cX6_say 10 = .ok (.ireturn, 1) := by decide +kernel
theorem dX6_setSplit_0 : decode cX6_setSplit 0 = .ok (.iload_n 1, 1) := by decide +kernel
theorem dX6_setSplit_1 : decode cX6_setSplit 1 = .ok (.iconst 0, 1) := by decide +kernel
theorem dX6_setSplit_2 : decode cX6_setSplit 2 = .ok (.bipush 100, 2) := by decide +kernel
theorem dX6_setSplit_4 : decode cX6_setSplit 4 = .ok (.invokestatic 55, 3) := by decide +kernel
theorem dX6_setSplit_7 : decode cX6_setSplit 7 = .ok (.ifCond .eq 7, 3) := by decide +kernel
theorem dX6_setSplit_10 : decode cX6_setSplit 10 = .ok (.iconst 0, 1) := by decide +kernel
theorem dX6_setSplit_11 : decode cX6_setSplit 11 = .ok (.goto 4, 3) := by decide +kernel
theorem dX6_setSplit_14 : decode cX6_setSplit 14 = .ok (.iconst 2, 1) := by decide +kernel
theorem dX6_setSplit_15 : decode cX6_setSplit 15 = .ok (.invokestatic 59, 3) := by decide +kernel
theorem dX6_setSplit_18 : decode cX6_setSplit 18 = .ok (.aload_n 0, 1) := by decide +kernel
theorem dX6_setSplit_19 : decode cX6_setSplit 19 = .ok (.getfield 22, 3) := by decide +kernel
theorem dX6_setSplit_22 : decode cX6_setSplit 22 = .ok (.aload_n 0, 1) := by decide +kernel
theorem dX6_setSplit_23 : decode cX6_setSplit 23 = .ok (.getfield 10, 3) := by decide +kernel
theorem dX6_setSplit_26 : decode cX6_setSplit 26 = .ok (.invokevirtual 63, 3) := by decide +kernel
theorem dX6_setSplit_29 : decode cX6_setSplit 29 = .ok (.aload_n 0, 1) := by decide +kernel
theorem dX6_setSplit_30 : decode cX6_setSplit 30 = .ok (.getfield 10, 3) := by decide +kernel
theorem dX6_setSplit_33 : decode cX6_setSplit 33 = .ok (.getfield 67, 3) := by decide +kernel
theorem dX6_setSplit_36 : decode cX6_setSplit 36 = .ok (.istore_n 2, 1) := by decide +kernel
theorem dX6_setSplit_37 : decode cX6_setSplit 37 = .ok (.aload_n 0, 1) := by decide +kernel
theorem dX6_setSplit_38 : decode cX6_setSplit 38 = .ok (.getfield 10, 3) := by decide +kernel
theorem dX6_setSplit_41 : decode cX6_setSplit 41 = .ok (.iload_n 1, 1) := by decide +kernel
theorem dX6_setSplit_42 : decode cX6_setSplit 42 = .ok (.putfield 67, 3) := by decide +kernel
theorem dX6_setSplit_45 : decode cX6_setSplit 45 = .ok (.iload_n 2, 1) := by decide +kernel
theorem dX6_setSplit_46 : decode cX6_setSplit 46 = .ok (.ireturn, 1) := by decide +kernel
theorem dX6_offer_0 : decode cX6_offer 0 = .ok (.aload_n 0, 1) := by decide +kernel
theorem dX6_offer_1 : decode cX6_offer 1 = .ok (.getstatic 71, 3) := by decide +kernel
theorem dX6_offer_4 : decode cX6_offer 4 = .ok (.iload_n 1, 1) := by decide +kernel
theorem dX6_offer_5 : decode cX6_offer 5 = .ok (.iload_n 2, 1) := by decide +kernel
theorem dX6_offer_6 : decode cX6_offer 6 = .ok (.iconst 0, 1) := by decide +kernel
theorem dX6_offer_7 : decode cX6_offer 7 = .ok (.invokevirtual 39, 3) := by decide +kernel
theorem dX6_offer_10 : decode cX6_offer 10 = .ok (.ireturn, 1) := by decide +kernel
theorem dX6_take_0 : decode cX6_take 0 = .ok (.aload_n 0, 1) := by decide +kernel
theorem dX6_take_1 : decode cX6_take 1 = .ok (.getstatic 74, 3) := by decide +kernel
theorem dX6_take_4 : decode cX6_take 4 = .ok (.iload_n 1, 1) := by decide +kernel
theorem dX6_take_5 : decode cX6_take 5 = .ok (.iconst 0, 1) := by decide +kernel
theorem dX6_take_6 : decode cX6_take 6 = .ok (.iconst 0, 1) := by decide +kernel
theorem dX6_take_7 : decode cX6_take 7 = .ok (.invokevirtual 39, 3) := by decide +kernel
theorem dX6_take_10 : decode cX6_take 10 = .ok (.ireturn, 1) := by decide +kernel
theorem dX6_swap_0 : decode cX6_swap 0 = .ok (.aload_n 0, 1) := by decide +kernel
theorem dX6_swap_1 : decode cX6_swap 1 = .ok (.getstatic 77, 3) := by decide +kernel
theorem dX6_swap_4 : decode cX6_swap 4 = .ok (.iload_n 1, 1) := by decide +kernel
theorem dX6_swap_5 : decode cX6_swap 5 = .ok (.iconst 0, 1) := by decide +kernel
theorem dX6_swap_6 : decode cX6_swap 6 = .ok (.iconst 0, 1) := by decide +kernel
theorem dX6_swap_7 : decode cX6_swap 7 = .ok (.invokevirtual 39, 3) := by decide +kernel
theorem dX6_swap_10 : decode cX6_swap 10 = .ok (.ireturn, 1) := by decide +kernel
theorem dX6_befriend_0 : decode cX6_befriend 0 = .ok (.aload_n 0, 1) := by decide +kernel
theorem dX6_befriend_1 : decode cX6_befriend 1 = .ok (.getstatic 80, 3) := by decide +kernel
theorem dX6_befriend_4 : decode cX6_befriend 4 = .ok (.iload_n 1, 1) := by decide +kernel
theorem dX6_befriend_5 : decode cX6_befriend 5 = .ok (.iconst 0, 1) := by decide +kernel
theorem dX6_befriend_6 : decode cX6_befriend 6 = .ok (.iconst 0, 1) := by decide +kernel
theorem dX6_befriend_7 : decode cX6_befriend 7 = .ok (.invokevirtual 39, 3) := by decide +kernel
theorem dX6_befriend_10 : decode cX6_befriend 10 = .ok (.ireturn, 1) := by decide +kernel
theorem dX6_part_0 : decode cX6_part 0 = .ok (.aload_n 0, 1) := by decide +kernel
theorem dX6_part_1 : decode cX6_part 1 = .ok (.getstatic 83, 3) := by decide +kernel
theorem dX6_part_4 : decode cX6_part 4 = .ok (.iload_n 1, 1) := by decide +kernel
theorem dX6_part_5 : decode cX6_part 5 = .ok (.iconst 0, 1) := by decide +kernel
theorem dX6_part_6 : decode cX6_part 6 = .ok (.iconst 0, 1) := by decide +kernel
theorem dX6_part_7 : decode cX6_part 7 = .ok (.invokevirtual 39, 3) := by decide +kernel
theorem dX6_part_10 : decode cX6_part 10 = .ok (.ireturn, 1) := by decide +kernel
theorem dX6_settle_0 : decode cX6_settle 0 = .ok (.aload_n 0, 1) := by decide +kernel
theorem dX6_settle_1 : decode cX6_settle 1 = .ok (.getstatic 86, 3) := by decide +kernel
theorem dX6_settle_4 : decode cX6_settle 4 = .ok (.iconst 0, 1) := by decide +kernel
theorem dX6_settle_5 : decode cX6_settle 5 = .ok (.iconst 0, 1) := by decide +kernel
theorem dX6_settle_6 : decode cX6_settle 6 = .ok (.iconst 0, 1) := by decide +kernel
theorem dX6_settle_7 : decode cX6_settle 7 = .ok (.invokevirtual 39, 3) := by decide +kernel
theorem dX6_settle_10 : decode cX6_settle 10 = .ok (.ireturn, 1) := by decide +kernel
theorem dX6_member_0 : decode cX6_member 0 = .ok (.aload_n 0, 1) := by decide +kernel
theorem dX6_member_1 : decode cX6_member 1 = .ok (.getfield 10, 3) := by decide +kernel
theorem dX6_member_4 : decode cX6_member 4 = .ok (.iload_n 1, 1) := by decide +kernel
theorem dX6_member_5 : decode cX6_member 5 = .ok (.invokevirtual 89, 3) := by decide +kernel
theorem dX6_member_8 : decode cX6_member 8 = .ok (.istore_n 3, 1) := by decide +kernel
theorem dX6_member_9 : decode cX6_member 9 = .ok (.aload_n 0, 1) := by decide +kernel
theorem dX6_member_10 : decode cX6_member 10 = .ok (.iload_n 3, 1) := by decide +kernel
theorem dX6_member_11 : decode cX6_member 11 = .ok (.iload_n 2, 1) := by decide +kernel
theorem dX6_member_12 : decode cX6_member 12 = .ok (.iconst 0, 1) := by decide +kernel
theorem dX6_member_13 : decode cX6_member 13 = .ok (.bipush 9, 2) := by decide +kernel
theorem dX6_member_15 : decode cX6_member 15 = .ok (.invokestatic 55, 3) := by decide +kernel
theorem dX6_member_18 : decode cX6_member 18 = .ok (.invokevirtual 93, 3) := by decide +kernel
theorem dX6_member_21 : decode cX6_member 21 = .ok (.invokestatic 59, 3) := by decide +kernel
theorem dX6_member_24 : decode cX6_member 24 = .ok (.aload_n 0, 1) := by decide +kernel
theorem dX6_member_25 : decode cX6_member 25 = .ok (.getfield 10, 3) := by decide +kernel
theorem dX6_member_28 : decode cX6_member 28 = .ok (.iload_n 3, 1) := by decide +kernel
theorem dX6_member_29 : decode cX6_member 29 = .ok (.iload_n 2, 1) := by decide +kernel
theorem dX6_member_30 : decode cX6_member 30 = .ok (.invokevirtual 97, 3) := by decide +kernel
theorem dX6_member_33 : decode cX6_member 33 = .ok (.ireturn, 1) := by decide +kernel
theorem dX6_at_0 : decode cX6_at 0 = .ok (.iload_n 1, 1) := by decide +kernel
theorem dX6_at_1 : decode cX6_at 1 = .ok (.ifCond .lt 7, 3) := by decide +kernel
theorem dX6_at_4 : decode cX6_at 4 = .ok (.iconst 0, 1) := by decide +kernel
theorem dX6_at_5 : decode cX6_at 5 = .ok (.goto 4, 3) := by decide +kernel
theorem dX6_at_8 : decode cX6_at 8 = .ok (.iconst 2, 1) := by decide +kernel
theorem dX6_at_9 : decode cX6_at 9 = .ok (.invokestatic 59, 3) := by decide +kernel
theorem dX6_at_12 : decode cX6_at 12 = .ok (.aload_n 0, 1) := by decide +kernel
theorem dX6_at_13 : decode cX6_at 13 = .ok (.getfield 10, 3) := by decide +kernel
theorem dX6_at_16 : decode cX6_at 16 = .ok (.iload_n 1, 1) := by decide +kernel
theorem dX6_at_17 : decode cX6_at 17 = .ok (.invokevirtual 101, 3) := by decide +kernel
theorem dX6_at_20 : decode cX6_at 20 = .ok (.getfield 105, 3) := by decide +kernel
theorem dX6_at_23 : decode cX6_at 23 = .ok (.ireturn, 1) := by decide +kernel
theorem dX6_pair_0 : decode cX6_pair 0 = .ok (.aload_n 0, 1) := by decide +kernel
theorem dX6_pair_1 : decode cX6_pair 1 = .ok (.iload_n 1, 1) := by decide +kernel
theorem dX6_pair_2 : decode cX6_pair 2 = .ok (.iload_n 2, 1) := by decide +kernel
theorem dX6_pair_3 : decode cX6_pair 3 = .ok (.iconst 0, 1) := by decide +kernel
theorem dX6_pair_4 : decode cX6_pair 4 = .ok (.iconst 4, 1) := by decide +kernel
theorem dX6_pair_5 : decode cX6_pair 5 = .ok (.invokestatic 55, 3) := by decide +kernel
theorem dX6_pair_8 : decode cX6_pair 8 = .ok (.iconst 2, 1) := by decide +kernel
theorem dX6_pair_9 : decode cX6_pair 9 = .ok (.invokevirtual 110, 3) := by decide +kernel
theorem dX6_pair_12 : decode cX6_pair 12 = .ok (.invokestatic 59, 3) := by decide +kernel
theorem dX6_pair_15 : decode cX6_pair 15 = .ok (.aload_n 0, 1) := by decide +kernel
theorem dX6_pair_16 : decode cX6_pair 16 = .ok (.getfield 10, 3) := by decide +kernel
theorem dX6_pair_19 : decode cX6_pair 19 = .ok (.iload_n 1, 1) := by decide +kernel
theorem dX6_pair_20 : decode cX6_pair 20 = .ok (.iload_n 2, 1) := by decide +kernel
theorem dX6_pair_21 : decode cX6_pair 21 = .ok (.invokevirtual 114, 3) := by decide +kernel
theorem dX6_pair_24 : decode cX6_pair 24 = .ok (.ireturn, 1) := by decide +kernel
theorem dX6_whole_0 : decode cX6_whole 0 = .ok (.iload_n 1, 1) := by decide +kernel
theorem dX6_whole_1 : decode cX6_whole 1 = .ok (.iconst 0, 1) := by decide +kernel
theorem dX6_whole_2 : decode cX6_whole 2 = .ok (.bipush 13, 2) := by decide +kernel
theorem dX6_whole_4 : decode cX6_whole 4 = .ok (.invokestatic 55, 3) := by decide +kernel
theorem dX6_whole_7 : decode cX6_whole 7 = .ok (.ifCond .eq 7, 3) := by decide +kernel
theorem dX6_whole_10 : decode cX6_whole 10 = .ok (.iconst 0, 1) := by decide +kernel
theorem dX6_whole_11 : decode cX6_whole 11 = .ok (.goto 4, 3) := by decide +kernel
theorem dX6_whole_14 : decode cX6_whole 14 = .ok (.iconst 2, 1) := by decide +kernel
theorem dX6_whole_15 : decode cX6_whole 15 = .ok (.invokestatic 59, 3) := by decide +kernel
theorem dX6_whole_18 : decode cX6_whole 18 = .ok (.aload_n 0, 1) := by decide +kernel
theorem dX6_whole_19 : decode cX6_whole 19 = .ok (.iload_n 1, 1) := by decide +kernel
theorem dX6_whole_20 : decode cX6_whole 20 = .ok (.invokevirtual 117, 3) := by decide +kernel
theorem dX6_whole_23 : decode cX6_whole 23 = .ok (.ireturn, 1) := by decide +kernel
theorem dX6_reason_0 : decode cX6_reason 0 = .ok (.aload_n 0, 1) := by decide +kernel
theorem dX6_reason_1 : decode cX6_reason 1 = .ok (.iload_n 1, 1) := by decide +kernel
theorem dX6_reason_2 : decode cX6_reason 2 = .ok (.iconst 1, 1) := by decide +kernel
theorem dX6_reason_3 : decode cX6_reason 3 = .ok (.iconst 0, 1) := by decide +kernel
theorem dX6_reason_4 : decode cX6_reason 4 = .ok (.invokevirtual 110, 3) := by decide +kernel
theorem dX6_reason_7 : decode cX6_reason 7 = .ok (.invokestatic 59, 3) := by decide +kernel
theorem dX6_reason_10 : decode cX6_reason 10 = .ok (.aload_n 0, 1) := by decide +kernel
theorem dX6_reason_11 : decode cX6_reason 11 = .ok (.getfield 10, 3) := by decide +kernel
theorem dX6_reason_14 : decode cX6_reason 14 = .ok (.iload_n 1, 1) := by decide +kernel
theorem dX6_reason_15 : decode cX6_reason 15 = .ok (.invokevirtual 120, 3) := by decide +kernel
theorem dX6_reason_18 : decode cX6_reason 18 = .ok (.ireturn, 1) := by decide +kernel
theorem dX6_settledPlace_0 : decode cX6_settledPlace 0 = .ok (.aload_n 0, 1) := by decide +kernel
theorem dX6_settledPlace_1 : decode cX6_settledPlace 1 = .ok (.aload_n 0, 1) := by decide +kernel
theorem dX6_settledPlace_2 : decode cX6_settledPlace 2 = .ok (.getfield 10, 3) := by decide +kernel
theorem dX6_settledPlace_5 : decode cX6_settledPlace 5 = .ok (.iload_n 1, 1) := by decide +kernel
theorem dX6_settledPlace_6 : decode cX6_settledPlace 6 = .ok (.invokevirtual 89, 3) := by decide +kernel
theorem dX6_settledPlace_9 : decode cX6_settledPlace 9 = .ok (.iconst 1, 1) := by decide +kernel
theorem dX6_settledPlace_10 : decode cX6_settledPlace 10 = .ok (.invokevirtual 93, 3) := by decide +kernel
theorem dX6_settledPlace_13 : decode cX6_settledPlace 13 = .ok (.invokestatic 59, 3) := by decide +kernel
theorem dX6_settledPlace_16 : decode cX6_settledPlace 16 = .ok (.aload_n 0, 1) := by decide +kernel
theorem dX6_settledPlace_17 : decode cX6_settledPlace 17 = .ok (.getfield 16, 3) := by decide +kernel
theorem dX6_settledPlace_20 : decode cX6_settledPlace 20 = .ok (.aload_n 0, 1) := by decide +kernel
theorem dX6_settledPlace_21 : decode cX6_settledPlace 21 = .ok (.getfield 10, 3) := by decide +kernel
theorem dX6_settledPlace_24 : decode cX6_settledPlace 24 = .ok (.invokevirtual 123, 3) := by decide +kernel
theorem dX6_settledPlace_27 : decode cX6_settledPlace 27 = .ok (.aload_n 0, 1) := by decide +kernel
theorem dX6_settledPlace_28 : decode cX6_settledPlace 28 = .ok (.getfield 16, 3) := by decide +kernel
theorem dX6_settledPlace_31 : decode cX6_settledPlace 31 = .ok (.invokevirtual 126, 3) := by decide +kernel
theorem dX6_settledPlace_34 : decode cX6_settledPlace 34 = .ok (.pop, 1) := by decide +kernel
theorem dX6_settledPlace_35 : decode cX6_settledPlace 35 = .ok (.aload_n 0, 1) := by decide +kernel
theorem dX6_settledPlace_36 : decode cX6_settledPlace 36 = .ok (.getfield 16, 3) := by decide +kernel
theorem dX6_settledPlace_39 : decode cX6_settledPlace 39 = .ok (.iload_n 1, 1) := by decide +kernel
theorem dX6_settledPlace_40 : decode cX6_settledPlace 40 = .ok (.invokevirtual 89, 3) := by decide +kernel
theorem dX6_settledPlace_43 : decode cX6_settledPlace 43 = .ok (.ireturn, 1) := by decide +kernel
theorem dX6_profit_0 : decode cX6_profit 0 = .ok (.aload_n 0, 1) := by decide +kernel
theorem dX6_profit_1 : decode cX6_profit 1 = .ok (.getfield 10, 3) := by decide +kernel
theorem dX6_profit_4 : decode cX6_profit 4 = .ok (.iload_n 1, 1) := by decide +kernel
theorem dX6_profit_5 : decode cX6_profit 5 = .ok (.invokevirtual 89, 3) := by decide +kernel
theorem dX6_profit_8 : decode cX6_profit 8 = .ok (.istore_n 3, 1) := by decide +kernel
theorem dX6_profit_9 : decode cX6_profit 9 = .ok (.aload_n 0, 1) := by decide +kernel
theorem dX6_profit_10 : decode cX6_profit 10 = .ok (.iload_n 3, 1) := by decide +kernel
theorem dX6_profit_11 : decode cX6_profit 11 = .ok (.iload_n 2, 1) := by decide +kernel
theorem dX6_profit_12 : decode cX6_profit 12 = .ok (.iconst 0, 1) := by decide +kernel
theorem dX6_profit_13 : decode cX6_profit 13 = .ok (.bipush 99, 2) := by decide +kernel
theorem dX6_profit_15 : decode cX6_profit 15 = .ok (.invokestatic 55, 3) := by decide +kernel
theorem dX6_profit_18 : decode cX6_profit 18 = .ok (.invokevirtual 93, 3) := by decide +kernel
theorem dX6_profit_21 : decode cX6_profit 21 = .ok (.invokestatic 59, 3) := by decide +kernel
theorem dX6_profit_24 : decode cX6_profit 24 = .ok (.aload_n 0, 1) := by decide +kernel
theorem dX6_profit_25 : decode cX6_profit 25 = .ok (.iload_n 3, 1) := by decide +kernel
theorem dX6_profit_26 : decode cX6_profit 26 = .ok (.iload_n 2, 1) := by decide +kernel
theorem dX6_profit_27 : decode cX6_profit 27 = .ok (.invokevirtual 130, 3) := by decide +kernel
theorem dX6_profit_30 : decode cX6_profit 30 = .ok (.ireturn, 1) := by decide +kernel
theorem dX6_bestLie_0 : decode cX6_bestLie 0 = .ok (.aload_n 0, 1) := by decide +kernel
theorem dX6_bestLie_1 : decode cX6_bestLie 1 = .ok (.getfield 10, 3) := by decide +kernel
theorem dX6_bestLie_4 : decode cX6_bestLie 4 = .ok (.iload_n 1, 1) := by decide +kernel
theorem dX6_bestLie_5 : decode cX6_bestLie 5 = .ok (.invokevirtual 89, 3) := by decide +kernel
theorem dX6_bestLie_8 : decode cX6_bestLie 8 = .ok (.istore_n 2, 1) := by decide +kernel
theorem dX6_bestLie_9 : decode cX6_bestLie 9 = .ok (.aload_n 0, 1) := by decide +kernel
theorem dX6_bestLie_10 : decode cX6_bestLie 10 = .ok (.iload_n 2, 1) := by decide +kernel
theorem dX6_bestLie_11 : decode cX6_bestLie 11 = .ok (.iconst 1, 1) := by decide +kernel
theorem dX6_bestLie_12 : decode cX6_bestLie 12 = .ok (.invokevirtual 93, 3) := by decide +kernel
theorem dX6_bestLie_15 : decode cX6_bestLie 15 = .ok (.invokestatic 59, 3) := by decide +kernel
theorem dX6_bestLie_18 : decode cX6_bestLie 18 = .ok (.iconst 0, 1) := by decide +kernel
theorem dX6_bestLie_19 : decode cX6_bestLie 19 = .ok (.istore_n 3, 1) := by decide +kernel
theorem dX6_bestLie_20 : decode cX6_bestLie 20 = .ok (.aload_n 0, 1) := by decide +kernel
theorem dX6_bestLie_21 : decode cX6_bestLie 21 = .ok (.iload_n 2, 1) := by decide +kernel
theorem dX6_bestLie_22 : decode cX6_bestLie 22 = .ok (.iconst 0, 1) := by decide +kernel
theorem dX6_bestLie_23 : decode cX6_bestLie 23 = .ok (.invokevirtual 130, 3) := by decide +kernel
theorem dX6_bestLie_26 : decode cX6_bestLie 26 = .ok (.istore 4, 2) := by decide +kernel
theorem dX6_bestLie_28 : decode cX6_bestLie 28 = .ok (.iconst 1, 1) := by decide +kernel
theorem dX6_bestLie_29 : decode cX6_bestLie 29 = .ok (.istore 5, 2) := by decide +kernel
theorem dX6_bestLie_31 : decode cX6_bestLie 31 = .ok (.iload 5, 2) := by decide +kernel
theorem dX6_bestLie_33 : decode cX6_bestLie 33 = .ok (.bipush 99, 2) := by decide +kernel
theorem dX6_bestLie_35 : decode cX6_bestLie 35 = .ok (.if_icmp .gt 32, 3) := by decide +kernel
theorem dX6_bestLie_38 : decode cX6_bestLie 38 = .ok (.aload_n 0, 1) := by decide +kernel
theorem dX6_bestLie_39 : decode cX6_bestLie 39 = .ok (.iload_n 2, 1) := by decide +kernel
theorem dX6_bestLie_40 : decode cX6_bestLie 40 = .ok (.iload 5, 2) := by decide +kernel
theorem dX6_bestLie_42 : decode cX6_bestLie 42 = .ok (.invokevirtual 130, 3) := by decide +kernel
theorem dX6_bestLie_45 : decode cX6_bestLie 45 = .ok (.istore 6, 2) := by decide +kernel
theorem dX6_bestLie_47 : decode cX6_bestLie 47 = .ok (.iload 6, 2) := by decide +kernel
theorem dX6_bestLie_49 : decode cX6_bestLie 49 = .ok (.iload 4, 2) := by decide +kernel
theorem dX6_bestLie_51 : decode cX6_bestLie 51 = .ok (.if_icmp .le 10, 3) := by decide +kernel
theorem dX6_bestLie_54 : decode cX6_bestLie 54 = .ok (.iload 6, 2) := by decide +kernel
theorem dX6_bestLie_56 : decode cX6_bestLie 56 = .ok (.istore 4, 2) := by decide +kernel
theorem dX6_bestLie_58 : decode cX6_bestLie 58 = .ok (.iload 5, 2) := by decide +kernel
theorem dX6_bestLie_60 : decode cX6_bestLie 60 = .ok (.istore_n 3, 1) := by decide +kernel
theorem dX6_bestLie_61 : decode cX6_bestLie 61 = .ok (.iinc 5 1, 3) := by decide +kernel
theorem dX6_bestLie_64 : decode cX6_bestLie 64 = .ok (.goto (-33), 3) := by decide +kernel
theorem dX6_bestLie_67 : decode cX6_bestLie 67 = .ok (.iload_n 3, 1) := by decide +kernel
theorem dX6_bestLie_68 : decode cX6_bestLie 68 = .ok (.ireturn, 1) := by decide +kernel
theorem dX6_honestCost_0 : decode cX6_honestCost 0 = .ok (.aload_n 0, 1) := by decide +kernel
theorem dX6_honestCost_1 : decode cX6_honestCost 1 = .ok (.getfield 16, 3) := by decide +kernel
theorem dX6_honestCost_4 : decode cX6_honestCost 4 = .ok (.aload_n 0, 1) := by decide +kernel
theorem dX6_honestCost_5 : decode cX6_honestCost 5 = .ok (.getfield 10, 3) := by decide +kernel
theorem dX6_honestCost_8 : decode cX6_honestCost 8 = .ok (.invokevirtual 123, 3) := by decide +kernel
theorem dX6_honestCost_11 : decode cX6_honestCost 11 = .ok (.aload_n 0, 1) := by decide +kernel
theorem dX6_honestCost_12 : decode cX6_honestCost 12 = .ok (.getfield 16, 3) := by decide +kernel
theorem dX6_honestCost_15 : decode cX6_honestCost 15 = .ok (.invokevirtual 133, 3) := by decide +kernel
theorem dX6_honestCost_18 : decode cX6_honestCost 18 = .ok (.aload_n 0, 1) := by decide +kernel
theorem dX6_honestCost_19 : decode cX6_honestCost 19 = .ok (.getfield 16, 3) := by decide +kernel
theorem dX6_honestCost_22 : decode cX6_honestCost 22 = .ok (.invokevirtual 126, 3) := by decide +kernel
theorem dX6_honestCost_25 : decode cX6_honestCost 25 = .ok (.pop, 1) := by decide +kernel
theorem dX6_honestCost_26 : decode cX6_honestCost 26 = .ok (.aload_n 0, 1) := by decide +kernel
theorem dX6_honestCost_27 : decode cX6_honestCost 27 = .ok (.getfield 16, 3) := by decide +kernel
theorem dX6_honestCost_30 : decode cX6_honestCost 30 = .ok (.invokevirtual 136, 3) := by decide +kernel
theorem dX6_honestCost_33 : decode cX6_honestCost 33 = .ok (.ireturn, 1) := by decide +kernel
theorem dX6_disorder_0 : decode cX6_disorder 0 = .ok (.aload_n 0, 1) := by decide +kernel
theorem dX6_disorder_1 : decode cX6_disorder 1 = .ok (.getfield 10, 3) := by decide +kernel
theorem dX6_disorder_4 : decode cX6_disorder 4 = .ok (.invokevirtual 139, 3) := by decide +kernel
theorem dX6_disorder_7 : decode cX6_disorder 7 = .ok (.ireturn, 1) := by decide +kernel
theorem dX6_runCommands_0 : decode cX6_runCommands 0 = .ok (.aload_n 0, 1) := by decide +kernel
theorem dX6_runCommands_1 : decode cX6_runCommands 1 = .ok (.getfield 29, 3) := by decide +kernel
theorem dX6_runCommands_4 : decode cX6_runCommands 4 = .ok (.invokevirtual 148, 3) := by decide +kernel
theorem dX6_runCommands_7 : decode cX6_runCommands 7 = .ok (.istore_n 1, 1) := by decide +kernel
theorem dX6_runCommands_8 : decode cX6_runCommands 8 = .ok (.iload_n 1, 1) := by decide +kernel
theorem dX6_runCommands_9 : decode cX6_runCommands 9 = .ok (.iconst (-1), 1) := by decide +kernel
theorem dX6_runCommands_10 : decode cX6_runCommands 10 = .ok (.if_icmp .eq 8, 3) := by decide +kernel
theorem dX6_runCommands_13 : decode cX6_runCommands 13 = .ok (.bipush (-10), 2) := by decide +kernel
theorem dX6_runCommands_15 : decode cX6_runCommands 15 = .ok (.iload_n 1, 1) := by decide +kernel
theorem dX6_runCommands_16 : decode cX6_runCommands 16 = .ok (.isub, 1) := by decide +kernel
theorem dX6_runCommands_17 : decode cX6_runCommands 17 = .ok (.ireturn, 1) := by decide +kernel
theorem dX6_runCommands_18 : decode cX6_runCommands 18 = .ok (.aload_n 0, 1) := by decide +kernel
theorem dX6_runCommands_19 : decode cX6_runCommands 19 = .ok (.getfield 22, 3) := by decide +kernel
theorem dX6_runCommands_22 : decode cX6_runCommands 22 = .ok (.aload_n 0, 1) := by decide +kernel
theorem dX6_runCommands_23 : decode cX6_runCommands 23 = .ok (.getfield 10, 3) := by decide +kernel
theorem dX6_runCommands_26 : decode cX6_runCommands 26 = .ok (.invokevirtual 63, 3) := by decide +kernel
theorem dX6_runCommands_29 : decode cX6_runCommands 29 = .ok (.iconst 0, 1) := by decide +kernel
theorem dX6_runCommands_30 : decode cX6_runCommands 30 = .ok (.istore_n 2, 1) := by decide +kernel
theorem dX6_runCommands_31 : decode cX6_runCommands 31 = .ok (.aload_n 0, 1) := by decide +kernel
theorem dX6_runCommands_32 : decode cX6_runCommands 32 = .ok (.getfield 29, 3) := by decide +kernel
theorem dX6_runCommands_35 : decode cX6_runCommands 35 = .ok (.invokevirtual 151, 3) := by decide +kernel
theorem dX6_runCommands_38 : decode cX6_runCommands 38 = .ok (.iconst 0, 1) := by decide +kernel
theorem dX6_runCommands_39 : decode cX6_runCommands 39 = .ok (.istore_n 3, 1) := by decide +kernel
theorem dX6_runCommands_40 : decode cX6_runCommands 40 = .ok (.iload_n 3, 1) := by decide +kernel
theorem dX6_runCommands_41 : decode cX6_runCommands 41 = .ok (.sipush 150, 3) := by decide +kernel
theorem dX6_runCommands_44 : decode cX6_runCommands 44 = .ok (.if_icmp .ge 46, 3) := by decide +kernel
theorem dX6_runCommands_47 : decode cX6_runCommands 47 = .ok (.aload_n 0, 1) := by decide +kernel
theorem dX6_runCommands_48 : decode cX6_runCommands 48 = .ok (.getfield 29, 3) := by decide +kernel
theorem dX6_runCommands_51 : decode cX6_runCommands 51 = .ok (.invokevirtual 154, 3) := by decide +kernel
theorem dX6_runCommands_54 : decode cX6_runCommands 54 = .ok (.ifCond .eq 36, 3) := by decide +kernel
theorem dX6_runCommands_57 : decode cX6_runCommands 57 = .ok (.aload_n 0, 1) := by decide +kernel
theorem dX6_runCommands_58 : decode cX6_runCommands 58 = .ok (.getfield 29, 3) := by decide +kernel
theorem dX6_runCommands_61 : decode cX6_runCommands 61 = .ok (.invokevirtual 158, 3) := by decide +kernel
theorem dX6_runCommands_64 : decode cX6_runCommands 64 = .ok (.aload_n 0, 1) := by decide +kernel
theorem dX6_runCommands_65 : decode cX6_runCommands 65 = .ok (.aload_n 0, 1) := by decide +kernel
theorem dX6_runCommands_66 : decode cX6_runCommands 66 = .ok (.getfield 29, 3) := by decide +kernel
theorem dX6_runCommands_69 : decode cX6_runCommands 69 = .ok (.getfield 161, 3) := by decide +kernel
theorem dX6_runCommands_72 : decode cX6_runCommands 72 = .ok (.invokevirtual 164, 3) := by decide +kernel
theorem dX6_runCommands_75 : decode cX6_runCommands 75 = .ok (.ifCond .ne 6, 3) := by decide +kernel
theorem dX6_runCommands_78 : decode cX6_runCommands 78 = .ok (.goto 12, 3) := by decide +kernel
theorem dX6_runCommands_81 : decode cX6_runCommands 81 = .ok (.iinc 2 1, 3) := by decide +kernel
theorem dX6_runCommands_84 : decode cX6_runCommands 84 = .ok (.iinc 3 1, 3) := by decide +kernel
theorem dX6_runCommands_87 : decode cX6_runCommands 87 = .ok (.goto (-47), 3) := by decide +kernel
theorem dX6_runCommands_90 : decode cX6_runCommands 90 = .ok (.iload_n 2, 1) := by decide +kernel
theorem dX6_runCommands_91 : decode cX6_runCommands 91 = .ok (.ireturn, 1) := by decide +kernel
theorem dX6_undo_0 : decode cX6_undo 0 = .ok (.aload_n 0, 1) := by decide +kernel
theorem dX6_undo_1 : decode cX6_undo 1 = .ok (.getfield 22, 3) := by decide +kernel
theorem dX6_undo_4 : decode cX6_undo 4 = .ok (.getfield 168, 3) := by decide +kernel
theorem dX6_undo_7 : decode cX6_undo 7 = .ok (.ifCond .le 7, 3) := by decide +kernel
theorem dX6_undo_10 : decode cX6_undo 10 = .ok (.iconst 0, 1) := by decide +kernel
theorem dX6_undo_11 : decode cX6_undo 11 = .ok (.goto 4, 3) := by decide +kernel
theorem dX6_undo_14 : decode cX6_undo 14 = .ok (.iconst 3, 1) := by decide +kernel
theorem dX6_undo_15 : decode cX6_undo 15 = .ok (.invokestatic 59, 3) := by decide +kernel
theorem dX6_undo_18 : decode cX6_undo 18 = .ok (.aload_n 0, 1) := by decide +kernel
theorem dX6_undo_19 : decode cX6_undo 19 = .ok (.getfield 22, 3) := by decide +kernel
theorem dX6_undo_22 : decode cX6_undo 22 = .ok (.aload_n 0, 1) := by decide +kernel
theorem dX6_undo_23 : decode cX6_undo 23 = .ok (.getfield 10, 3) := by decide +kernel
theorem dX6_undo_26 : decode cX6_undo 26 = .ok (.invokevirtual 171, 3) := by decide +kernel
theorem dX6_undo_29 : decode cX6_undo 29 = .ok (.aload_n 0, 1) := by decide +kernel
theorem dX6_undo_30 : decode cX6_undo 30 = .ok (.getfield 22, 3) := by decide +kernel
theorem dX6_undo_33 : decode cX6_undo 33 = .ok (.getfield 168, 3) := by decide +kernel
theorem dX6_undo_36 : decode cX6_undo 36 = .ok (.ireturn, 1) := by decide +kernel
theorem dX6_digest_0 : decode cX6_digest 0 = .ok (.ldc2_w 174, 3) := by decide +kernel
theorem dX6_digest_3 : decode cX6_digest 3 = .ok (.aload_n 0, 1) := by decide +kernel
theorem dX6_digest_4 : decode cX6_digest 4 = .ok (.getfield 22, 3) := by decide +kernel
theorem dX6_digest_7 : decode cX6_digest 7 = .ok (.getfield 168, 3) := by decide +kernel
theorem dX6_digest_10 : decode cX6_digest 10 = .ok (.i2l, 1) := by decide +kernel
theorem dX6_digest_11 : decode cX6_digest 11 = .ok (.ladd, 1) := by decide +kernel
theorem dX6_digest_12 : decode cX6_digest 12 = .ok (.lstore_n 1, 1) := by decide +kernel
theorem dX6_digest_13 : decode cX6_digest 13 = .ok (.iconst 0, 1) := by decide +kernel
theorem dX6_digest_14 : decode cX6_digest 14 = .ok (.istore_n 3, 1) := by decide +kernel
theorem dX6_digest_15 : decode cX6_digest 15 = .ok (.iload_n 3, 1) := by decide +kernel
theorem dX6_digest_16 : decode cX6_digest 16 = .ok (.bipush 14, 2) := by decide +kernel
theorem dX6_digest_18 : decode cX6_digest 18 = .ok (.if_icmp .ge 22, 3) := by decide +kernel
theorem dX6_digest_21 : decode cX6_digest 21 = .ok (.ldc2_w 176, 3) := by decide +kernel
theorem dX6_digest_24 : decode cX6_digest 24 = .ok (.lload_n 1, 1) := by decide +kernel
theorem dX6_digest_25 : decode cX6_digest 25 = .ok (.lmul, 1) := by decide +kernel
theorem dX6_digest_26 : decode cX6_digest 26 = .ok (.aload_n 0, 1) := by decide +kernel
theorem dX6_digest_27 : decode cX6_digest 27 = .ok (.iload_n 3, 1) := by decide +kernel
theorem dX6_digest_28 : decode cX6_digest 28 = .ok (.invokevirtual 117, 3) := by decide +kernel
theorem dX6_digest_31 : decode cX6_digest 31 = .ok (.i2l, 1) := by decide +kernel
theorem dX6_digest_32 : decode cX6_digest 32 = .ok (.ladd, 1) := by decide +kernel
theorem dX6_digest_33 : decode cX6_digest 33 = .ok (.lstore_n 1, 1) := by decide +kernel
theorem dX6_digest_34 : decode cX6_digest 34 = .ok (.iinc 3 1, 3) := by decide +kernel
theorem dX6_digest_37 : decode cX6_digest 37 = .ok (.goto (-22), 3) := by decide +kernel
theorem dX6_digest_40 : decode cX6_digest 40 = .ok (.aload_n 0, 1) := by decide +kernel
theorem dX6_digest_41 : decode cX6_digest 41 = .ok (.lload_n 1, 1) := by decide +kernel
theorem dX6_digest_42 : decode cX6_digest 42 = .ok (.invokevirtual 178, 3) := by decide +kernel
theorem dX6_digest_45 : decode cX6_digest 45 = .ok (.lstore_n 1, 1) := by decide +kernel
theorem dX6_digest_46 : decode cX6_digest 46 = .ok (.aload_n 0, 1) := by decide +kernel
theorem dX6_digest_47 : decode cX6_digest 47 = .ok (.lload_n 1, 1) := by decide +kernel
theorem dX6_digest_48 : decode cX6_digest 48 = .ok (.invokevirtual 182, 3) := by decide +kernel
theorem dX6_digest_51 : decode cX6_digest 51 = .ok (.lstore_n 1, 1) := by decide +kernel
theorem dX6_digest_52 : decode cX6_digest 52 = .ok (.ldc2_w 176, 3) := by decide +kernel
theorem dX6_digest_55 : decode cX6_digest 55 = .ok (.lload_n 1, 1) := by decide +kernel
theorem dX6_digest_56 : decode cX6_digest 56 = .ok (.lmul, 1) := by decide +kernel
theorem dX6_digest_57 : decode cX6_digest 57 = .ok (.aload_n 0, 1) := by decide +kernel
theorem dX6_digest_58 : decode cX6_digest 58 = .ok (.getfield 10, 3) := by decide +kernel
theorem dX6_digest_61 : decode cX6_digest 61 = .ok (.invokevirtual 139, 3) := by decide +kernel
theorem dX6_digest_64 : decode cX6_digest 64 = .ok (.i2l, 1) := by decide +kernel
theorem dX6_digest_65 : decode cX6_digest 65 = .ok (.ladd, 1) := by decide +kernel
theorem dX6_digest_66 : decode cX6_digest 66 = .ok (.lreturn, 1) := by decide +kernel
theorem dX6_digestMembers_0 : decode cX6_digestMembers 0 = .ok (.lload_n 1, 1) := by decide +kernel
theorem dX6_digestMembers_1 : decode cX6_digestMembers 1 = .ok (.lstore_n 3, 1) := by decide +kernel
theorem dX6_digestMembers_2 : decode cX6_digestMembers 2 = .ok (.iconst 0, 1) := by decide +kernel
theorem dX6_digestMembers_3 : decode cX6_digestMembers 3 = .ok (.istore 5, 2) := by decide +kernel
theorem dX6_digestMembers_5 : decode cX6_digestMembers 5 = .ok (.iload 5, 2) := by decide +kernel
theorem dX6_digestMembers_7 : decode cX6_digestMembers 7 = .ok (.aload_n 0, 1) := by decide +kernel
theorem dX6_digestMembers_8 : decode cX6_digestMembers 8 = .ok (.getfield 10, 3) := by decide +kernel
theorem dX6_digestMembers_11 : decode cX6_digestMembers 11 = .ok (.getfield 185, 3) := by decide +kernel
theorem dX6_digestMembers_14 : decode cX6_digestMembers 14 = .ok (.if_icmp .ge 64, 3) := by decide +kernel
theorem dX6_digestMembers_17 : decode cX6_digestMembers 17 = .ok (.ldc2_w 176, 3) := by decide +kernel
theorem dX6_digestMembers_20 : decode cX6_digestMembers 20 = .ok (.lload_n 3, 1) := by decide +kernel
theorem dX6_digestMembers_21 : decode cX6_digestMembers 21 = .ok (.lmul, 1) := by decide +kernel
theorem dX6_digestMembers_22 : decode cX6_digestMembers 22 = .ok (.aload_n 0, 1) := by decide +kernel
theorem dX6_digestMembers_23 : decode cX6_digestMembers 23 = .ok (.getfield 10, 3) := by decide +kernel
theorem dX6_digestMembers_26 : decode cX6_digestMembers 26 = .ok (.iload 5, 2) := by decide +kernel
theorem dX6_digestMembers_28 : decode cX6_digestMembers 28 = .ok (.invokevirtual 101, 3) := by decide +kernel
theorem dX6_digestMembers_31 : decode cX6_digestMembers 31 = .ok (.getfield 105, 3) := by decide +kernel
theorem dX6_digestMembers_34 : decode cX6_digestMembers 34 = .ok (.i2l, 1) := by decide +kernel
theorem dX6_digestMembers_35 : decode cX6_digestMembers 35 = .ok (.ladd, 1) := by decide +kernel
theorem dX6_digestMembers_36 : decode cX6_digestMembers 36 = .ok (.lstore_n 3, 1) := by decide +kernel
theorem dX6_digestMembers_37 : decode cX6_digestMembers 37 = .ok (.iconst 0, 1) := by decide +kernel
theorem dX6_digestMembers_38 : decode cX6_digestMembers 38 = .ok (.istore 6, 2) := by decide +kernel
theorem dX6_digestMembers_40 : decode cX6_digestMembers 40 = .ok (.iload 6, 2) := by decide +kernel
theorem dX6_digestMembers_42 : decode cX6_digestMembers 42 = .ok (.bipush 10, 2) := by decide +kernel
theorem dX6_digestMembers_44 : decode cX6_digestMembers 44 = .ok (.if_icmp .ge 28, 3) := by decide +kernel
theorem dX6_digestMembers_47 : decode cX6_digestMembers 47 = .ok (.ldc2_w 176, 3) := by decide +kernel
theorem dX6_digestMembers_50 : decode cX6_digestMembers 50 = .ok (.lload_n 3, 1) := by decide +kernel
theorem dX6_digestMembers_51 : decode cX6_digestMembers 51 = .ok (.lmul, 1) := by decide +kernel
theorem dX6_digestMembers_52 : decode cX6_digestMembers 52 = .ok (.aload_n 0, 1) := by decide +kernel
theorem dX6_digestMembers_53 : decode cX6_digestMembers 53 = .ok (.getfield 10, 3) := by decide +kernel
theorem dX6_digestMembers_56 : decode cX6_digestMembers 56 = .ok (.iload 5, 2) := by decide +kernel
theorem dX6_digestMembers_58 : decode cX6_digestMembers 58 = .ok (.iload 6, 2) := by decide +kernel
theorem dX6_digestMembers_60 : decode cX6_digestMembers 60 = .ok (.invokevirtual 97, 3) := by decide +kernel
theorem dX6_digestMembers_63 : decode cX6_digestMembers 63 = .ok (.i2l, 1) := by decide +kernel
theorem dX6_digestMembers_64 : decode cX6_digestMembers 64 = .ok (.ladd, 1) := by decide +kernel
theorem dX6_digestMembers_65 : decode cX6_digestMembers 65 = .ok (.lstore_n 3, 1) := by decide +kernel
theorem dX6_digestMembers_66 : decode cX6_digestMembers 66 = .ok (.iinc 6 1, 3) := by decide +kernel
theorem dX6_digestMembers_69 : decode cX6_digestMembers 69 = .ok (.goto (-29), 3) := by decide +kernel
theorem dX6_digestMembers_72 : decode cX6_digestMembers 72 = .ok (.iinc 5 1, 3) := by decide +kernel
theorem dX6_digestMembers_75 : decode cX6_digestMembers 75 = .ok (.goto (-70), 3) := by decide +kernel
theorem dX6_digestMembers_78 : decode cX6_digestMembers 78 = .ok (.lload_n 3, 1) := by decide +kernel
theorem dX6_digestMembers_79 : decode cX6_digestMembers 79 = .ok (.lreturn, 1) := by decide +kernel
theorem dX6_digestPairs_0 : decode cX6_digestPairs 0 = .ok (.lload_n 1, 1) := by decide +kernel
theorem dX6_digestPairs_1 : decode cX6_digestPairs 1 = .ok (.lstore_n 3, 1) := by decide +kernel
theorem dX6_digestPairs_2 : decode cX6_digestPairs 2 = .ok (.iconst 0, 1) := by decide +kernel
theorem dX6_digestPairs_3 : decode cX6_digestPairs 3 = .ok (.istore 5, 2) := by decide +kernel
theorem dX6_digestPairs_5 : decode cX6_digestPairs 5 = .ok (.iload 5, 2) := by decide +kernel
theorem dX6_digestPairs_7 : decode cX6_digestPairs 7 = .ok (.aload_n 0, 1) := by decide +kernel
theorem dX6_digestPairs_8 : decode cX6_digestPairs 8 = .ok (.getfield 10, 3) := by decide +kernel
theorem dX6_digestPairs_11 : decode cX6_digestPairs 11 = .ok (.getfield 185, 3) := by decide +kernel
theorem dX6_digestPairs_14 : decode cX6_digestPairs 14 = .ok (.iconst 1, 1) := by decide +kernel
theorem dX6_digestPairs_15 : decode cX6_digestPairs 15 = .ok (.isub, 1) := by decide +kernel
theorem dX6_digestPairs_16 : decode cX6_digestPairs 16 = .ok (.if_icmp .ge 60, 3) := by decide +kernel
theorem dX6_digestPairs_19 : decode cX6_digestPairs 19 = .ok (.iconst 0, 1) := by decide +kernel
theorem dX6_digestPairs_20 : decode cX6_digestPairs 20 = .ok (.istore 6, 2) := by decide +kernel
theorem dX6_digestPairs_22 : decode cX6_digestPairs 22 = .ok (.iload 6, 2) := by decide +kernel
theorem dX6_digestPairs_24 : decode cX6_digestPairs 24 = .ok (.iconst 5, 1) := by decide +kernel
theorem dX6_digestPairs_25 : decode cX6_digestPairs 25 = .ok (.if_icmp .ge 28, 3) := by decide +kernel
theorem dX6_digestPairs_28 : decode cX6_digestPairs 28 = .ok (.ldc2_w 176, 3) := by decide +kernel
theorem dX6_digestPairs_31 : decode cX6_digestPairs 31 = .ok (.lload_n 3, 1) := by decide +kernel
theorem dX6_digestPairs_32 : decode cX6_digestPairs 32 = .ok (.lmul, 1) := by decide +kernel
theorem dX6_digestPairs_33 : decode cX6_digestPairs 33 = .ok (.aload_n 0, 1) := by decide +kernel
theorem dX6_digestPairs_34 : decode cX6_digestPairs 34 = .ok (.getfield 10, 3) := by decide +kernel
theorem dX6_digestPairs_37 : decode cX6_digestPairs 37 = .ok (.iload 5, 2) := by decide +kernel
theorem dX6_digestPairs_39 : decode cX6_digestPairs 39 = .ok (.iload 6, 2) := by decide +kernel
theorem dX6_digestPairs_41 : decode cX6_digestPairs 41 = .ok (.invokevirtual 114, 3) := by decide +kernel
theorem dX6_digestPairs_44 : decode cX6_digestPairs 44 = .ok (.i2l, 1) := by decide +kernel
theorem dX6_digestPairs_45 : decode cX6_digestPairs 45 = .ok (.ladd, 1) := by decide +kernel
theorem dX6_digestPairs_46 : decode cX6_digestPairs 46 = .ok (.lstore_n 3, 1) := by decide +kernel
theorem dX6_digestPairs_47 : decode cX6_digestPairs 47 = .ok (.iinc 6 1, 3) := by decide +kernel
theorem dX6_digestPairs_50 : decode cX6_digestPairs 50 = .ok (.goto (-28), 3) := by decide +kernel
theorem dX6_digestPairs_53 : decode cX6_digestPairs 53 = .ok (.ldc2_w 176, 3) := by decide +kernel
theorem dX6_digestPairs_56 : decode cX6_digestPairs 56 = .ok (.lload_n 3, 1) := by decide +kernel
theorem dX6_digestPairs_57 : decode cX6_digestPairs 57 = .ok (.lmul, 1) := by decide +kernel
theorem dX6_digestPairs_58 : decode cX6_digestPairs 58 = .ok (.aload_n 0, 1) := by decide +kernel
theorem dX6_digestPairs_59 : decode cX6_digestPairs 59 = .ok (.getfield 10, 3) := by decide +kernel
theorem dX6_digestPairs_62 : decode cX6_digestPairs 62 = .ok (.iload 5, 2) := by decide +kernel
theorem dX6_digestPairs_64 : decode cX6_digestPairs 64 = .ok (.invokevirtual 120, 3) := by decide +kernel
theorem dX6_digestPairs_67 : decode cX6_digestPairs 67 = .ok (.i2l, 1) := by decide +kernel
theorem dX6_digestPairs_68 : decode cX6_digestPairs 68 = .ok (.ladd, 1) := by decide +kernel
theorem dX6_digestPairs_69 : decode cX6_digestPairs 69 = .ok (.lstore_n 3, 1) := by decide +kernel
theorem dX6_digestPairs_70 : decode cX6_digestPairs 70 = .ok (.iinc 5 1, 3) := by decide +kernel
theorem dX6_digestPairs_73 : decode cX6_digestPairs 73 = .ok (.goto (-68), 3) := by decide +kernel
theorem dX6_digestPairs_76 : decode cX6_digestPairs 76 = .ok (.lload_n 3, 1) := by decide +kernel
theorem dX6_digestPairs_77 : decode cX6_digestPairs 77 = .ok (.lreturn, 1) := by decide +kernel
theorem dX6_wholeValue_0 : decode cX6_wholeValue 0 = .ok (.iload_n 1, 1) := by decide +kernel
theorem dX6_wholeValue_1 : decode cX6_wholeValue 1 = .ok (.bipush 13, 2) := by decide +kernel
theorem dX6_wholeValue_3 : decode cX6_wholeValue 3 = .ok (.if_icmp .ne 13, 3) := by decide +kernel
theorem dX6_wholeValue_6 : decode cX6_wholeValue 6 = .ok (.aload_n 0, 1) := by decide +kernel
theorem dX6_wholeValue_7 : decode cX6_wholeValue 7 = .ok (.getfield 29, 3) := by decide +kernel
theorem dX6_wholeValue_10 : decode cX6_wholeValue 10 = .ok (.getfield 142, 3) := by decide +kernel
theorem dX6_wholeValue_13 : decode cX6_wholeValue 13 = .ok (.goto 11, 3) := by decide +kernel
theorem dX6_wholeValue_16 : decode cX6_wholeValue 16 = .ok (.aload_n 0, 1) := by decide +kernel
theorem dX6_wholeValue_17 : decode cX6_wholeValue 17 = .ok (.getfield 10, 3) := by decide +kernel
theorem dX6_wholeValue_20 : decode cX6_wholeValue 20 = .ok (.iload_n 1, 1) := by decide +kernel
theorem dX6_wholeValue_21 : decode cX6_wholeValue 21 = .ok (.invokevirtual 188, 3) := by decide +kernel
theorem dX6_wholeValue_24 : decode cX6_wholeValue 24 = .ok (.ireturn, 1) := by decide +kernel
theorem dX6_profitAt_0 : decode cX6_profitAt 0 = .ok (.aload_n 0, 1) := by decide +kernel
theorem dX6_profitAt_1 : decode cX6_profitAt 1 = .ok (.getfield 10, 3) := by decide +kernel
theorem dX6_profitAt_4 : decode cX6_profitAt 4 = .ok (.iload_n 1, 1) := by decide +kernel
theorem dX6_profitAt_5 : decode cX6_profitAt 5 = .ok (.invokevirtual 101, 3) := by decide +kernel
theorem dX6_profitAt_8 : decode cX6_profitAt 8 = .ok (.astore_n 3, 1) := by decide +kernel
theorem dX6_profitAt_9 : decode cX6_profitAt 9 = .ok (.aload_n 0, 1) := by decide +kernel
theorem dX6_profitAt_10 : decode cX6_profitAt 10 = .ok (.getfield 16, 3) := by decide +kernel
theorem dX6_profitAt_13 : decode cX6_profitAt 13 = .ok (.aload_n 0, 1) := by decide +kernel
theorem dX6_profitAt_14 : decode cX6_profitAt 14 = .ok (.getfield 10, 3) := by decide +kernel
theorem dX6_profitAt_17 : decode cX6_profitAt 17 = .ok (.invokevirtual 123, 3) := by decide +kernel
theorem dX6_profitAt_20 : decode cX6_profitAt 20 = .ok (.aload_n 0, 1) := by decide +kernel
theorem dX6_profitAt_21 : decode cX6_profitAt 21 = .ok (.getfield 16, 3) := by decide +kernel
theorem dX6_profitAt_24 : decode cX6_profitAt 24 = .ok (.iload_n 1, 1) := by decide +kernel
theorem dX6_profitAt_25 : decode cX6_profitAt 25 = .ok (.invokevirtual 101, 3) := by decide +kernel
theorem dX6_profitAt_28 : decode cX6_profitAt 28 = .ok (.iload_n 2, 1) := by decide +kernel
theorem dX6_profitAt_29 : decode cX6_profitAt 29 = .ok (.putfield 189, 3) := by decide +kernel
theorem dX6_profitAt_32 : decode cX6_profitAt 32 = .ok (.aload_n 0, 1) := by decide +kernel
theorem dX6_profitAt_33 : decode cX6_profitAt 33 = .ok (.getfield 16, 3) := by decide +kernel
theorem dX6_profitAt_36 : decode cX6_profitAt 36 = .ok (.invokevirtual 126, 3) := by decide +kernel
theorem dX6_profitAt_39 : decode cX6_profitAt 39 = .ok (.pop, 1) := by decide +kernel
theorem dX6_profitAt_40 : decode cX6_profitAt 40 = .ok (.aload_n 0, 1) := by decide +kernel
theorem dX6_profitAt_41 : decode cX6_profitAt 41 = .ok (.getfield 16, 3) := by decide +kernel
theorem dX6_profitAt_44 : decode cX6_profitAt 44 = .ok (.aload_n 3, 1) := by decide +kernel
theorem dX6_profitAt_45 : decode cX6_profitAt 45 = .ok (.getfield 105, 3) := by decide +kernel
theorem dX6_profitAt_48 : decode cX6_profitAt 48 = .ok (.invokevirtual 89, 3) := by decide +kernel
theorem dX6_profitAt_51 : decode cX6_profitAt 51 = .ok (.istore 4, 2) := by decide +kernel
theorem dX6_profitAt_53 : decode cX6_profitAt 53 = .ok (.aload_n 0, 1) := by decide +kernel
theorem dX6_profitAt_54 : decode cX6_profitAt 54 = .ok (.getfield 10, 3) := by decide +kernel
theorem dX6_profitAt_57 : decode cX6_profitAt 57 = .ok (.iload_n 1, 1) := by decide +kernel
theorem dX6_profitAt_58 : decode cX6_profitAt 58 = .ok (.invokevirtual 192, 3) := by decide +kernel
theorem dX6_profitAt_61 : decode cX6_profitAt 61 = .ok (.aload_n 0, 1) := by decide +kernel
theorem dX6_profitAt_62 : decode cX6_profitAt 62 = .ok (.getfield 16, 3) := by decide +kernel
theorem dX6_profitAt_65 : decode cX6_profitAt 65 = .ok (.iload 4, 2) := by decide +kernel
theorem dX6_profitAt_67 : decode cX6_profitAt 67 = .ok (.invokevirtual 192, 3) := by decide +kernel
theorem dX6_profitAt_70 : decode cX6_profitAt 70 = .ok (.isub, 1) := by decide +kernel
theorem dX6_profitAt_71 : decode cX6_profitAt 71 = .ok (.istore 5, 2) := by decide +kernel
theorem dX6_profitAt_73 : decode cX6_profitAt 73 = .ok (.iload 5, 2) := by decide +kernel
theorem dX6_profitAt_75 : decode cX6_profitAt 75 = .ok (.aload_n 0, 1) := by decide +kernel
theorem dX6_profitAt_76 : decode cX6_profitAt 76 = .ok (.getfield 16, 3) := by decide +kernel
theorem dX6_profitAt_79 : decode cX6_profitAt 79 = .ok (.iload 4, 2) := by decide +kernel
theorem dX6_profitAt_81 : decode cX6_profitAt 81 = .ok (.invokevirtual 101, 3) := by decide +kernel
theorem dX6_profitAt_84 : decode cX6_profitAt 84 = .ok (.getfield 195, 3) := by decide +kernel
theorem dX6_profitAt_87 : decode cX6_profitAt 87 = .ok (.iadd, 1) := by decide +kernel
theorem dX6_profitAt_88 : decode cX6_profitAt 88 = .ok (.aload_n 3, 1) := by decide +kernel
theorem dX6_profitAt_89 : decode cX6_profitAt 89 = .ok (.getfield 195, 3) := by decide +kernel
theorem dX6_profitAt_92 : decode cX6_profitAt 92 = .ok (.isub, 1) := by decide +kernel
theorem dX6_profitAt_93 : decode cX6_profitAt 93 = .ok (.ireturn, 1) := by decide +kernel
theorem dX6_perform_0 : decode cX6_perform 0 = .ok (.aload_n 0, 1) := by decide +kernel
theorem dX6_perform_1 : decode cX6_perform 1 = .ok (.aload_n 1, 1) := by decide +kernel
theorem dX6_perform_2 : decode cX6_perform 2 = .ok (.iload_n 2, 1) := by decide +kernel
theorem dX6_perform_3 : decode cX6_perform 3 = .ok (.iload_n 3, 1) := by decide +kernel
theorem dX6_perform_4 : decode cX6_perform 4 = .ok (.iload 4, 2) := by decide +kernel
theorem dX6_perform_6 : decode cX6_perform 6 = .ok (.invokevirtual 198, 3) := by decide +kernel
theorem dX6_perform_9 : decode cX6_perform 9 = .ok (.invokestatic 59, 3) := by decide +kernel
theorem dX6_perform_12 : decode cX6_perform 12 = .ok (.aload_n 0, 1) := by decide +kernel
theorem dX6_perform_13 : decode cX6_perform 13 = .ok (.getfield 22, 3) := by decide +kernel
theorem dX6_perform_16 : decode cX6_perform 16 = .ok (.aload_n 0, 1) := by decide +kernel
theorem dX6_perform_17 : decode cX6_perform 17 = .ok (.getfield 10, 3) := by decide +kernel
theorem dX6_perform_20 : decode cX6_perform 20 = .ok (.invokevirtual 63, 3) := by decide +kernel
theorem dX6_perform_23 : decode cX6_perform 23 = .ok (.aload_n 0, 1) := by decide +kernel
theorem dX6_perform_24 : decode cX6_perform 24 = .ok (.aload_n 1, 1) := by decide +kernel
theorem dX6_perform_25 : decode cX6_perform 25 = .ok (.iload_n 2, 1) := by decide +kernel
theorem dX6_perform_26 : decode cX6_perform 26 = .ok (.iload_n 3, 1) := by decide +kernel
theorem dX6_perform_27 : decode cX6_perform 27 = .ok (.iload 4, 2) := by decide +kernel
theorem dX6_perform_29 : decode cX6_perform 29 = .ok (.invokevirtual 201, 3) := by decide +kernel
theorem dX6_perform_32 : decode cX6_perform 32 = .ok (.ireturn, 1) := by decide +kernel
theorem dX6_carryOutRead_0 : decode cX6_carryOutRead 0 = .ok (.aload_n 1, 1) := by decide +kernel
theorem dX6_carryOutRead_1 : decode cX6_carryOutRead 1 = .ok (.ifnonnull 5, 3) := by decide +kernel
theorem dX6_carryOutRead_4 : decode cX6_carryOutRead 4 = .ok (.iconst 0, 1) := by decide +kernel
theorem dX6_carryOutRead_5 : decode cX6_carryOutRead 5 = .ok (.ireturn, 1) := by decide +kernel
theorem dX6_carryOutRead_6 : decode cX6_carryOutRead 6 = .ok (.aload_n 0, 1) := by decide +kernel
theorem dX6_carryOutRead_7 : decode cX6_carryOutRead 7 = .ok (.getfield 29, 3) := by decide +kernel
theorem dX6_carryOutRead_10 : decode cX6_carryOutRead 10 = .ok (.iconst 0, 1) := by decide +kernel
theorem dX6_carryOutRead_11 : decode cX6_carryOutRead 11 = .ok (.invokevirtual 204, 3) := by decide +kernel
theorem dX6_carryOutRead_14 : decode cX6_carryOutRead 14 = .ok (.istore_n 2, 1) := by decide +kernel
theorem dX6_carryOutRead_15 : decode cX6_carryOutRead 15 = .ok (.aload_n 0, 1) := by decide +kernel
theorem dX6_carryOutRead_16 : decode cX6_carryOutRead 16 = .ok (.getfield 29, 3) := by decide +kernel
theorem dX6_carryOutRead_19 : decode cX6_carryOutRead 19 = .ok (.iconst 1, 1) := by decide +kernel
theorem dX6_carryOutRead_20 : decode cX6_carryOutRead 20 = .ok (.invokevirtual 204, 3) := by decide +kernel
theorem dX6_carryOutRead_23 : decode cX6_carryOutRead 23 = .ok (.istore_n 3, 1) := by decide +kernel
theorem dX6_carryOutRead_24 : decode cX6_carryOutRead 24 = .ok (.aload_n 0, 1) := by decide +kernel
theorem dX6_carryOutRead_25 : decode cX6_carryOutRead 25 = .ok (.getfield 29, 3) := by decide +kernel
theorem dX6_carryOutRead_28 : decode cX6_carryOutRead 28 = .ok (.iconst 2, 1) := by decide +kernel
theorem dX6_carryOutRead_29 : decode cX6_carryOutRead 29 = .ok (.invokevirtual 204, 3) := by decide +kernel
theorem dX6_carryOutRead_32 : decode cX6_carryOutRead 32 = .ok (.istore 4, 2) := by decide +kernel
theorem dX6_carryOutRead_34 : decode cX6_carryOutRead 34 = .ok (.aload_n 0, 1) := by decide +kernel
theorem dX6_carryOutRead_35 : decode cX6_carryOutRead 35 = .ok (.aload_n 1, 1) := by decide +kernel
theorem dX6_carryOutRead_36 : decode cX6_carryOutRead 36 = .ok (.iload_n 2, 1) := by decide +kernel
theorem dX6_carryOutRead_37 : decode cX6_carryOutRead 37 = .ok (.iload_n 3, 1) := by decide +kernel
theorem dX6_carryOutRead_38 : decode cX6_carryOutRead 38 = .ok (.iload 4, 2) := by decide +kernel
theorem dX6_carryOutRead_40 : decode cX6_carryOutRead 40 = .ok (.invokevirtual 198, 3) := by decide +kernel
theorem dX6_carryOutRead_43 : decode cX6_carryOutRead 43 = .ok (.ifCond .eq 5, 3) := by decide +kernel
theorem dX6_carryOutRead_46 : decode cX6_carryOutRead 46 = .ok (.iconst 0, 1) := by decide +kernel
theorem dX6_carryOutRead_47 : decode cX6_carryOutRead 47 = .ok (.ireturn, 1) := by decide +kernel
theorem dX6_carryOutRead_48 : decode cX6_carryOutRead 48 = .ok (.aload_n 0, 1) := by decide +kernel
theorem dX6_carryOutRead_49 : decode cX6_carryOutRead 49 = .ok (.aload_n 1, 1) := by decide +kernel
theorem dX6_carryOutRead_50 : decode cX6_carryOutRead 50 = .ok (.iload_n 2, 1) := by decide +kernel
theorem dX6_carryOutRead_51 : decode cX6_carryOutRead 51 = .ok (.iload_n 3, 1) := by decide +kernel
theorem dX6_carryOutRead_52 : decode cX6_carryOutRead 52 = .ok (.iload 4, 2) := by decide +kernel
theorem dX6_carryOutRead_54 : decode cX6_carryOutRead 54 = .ok (.invokevirtual 201, 3) := by decide +kernel
theorem dX6_carryOutRead_57 : decode cX6_carryOutRead 57 = .ok (.pop, 1) := by decide +kernel
theorem dX6_carryOutRead_58 : decode cX6_carryOutRead 58 = .ok (.iconst 1, 1) := by decide +kernel
theorem dX6_carryOutRead_59 : decode cX6_carryOutRead 59 = .ok (.ireturn, 1) := by decide +kernel
theorem dX6_faultOf_0 : decode cX6_faultOf 0 = .ok (.getstatic 206, 3) := by decide +kernel
theorem dX6_faultOf_3 : decode cX6_faultOf 3 = .ok (.aload_n 1, 1) := by decide +kernel
theorem dX6_faultOf_4 : decode cX6_faultOf 4 = .ok (.invokevirtual 212, 3) := by decide +kernel
theorem dX6_faultOf_7 : decode cX6_faultOf 7 = .ok (.iaload, 1) := by decide +kernel
theorem dX6_faultOf_8 : decode cX6_faultOf 8 = .ok (.tableswitch 209 1 10 #[56, 70, 79, 93, 113, 127, 140, 155, 178, 193], 56) := by decide +kernel
theorem dX6_faultOf_64 : decode cX6_faultOf 64 = .ok (.aload_n 0, 1) := by decide +kernel
theorem dX6_faultOf_65 : decode cX6_faultOf 65 = .ok (.iload_n 2, 1) := by decide +kernel
theorem dX6_faultOf_66 : decode cX6_faultOf 66 = .ok (.iload_n 3, 1) := by decide +kernel
theorem dX6_faultOf_67 : decode cX6_faultOf 67 = .ok (.aload_n 0, 1) := by decide +kernel
theorem dX6_faultOf_68 : decode cX6_faultOf 68 = .ok (.getfield 10, 3) := by decide +kernel
theorem dX6_faultOf_71 : decode cX6_faultOf 71 = .ok (.getfield 185, 3) := by decide +kernel
theorem dX6_faultOf_74 : decode cX6_faultOf 74 = .ok (.invokevirtual 215, 3) := by decide +kernel
theorem dX6_faultOf_77 : decode cX6_faultOf 77 = .ok (.ireturn, 1) := by decide +kernel
theorem dX6_faultOf_78 : decode cX6_faultOf 78 = .ok (.aload_n 0, 1) := by decide +kernel
theorem dX6_faultOf_79 : decode cX6_faultOf 79 = .ok (.iload_n 2, 1) := by decide +kernel
theorem dX6_faultOf_80 : decode cX6_faultOf 80 = .ok (.iload_n 3, 1) := by decide +kernel
theorem dX6_faultOf_81 : decode cX6_faultOf 81 = .ok (.iload 4, 2) := by decide +kernel
theorem dX6_faultOf_83 : decode cX6_faultOf 83 = .ok (.invokevirtual 215, 3) := by decide +kernel
theorem dX6_faultOf_86 : decode cX6_faultOf 86 = .ok (.ireturn, 1) := by decide +kernel
theorem dX6_faultOf_87 : decode cX6_faultOf 87 = .ok (.aload_n 0, 1) := by decide +kernel
theorem dX6_faultOf_88 : decode cX6_faultOf 88 = .ok (.aload_n 0, 1) := by decide +kernel
theorem dX6_faultOf_89 : decode cX6_faultOf 89 = .ok (.getfield 10, 3) := by decide +kernel
theorem dX6_faultOf_92 : decode cX6_faultOf 92 = .ok (.iload_n 2, 1) := by decide +kernel
theorem dX6_faultOf_93 : decode cX6_faultOf 93 = .ok (.invokevirtual 89, 3) := by decide +kernel
theorem dX6_faultOf_96 : decode cX6_faultOf 96 = .ok (.iconst 1, 1) := by decide +kernel
theorem dX6_faultOf_97 : decode cX6_faultOf 97 = .ok (.invokevirtual 93, 3) := by decide +kernel
theorem dX6_faultOf_100 : decode cX6_faultOf 100 = .ok (.ireturn, 1) := by decide +kernel
theorem dX6_faultOf_101 : decode cX6_faultOf 101 = .ok (.aload_n 0, 1) := by decide +kernel
theorem dX6_faultOf_102 : decode cX6_faultOf 102 = .ok (.aload_n 0, 1) := by decide +kernel
theorem dX6_faultOf_103 : decode cX6_faultOf 103 = .ok (.getfield 10, 3) := by decide +kernel
theorem dX6_faultOf_106 : decode cX6_faultOf 106 = .ok (.iload_n 2, 1) := by decide +kernel
theorem dX6_faultOf_107 : decode cX6_faultOf 107 = .ok (.invokevirtual 89, 3) := by decide +kernel
theorem dX6_faultOf_110 : decode cX6_faultOf 110 = .ok (.iload_n 3, 1) := by decide +kernel
theorem dX6_faultOf_111 : decode cX6_faultOf 111 = .ok (.iconst 0, 1) := by decide +kernel
theorem dX6_faultOf_112 : decode cX6_faultOf 112 = .ok (.bipush 99, 2) := by decide +kernel
theorem dX6_faultOf_114 : decode cX6_faultOf 114 = .ok (.invokestatic 55, 3) := by decide +kernel
theorem dX6_faultOf_117 : decode cX6_faultOf 117 = .ok (.invokevirtual 93, 3) := by decide +kernel
theorem dX6_faultOf_120 : decode cX6_faultOf 120 = .ok (.ireturn, 1) := by decide +kernel
theorem dX6_faultOf_121 : decode cX6_faultOf 121 = .ok (.aload_n 0, 1) := by decide +kernel
theorem dX6_faultOf_122 : decode cX6_faultOf 122 = .ok (.aload_n 0, 1) := by decide +kernel
theorem dX6_faultOf_123 : decode cX6_faultOf 123 = .ok (.getfield 10, 3) := by decide +kernel
theorem dX6_faultOf_126 : decode cX6_faultOf 126 = .ok (.iload_n 2, 1) := by decide +kernel
theorem dX6_faultOf_127 : decode cX6_faultOf 127 = .ok (.invokevirtual 89, 3) := by decide +kernel
theorem dX6_faultOf_130 : decode cX6_faultOf 130 = .ok (.iload_n 3, 1) := by decide +kernel
theorem dX6_faultOf_131 : decode cX6_faultOf 131 = .ok (.invokevirtual 219, 3) := by decide +kernel
theorem dX6_faultOf_134 : decode cX6_faultOf 134 = .ok (.ireturn, 1) := by decide +kernel
theorem dX6_faultOf_135 : decode cX6_faultOf 135 = .ok (.aload_n 0, 1) := by decide +kernel
theorem dX6_faultOf_136 : decode cX6_faultOf 136 = .ok (.aload_n 0, 1) := by decide +kernel
theorem dX6_faultOf_137 : decode cX6_faultOf 137 = .ok (.getfield 10, 3) := by decide +kernel
theorem dX6_faultOf_140 : decode cX6_faultOf 140 = .ok (.iload_n 2, 1) := by decide +kernel
theorem dX6_faultOf_141 : decode cX6_faultOf 141 = .ok (.invokevirtual 89, 3) := by decide +kernel
theorem dX6_faultOf_144 : decode cX6_faultOf 144 = .ok (.invokevirtual 222, 3) := by decide +kernel
theorem dX6_faultOf_147 : decode cX6_faultOf 147 = .ok (.ireturn, 1) := by decide +kernel
theorem dX6_faultOf_148 : decode cX6_faultOf 148 = .ok (.aload_n 0, 1) := by decide +kernel
theorem dX6_faultOf_149 : decode cX6_faultOf 149 = .ok (.iload_n 2, 1) := by decide +kernel
theorem dX6_faultOf_150 : decode cX6_faultOf 150 = .ok (.aload_n 0, 1) := by decide +kernel
theorem dX6_faultOf_151 : decode cX6_faultOf 151 = .ok (.getfield 10, 3) := by decide +kernel
theorem dX6_faultOf_154 : decode cX6_faultOf 154 = .ok (.iload_n 2, 1) := by decide +kernel
theorem dX6_faultOf_155 : decode cX6_faultOf 155 = .ok (.invokevirtual 225, 3) := by decide +kernel
theorem dX6_faultOf_158 : decode cX6_faultOf 158 = .ok (.iconst 3, 1) := by decide +kernel
theorem dX6_faultOf_159 : decode cX6_faultOf 159 = .ok (.invokevirtual 110, 3) := by decide +kernel
theorem dX6_faultOf_162 : decode cX6_faultOf 162 = .ok (.ireturn, 1) := by decide +kernel
theorem dX6_faultOf_163 : decode cX6_faultOf 163 = .ok (.aload_n 0, 1) := by decide +kernel
theorem dX6_faultOf_164 : decode cX6_faultOf 164 = .ok (.iload_n 2, 1) := by decide +kernel
theorem dX6_faultOf_165 : decode cX6_faultOf 165 = .ok (.aload_n 0, 1) := by decide +kernel
theorem dX6_faultOf_166 : decode cX6_faultOf 166 = .ok (.getfield 10, 3) := by decide +kernel
theorem dX6_faultOf_169 : decode cX6_faultOf 169 = .ok (.iload_n 2, 1) := by decide +kernel
theorem dX6_faultOf_170 : decode cX6_faultOf 170 = .ok (.invokevirtual 229, 3) := by decide +kernel
theorem dX6_faultOf_173 : decode cX6_faultOf 173 = .ok (.ifCond .ne 7, 3) := by decide +kernel
theorem dX6_faultOf_176 : decode cX6_faultOf 176 = .ok (.iconst 1, 1) := by decide +kernel
theorem dX6_faultOf_177 : decode cX6_faultOf 177 = .ok (.goto 4, 3) := by decide +kernel
theorem dX6_faultOf_180 : decode cX6_faultOf 180 = .ok (.iconst 0, 1) := by decide +kernel
theorem dX6_faultOf_181 : decode cX6_faultOf 181 = .ok (.iconst 3, 1) := by decide +kernel
theorem dX6_faultOf_182 : decode cX6_faultOf 182 = .ok (.invokevirtual 110, 3) := by decide +kernel
theorem dX6_faultOf_185 : decode cX6_faultOf 185 = .ok (.ireturn, 1) := by decide +kernel
theorem dX6_faultOf_186 : decode cX6_faultOf 186 = .ok (.aload_n 0, 1) := by decide +kernel
theorem dX6_faultOf_187 : decode cX6_faultOf 187 = .ok (.iload_n 2, 1) := by decide +kernel
theorem dX6_faultOf_188 : decode cX6_faultOf 188 = .ok (.aload_n 0, 1) := by decide +kernel
theorem dX6_faultOf_189 : decode cX6_faultOf 189 = .ok (.getfield 10, 3) := by decide +kernel
theorem dX6_faultOf_192 : decode cX6_faultOf 192 = .ok (.iload_n 2, 1) := by decide +kernel
theorem dX6_faultOf_193 : decode cX6_faultOf 193 = .ok (.invokevirtual 229, 3) := by decide +kernel
theorem dX6_faultOf_196 : decode cX6_faultOf 196 = .ok (.iconst 3, 1) := by decide +kernel
theorem dX6_faultOf_197 : decode cX6_faultOf 197 = .ok (.invokevirtual 110, 3) := by decide +kernel
theorem dX6_faultOf_200 : decode cX6_faultOf 200 = .ok (.ireturn, 1) := by decide +kernel
theorem dX6_faultOf_201 : decode cX6_faultOf 201 = .ok (.aload_n 0, 1) := by decide +kernel
theorem dX6_faultOf_202 : decode cX6_faultOf 202 = .ok (.getfield 10, 3) := by decide +kernel
theorem dX6_faultOf_205 : decode cX6_faultOf 205 = .ok (.getfield 185, 3) := by decide +kernel
theorem dX6_faultOf_208 : decode cX6_faultOf 208 = .ok (.ifCond .le 7, 3) := by decide +kernel
theorem dX6_faultOf_211 : decode cX6_faultOf 211 = .ok (.iconst 0, 1) := by decide +kernel
