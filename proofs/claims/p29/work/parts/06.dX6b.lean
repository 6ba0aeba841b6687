theorem kX6_undo_21 : (((((decode cX6_undo 21 = .ok (.istore_n 1, 1)) ∧ (decode cX6_undo 22 = .ok (.iload_n 1, 1))) ∧ ((decode cX6_undo 23 = .ok (.bipush 27, 2)) ∧ (decode cX6_undo 25 = .ok (.if_icmp .ge 29, 3)))) ∧ (((decode cX6_undo 28 = .ok (.aload_n 0, 1)) ∧ (decode cX6_undo 29 = .ok (.getfield 7, 3))) ∧ ((decode cX6_undo 32 = .ok (.iload_n 1, 1)) ∧ (decode cX6_undo 33 = .ok (.aload_n 0, 1))))) ∧ ((((decode cX6_undo 34 = .ok (.getfield 22, 3)) ∧ (decode cX6_undo 37 = .ok (.bipush 27, 2))) ∧ ((decode cX6_undo 39 = .ok (.aload_n 0, 1)) ∧ (decode cX6_undo 40 = .ok (.getfield 90, 3)))) ∧ (((decode cX6_undo 43 = .ok (.imul, 1)) ∧ (decode cX6_undo 44 = .ok (.iload_n 1, 1))) ∧ ((decode cX6_undo 45 = .ok (.iadd, 1)) ∧ (decode cX6_undo 46 = .ok (.iaload, 1)))))) := by decide +kernel
theorem dX6_undo_21 : decode cX6_undo 21 = .ok (.istore_n 1, 1) := kX6_undo_21.1.1.1.1
theorem dX6_undo_22 : decode cX6_undo 22 = .ok (.iload_n 1, 1) := kX6_undo_21.1.1.1.2
theorem dX6_undo_23 : decode cX6_undo 23 = .ok (.bipush 27, 2) := kX6_undo_21.1.1.2.1
theorem dX6_undo_25 : decode cX6_undo 25 = .ok (.if_icmp .ge 29, 3) := kX6_undo_21.1.1.2.2
theorem dX6_undo_28 : decode cX6_undo 28 = .ok (.aload_n 0, 1) := kX6_undo_21.1.2.1.1
theorem dX6_undo_29 : decode cX6_undo 29 = .ok (.getfield 7, 3) := kX6_undo_21.1.2.1.2
theorem dX6_undo_32 : decode cX6_undo 32 = .ok (.iload_n 1, 1) := kX6_undo_21.1.2.2.1
theorem dX6_undo_33 : decode cX6_undo 33 = .ok (.aload_n 0, 1) := kX6_undo_21.1.2.2.2
theorem dX6_undo_34 : decode cX6_undo 34 = .ok (.getfield 22, 3) := kX6_undo_21.2.1.1.1
theorem dX6_undo_37 : decode cX6_undo 37 = .ok (.bipush 27, 2) := kX6_undo_21.2.1.1.2
theorem dX6_undo_39 : decode cX6_undo 39 = .ok (.aload_n 0, 1) := kX6_undo_21.2.1.2.1
theorem dX6_undo_40 : decode cX6_undo 40 = .ok (.getfield 90, 3) := kX6_undo_21.2.1.2.2
theorem dX6_undo_43 : decode cX6_undo 43 = .ok (.imul, 1) := kX6_undo_21.2.2.1.1
theorem dX6_undo_44 : decode cX6_undo 44 = .ok (.iload_n 1, 1) := kX6_undo_21.2.2.1.2
theorem dX6_undo_45 : decode cX6_undo 45 = .ok (.iadd, 1) := kX6_undo_21.2.2.2.1
theorem dX6_undo_46 : decode cX6_undo 46 = .ok (.iaload, 1) := kX6_undo_21.2.2.2.2
theorem kX6_undo_47 : ((((decode cX6_undo 47 = .ok (.iastore, 1)) ∧ (decode cX6_undo 48 = .ok (.iinc 1 1, 3))) ∧ (decode cX6_undo 51 = .ok (.goto (-29), 3))) ∧ (((decode cX6_undo 54 = .ok (.aload_n 0, 1)) ∧ (decode cX6_undo 55 = .ok (.getfield 90, 3))) ∧ (decode cX6_undo 58 = .ok (.ireturn, 1)))) := by decide +kernel
theorem dX6_undo_47 : decode cX6_undo 47 = .ok (.iastore, 1) := kX6_undo_47.1.1.1
theorem dX6_undo_48 : decode cX6_undo 48 = .ok (.iinc 1 1, 3) := kX6_undo_47.1.1.2
theorem dX6_undo_51 : decode cX6_undo 51 = .ok (.goto (-29), 3) := kX6_undo_47.1.2
theorem dX6_undo_54 : decode cX6_undo 54 = .ok (.aload_n 0, 1) := kX6_undo_47.2.1.1
theorem dX6_undo_55 : decode cX6_undo 55 = .ok (.getfield 90, 3) := kX6_undo_47.2.1.2
theorem dX6_undo_58 : decode cX6_undo 58 = .ok (.ireturn, 1) := kX6_undo_47.2.2
theorem kX6_seed_0 : (((((decode cX6_seed 0 = .ok (.iload_n 1, 1)) ∧ (decode cX6_seed 1 = .ok (.ifCond .ge 5, 3))) ∧ ((decode cX6_seed 4 = .ok (.iconst (-1), 1)) ∧ (decode cX6_seed 5 = .ok (.ireturn, 1)))) ∧ (((decode cX6_seed 6 = .ok (.aload_n 0, 1)) ∧ (decode cX6_seed 7 = .ok (.getfield 7, 3))) ∧ ((decode cX6_seed 10 = .ok (.iconst 2, 1)) ∧ (decode cX6_seed 11 = .ok (.iaload, 1))))) ∧ ((((decode cX6_seed 12 = .ok (.istore_n 2, 1)) ∧ (decode cX6_seed 13 = .ok (.aload_n 0, 1))) ∧ ((decode cX6_seed 14 = .ok (.getfield 7, 3)) ∧ (decode cX6_seed 17 = .ok (.iconst 2, 1)))) ∧ (((decode cX6_seed 18 = .ok (.iload_n 1, 1)) ∧ (decode cX6_seed 19 = .ok (.iastore, 1))) ∧ ((decode cX6_seed 20 = .ok (.iload_n 2, 1)) ∧ (decode cX6_seed 21 = .ok (.ireturn, 1)))))) := by decide +kernel
theorem dX6_seed_0 : decode cX6_seed 0 = .ok (.iload_n 1, 1) := kX6_seed_0.1.1.1.1
theorem dX6_seed_1 : decode cX6_seed 1 = .ok (.ifCond .ge 5, 3) := kX6_seed_0.1.1.1.2
theorem dX6_seed_4 : decode cX6_seed 4 = .ok (.iconst (-1), 1) := kX6_seed_0.1.1.2.1
theorem dX6_seed_5 : decode cX6_seed 5 = .ok (.ireturn, 1) := kX6_seed_0.1.1.2.2
theorem dX6_seed_6 : decode cX6_seed 6 = .ok (.aload_n 0, 1) := kX6_seed_0.1.2.1.1
theorem dX6_seed_7 : decode cX6_seed 7 = .ok (.getfield 7, 3) := kX6_seed_0.1.2.1.2
theorem dX6_seed_10 : decode cX6_seed 10 = .ok (.iconst 2, 1) := kX6_seed_0.1.2.2.1
theorem dX6_seed_11 : decode cX6_seed 11 = .ok (.iaload, 1) := kX6_seed_0.1.2.2.2
theorem dX6_seed_12 : decode cX6_seed 12 = .ok (.istore_n 2, 1) := kX6_seed_0.2.1.1.1
theorem dX6_seed_13 : decode cX6_seed 13 = .ok (.aload_n 0, 1) := kX6_seed_0.2.1.1.2
theorem dX6_seed_14 : decode cX6_seed 14 = .ok (.getfield 7, 3) := kX6_seed_0.2.1.2.1
theorem dX6_seed_17 : decode cX6_seed 17 = .ok (.iconst 2, 1) := kX6_seed_0.2.1.2.2
theorem dX6_seed_18 : decode cX6_seed 18 = .ok (.iload_n 1, 1) := kX6_seed_0.2.2.1.1
theorem dX6_seed_19 : decode cX6_seed 19 = .ok (.iastore, 1) := kX6_seed_0.2.2.1.2
theorem dX6_seed_20 : decode cX6_seed 20 = .ok (.iload_n 2, 1) := kX6_seed_0.2.2.2.1
theorem dX6_seed_21 : decode cX6_seed 21 = .ok (.ireturn, 1) := kX6_seed_0.2.2.2.2
theorem kX6_asides_0 : (((((decode cX6_asides 0 = .ok (.iconst 0, 1)) ∧ (decode cX6_asides 1 = .ok (.istore_n 1, 1))) ∧ ((decode cX6_asides 2 = .ok (.iload_n 1, 1)) ∧ (decode cX6_asides 3 = .ok (.bipush 27, 2)))) ∧ (((decode cX6_asides 5 = .ok (.if_icmp .ge 21, 3)) ∧ (decode cX6_asides 8 = .ok (.aload_n 0, 1))) ∧ ((decode cX6_asides 9 = .ok (.getfield 25, 3)) ∧ (decode cX6_asides 12 = .ok (.iload_n 1, 1))))) ∧ ((((decode cX6_asides 13 = .ok (.aload_n 0, 1)) ∧ (decode cX6_asides 14 = .ok (.getfield 7, 3))) ∧ ((decode cX6_asides 17 = .ok (.iload_n 1, 1)) ∧ (decode cX6_asides 18 = .ok (.iaload, 1)))) ∧ (((decode cX6_asides 19 = .ok (.iastore, 1)) ∧ (decode cX6_asides 20 = .ok (.iinc 1 1, 3))) ∧ ((decode cX6_asides 23 = .ok (.goto (-21), 3)) ∧ (decode cX6_asides 26 = .ok (.return_, 1)))))) := by decide +kernel
theorem dX6_asides_0 : decode cX6_asides 0 = .ok (.iconst 0, 1) := kX6_asides_0.1.1.1.1
theorem dX6_asides_1 : decode cX6_asides 1 = .ok (.istore_n 1, 1) := kX6_asides_0.1.1.1.2
theorem dX6_asides_2 : decode cX6_asides 2 = .ok (.iload_n 1, 1) := kX6_asides_0.1.1.2.1
theorem dX6_asides_3 : decode cX6_asides 3 = .ok (.bipush 27, 2) := kX6_asides_0.1.1.2.2
theorem dX6_asides_5 : decode cX6_asides 5 = .ok (.if_icmp .ge 21, 3) := kX6_asides_0.1.2.1.1
theorem dX6_asides_8 : decode cX6_asides 8 = .ok (.aload_n 0, 1) := kX6_asides_0.1.2.1.2
theorem dX6_asides_9 : decode cX6_asides 9 = .ok (.getfield 25, 3) := kX6_asides_0.1.2.2.1
theorem dX6_asides_12 : decode cX6_asides 12 = .ok (.iload_n 1, 1) := kX6_asides_0.1.2.2.2
theorem dX6_asides_13 : decode cX6_asides 13 = .ok (.aload_n 0, 1) := kX6_asides_0.2.1.1.1
theorem dX6_asides_14 : decode cX6_asides 14 = .ok (.getfield 7, 3) := kX6_asides_0.2.1.1.2
theorem dX6_asides_17 : decode cX6_asides 17 = .ok (.iload_n 1, 1) := kX6_asides_0.2.1.2.1
theorem dX6_asides_18 : decode cX6_asides 18 = .ok (.iaload, 1) := kX6_asides_0.2.1.2.2
theorem dX6_asides_19 : decode cX6_asides 19 = .ok (.iastore, 1) := kX6_asides_0.2.2.1.1
theorem dX6_asides_20 : decode cX6_asides 20 = .ok (.iinc 1 1, 3) := kX6_asides_0.2.2.1.2
theorem dX6_asides_23 : decode cX6_asides 23 = .ok (.goto (-21), 3) := kX6_asides_0.2.2.2.1
theorem dX6_asides_26 : decode cX6_asides 26 = .ok (.return_, 1) := kX6_asides_0.2.2.2.2
theorem kX6_backs_0 : (((((decode cX6_backs 0 = .ok (.iconst 0, 1)) ∧ (decode cX6_backs 1 = .ok (.istore_n 1, 1))) ∧ ((decode cX6_backs 2 = .ok (.iload_n 1, 1)) ∧ (decode cX6_backs 3 = .ok (.bipush 27, 2)))) ∧ (((decode cX6_backs 5 = .ok (.if_icmp .ge 21, 3)) ∧ (decode cX6_backs 8 = .ok (.aload_n 0, 1))) ∧ ((decode cX6_backs 9 = .ok (.getfield 7, 3)) ∧ (decode cX6_backs 12 = .ok (.iload_n 1, 1))))) ∧ ((((decode cX6_backs 13 = .ok (.aload_n 0, 1)) ∧ (decode cX6_backs 14 = .ok (.getfield 25, 3))) ∧ ((decode cX6_backs 17 = .ok (.iload_n 1, 1)) ∧ (decode cX6_backs 18 = .ok (.iaload, 1)))) ∧ (((decode cX6_backs 19 = .ok (.iastore, 1)) ∧ (decode cX6_backs 20 = .ok (.iinc 1 1, 3))) ∧ ((decode cX6_backs 23 = .ok (.goto (-21), 3)) ∧ (decode cX6_backs 26 = .ok (.return_, 1)))))) := by decide +kernel
theorem dX6_backs_0 : decode cX6_backs 0 = .ok (.iconst 0, 1) := kX6_backs_0.1.1.1.1
theorem dX6_backs_1 : decode cX6_backs 1 = .ok (.istore_n 1, 1) := kX6_backs_0.1.1.1.2
theorem dX6_backs_2 : decode cX6_backs 2 = .ok (.iload_n 1, 1) := kX6_backs_0.1.1.2.1
theorem dX6_backs_3 : decode cX6_backs 3 = .ok (.bipush 27, 2) := kX6_backs_0.1.1.2.2
theorem dX6_backs_5 : decode cX6_backs 5 = .ok (.if_icmp .ge 21, 3) := kX6_backs_0.1.2.1.1
theorem dX6_backs_8 : decode cX6_backs 8 = .ok (.aload_n 0, 1) := kX6_backs_0.1.2.1.2
theorem dX6_backs_9 : decode cX6_backs 9 = .ok (.getfield 7, 3) := kX6_backs_0.1.2.2.1
theorem dX6_backs_12 : decode cX6_backs 12 = .ok (.iload_n 1, 1) := kX6_backs_0.1.2.2.2
theorem dX6_backs_13 : decode cX6_backs 13 = .ok (.aload_n 0, 1) := kX6_backs_0.2.1.1.1
theorem dX6_backs_14 : decode cX6_backs 14 = .ok (.getfield 25, 3) := kX6_backs_0.2.1.1.2
theorem dX6_backs_17 : decode cX6_backs 17 = .ok (.iload_n 1, 1) := kX6_backs_0.2.1.2.1
theorem dX6_backs_18 : decode cX6_backs 18 = .ok (.iaload, 1) := kX6_backs_0.2.1.2.2
theorem dX6_backs_19 : decode cX6_backs 19 = .ok (.iastore, 1) := kX6_backs_0.2.2.1.1
theorem dX6_backs_20 : decode cX6_backs 20 = .ok (.iinc 1 1, 3) := kX6_backs_0.2.2.1.2
theorem dX6_backs_23 : decode cX6_backs 23 = .ok (.goto (-21), 3) := kX6_backs_0.2.2.2.1
theorem dX6_backs_26 : decode cX6_backs 26 = .ok (.return_, 1) := kX6_backs_0.2.2.2.2
set_option maxRecDepth 20000 in
theorem ggX6_ahead_X6_isPerson : GoodIn wsX6_ahead wsX6_isPerson := goodIn_r _ [6, 7, 8, 9, 5, 10, 65, 66, 67, 68, 69, 70, 71, 72, 73, 74, 75, 76, 77, 78, 79, 80, 81, 82, 83] rfl (by decide +kernel)
set_option maxRecDepth 20000 in
theorem gX6_ahead_X6_isPerson : GoodIn wsX6_ahead (wsV RX6 102 RX6 yX6_isPerson wsX6_isPerson) := goodIn_app (goodIn_of _ (by decide +kernel)) ggX6_ahead_X6_isPerson
set_option maxRecDepth 20000 in
theorem ggX6_ahead_X6_in : GoodIn wsX6_ahead wsX6_in := goodIn_r _ [10] rfl (by decide +kernel)
set_option maxRecDepth 20000 in
theorem gX6_ahead_X6_in : GoodIn wsX6_ahead (va_wsS RX6 50 yX6_in wsX6_in) := goodIn_app (goodIn_of _ (by decide +kernel)) ggX6_ahead_X6_in
set_option maxRecDepth 20000 in
theorem ggX6_ahead_X6_asides : GoodIn wsX6_ahead wsX6_asides := goodIn_r _ [14, 15, 7, 65, 66, 67, 68, 69, 70, 71, 72, 73, 74, 75, 76, 77, 78, 79, 80, 81, 82, 83] rfl (by decide +kernel)
set_option maxRecDepth 20000 in
theorem gX6_ahead_X6_asides : GoodIn wsX6_ahead (wsV RX6 175 RX6 yX6_asides wsX6_asides) := goodIn_app (goodIn_of _ (by decide +kernel)) ggX6_ahead_X6_asides
set_option maxRecDepth 20000 in
theorem ggX6_ahead_X6_goesOn : GoodIn wsX6_ahead wsX6_goesOn := goodIn_r _ [19, 20, 21, 22, 5, 23, 7, 24, 25, 26, 27, 28, 29, 30, 31, 32, 33, 34, 35, 36, 37, 38, 39, 40, 41, 42, 43, 44, 45, 46, 47, 48, 49, 50, 51, 52, 53, 54, 55, 56, 57, 58, 59, 60, 65, 66, 67, 68, 69, 70, 71, 72, 73, 74, 75, 76, 77, 78, 79, 80, 81, 82, 83] rfl (by decide +kernel)
set_option maxRecDepth 20000 in
theorem gX6_ahead_X6_goesOn : GoodIn wsX6_ahead (wsV RX6 178 RX6 yX6_goesOn wsX6_goesOn) := goodIn_app (goodIn_of _ (by decide +kernel)) ggX6_ahead_X6_goesOn
set_option maxRecDepth 20000 in
theorem ggX6_ahead_X6_turns : GoodIn wsX6_ahead wsX6_turns := goodIn_r _ [40, 41, 42, 43, 5, 44, 7, 65, 66, 67, 68, 69, 70, 71, 72, 73, 74, 75, 76, 77, 78, 79, 80, 81, 82, 83] rfl (by decide +kernel)
set_option maxRecDepth 20000 in
theorem gX6_ahead_X6_turns : GoodIn wsX6_ahead (wsV RX6 58 RX6 yX6_turns wsX6_turns) := goodIn_app (goodIn_of _ (by decide +kernel)) ggX6_ahead_X6_turns
set_option maxRecDepth 20000 in
theorem ggX6_ahead_X6_backs : GoodIn wsX6_ahead wsX6_backs := goodIn_r _ [64, 7, 15, 65, 66, 67, 68, 69, 70, 71, 72, 73, 74, 75, 76, 77, 78, 79, 80, 81, 82, 83] rfl (by decide +kernel)
set_option maxRecDepth 20000 in
theorem gX6_ahead_X6_backs : GoodIn wsX6_ahead (wsV RX6 181 RX6 yX6_backs wsX6_backs) := goodIn_app (goodIn_of _ (by decide +kernel)) ggX6_ahead_X6_backs
theorem kX6_ahead_0 : (((((decode cX6_ahead 0 = .ok (.aload_n 0, 1)) ∧ (decode cX6_ahead 1 = .ok (.iload_n 1, 1))) ∧ ((decode cX6_ahead 2 = .ok (.invokevirtual 102, 3)) ∧ (decode cX6_ahead 5 = .ok (.ifCond .eq 15, 3)))) ∧ (((decode cX6_ahead 8 = .ok (.iload_n 2, 1)) ∧ (decode cX6_ahead 9 = .ok (.i2l, 1))) ∧ ((decode cX6_ahead 10 = .ok (.lconst 0, 1)) ∧ (decode cX6_ahead 11 = .ok (.ldc2_w 173, 3))))) ∧ ((((decode cX6_ahead 14 = .ok (.invokestatic 50, 3)) ∧ (decode cX6_ahead 17 = .ok (.ifCond .ne 5, 3))) ∧ ((decode cX6_ahead 20 = .ok (.iconst (-1), 1)) ∧ (decode cX6_ahead 21 = .ok (.ireturn, 1)))) ∧ (((decode cX6_ahead 22 = .ok (.aload_n 0, 1)) ∧ (decode cX6_ahead 23 = .ok (.invokevirtual 175, 3))) ∧ ((decode cX6_ahead 26 = .ok (.aload_n 0, 1)) ∧ (decode cX6_ahead 27 = .ok (.iload_n 2, 1)))))) := by decide +kernel
theorem dX6_ahead_0 : decode cX6_ahead 0 = .ok (.aload_n 0, 1) := kX6_ahead_0.1.1.1.1
theorem dX6_ahead_1 : decode cX6_ahead 1 = .ok (.iload_n 1, 1) := kX6_ahead_0.1.1.1.2
theorem dX6_ahead_2 : decode cX6_ahead 2 = .ok (.invokevirtual 102, 3) := kX6_ahead_0.1.1.2.1
theorem dX6_ahead_5 : decode cX6_ahead 5 = .ok (.ifCond .eq 15, 3) := kX6_ahead_0.1.1.2.2
theorem dX6_ahead_8 : decode cX6_ahead 8 = .ok (.iload_n 2, 1) := kX6_ahead_0.1.2.1.1
theorem dX6_ahead_9 : decode cX6_ahead 9 = .ok (.i2l, 1) := kX6_ahead_0.1.2.1.2
theorem dX6_ahead_10 : decode cX6_ahead 10 = .ok (.lconst 0, 1) := kX6_ahead_0.1.2.2.1
theorem dX6_ahead_11 : decode cX6_ahead 11 = .ok (.ldc2_w 173, 3) := kX6_ahead_0.1.2.2.2
theorem dX6_ahead_14 : decode cX6_ahead 14 = .ok (.invokestatic 50, 3) := kX6_ahead_0.2.1.1.1
theorem dX6_ahead_17 : decode cX6_ahead 17 = .ok (.ifCond .ne 5, 3) := kX6_ahead_0.2.1.1.2
theorem dX6_ahead_20 : decode cX6_ahead 20 = .ok (.iconst (-1), 1) := kX6_ahead_0.2.1.2.1
theorem dX6_ahead_21 : decode cX6_ahead 21 = .ok (.ireturn, 1) := kX6_ahead_0.2.1.2.2
theorem dX6_ahead_22 : decode cX6_ahead 22 = .ok (.aload_n 0, 1) := kX6_ahead_0.2.2.1.1
theorem dX6_ahead_23 : decode cX6_ahead 23 = .ok (.invokevirtual 175, 3) := kX6_ahead_0.2.2.1.2
theorem dX6_ahead_26 : decode cX6_ahead 26 = .ok (.aload_n 0, 1) := kX6_ahead_0.2.2.2.1
theorem dX6_ahead_27 : decode cX6_ahead 27 = .ok (.iload_n 2, 1) := kX6_ahead_0.2.2.2.2
theorem kX6_ahead_28 : (((((decode cX6_ahead 28 = .ok (.invokevirtual 178, 3)) ∧ (decode cX6_ahead 31 = .ok (.aload_n 0, 1))) ∧ (decode cX6_ahead 32 = .ok (.iload_n 1, 1))) ∧ ((decode cX6_ahead 33 = .ok (.invokevirtual 58, 3)) ∧ (decode cX6_ahead 36 = .ok (.istore_n 3, 1)))) ∧ (((decode cX6_ahead 37 = .ok (.aload_n 0, 1)) ∧ (decode cX6_ahead 38 = .ok (.invokevirtual 181, 3))) ∧ ((decode cX6_ahead 41 = .ok (.iload_n 3, 1)) ∧ (decode cX6_ahead 42 = .ok (.ireturn, 1))))) := by decide +kernel
theorem dX6_ahead_28 : decode cX6_ahead 28 = .ok (.invokevirtual 178, 3) := kX6_ahead_28.1.1.1.1
theorem dX6_ahead_31 : decode cX6_ahead 31 = .ok (.aload_n 0, 1) := kX6_ahead_28.1.1.1.2
theorem dX6_ahead_32 : decode cX6_ahead 32 = .ok (.iload_n 1, 1) := kX6_ahead_28.1.1.2
theorem dX6_ahead_33 : decode cX6_ahead 33 = .ok (.invokevirtual 58, 3) := kX6_ahead_28.1.2.1
theorem dX6_ahead_36 : decode cX6_ahead 36 = .ok (.istore_n 3, 1) := kX6_ahead_28.1.2.2
theorem dX6_ahead_37 : decode cX6_ahead 37 = .ok (.aload_n 0, 1) := kX6_ahead_28.2.1.1
theorem dX6_ahead_38 : decode cX6_ahead 38 = .ok (.invokevirtual 181, 3) := kX6_ahead_28.2.1.2
theorem dX6_ahead_41 : decode cX6_ahead 41 = .ok (.iload_n 3, 1) := kX6_ahead_28.2.2.1
theorem dX6_ahead_42 : decode cX6_ahead 42 = .ok (.ireturn, 1) := kX6_ahead_28.2.2.2
set_option maxRecDepth 20000 in
theorem ggX6_stoppedBehind_X6_goesOn : GoodIn wsX6_stoppedBehind wsX6_goesOn := goodIn_r _ [5, 6, 7, 8, 4, 9, 10, 11, 12, 13, 14, 15, 16, 17, 18, 19, 20, 21, 22, 23, 24, 25, 26, 27, 28, 29, 30, 31, 32, 33, 34, 35, 36, 37, 38, 39, 40, 41, 42, 43, 44, 45, 46, 47, 57, 58, 59, 60, 61, 62, 63, 64, 65, 66, 67, 68, 69, 70, 71, 72, 73, 74, 75] rfl (by decide +kernel)
set_option maxRecDepth 20000 in
theorem gX6_stoppedBehind_X6_goesOn : GoodIn wsX6_stoppedBehind (wsV RX6 178 RX6 yX6_goesOn wsX6_goesOn) := goodIn_app (goodIn_of _ (by decide +kernel)) ggX6_stoppedBehind_X6_goesOn
set_option maxRecDepth 20000 in
theorem ggX6_stoppedBehind_X6_stopped : GoodIn wsX6_stoppedBehind wsX6_stopped := goodIn_r _ [51, 10, 20, 21, 22, 4, 23, 24, 25, 26, 27, 28, 29, 30, 31, 57, 58, 59, 60, 61, 62, 63, 64, 65, 66, 67, 68, 69, 70, 71, 72, 73, 74, 75] rfl (by decide +kernel)
set_option maxRecDepth 20000 in
theorem gX6_stoppedBehind_X6_stopped : GoodIn wsX6_stoppedBehind (wsV RX6 110 RX6 yX6_stopped wsX6_stopped) := goodIn_app (goodIn_of _ (by decide +kernel)) ggX6_stoppedBehind_X6_stopped
set_option maxRecDepth 20000 in
theorem ggX6_stoppedBehind_X6_backs : GoodIn wsX6_stoppedBehind wsX6_backs := goodIn_r _ [55, 10, 56, 57, 58, 59, 60, 61, 62, 63, 64, 65, 66, 67, 68, 69, 70, 71, 72, 73, 74, 75] rfl (by decide +kernel)
set_option maxRecDepth 20000 in
theorem gX6_stoppedBehind_X6_backs : GoodIn wsX6_stoppedBehind (wsV RX6 181 RX6 yX6_backs wsX6_backs) := goodIn_app (goodIn_of _ (by decide +kernel)) ggX6_stoppedBehind_X6_backs
theorem kX6_stoppedBehind_0 : (((((decode cX6_stoppedBehind 0 = .ok (.aload_n 0, 1)) ∧ (decode cX6_stoppedBehind 1 = .ok (.iload_n 1, 1))) ∧ (decode cX6_stoppedBehind 2 = .ok (.invokevirtual 178, 3))) ∧ ((decode cX6_stoppedBehind 5 = .ok (.aload_n 0, 1)) ∧ (decode cX6_stoppedBehind 6 = .ok (.invokevirtual 110, 3)))) ∧ ((((decode cX6_stoppedBehind 9 = .ok (.istore_n 2, 1)) ∧ (decode cX6_stoppedBehind 10 = .ok (.aload_n 0, 1))) ∧ (decode cX6_stoppedBehind 11 = .ok (.invokevirtual 181, 3))) ∧ ((decode cX6_stoppedBehind 14 = .ok (.iload_n 2, 1)) ∧ (decode cX6_stoppedBehind 15 = .ok (.ireturn, 1))))) := by decide +kernel
theorem dX6_stoppedBehind_0 : decode cX6_stoppedBehind 0 = .ok (.aload_n 0, 1) := kX6_stoppedBehind_0.1.1.1.1
theorem dX6_stoppedBehind_1 : decode cX6_stoppedBehind 1 = .ok (.iload_n 1, 1) := kX6_stoppedBehind_0.1.1.1.2
theorem dX6_stoppedBehind_2 : decode cX6_stoppedBehind 2 = .ok (.invokevirtual 178, 3) := kX6_stoppedBehind_0.1.1.2
theorem dX6_stoppedBehind_5 : decode cX6_stoppedBehind 5 = .ok (.aload_n 0, 1) := kX6_stoppedBehind_0.1.2.1
theorem dX6_stoppedBehind_6 : decode cX6_stoppedBehind 6 = .ok (.invokevirtual 110, 3) := kX6_stoppedBehind_0.1.2.2
theorem dX6_stoppedBehind_9 : decode cX6_stoppedBehind 9 = .ok (.istore_n 2, 1) := kX6_stoppedBehind_0.2.1.1.1
theorem dX6_stoppedBehind_10 : decode cX6_stoppedBehind 10 = .ok (.aload_n 0, 1) := kX6_stoppedBehind_0.2.1.1.2
theorem dX6_stoppedBehind_11 : decode cX6_stoppedBehind 11 = .ok (.invokevirtual 181, 3) := kX6_stoppedBehind_0.2.1.2
theorem dX6_stoppedBehind_14 : decode cX6_stoppedBehind 14 = .ok (.iload_n 2, 1) := kX6_stoppedBehind_0.2.2.1
theorem dX6_stoppedBehind_15 : decode cX6_stoppedBehind 15 = .ok (.ireturn, 1) := kX6_stoppedBehind_0.2.2.2
set_option maxRecDepth 20000 in
theorem ggX6_then_X6_in : GoodIn wsX6_then wsX6_in := goodIn_r _ [5] rfl (by decide +kernel)
set_option maxRecDepth 20000 in
theorem gX6_then_X6_in : GoodIn wsX6_then (va_wsS RX6 50 yX6_in wsX6_in) := goodIn_app (goodIn_of _ (by decide +kernel)) ggX6_then_X6_in
set_option maxRecDepth 20000 in
theorem ggX6_then_X6_asides : GoodIn wsX6_then wsX6_asides := goodIn_r _ [9, 10, 11, 69, 70, 71, 72, 73, 74, 75, 76, 77, 78, 79, 80, 81, 82, 83, 84, 85, 86, 87] rfl (by decide +kernel)
set_option maxRecDepth 20000 in
theorem gX6_then_X6_asides : GoodIn wsX6_then (wsV RX6 175 RX6 yX6_asides wsX6_asides) := goodIn_app (goodIn_of _ (by decide +kernel)) ggX6_then_X6_asides
set_option maxRecDepth 20000 in
theorem ggX6_then_X6_stoppedBehind : GoodIn wsX6_then wsX6_stoppedBehind := goodIn_r _ [15, 16, 17, 18, 4, 19, 20, 21, 22, 23, 11, 24, 25, 26, 27, 28, 29, 30, 31, 32, 33, 34, 35, 36, 37, 38, 39, 40, 41, 42, 43, 44, 45, 46, 47, 48, 49, 50, 51, 52, 53, 54, 55, 56, 57, 58, 59, 60, 61, 62, 63, 64, 65, 66, 67, 68, 10, 69, 70, 71, 72, 73, 74, 75, 76, 77, 78, 79, 80, 81, 82, 83, 84, 85, 86, 87] rfl (by decide +kernel)
set_option maxRecDepth 20000 in
theorem gX6_then_X6_stoppedBehind : GoodIn wsX6_then (wsV RX6 184 RX6 yX6_stoppedBehind wsX6_stoppedBehind) := goodIn_app (goodIn_of _ (by decide +kernel)) ggX6_then_X6_stoppedBehind
theorem kX6_then_0 : (((((decode cX6_then 0 = .ok (.iload_n 1, 1)) ∧ (decode cX6_then 1 = .ok (.i2l, 1))) ∧ ((decode cX6_then 2 = .ok (.lconst 0, 1)) ∧ (decode cX6_then 3 = .ok (.ldc2_w 173, 3)))) ∧ (((decode cX6_then 6 = .ok (.invokestatic 50, 3)) ∧ (decode cX6_then 9 = .ok (.ifCond .ne 5, 3))) ∧ (decode cX6_then 12 = .ok (.iconst (-1), 1)))) ∧ ((((decode cX6_then 13 = .ok (.ireturn, 1)) ∧ (decode cX6_then 14 = .ok (.aload_n 0, 1))) ∧ ((decode cX6_then 15 = .ok (.invokevirtual 175, 3)) ∧ (decode cX6_then 18 = .ok (.aload_n 0, 1)))) ∧ (((decode cX6_then 19 = .ok (.iload_n 1, 1)) ∧ (decode cX6_then 20 = .ok (.invokevirtual 184, 3))) ∧ (decode cX6_then 23 = .ok (.ireturn, 1))))) := by decide +kernel
theorem dX6_then_0 : decode cX6_then 0 = .ok (.iload_n 1, 1) := kX6_then_0.1.1.1.1
theorem dX6_then_1 : decode cX6_then 1 = .ok (.i2l, 1) := kX6_then_0.1.1.1.2
theorem dX6_then_2 : decode cX6_then 2 = .ok (.lconst 0, 1) := kX6_then_0.1.1.2.1
theorem dX6_then_3 : decode cX6_then 3 = .ok (.ldc2_w 173, 3) := kX6_then_0.1.1.2.2
theorem dX6_then_6 : decode cX6_then 6 = .ok (.invokestatic 50, 3) := kX6_then_0.1.2.1.1
theorem dX6_then_9 : decode cX6_then 9 = .ok (.ifCond .ne 5, 3) := kX6_then_0.1.2.1.2
theorem dX6_then_12 : decode cX6_then 12 = .ok (.iconst (-1), 1) := kX6_then_0.1.2.2
theorem dX6_then_13 : decode cX6_then 13 = .ok (.ireturn, 1) := kX6_then_0.2.1.1.1
theorem dX6_then_14 : decode cX6_then 14 = .ok (.aload_n 0, 1) := kX6_then_0.2.1.1.2
theorem dX6_then_15 : decode cX6_then 15 = .ok (.invokevirtual 175, 3) := kX6_then_0.2.1.2.1
theorem dX6_then_18 : decode cX6_then 18 = .ok (.aload_n 0, 1) := kX6_then_0.2.1.2.2
theorem dX6_then_19 : decode cX6_then 19 = .ok (.iload_n 1, 1) := kX6_then_0.2.2.1.1
theorem dX6_then_20 : decode cX6_then 20 = .ok (.invokevirtual 184, 3) := kX6_then_0.2.2.1.2
theorem dX6_then_23 : decode cX6_then 23 = .ok (.ireturn, 1) := kX6_then_0.2.2.2
set_option maxRecDepth 20000 in
theorem ggX6_whenAll_X6_asides : GoodIn wsX6_whenAll wsX6_asides := goodIn_r _ [5, 6, 7, 57, 58, 59, 60, 61, 62, 63, 64, 65, 66, 67, 68, 69, 70, 71, 72, 73, 74, 75] rfl (by decide +kernel)
set_option maxRecDepth 20000 in
theorem gX6_whenAll_X6_asides : GoodIn wsX6_whenAll (wsV RX6 175 RX6 yX6_asides wsX6_asides) := goodIn_app (goodIn_of _ (by decide +kernel)) ggX6_whenAll_X6_asides
set_option maxRecDepth 20000 in
theorem ggX6_whenAll_X6_stopped : GoodIn wsX6_whenAll wsX6_stopped := goodIn_r _ [11, 7, 12, 13, 14, 4, 15, 16, 17, 18, 19, 20, 21, 22, 23, 57, 58, 59, 60, 61, 62, 63, 64, 65, 66, 67, 68, 69, 70, 71, 72, 73, 74, 75] rfl (by decide +kernel)
set_option maxRecDepth 20000 in
theorem gX6_whenAll_X6_stopped : GoodIn wsX6_whenAll (wsV RX6 110 RX6 yX6_stopped wsX6_stopped) := goodIn_app (goodIn_of _ (by decide +kernel)) ggX6_whenAll_X6_stopped
set_option maxRecDepth 20000 in
theorem ggX6_whenAll_X6_goesBy : GoodIn wsX6_whenAll wsX6_goesBy := goodIn_r _ [27, 7, 28, 29, 30, 31, 4, 32, 33, 34, 35, 36, 12, 13, 14, 15, 16, 17, 18, 19, 20, 21, 22, 23, 37, 38, 39, 40, 41, 42, 43, 44, 45, 46, 47, 48, 49, 50, 51, 52, 57, 58, 59, 60, 61, 62, 63, 64, 65, 66, 67, 68, 69, 70, 71, 72, 73, 74, 75] rfl (by decide +kernel)
set_option maxRecDepth 20000 in
theorem gX6_whenAll_X6_goesBy : GoodIn wsX6_whenAll (wsV RX6 87 RX6 yX6_goesBy wsX6_goesBy) := goodIn_app (goodIn_of _ (by decide +kernel)) ggX6_whenAll_X6_goesBy
set_option maxRecDepth 20000 in
theorem ggX6_whenAll_X6_backs : GoodIn wsX6_whenAll wsX6_backs := goodIn_r _ [56, 7, 6, 57, 58, 59, 60, 61, 62, 63, 64, 65, 66, 67, 68, 69, 70, 71, 72, 73, 74, 75] rfl (by decide +kernel)
set_option maxRecDepth 20000 in
theorem gX6_whenAll_X6_backs : GoodIn wsX6_whenAll (wsV RX6 181 RX6 yX6_backs wsX6_backs) := goodIn_app (goodIn_of _ (by decide +kernel)) ggX6_whenAll_X6_backs
theorem kX6_whenAll_0 : (((((decode cX6_whenAll 0 = .ok (.aload_n 0, 1)) ∧ (decode cX6_whenAll 1 = .ok (.invokevirtual 175, 3))) ∧ ((decode cX6_whenAll 4 = .ok (.iconst 0, 1)) ∧ (decode cX6_whenAll 5 = .ok (.istore_n 2, 1)))) ∧ (((decode cX6_whenAll 6 = .ok (.iload_n 2, 1)) ∧ (decode cX6_whenAll 7 = .ok (.bipush 81, 2))) ∧ ((decode cX6_whenAll 9 = .ok (.if_icmp .ge 24, 3)) ∧ (decode cX6_whenAll 12 = .ok (.aload_n 0, 1))))) ∧ ((((decode cX6_whenAll 13 = .ok (.invokevirtual 110, 3)) ∧ (decode cX6_whenAll 16 = .ok (.iload_n 1, 1))) ∧ ((decode cX6_whenAll 17 = .ok (.iand, 1)) ∧ (decode cX6_whenAll 18 = .ok (.iload_n 1, 1)))) ∧ (((decode cX6_whenAll 19 = .ok (.if_icmp .eq 14, 3)) ∧ (decode cX6_whenAll 22 = .ok (.aload_n 0, 1))) ∧ ((decode cX6_whenAll 23 = .ok (.iconst 0, 1)) ∧ (decode cX6_whenAll 24 = .ok (.invokevirtual 87, 3)))))) := by decide +kernel
theorem dX6_whenAll_0 : decode cX6_whenAll 0 = .ok (.aload_n 0, 1) := kX6_whenAll_0.1.1.1.1
theorem dX6_whenAll_1 : decode cX6_whenAll 1 = .ok (.invokevirtual 175, 3) := kX6_whenAll_0.1.1.1.2
theorem dX6_whenAll_4 : decode cX6_whenAll 4 = .ok (.iconst 0, 1) := kX6_whenAll_0.1.1.2.1
theorem dX6_whenAll_5 : decode cX6_whenAll 5 = .ok (.istore_n 2, 1) := kX6_whenAll_0.1.1.2.2
theorem dX6_whenAll_6 : decode cX6_whenAll 6 = .ok (.iload_n 2, 1) := kX6_whenAll_0.1.2.1.1
theorem dX6_whenAll_7 : decode cX6_whenAll 7 = .ok (.bipush 81, 2) := kX6_whenAll_0.1.2.1.2
theorem dX6_whenAll_9 : decode cX6_whenAll 9 = .ok (.if_icmp .ge 24, 3) := kX6_whenAll_0.1.2.2.1
theorem dX6_whenAll_12 : decode cX6_whenAll 12 = .ok (.aload_n 0, 1) := kX6_whenAll_0.1.2.2.2
theorem dX6_whenAll_13 : decode cX6_whenAll 13 = .ok (.invokevirtual 110, 3) := kX6_whenAll_0.2.1.1.1
theorem dX6_whenAll_16 : decode cX6_whenAll 16 = .ok (.iload_n 1, 1) := kX6_whenAll_0.2.1.1.2
theorem dX6_whenAll_17 : decode cX6_whenAll 17 = .ok (.iand, 1) := kX6_whenAll_0.2.1.2.1
theorem dX6_whenAll_18 : decode cX6_whenAll 18 = .ok (.iload_n 1, 1) := kX6_whenAll_0.2.1.2.2
theorem dX6_whenAll_19 : decode cX6_whenAll 19 = .ok (.if_icmp .eq 14, 3) := kX6_whenAll_0.2.2.1.1
theorem dX6_whenAll_22 : decode cX6_whenAll 22 = .ok (.aload_n 0, 1) := kX6_whenAll_0.2.2.1.2
theorem dX6_whenAll_23 : decode cX6_whenAll 23 = .ok (.iconst 0, 1) := kX6_whenAll_0.2.2.2.1
theorem dX6_whenAll_24 : decode cX6_whenAll 24 = .ok (.invokevirtual 87, 3) := kX6_whenAll_0.2.2.2.2
theorem kX6_whenAll_27 : (((((decode cX6_whenAll 27 = .ok (.iinc 2 1, 3)) ∧ (decode cX6_whenAll 30 = .ok (.goto (-24), 3))) ∧ (decode cX6_whenAll 33 = .ok (.aload_n 0, 1))) ∧ (((decode cX6_whenAll 34 = .ok (.invokevirtual 181, 3)) ∧ (decode cX6_whenAll 37 = .ok (.iload_n 2, 1))) ∧ (decode cX6_whenAll 38 = .ok (.bipush 81, 2)))) ∧ ((((decode cX6_whenAll 40 = .ok (.if_icmp .ge 7, 3)) ∧ (decode cX6_whenAll 43 = .ok (.iload_n 2, 1))) ∧ (decode cX6_whenAll 44 = .ok (.goto 5, 3))) ∧ ((decode cX6_whenAll 47 = .ok (.bipush (-4), 2)) ∧ (decode cX6_whenAll 49 = .ok (.ireturn, 1))))) := by decide +kernel
theorem dX6_whenAll_27 : decode cX6_whenAll 27 = .ok (.iinc 2 1, 3) := kX6_whenAll_27.1.1.1.1
theorem dX6_whenAll_30 : decode cX6_whenAll 30 = .ok (.goto (-24), 3) := kX6_whenAll_27.1.1.1.2
theorem dX6_whenAll_33 : decode cX6_whenAll 33 = .ok (.aload_n 0, 1) := kX6_whenAll_27.1.1.2
theorem dX6_whenAll_34 : decode cX6_whenAll 34 = .ok (.invokevirtual 181, 3) := kX6_whenAll_27.1.2.1.1
theorem dX6_whenAll_37 : decode cX6_whenAll 37 = .ok (.iload_n 2, 1) := kX6_whenAll_27.1.2.1.2
theorem dX6_whenAll_38 : decode cX6_whenAll 38 = .ok (.bipush 81, 2) := kX6_whenAll_27.1.2.2
theorem dX6_whenAll_40 : decode cX6_whenAll 40 = .ok (.if_icmp .ge 7, 3) := kX6_whenAll_27.2.1.1.1
theorem dX6_whenAll_43 : decode cX6_whenAll 43 = .ok (.iload_n 2, 1) := kX6_whenAll_27.2.1.1.2
theorem dX6_whenAll_44 : decode cX6_whenAll 44 = .ok (.goto 5, 3) := kX6_whenAll_27.2.1.2
theorem dX6_whenAll_47 : decode cX6_whenAll 47 = .ok (.bipush (-4), 2) := kX6_whenAll_27.2.2.1
theorem dX6_whenAll_49 : decode cX6_whenAll 49 = .ok (.ireturn, 1) := kX6_whenAll_27.2.2.2
set_option maxRecDepth 20000 in
theorem ggX6_stops_X6_isPerson : GoodIn wsX6_stops wsX6_isPerson := goodIn_r _ [5, 6, 7, 8, 4, 9, 68, 69, 70, 71, 72, 73, 74, 75, 76, 77, 78, 79, 80, 81, 82, 83, 84, 85, 86] rfl (by decide +kernel)
set_option maxRecDepth 20000 in
theorem gX6_stops_X6_isPerson : GoodIn wsX6_stops (wsV RX6 102 RX6 yX6_isPerson wsX6_isPerson) := goodIn_app (goodIn_of _ (by decide +kernel)) ggX6_stops_X6_isPerson
set_option maxRecDepth 20000 in
theorem ggX6_stops_X6_whenAll : GoodIn wsX6_stops wsX6_whenAll := goodIn_r _ [13, 14, 15, 16, 4, 17, 18, 6, 19, 20, 21, 22, 23, 24, 25, 26, 27, 28, 29, 30, 31, 32, 33, 34, 35, 36, 37, 38, 39, 40, 41, 42, 43, 44, 45, 46, 47, 48, 49, 50, 51, 52, 53, 54, 55, 56, 57, 58, 59, 60, 61, 62, 63, 64, 65, 66, 67, 68, 69, 70, 71, 72, 73, 74, 75, 76, 77, 78, 79, 80, 81, 82, 83, 84, 85, 86] rfl (by decide +kernel)
set_option maxRecDepth 20000 in
theorem gX6_stops_X6_whenAll : GoodIn wsX6_stops (wsV RX6 187 RX6 yX6_whenAll wsX6_whenAll) := goodIn_app (goodIn_of _ (by decide +kernel)) ggX6_stops_X6_whenAll
theorem kX6_stops_0 : (((((decode cX6_stops 0 = .ok (.aload_n 0, 1)) ∧ (decode cX6_stops 1 = .ok (.iload_n 1, 1))) ∧ (decode cX6_stops 2 = .ok (.invokevirtual 102, 3))) ∧ (((decode cX6_stops 5 = .ok (.ifCond .eq 13, 3)) ∧ (decode cX6_stops 8 = .ok (.aload_n 0, 1))) ∧ (decode cX6_stops 9 = .ok (.iconst 1, 1)))) ∧ ((((decode cX6_stops 10 = .ok (.iload_n 1, 1)) ∧ (decode cX6_stops 11 = .ok (.ishl, 1))) ∧ (decode cX6_stops 12 = .ok (.invokevirtual 187, 3))) ∧ (((decode cX6_stops 15 = .ok (.goto 4, 3)) ∧ (decode cX6_stops 18 = .ok (.iconst (-1), 1))) ∧ (decode cX6_stops 19 = .ok (.ireturn, 1))))) := by decide +kernel
theorem dX6_stops_0 : decode cX6_stops 0 = .ok (.aload_n 0, 1) := kX6_stops_0.1.1.1.1
theorem dX6_stops_1 : decode cX6_stops 1 = .ok (.iload_n 1, 1) := kX6_stops_0.1.1.1.2
theorem dX6_stops_2 : decode cX6_stops 2 = .ok (.invokevirtual 102, 3) := kX6_stops_0.1.1.2
theorem dX6_stops_5 : decode cX6_stops 5 = .ok (.ifCond .eq 13, 3) := kX6_stops_0.1.2.1.1
theorem dX6_stops_8 : decode cX6_stops 8 = .ok (.aload_n 0, 1) := kX6_stops_0.1.2.1.2
theorem dX6_stops_9 : decode cX6_stops 9 = .ok (.iconst 1, 1) := kX6_stops_0.1.2.2
theorem dX6_stops_10 : decode cX6_stops 10 = .ok (.iload_n 1, 1) := kX6_stops_0.2.1.1.1
theorem dX6_stops_11 : decode cX6_stops 11 = .ok (.ishl, 1) := kX6_stops_0.2.1.1.2
theorem dX6_stops_12 : decode cX6_stops 12 = .ok (.invokevirtual 187, 3) := kX6_stops_0.2.1.2
theorem dX6_stops_15 : decode cX6_stops 15 = .ok (.goto 4, 3) := kX6_stops_0.2.2.1.1
theorem dX6_stops_18 : decode cX6_stops 18 = .ok (.iconst (-1), 1) := kX6_stops_0.2.2.1.2
theorem dX6_stops_19 : decode cX6_stops 19 = .ok (.ireturn, 1) := kX6_stops_0.2.2.2
set_option maxRecDepth 20000 in
theorem ggX6_all_X6_whenAll : GoodIn wsX6_all wsX6_whenAll := goodIn_r _ [6, 7, 8, 9, 5, 10, 11, 1, 12, 13, 14, 15, 16, 17, 18, 19, 20, 21, 22, 23, 24, 25, 26, 27, 28, 29, 30, 31, 32, 33, 34, 35, 36, 37, 38, 39, 40, 41, 42, 43, 44, 45, 46, 47, 48, 49, 50, 51, 52, 53, 54, 55, 56, 57, 58, 59, 60, 61, 62, 63, 64, 65, 66, 67, 68, 69, 70, 71, 72, 73, 74, 75, 76, 77, 78, 79] rfl (by decide +kernel)
set_option maxRecDepth 20000 in
theorem gX6_all_X6_whenAll : GoodIn wsX6_all (wsV RX6 187 RX6 yX6_whenAll wsX6_whenAll) := goodIn_app (goodIn_of _ (by decide +kernel)) ggX6_all_X6_whenAll
theorem kX6_all_0 : (((((decode cX6_all 0 = .ok (.aload_n 0, 1)) ∧ (decode cX6_all 1 = .ok (.iconst 1, 1))) ∧ (decode cX6_all 2 = .ok (.aload_n 0, 1))) ∧ (((decode cX6_all 3 = .ok (.getfield 7, 3)) ∧ (decode cX6_all 6 = .ok (.iconst 0, 1))) ∧ (decode cX6_all 7 = .ok (.iaload, 1)))) ∧ ((((decode cX6_all 8 = .ok (.ishl, 1)) ∧ (decode cX6_all 9 = .ok (.iconst 1, 1))) ∧ (decode cX6_all 10 = .ok (.isub, 1))) ∧ ((decode cX6_all 11 = .ok (.invokevirtual 187, 3)) ∧ (decode cX6_all 14 = .ok (.ireturn, 1))))) := by decide +kernel
theorem dX6_all_0 : decode cX6_all 0 = .ok (.aload_n 0, 1) := kX6_all_0.1.1.1.1
theorem dX6_all_1 : decode cX6_all 1 = .ok (.iconst 1, 1) := kX6_all_0.1.1.1.2
theorem dX6_all_2 : decode cX6_all 2 = .ok (.aload_n 0, 1) := kX6_all_0.1.1.2
theorem dX6_all_3 : decode cX6_all 3 = .ok (.getfield 7, 3) := kX6_all_0.1.2.1.1
theorem dX6_all_6 : decode cX6_all 6 = .ok (.iconst 0, 1) := kX6_all_0.1.2.1.2
theorem dX6_all_7 : decode cX6_all 7 = .ok (.iaload, 1) := kX6_all_0.1.2.2
theorem dX6_all_8 : decode cX6_all 8 = .ok (.ishl, 1) := kX6_all_0.2.1.1.1
theorem dX6_all_9 : decode cX6_all 9 = .ok (.iconst 1, 1) := kX6_all_0.2.1.1.2
theorem dX6_all_10 : decode cX6_all 10 = .ok (.isub, 1) := kX6_all_0.2.1.2
theorem dX6_all_11 : decode cX6_all 11 = .ok (.invokevirtual 187, 3) := kX6_all_0.2.2.1
theorem dX6_all_14 : decode cX6_all 14 = .ok (.ireturn, 1) := kX6_all_0.2.2.2
set_option maxRecDepth 20000 in
theorem ggX6_ever_X6_asides : GoodIn wsX6_ever wsX6_asides := goodIn_r _ [5, 6, 7, 57, 58, 59, 60, 61, 62, 63, 64, 65, 66, 67, 68, 69, 70, 71, 72, 73, 74, 75] rfl (by decide +kernel)
set_option maxRecDepth 20000 in
theorem gX6_ever_X6_asides : GoodIn wsX6_ever (wsV RX6 175 RX6 yX6_asides wsX6_asides) := goodIn_app (goodIn_of _ (by decide +kernel)) ggX6_ever_X6_asides
set_option maxRecDepth 20000 in
theorem ggX6_ever_X6_stopped : GoodIn wsX6_ever wsX6_stopped := goodIn_r _ [11, 7, 12, 13, 14, 4, 15, 16, 17, 18, 19, 20, 21, 22, 23, 57, 58, 59, 60, 61, 62, 63, 64, 65, 66, 67, 68, 69, 70, 71, 72, 73, 74, 75] rfl (by decide +kernel)
set_option maxRecDepth 20000 in
theorem gX6_ever_X6_stopped : GoodIn wsX6_ever (wsV RX6 110 RX6 yX6_stopped wsX6_stopped) := goodIn_app (goodIn_of _ (by decide +kernel)) ggX6_ever_X6_stopped
set_option maxRecDepth 20000 in
theorem ggX6_ever_X6_goesBy : GoodIn wsX6_ever wsX6_goesBy := goodIn_r _ [27, 7, 28, 29, 30, 31, 4, 32, 33, 34, 35, 36, 12, 13, 14, 15, 16, 17, 18, 19, 20, 21, 22, 23, 37, 38, 39, 40, 41, 42, 43, 44, 45, 46, 47, 48, 49, 50, 51, 52, 57, 58, 59, 60, 61, 62, 63, 64, 65, 66, 67, 68, 69, 70, 71, 72, 73, 74, 75] rfl (by decide +kernel)
set_option maxRecDepth 20000 in
theorem gX6_ever_X6_goesBy : GoodIn wsX6_ever (wsV RX6 87 RX6 yX6_goesBy wsX6_goesBy) := goodIn_app (goodIn_of _ (by decide +kernel)) ggX6_ever_X6_goesBy
set_option maxRecDepth 20000 in
theorem ggX6_ever_X6_backs : GoodIn wsX6_ever wsX6_backs := goodIn_r _ [56, 7, 6, 57, 58, 59, 60, 61, 62, 63, 64, 65, 66, 67, 68, 69, 70, 71, 72, 73, 74, 75] rfl (by decide +kernel)
set_option maxRecDepth 20000 in
theorem gX6_ever_X6_backs : GoodIn wsX6_ever (wsV RX6 181 RX6 yX6_backs wsX6_backs) := goodIn_app (goodIn_of _ (by decide +kernel)) ggX6_ever_X6_backs
theorem kX6_ever_0 : (((((decode cX6_ever 0 = .ok (.aload_n 0, 1)) ∧ (decode cX6_ever 1 = .ok (.invokevirtual 175, 3))) ∧ ((decode cX6_ever 4 = .ok (.aload_n 0, 1)) ∧ (decode cX6_ever 5 = .ok (.invokevirtual 110, 3)))) ∧ (((decode cX6_ever 8 = .ok (.istore_n 1, 1)) ∧ (decode cX6_ever 9 = .ok (.iconst 0, 1))) ∧ ((decode cX6_ever 10 = .ok (.istore_n 2, 1)) ∧ (decode cX6_ever 11 = .ok (.iload_n 2, 1))))) ∧ ((((decode cX6_ever 12 = .ok (.bipush 80, 2)) ∧ (decode cX6_ever 14 = .ok (.if_icmp .ge 21, 3))) ∧ ((decode cX6_ever 17 = .ok (.aload_n 0, 1)) ∧ (decode cX6_ever 18 = .ok (.iconst 0, 1)))) ∧ (((decode cX6_ever 19 = .ok (.invokevirtual 87, 3)) ∧ (decode cX6_ever 22 = .ok (.iload_n 1, 1))) ∧ ((decode cX6_ever 23 = .ok (.aload_n 0, 1)) ∧ (decode cX6_ever 24 = .ok (.invokevirtual 110, 3)))))) := by decide +kernel
theorem dX6_ever_0 : decode cX6_ever 0 = .ok (.aload_n 0, 1) := kX6_ever_0.1.1.1.1
theorem dX6_ever_1 : decode cX6_ever 1 = .ok (.invokevirtual 175, 3) := kX6_ever_0.1.1.1.2
theorem dX6_ever_4 : decode cX6_ever 4 = .ok (.aload_n 0, 1) := kX6_ever_0.1.1.2.1
theorem dX6_ever_5 : decode cX6_ever 5 = .ok (.invokevirtual 110, 3) := kX6_ever_0.1.1.2.2
theorem dX6_ever_8 : decode cX6_ever 8 = .ok (.istore_n 1, 1) := kX6_ever_0.1.2.1.1
theorem dX6_ever_9 : decode cX6_ever 9 = .ok (.iconst 0, 1) := kX6_ever_0.1.2.1.2
theorem dX6_ever_10 : decode cX6_ever 10 = .ok (.istore_n 2, 1) := kX6_ever_0.1.2.2.1
theorem dX6_ever_11 : decode cX6_ever 11 = .ok (.iload_n 2, 1) := kX6_ever_0.1.2.2.2
theorem dX6_ever_12 : decode cX6_ever 12 = .ok (.bipush 80, 2) := kX6_ever_0.2.1.1.1
theorem dX6_ever_14 : decode cX6_ever 14 = .ok (.if_icmp .ge 21, 3) := kX6_ever_0.2.1.1.2
theorem dX6_ever_17 : decode cX6_ever 17 = .ok (.aload_n 0, 1) := kX6_ever_0.2.1.2.1
theorem dX6_ever_18 : decode cX6_ever 18 = .ok (.iconst 0, 1) := kX6_ever_0.2.1.2.2
theorem dX6_ever_19 : decode cX6_ever 19 = .ok (.invokevirtual 87, 3) := kX6_ever_0.2.2.1.1
theorem dX6_ever_22 : decode cX6_ever 22 = .ok (.iload_n 1, 1) := kX6_ever_0.2.2.1.2
theorem dX6_ever_23 : decode cX6_ever 23 = .ok (.aload_n 0, 1) := kX6_ever_0.2.2.2.1
theorem dX6_ever_24 : decode cX6_ever 24 = .ok (.invokevirtual 110, 3) := kX6_ever_0.2.2.2.2
theorem kX6_ever_27 : ((((decode cX6_ever 27 = .ok (.ior, 1)) ∧ (decode cX6_ever 28 = .ok (.istore_n 1, 1))) ∧ ((decode cX6_ever 29 = .ok (.iinc 2 1, 3)) ∧ (decode cX6_ever 32 = .ok (.goto (-21), 3)))) ∧ (((decode cX6_ever 35 = .ok (.aload_n 0, 1)) ∧ (decode cX6_ever 36 = .ok (.invokevirtual 181, 3))) ∧ ((decode cX6_ever 39 = .ok (.iload_n 1, 1)) ∧ (decode cX6_ever 40 = .ok (.ireturn, 1))))) := by decide +kernel
theorem dX6_ever_27 : decode cX6_ever 27 = .ok (.ior, 1) := kX6_ever_27.1.1.1
theorem dX6_ever_28 : decode cX6_ever 28 = .ok (.istore_n 1, 1) := kX6_ever_27.1.1.2
theorem dX6_ever_29 : decode cX6_ever 29 = .ok (.iinc 2 1, 3) := kX6_ever_27.1.2.1
theorem dX6_ever_32 : decode cX6_ever 32 = .ok (.goto (-21), 3) := kX6_ever_27.1.2.2
theorem dX6_ever_35 : decode cX6_ever 35 = .ok (.aload_n 0, 1) := kX6_ever_27.2.1.1
theorem dX6_ever_36 : decode cX6_ever 36 = .ok (.invokevirtual 181, 3) := kX6_ever_27.2.1.2
theorem dX6_ever_39 : decode cX6_ever 39 = .ok (.iload_n 1, 1) := kX6_ever_27.2.2.1
theorem dX6_ever_40 : decode cX6_ever 40 = .ok (.ireturn, 1) := kX6_ever_27.2.2.2
set_option maxRecDepth 20000 in
theorem ggX6_chain_X6_isPerson : GoodIn wsX6_chain wsX6_isPerson := goodIn_r _ [6, 1, 7, 8, 5, 9, 26, 27, 28, 29, 30, 31, 32, 33, 34, 35, 36, 37, 38, 39, 40, 41, 42, 43, 44] rfl (by decide +kernel)
set_option maxRecDepth 20000 in
theorem gX6_chain_X6_isPerson : GoodIn wsX6_chain (wsV RX6 102 RX6 yX6_isPerson wsX6_isPerson) := goodIn_app (goodIn_of _ (by decide +kernel)) ggX6_chain_X6_isPerson
set_option maxRecDepth 20000 in
theorem ggX6_chain_X6_in : GoodIn wsX6_chain wsX6_in := goodIn_r _ [9] rfl (by decide +kernel)
set_option maxRecDepth 20000 in
theorem gX6_chain_X6_in : GoodIn wsX6_chain (va_wsS RX6 50 yX6_in wsX6_in) := goodIn_app (goodIn_of _ (by decide +kernel)) ggX6_chain_X6_in
set_option maxRecDepth 20000 in
theorem ggX6_chain_X6_behind : GoodIn wsX6_chain wsX6_behind := goodIn_r _ [13, 14, 15, 16, 5, 17, 18, 19, 20, 21, 1, 26, 27, 28, 29, 30, 31, 32, 33, 34, 35, 36, 37, 38, 39, 40, 41, 42, 43, 44] rfl (by decide +kernel)
set_option maxRecDepth 20000 in
theorem gX6_chain_X6_behind : GoodIn wsX6_chain (wsV RX6 107 RX6 yX6_behind wsX6_behind) := goodIn_app (goodIn_of _ (by decide +kernel)) ggX6_chain_X6_behind
set_option maxRecDepth 20000 in
theorem ggX6_chain_X6_windersOf : GoodIn wsX6_chain wsX6_windersOf := goodIn_r _ [25, 1, 14, 15, 16, 5, 17, 18, 19, 20, 21, 26, 27, 28, 29, 30, 31, 32, 33, 34, 35, 36, 37, 38, 39, 40, 41, 42, 43, 44] rfl (by decide +kernel)
set_option maxRecDepth 20000 in
theorem gX6_chain_X6_windersOf : GoodIn wsX6_chain (wsV RX6 69 RX6 yX6_windersOf wsX6_windersOf) := goodIn_app (goodIn_of _ (by decide +kernel)) ggX6_chain_X6_windersOf
theorem kX6_chain_0 : (((((decode cX6_chain 0 = .ok (.aload_n 0, 1)) ∧ (decode cX6_chain 1 = .ok (.iload_n 1, 1))) ∧ ((decode cX6_chain 2 = .ok (.invokevirtual 102, 3)) ∧ (decode cX6_chain 5 = .ok (.ifCond .eq 13, 3)))) ∧ (((decode cX6_chain 8 = .ok (.iload_n 2, 1)) ∧ (decode cX6_chain 9 = .ok (.i2l, 1))) ∧ ((decode cX6_chain 10 = .ok (.lconst 0, 1)) ∧ (decode cX6_chain 11 = .ok (.lconst 1, 1))))) ∧ ((((decode cX6_chain 12 = .ok (.invokestatic 50, 3)) ∧ (decode cX6_chain 15 = .ok (.ifCond .ne 5, 3))) ∧ ((decode cX6_chain 18 = .ok (.iconst (-1), 1)) ∧ (decode cX6_chain 19 = .ok (.ireturn, 1)))) ∧ (((decode cX6_chain 20 = .ok (.iload_n 2, 1)) ∧ (decode cX6_chain 21 = .ok (.ifCond .ne 9, 3))) ∧ ((decode cX6_chain 24 = .ok (.aload_n 0, 1)) ∧ (decode cX6_chain 25 = .ok (.iload_n 1, 1)))))) := by decide +kernel
theorem dX6_chain_0 : decode cX6_chain 0 = .ok (.aload_n 0, 1) := kX6_chain_0.1.1.1.1
theorem dX6_chain_1 : decode cX6_chain 1 = .ok (.iload_n 1, 1) := kX6_chain_0.1.1.1.2
theorem dX6_chain_2 : decode cX6_chain 2 = .ok (.invokevirtual 102, 3) := kX6_chain_0.1.1.2.1
theorem dX6_chain_5 : decode cX6_chain 5 = .ok (.ifCond .eq 13, 3) := kX6_chain_0.1.1.2.2
theorem dX6_chain_8 : decode cX6_chain 8 = .ok (.iload_n 2, 1) := kX6_chain_0.1.2.1.1
theorem dX6_chain_9 : decode cX6_chain 9 = .ok (.i2l, 1) := kX6_chain_0.1.2.1.2
theorem dX6_chain_10 : decode cX6_chain 10 = .ok (.lconst 0, 1) := kX6_chain_0.1.2.2.1
theorem dX6_chain_11 : decode cX6_chain 11 = .ok (.lconst 1, 1) := kX6_chain_0.1.2.2.2
theorem dX6_chain_12 : decode cX6_chain 12 = .ok (.invokestatic 50, 3) := kX6_chain_0.2.1.1.1
theorem dX6_chain_15 : decode cX6_chain 15 = .ok (.ifCond .ne 5, 3) := kX6_chain_0.2.1.1.2
theorem dX6_chain_18 : decode cX6_chain 18 = .ok (.iconst (-1), 1) := kX6_chain_0.2.1.2.1
theorem dX6_chain_19 : decode cX6_chain 19 = .ok (.ireturn, 1) := kX6_chain_0.2.1.2.2
theorem dX6_chain_20 : decode cX6_chain 20 = .ok (.iload_n 2, 1) := kX6_chain_0.2.2.1.1
theorem dX6_chain_21 : decode cX6_chain 21 = .ok (.ifCond .ne 9, 3) := kX6_chain_0.2.2.1.2
theorem dX6_chain_24 : decode cX6_chain 24 = .ok (.aload_n 0, 1) := kX6_chain_0.2.2.2.1
theorem dX6_chain_25 : decode cX6_chain 25 = .ok (.iload_n 1, 1) := kX6_chain_0.2.2.2.2
theorem kX6_chain_26 : (((((decode cX6_chain 26 = .ok (.invokevirtual 107, 3)) ∧ (decode cX6_chain 29 = .ok (.ireturn, 1))) ∧ ((decode cX6_chain 30 = .ok (.iconst 0, 1)) ∧ (decode cX6_chain 31 = .ok (.istore_n 3, 1)))) ∧ (((decode cX6_chain 32 = .ok (.iconst 0, 1)) ∧ (decode cX6_chain 33 = .ok (.istore 4, 2))) ∧ ((decode cX6_chain 35 = .ok (.iload 4, 2)) ∧ (decode cX6_chain 37 = .ok (.aload_n 0, 1))))) ∧ ((((decode cX6_chain 38 = .ok (.getfield 7, 3)) ∧ (decode cX6_chain 41 = .ok (.iconst 0, 1))) ∧ ((decode cX6_chain 42 = .ok (.iaload, 1)) ∧ (decode cX6_chain 43 = .ok (.if_icmp .ge 61, 3)))) ∧ (((decode cX6_chain 46 = .ok (.iload 4, 2)) ∧ (decode cX6_chain 48 = .ok (.iload_n 1, 1))) ∧ ((decode cX6_chain 49 = .ok (.if_icmp .eq 17, 3)) ∧ (decode cX6_chain 52 = .ok (.aload_n 0, 1)))))) := by decide +kernel
theorem dX6_chain_26 : decode cX6_chain 26 = .ok (.invokevirtual 107, 3) := kX6_chain_26.1.1.1.1
theorem dX6_chain_29 : decode cX6_chain 29 = .ok (.ireturn, 1) := kX6_chain_26.1.1.1.2
theorem dX6_chain_30 : decode cX6_chain 30 = .ok (.iconst 0, 1) := kX6_chain_26.1.1.2.1
theorem dX6_chain_31 : decode cX6_chain 31 = .ok (.istore_n 3, 1) := kX6_chain_26.1.1.2.2
theorem dX6_chain_32 : decode cX6_chain 32 = .ok (.iconst 0, 1) := kX6_chain_26.1.2.1.1
theorem dX6_chain_33 : decode cX6_chain 33 = .ok (.istore 4, 2) := kX6_chain_26.1.2.1.2
theorem dX6_chain_35 : decode cX6_chain 35 = .ok (.iload 4, 2) := kX6_chain_26.1.2.2.1
theorem dX6_chain_37 : decode cX6_chain 37 = .ok (.aload_n 0, 1) := kX6_chain_26.1.2.2.2
theorem dX6_chain_38 : decode cX6_chain 38 = .ok (.getfield 7, 3) := kX6_chain_26.2.1.1.1
theorem dX6_chain_41 : decode cX6_chain 41 = .ok (.iconst 0, 1) := kX6_chain_26.2.1.1.2
theorem dX6_chain_42 : decode cX6_chain 42 = .ok (.iaload, 1) := kX6_chain_26.2.1.2.1
theorem dX6_chain_43 : decode cX6_chain 43 = .ok (.if_icmp .ge 61, 3) := kX6_chain_26.2.1.2.2
theorem dX6_chain_46 : decode cX6_chain 46 = .ok (.iload 4, 2) := kX6_chain_26.2.2.1.1
theorem dX6_chain_48 : decode cX6_chain 48 = .ok (.iload_n 1, 1) := kX6_chain_26.2.2.1.2
theorem dX6_chain_49 : decode cX6_chain 49 = .ok (.if_icmp .eq 17, 3) := kX6_chain_26.2.2.2.1
theorem dX6_chain_52 : decode cX6_chain 52 = .ok (.aload_n 0, 1) := kX6_chain_26.2.2.2.2
theorem kX6_chain_53 : (((((decode cX6_chain 53 = .ok (.iload 4, 2)) ∧ (decode cX6_chain 55 = .ok (.invokevirtual 107, 3))) ∧ ((decode cX6_chain 58 = .ok (.iload_n 1, 1)) ∧ (decode cX6_chain 59 = .ok (.ishr, 1)))) ∧ (((decode cX6_chain 60 = .ok (.iconst 1, 1)) ∧ (decode cX6_chain 61 = .ok (.iand, 1))) ∧ ((decode cX6_chain 62 = .ok (.iconst 1, 1)) ∧ (decode cX6_chain 63 = .ok (.if_icmp .ne 7, 3))))) ∧ ((((decode cX6_chain 66 = .ok (.iconst 1, 1)) ∧ (decode cX6_chain 67 = .ok (.goto 4, 3))) ∧ ((decode cX6_chain 70 = .ok (.iconst 0, 1)) ∧ (decode cX6_chain 71 = .ok (.istore 5, 2)))) ∧ (((decode cX6_chain 73 = .ok (.iload_n 3, 1)) ∧ (decode cX6_chain 74 = .ok (.iload 5, 2))) ∧ ((decode cX6_chain 76 = .ok (.ifCond .eq 19, 3)) ∧ (decode cX6_chain 79 = .ok (.aload_n 0, 1)))))) := by decide +kernel
theorem dX6_chain_53 : decode cX6_chain 53 = .ok (.iload 4, 2) := kX6_chain_53.1.1.1.1
theorem dX6_chain_55 : decode cX6_chain 55 = .ok (.invokevirtual 107, 3) := kX6_chain_53.1.1.1.2
theorem dX6_chain_58 : decode cX6_chain 58 = .ok (.iload_n 1, 1) := kX6_chain_53.1.1.2.1
theorem dX6_chain_59 : decode cX6_chain 59 = .ok (.ishr, 1) := kX6_chain_53.1.1.2.2
theorem dX6_chain_60 : decode cX6_chain 60 = .ok (.iconst 1, 1) := kX6_chain_53.1.2.1.1
theorem dX6_chain_61 : decode cX6_chain 61 = .ok (.iand, 1) := kX6_chain_53.1.2.1.2
theorem dX6_chain_62 : decode cX6_chain 62 = .ok (.iconst 1, 1) := kX6_chain_53.1.2.2.1
theorem dX6_chain_63 : decode cX6_chain 63 = .ok (.if_icmp .ne 7, 3) := kX6_chain_53.1.2.2.2
theorem dX6_chain_66 : decode cX6_chain 66 = .ok (.iconst 1, 1) := kX6_chain_53.2.1.1.1
theorem dX6_chain_67 : decode cX6_chain 67 = .ok (.goto 4, 3) := kX6_chain_53.2.1.1.2
theorem dX6_chain_70 : decode cX6_chain 70 = .ok (.iconst 0, 1) := kX6_chain_53.2.1.2.1
theorem dX6_chain_71 : decode cX6_chain 71 = .ok (.istore 5, 2) := kX6_chain_53.2.1.2.2
theorem dX6_chain_73 : decode cX6_chain 73 = .ok (.iload_n 3, 1) := kX6_chain_53.2.2.1.1
theorem dX6_chain_74 : decode cX6_chain 74 = .ok (.iload 5, 2) := kX6_chain_53.2.2.1.2
theorem dX6_chain_76 : decode cX6_chain 76 = .ok (.ifCond .eq 19, 3) := kX6_chain_53.2.2.2.1
theorem dX6_chain_79 : decode cX6_chain 79 = .ok (.aload_n 0, 1) := kX6_chain_53.2.2.2.2
theorem kX6_chain_80 : (((((decode cX6_chain 80 = .ok (.iload 4, 2)) ∧ (decode cX6_chain 82 = .ok (.invokevirtual 69, 3))) ∧ ((decode cX6_chain 85 = .ok (.ifCond .ne 10, 3)) ∧ (decode cX6_chain 88 = .ok (.iconst 1, 1)))) ∧ (((decode cX6_chain 89 = .ok (.iload 4, 2)) ∧ (decode cX6_chain 91 = .ok (.ishl, 1))) ∧ (decode cX6_chain 92 = .ok (.goto 4, 3)))) ∧ ((((decode cX6_chain 95 = .ok (.iconst 0, 1)) ∧ (decode cX6_chain 96 = .ok (.ior, 1))) ∧ ((decode cX6_chain 97 = .ok (.istore_n 3, 1)) ∧ (decode cX6_chain 98 = .ok (.iinc 4 1, 3)))) ∧ (((decode cX6_chain 101 = .ok (.goto (-66), 3)) ∧ (decode cX6_chain 104 = .ok (.iload_n 3, 1))) ∧ (decode cX6_chain 105 = .ok (.ireturn, 1))))) := by decide +kernel
theorem dX6_chain_80 : decode cX6_chain 80 = .ok (.iload 4, 2) := kX6_chain_80.1.1.1.1
theorem dX6_chain_82 : decode cX6_chain 82 = .ok (.invokevirtual 69, 3) := kX6_chain_80.1.1.1.2
theorem dX6_chain_85 : decode cX6_chain 85 = .ok (.ifCond .ne 10, 3) := kX6_chain_80.1.1.2.1
theorem dX6_chain_88 : decode cX6_chain 88 = .ok (.iconst 1, 1) := kX6_chain_80.1.1.2.2
theorem dX6_chain_89 : decode cX6_chain 89 = .ok (.iload 4, 2) := kX6_chain_80.1.2.1.1
theorem dX6_chain_91 : decode cX6_chain 91 = .ok (.ishl, 1) := kX6_chain_80.1.2.1.2
theorem dX6_chain_92 : decode cX6_chain 92 = .ok (.goto 4, 3) := kX6_chain_80.1.2.2
theorem dX6_chain_95 : decode cX6_chain 95 = .ok (.iconst 0, 1) := kX6_chain_80.2.1.1.1
theorem dX6_chain_96 : decode cX6_chain 96 = .ok (.ior, 1) := kX6_chain_80.2.1.1.2
theorem dX6_chain_97 : decode cX6_chain 97 = .ok (.istore_n 3, 1) := kX6_chain_80.2.1.2.1
theorem dX6_chain_98 : decode cX6_chain 98 = .ok (.iinc 4 1, 3) := kX6_chain_80.2.1.2.2
theorem dX6_chain_101 : decode cX6_chain 101 = .ok (.goto (-66), 3) := kX6_chain_80.2.2.1.1
theorem dX6_chain_104 : decode cX6_chain 104 = .ok (.iload_n 3, 1) := kX6_chain_80.2.2.1.2
theorem dX6_chain_105 : decode cX6_chain 105 = .ok (.ireturn, 1) := kX6_chain_80.2.2.2
set_option maxRecDepth 20000 in
theorem ggX6_lends_X6_in : GoodIn wsX6_lends wsX6_in := goodIn_r _ [7] rfl (by decide +kernel)
set_option maxRecDepth 20000 in
theorem gX6_lends_X6_in : GoodIn wsX6_lends (va_wsS RX6 50 yX6_in wsX6_in) := goodIn_app (goodIn_of _ (by decide +kernel)) ggX6_lends_X6_in
set_option maxRecDepth 20000 in
theorem ggX6_lends_X6_asides : GoodIn wsX6_lends wsX6_asides := goodIn_r _ [11, 12, 3, 77, 78, 79, 80, 81, 82, 83, 84, 85, 86, 87, 88, 89, 90, 91, 92, 93, 94, 95] rfl (by decide +kernel)
set_option maxRecDepth 20000 in
theorem gX6_lends_X6_asides : GoodIn wsX6_lends (wsV RX6 175 RX6 yX6_asides wsX6_asides) := goodIn_app (goodIn_of _ (by decide +kernel)) ggX6_lends_X6_asides
set_option maxRecDepth 20000 in
theorem ggX6_lends_X6_lent : GoodIn wsX6_lends wsX6_lent := goodIn_r _ [16, 17, 18, 19, 6, 20, 21, 22, 23, 24, 3, 25, 26, 27, 28, 77, 78, 79, 80, 81, 82, 83, 84, 85, 86, 87, 88, 89, 90, 91, 92, 93, 94, 95] rfl (by decide +kernel)
set_option maxRecDepth 20000 in
theorem gX6_lends_X6_lent : GoodIn wsX6_lends (wsV RX6 160 RX6 yX6_lent wsX6_lent) := goodIn_app (goodIn_of _ (by decide +kernel)) ggX6_lends_X6_lent
set_option maxRecDepth 20000 in
theorem ggX6_lends_X6_stoppedBehind : GoodIn wsX6_lends wsX6_stoppedBehind := goodIn_r _ [32, 33, 34, 35, 6, 36, 37, 38, 39, 40, 3, 41, 42, 43, 44, 45, 46, 47, 48, 49, 50, 51, 52, 53, 17, 18, 19, 20, 21, 22, 23, 24, 54, 55, 56, 57, 25, 26, 27, 28, 58, 59, 60, 61, 62, 63, 64, 65, 66, 67, 68, 69, 70, 71, 72, 73, 12, 77, 78, 79, 80, 81, 82, 83, 84, 85, 86, 87, 88, 89, 90, 91, 92, 93, 94, 95] rfl (by decide +kernel)
set_option maxRecDepth 20000 in
theorem gX6_lends_X6_stoppedBehind : GoodIn wsX6_lends (wsV RX6 184 RX6 yX6_stoppedBehind wsX6_stoppedBehind) := goodIn_app (goodIn_of _ (by decide +kernel)) ggX6_lends_X6_stoppedBehind
set_option maxRecDepth 20000 in
theorem ggX6_lends_X6_many : GoodIn wsX6_lends wsX6_many := goodIn_r _ [76] rfl (by decide +kernel)
set_option maxRecDepth 20000 in
theorem gX6_lends_X6_many : GoodIn wsX6_lends (va_wsS RX6 192 yX6_many wsX6_many) := goodIn_app (goodIn_of _ (by decide +kernel)) ggX6_lends_X6_many
theorem kX6_lends_0 : (((((decode cX6_lends 0 = .ok (.iload_n 1, 1)) ∧ (decode cX6_lends 1 = .ok (.i2l, 1))) ∧ ((decode cX6_lends 2 = .ok (.lconst 1, 1)) ∧ (decode cX6_lends 3 = .ok (.ldc2_w 190, 3)))) ∧ (((decode cX6_lends 6 = .ok (.invokestatic 50, 3)) ∧ (decode cX6_lends 9 = .ok (.ifCond .eq 25, 3))) ∧ ((decode cX6_lends 12 = .ok (.iload_n 2, 1)) ∧ (decode cX6_lends 13 = .ok (.i2l, 1))))) ∧ ((((decode cX6_lends 14 = .ok (.lconst 1, 1)) ∧ (decode cX6_lends 15 = .ok (.ldc2_w 96, 3))) ∧ ((decode cX6_lends 18 = .ok (.invokestatic 50, 3)) ∧ (decode cX6_lends 21 = .ok (.ifCond .eq 13, 3)))) ∧ (((decode cX6_lends 24 = .ok (.iload_n 3, 1)) ∧ (decode cX6_lends 25 = .ok (.i2l, 1))) ∧ ((decode cX6_lends 26 = .ok (.lconst 0, 1)) ∧ (decode cX6_lends 27 = .ok (.lconst 1, 1)))))) := by decide +kernel
theorem dX6_lends_0 : decode cX6_lends 0 = .ok (.iload_n 1, 1) := kX6_lends_0.1.1.1.1
theorem dX6_lends_1 : decode cX6_lends 1 = .ok (.i2l, 1) := kX6_lends_0.1.1.1.2
theorem dX6_lends_2 : decode cX6_lends 2 = .ok (.lconst 1, 1) := kX6_lends_0.1.1.2.1
theorem dX6_lends_3 : decode cX6_lends 3 = .ok (.ldc2_w 190, 3) := kX6_lends_0.1.1.2.2
theorem dX6_lends_6 : decode cX6_lends 6 = .ok (.invokestatic 50, 3) := kX6_lends_0.1.2.1.1
theorem dX6_lends_9 : decode cX6_lends 9 = .ok (.ifCond .eq 25, 3) := kX6_lends_0.1.2.1.2
theorem dX6_lends_12 : decode cX6_lends 12 = .ok (.iload_n 2, 1) := kX6_lends_0.1.2.2.1
theorem dX6_lends_13 : decode cX6_lends 13 = .ok (.i2l, 1) := kX6_lends_0.1.2.2.2
theorem dX6_lends_14 : decode cX6_lends 14 = .ok (.lconst 1, 1) := kX6_lends_0.2.1.1.1
theorem dX6_lends_15 : decode cX6_lends 15 = .ok (.ldc2_w 96, 3) := kX6_lends_0.2.1.1.2
theorem dX6_lends_18 : decode cX6_lends 18 = .ok (.invokestatic 50, 3) := kX6_lends_0.2.1.2.1
theorem dX6_lends_21 : decode cX6_lends 21 = .ok (.ifCond .eq 13, 3) := kX6_lends_0.2.1.2.2
theorem dX6_lends_24 : decode cX6_lends 24 = .ok (.iload_n 3, 1) := kX6_lends_0.2.2.1.1
theorem dX6_lends_25 : decode cX6_lends 25 = .ok (.i2l, 1) := kX6_lends_0.2.2.1.2
theorem dX6_lends_26 : decode cX6_lends 26 = .ok (.lconst 0, 1) := kX6_lends_0.2.2.2.1
theorem dX6_lends_27 : decode cX6_lends 27 = .ok (.lconst 1, 1) := kX6_lends_0.2.2.2.2
theorem kX6_lends_28 : (((((decode cX6_lends 28 = .ok (.invokestatic 50, 3)) ∧ (decode cX6_lends 31 = .ok (.ifCond .ne 5, 3))) ∧ ((decode cX6_lends 34 = .ok (.iconst (-1), 1)) ∧ (decode cX6_lends 35 = .ok (.ireturn, 1)))) ∧ (((decode cX6_lends 36 = .ok (.bipush (-4), 2)) ∧ (decode cX6_lends 38 = .ok (.istore 4, 2))) ∧ ((decode cX6_lends 40 = .ok (.bipush 99, 2)) ∧ (decode cX6_lends 42 = .ok (.istore 5, 2))))) ∧ ((((decode cX6_lends 44 = .ok (.aload_n 0, 1)) ∧ (decode cX6_lends 45 = .ok (.invokevirtual 175, 3))) ∧ ((decode cX6_lends 48 = .ok (.iconst 0, 1)) ∧ (decode cX6_lends 49 = .ok (.istore 6, 2)))) ∧ (((decode cX6_lends 51 = .ok (.iload 6, 2)) ∧ (decode cX6_lends 53 = .ok (.aload_n 0, 1))) ∧ ((decode cX6_lends 54 = .ok (.getfield 7, 3)) ∧ (decode cX6_lends 57 = .ok (.iconst 0, 1)))))) := by decide +kernel
theorem dX6_lends_28 : decode cX6_lends 28 = .ok (.invokestatic 50, 3) := kX6_lends_28.1.1.1.1
theorem dX6_lends_31 : decode cX6_lends 31 = .ok (.ifCond .ne 5, 3) := kX6_lends_28.1.1.1.2
theorem dX6_lends_34 : decode cX6_lends 34 = .ok (.iconst (-1), 1) := kX6_lends_28.1.1.2.1
theorem dX6_lends_35 : decode cX6_lends 35 = .ok (.ireturn, 1) := kX6_lends_28.1.1.2.2
theorem dX6_lends_36 : decode cX6_lends 36 = .ok (.bipush (-4), 2) := kX6_lends_28.1.2.1.1
theorem dX6_lends_38 : decode cX6_lends 38 = .ok (.istore 4, 2) := kX6_lends_28.1.2.1.2
theorem dX6_lends_40 : decode cX6_lends 40 = .ok (.bipush 99, 2) := kX6_lends_28.1.2.2.1
theorem dX6_lends_42 : decode cX6_lends 42 = .ok (.istore 5, 2) := kX6_lends_28.1.2.2.2
theorem dX6_lends_44 : decode cX6_lends 44 = .ok (.aload_n 0, 1) := kX6_lends_28.2.1.1.1
theorem dX6_lends_45 : decode cX6_lends 45 = .ok (.invokevirtual 175, 3) := kX6_lends_28.2.1.1.2
theorem dX6_lends_48 : decode cX6_lends 48 = .ok (.iconst 0, 1) := kX6_lends_28.2.1.2.1
theorem dX6_lends_49 : decode cX6_lends 49 = .ok (.istore 6, 2) := kX6_lends_28.2.1.2.2
theorem dX6_lends_51 : decode cX6_lends 51 = .ok (.iload 6, 2) := kX6_lends_28.2.2.1.1
theorem dX6_lends_53 : decode cX6_lends 53 = .ok (.aload_n 0, 1) := kX6_lends_28.2.2.1.2
theorem dX6_lends_54 : decode cX6_lends 54 = .ok (.getfield 7, 3) := kX6_lends_28.2.2.2.1
theorem dX6_lends_57 : decode cX6_lends 57 = .ok (.iconst 0, 1) := kX6_lends_28.2.2.2.2
theorem kX6_lends_58 : (((((decode cX6_lends 58 = .ok (.iaload, 1)) ∧ (decode cX6_lends 59 = .ok (.if_icmp .ge 58, 3))) ∧ ((decode cX6_lends 62 = .ok (.aload_n 0, 1)) ∧ (decode cX6_lends 63 = .ok (.iload 6, 2)))) ∧ (((decode cX6_lends 65 = .ok (.iload_n 2, 1)) ∧ (decode cX6_lends 66 = .ok (.invokevirtual 160, 3))) ∧ ((decode cX6_lends 69 = .ok (.aload_n 0, 1)) ∧ (decode cX6_lends 70 = .ok (.iload_n 1, 1))))) ∧ ((((decode cX6_lends 71 = .ok (.invokevirtual 184, 3)) ∧ (decode cX6_lends 74 = .ok (.invokestatic 192, 3))) ∧ ((decode cX6_lends 77 = .ok (.istore 7, 2)) ∧ (decode cX6_lends 79 = .ok (.iload 7, 2)))) ∧ (((decode cX6_lends 81 = .ok (.iload 5, 2)) ∧ (decode cX6_lends 83 = .ok (.if_icmp .ge 8, 3))) ∧ ((decode cX6_lends 86 = .ok (.iload 6, 2)) ∧ (decode cX6_lends 88 = .ok (.goto 5, 3)))))) := by decide +kernel
theorem dX6_lends_58 : decode cX6_lends 58 = .ok (.iaload, 1) := kX6_lends_58.1.1.1.1
theorem dX6_lends_59 : decode cX6_lends 59 = .ok (.if_icmp .ge 58, 3) := kX6_lends_58.1.1.1.2
theorem dX6_lends_62 : decode cX6_lends 62 = .ok (.aload_n 0, 1) := kX6_lends_58.1.1.2.1
theorem dX6_lends_63 : decode cX6_lends 63 = .ok (.iload 6, 2) := kX6_lends_58.1.1.2.2
theorem dX6_lends_65 : decode cX6_lends 65 = .ok (.iload_n 2, 1) := kX6_lends_58.1.2.1.1
theorem dX6_lends_66 : decode cX6_lends 66 = .ok (.invokevirtual 160, 3) := kX6_lends_58.1.2.1.2
theorem dX6_lends_69 : decode cX6_lends 69 = .ok (.aload_n 0, 1) := kX6_lends_58.1.2.2.1
theorem dX6_lends_70 : decode cX6_lends 70 = .ok (.iload_n 1, 1) := kX6_lends_58.1.2.2.2
theorem dX6_lends_71 : decode cX6_lends 71 = .ok (.invokevirtual 184, 3) := kX6_lends_58.2.1.1.1
theorem dX6_lends_74 : decode cX6_lends 74 = .ok (.invokestatic 192, 3) := kX6_lends_58.2.1.1.2
theorem dX6_lends_77 : decode cX6_lends 77 = .ok (.istore 7, 2) := kX6_lends_58.2.1.2.1
theorem dX6_lends_79 : decode cX6_lends 79 = .ok (.iload 7, 2) := kX6_lends_58.2.1.2.2
theorem dX6_lends_81 : decode cX6_lends 81 = .ok (.iload 5, 2) := kX6_lends_58.2.2.1.1
theorem dX6_lends_83 : decode cX6_lends 83 = .ok (.if_icmp .ge 8, 3) := kX6_lends_58.2.2.1.2
theorem dX6_lends_86 : decode cX6_lends 86 = .ok (.iload 6, 2) := kX6_lends_58.2.2.2.1
theorem dX6_lends_88 : decode cX6_lends 88 = .ok (.goto 5, 3) := kX6_lends_58.2.2.2.2
theorem kX6_lends_91 : (((((decode cX6_lends 91 = .ok (.iload 4, 2)) ∧ (decode cX6_lends 93 = .ok (.istore 4, 2))) ∧ ((decode cX6_lends 95 = .ok (.iload 7, 2)) ∧ (decode cX6_lends 97 = .ok (.iload 5, 2)))) ∧ (((decode cX6_lends 99 = .ok (.if_icmp .ge 8, 3)) ∧ (decode cX6_lends 102 = .ok (.iload 7, 2))) ∧ ((decode cX6_lends 104 = .ok (.goto 5, 3)) ∧ (decode cX6_lends 107 = .ok (.iload 5, 2))))) ∧ ((((decode cX6_lends 109 = .ok (.istore 5, 2)) ∧ (decode cX6_lends 111 = .ok (.iinc 6 1, 3))) ∧ ((decode cX6_lends 114 = .ok (.goto (-63), 3)) ∧ (decode cX6_lends 117 = .ok (.iload_n 3, 1)))) ∧ (((decode cX6_lends 118 = .ok (.ifCond .eq 10, 3)) ∧ (decode cX6_lends 121 = .ok (.iload 4, 2))) ∧ ((decode cX6_lends 123 = .ok (.bipush (-4), 2)) ∧ (decode cX6_lends 125 = .ok (.if_icmp .ne 8, 3)))))) := by decide +kernel
theorem dX6_lends_91 : decode cX6_lends 91 = .ok (.iload 4, 2) := kX6_lends_91.1.1.1.1
theorem dX6_lends_93 : decode cX6_lends 93 = .ok (.istore 4, 2) := kX6_lends_91.1.1.1.2
theorem dX6_lends_95 : decode cX6_lends 95 = .ok (.iload 7, 2) := kX6_lends_91.1.1.2.1
theorem dX6_lends_97 : decode cX6_lends 97 = .ok (.iload 5, 2) := kX6_lends_91.1.1.2.2
theorem dX6_lends_99 : decode cX6_lends 99 = .ok (.if_icmp .ge 8, 3) := kX6_lends_91.1.2.1.1
theorem dX6_lends_102 : decode cX6_lends 102 = .ok (.iload 7, 2) := kX6_lends_91.1.2.1.2
theorem dX6_lends_104 : decode cX6_lends 104 = .ok (.goto 5, 3) := kX6_lends_91.1.2.2.1
theorem dX6_lends_107 : decode cX6_lends 107 = .ok (.iload 5, 2) := kX6_lends_91.1.2.2.2
theorem dX6_lends_109 : decode cX6_lends 109 = .ok (.istore 5, 2) := kX6_lends_91.2.1.1.1
theorem dX6_lends_111 : decode cX6_lends 111 = .ok (.iinc 6 1, 3) := kX6_lends_91.2.1.1.2
theorem dX6_lends_114 : decode cX6_lends 114 = .ok (.goto (-63), 3) := kX6_lends_91.2.1.2.1
theorem dX6_lends_117 : decode cX6_lends 117 = .ok (.iload_n 3, 1) := kX6_lends_91.2.1.2.2
theorem dX6_lends_118 : decode cX6_lends 118 = .ok (.ifCond .eq 10, 3) := kX6_lends_91.2.2.1.1
theorem dX6_lends_121 : decode cX6_lends 121 = .ok (.iload 4, 2) := kX6_lends_91.2.2.1.2
theorem dX6_lends_123 : decode cX6_lends 123 = .ok (.bipush (-4), 2) := kX6_lends_91.2.2.2.1
theorem dX6_lends_125 : decode cX6_lends 125 = .ok (.if_icmp .ne 8, 3) := kX6_lends_91.2.2.2.2
theorem kX6_lends_128 : (((decode cX6_lends 128 = .ok (.iload 4, 2)) ∧ (decode cX6_lends 130 = .ok (.goto 5, 3))) ∧ ((decode cX6_lends 133 = .ok (.iload 5, 2)) ∧ (decode cX6_lends 135 = .ok (.ireturn, 1)))) := by decide +kernel
theorem dX6_lends_128 : decode cX6_lends 128 = .ok (.iload 4, 2) := kX6_lends_128.1.1
theorem dX6_lends_130 : decode cX6_lends 130 = .ok (.goto 5, 3) := kX6_lends_128.1.2
theorem dX6_lends_133 : decode cX6_lends 133 = .ok (.iload 5, 2) := kX6_lends_128.2.1
theorem dX6_lends_135 : decode cX6_lends 135 = .ok (.ireturn, 1) := kX6_lends_128.2.2
set_option maxRecDepth 20000 in
theorem ggX6_instead_X6_isPerson : GoodIn wsX6_instead wsX6_isPerson := goodIn_r _ [7, 2, 8, 9, 6, 10, 76, 77, 78, 79, 80, 81, 82, 83, 84, 85, 86, 87, 88, 89, 90, 91, 92, 93, 94] rfl (by decide +kernel)
set_option maxRecDepth 20000 in
theorem gX6_instead_X6_isPerson : GoodIn wsX6_instead (wsV RX6 102 RX6 yX6_isPerson wsX6_isPerson) := goodIn_app (goodIn_of _ (by decide +kernel)) ggX6_instead_X6_isPerson
set_option maxRecDepth 20000 in
theorem ggX6_instead_X6_in : GoodIn wsX6_instead wsX6_in := goodIn_r _ [10] rfl (by decide +kernel)
set_option maxRecDepth 20000 in
theorem gX6_instead_X6_in : GoodIn wsX6_instead (va_wsS RX6 50 yX6_in wsX6_in) := goodIn_app (goodIn_of _ (by decide +kernel)) ggX6_instead_X6_in
set_option maxRecDepth 20000 in
theorem ggX6_instead_X6_asides : GoodIn wsX6_instead wsX6_asides := goodIn_r _ [14, 15, 2, 76, 77, 78, 79, 80, 81, 82, 83, 84, 85, 86, 87, 88, 89, 90, 91, 92, 93, 94] rfl (by decide +kernel)
set_option maxRecDepth 20000 in
theorem gX6_instead_X6_asides : GoodIn wsX6_instead (wsV RX6 175 RX6 yX6_asides wsX6_asides) := goodIn_app (goodIn_of _ (by decide +kernel)) ggX6_instead_X6_asides
set_option maxRecDepth 20000 in
theorem ggX6_instead_X6_tells : GoodIn wsX6_instead wsX6_tells := goodIn_r _ [19, 2, 76, 77, 78, 79, 80, 81, 82, 83, 84, 85, 86, 87, 88, 89, 90, 91, 92, 93, 94] rfl (by decide +kernel)
set_option maxRecDepth 20000 in
theorem gX6_instead_X6_tells : GoodIn wsX6_instead (wsV RX6 72 RX6 yX6_tells wsX6_tells) := goodIn_app (goodIn_of _ (by decide +kernel)) ggX6_instead_X6_tells
set_option maxRecDepth 20000 in
theorem ggX6_instead_X6_stoppedBehind : GoodIn wsX6_instead wsX6_stoppedBehind := goodIn_r _ [23, 24, 25, 26, 6, 27, 28, 29, 30, 31, 2, 32, 33, 34, 35, 36, 37, 38, 39, 40, 41, 42, 43, 44, 45, 46, 47, 48, 49, 50, 51, 52, 53, 54, 55, 56, 16, 17, 18, 19, 57, 58, 59, 60, 61, 62, 63, 64, 65, 66, 67, 68, 69, 70, 71, 72, 15, 76, 77, 78, 79, 80, 81, 82, 83, 84, 85, 86, 87, 88, 89, 90, 91, 92, 93, 94] rfl (by decide +kernel)
set_option maxRecDepth 20000 in
theorem gX6_instead_X6_stoppedBehind : GoodIn wsX6_instead (wsV RX6 184 RX6 yX6_stoppedBehind wsX6_stoppedBehind) := goodIn_app (goodIn_of _ (by decide +kernel)) ggX6_instead_X6_stoppedBehind
set_option maxRecDepth 20000 in
theorem ggX6_instead_X6_many : GoodIn wsX6_instead wsX6_many := goodIn_r _ [75] rfl (by decide +kernel)
set_option maxRecDepth 20000 in
theorem gX6_instead_X6_many : GoodIn wsX6_instead (va_wsS RX6 192 yX6_many wsX6_many) := goodIn_app (goodIn_of _ (by decide +kernel)) ggX6_instead_X6_many
theorem kX6_instead_0 : (((((decode cX6_instead 0 = .ok (.aload_n 0, 1)) ∧ (decode cX6_instead 1 = .ok (.iload_n 1, 1))) ∧ ((decode cX6_instead 2 = .ok (.invokevirtual 102, 3)) ∧ (decode cX6_instead 5 = .ok (.ifCond .eq 25, 3)))) ∧ (((decode cX6_instead 8 = .ok (.iload_n 2, 1)) ∧ (decode cX6_instead 9 = .ok (.i2l, 1))) ∧ ((decode cX6_instead 10 = .ok (.lconst 1, 1)) ∧ (decode cX6_instead 11 = .ok (.ldc2_w 190, 3))))) ∧ ((((decode cX6_instead 14 = .ok (.invokestatic 50, 3)) ∧ (decode cX6_instead 17 = .ok (.ifCond .eq 13, 3))) ∧ ((decode cX6_instead 20 = .ok (.iload_n 3, 1)) ∧ (decode cX6_instead 21 = .ok (.i2l, 1)))) ∧ (((decode cX6_instead 22 = .ok (.lconst 0, 1)) ∧ (decode cX6_instead 23 = .ok (.lconst 1, 1))) ∧ ((decode cX6_instead 24 = .ok (.invokestatic 50, 3)) ∧ (decode cX6_instead 27 = .ok (.ifCond .ne 5, 3)))))) := by decide +kernel
theorem dX6_instead_0 : decode cX6_instead 0 = .ok (.aload_n 0, 1) := kX6_instead_0.1.1.1.1
theorem dX6_instead_1 : decode cX6_instead 1 = .ok (.iload_n 1, 1) := kX6_instead_0.1.1.1.2
theorem dX6_instead_2 : decode cX6_instead 2 = .ok (.invokevirtual 102, 3) := kX6_instead_0.1.1.2.1
theorem dX6_instead_5 : decode cX6_instead 5 = .ok (.ifCond .eq 25, 3) := kX6_instead_0.1.1.2.2
theorem dX6_instead_8 : decode cX6_instead 8 = .ok (.iload_n 2, 1) := kX6_instead_0.1.2.1.1
theorem dX6_instead_9 : decode cX6_instead 9 = .ok (.i2l, 1) := kX6_instead_0.1.2.1.2
theorem dX6_instead_10 : decode cX6_instead 10 = .ok (.lconst 1, 1) := kX6_instead_0.1.2.2.1
theorem dX6_instead_11 : decode cX6_instead 11 = .ok (.ldc2_w 190, 3) := kX6_instead_0.1.2.2.2
theorem dX6_instead_14 : decode cX6_instead 14 = .ok (.invokestatic 50, 3) := kX6_instead_0.2.1.1.1
theorem dX6_instead_17 : decode cX6_instead 17 = .ok (.ifCond .eq 13, 3) := kX6_instead_0.2.1.1.2
theorem dX6_instead_20 : decode cX6_instead 20 = .ok (.iload_n 3, 1) := kX6_instead_0.2.1.2.1
theorem dX6_instead_21 : decode cX6_instead 21 = .ok (.i2l, 1) := kX6_instead_0.2.1.2.2
theorem dX6_instead_22 : decode cX6_instead 22 = .ok (.lconst 0, 1) := kX6_instead_0.2.2.1.1
theorem dX6_instead_23 : decode cX6_instead 23 = .ok (.lconst 1, 1) := kX6_instead_0.2.2.1.2
theorem dX6_instead_24 : decode cX6_instead 24 = .ok (.invokestatic 50, 3) := kX6_instead_0.2.2.2.1
theorem dX6_instead_27 : decode cX6_instead 27 = .ok (.ifCond .ne 5, 3) := kX6_instead_0.2.2.2.2
theorem kX6_instead_30 : (((((decode cX6_instead 30 = .ok (.iconst (-1), 1)) ∧ (decode cX6_instead 31 = .ok (.ireturn, 1))) ∧ ((decode cX6_instead 32 = .ok (.aload_n 0, 1)) ∧ (decode cX6_instead 33 = .ok (.invokevirtual 175, 3)))) ∧ (((decode cX6_instead 36 = .ok (.aload_n 0, 1)) ∧ (decode cX6_instead 37 = .ok (.iload_n 1, 1))) ∧ ((decode cX6_instead 38 = .ok (.iconst 2, 1)) ∧ (decode cX6_instead 39 = .ok (.bipush (-4), 2))))) ∧ ((((decode cX6_instead 41 = .ok (.invokevirtual 72, 3)) ∧ (decode cX6_instead 44 = .ok (.bipush (-4), 2))) ∧ ((decode cX6_instead 46 = .ok (.istore 4, 2)) ∧ (decode cX6_instead 48 = .ok (.aload_n 0, 1)))) ∧ (((decode cX6_instead 49 = .ok (.iload_n 2, 1)) ∧ (decode cX6_instead 50 = .ok (.invokevirtual 184, 3))) ∧ ((decode cX6_instead 53 = .ok (.invokestatic 192, 3)) ∧ (decode cX6_instead 56 = .ok (.istore 5, 2)))))) := by decide +kernel
theorem dX6_instead_30 : decode cX6_instead 30 = .ok (.iconst (-1), 1) := kX6_instead_30.1.1.1.1
theorem dX6_instead_31 : decode cX6_instead 31 = .ok (.ireturn, 1) := kX6_instead_30.1.1.1.2
theorem dX6_instead_32 : decode cX6_instead 32 = .ok (.aload_n 0, 1) := kX6_instead_30.1.1.2.1
theorem dX6_instead_33 : decode cX6_instead 33 = .ok (.invokevirtual 175, 3) := kX6_instead_30.1.1.2.2
theorem dX6_instead_36 : decode cX6_instead 36 = .ok (.aload_n 0, 1) := kX6_instead_30.1.2.1.1
theorem dX6_instead_37 : decode cX6_instead 37 = .ok (.iload_n 1, 1) := kX6_instead_30.1.2.1.2
theorem dX6_instead_38 : decode cX6_instead 38 = .ok (.iconst 2, 1) := kX6_instead_30.1.2.2.1
theorem dX6_instead_39 : decode cX6_instead 39 = .ok (.bipush (-4), 2) := kX6_instead_30.1.2.2.2
theorem dX6_instead_41 : decode cX6_instead 41 = .ok (.invokevirtual 72, 3) := kX6_instead_30.2.1.1.1
theorem dX6_instead_44 : decode cX6_instead 44 = .ok (.bipush (-4), 2) := kX6_instead_30.2.1.1.2
theorem dX6_instead_46 : decode cX6_instead 46 = .ok (.istore 4, 2) := kX6_instead_30.2.1.2.1
theorem dX6_instead_48 : decode cX6_instead 48 = .ok (.aload_n 0, 1) := kX6_instead_30.2.1.2.2
theorem dX6_instead_49 : decode cX6_instead 49 = .ok (.iload_n 2, 1) := kX6_instead_30.2.2.1.1
theorem dX6_instead_50 : decode cX6_instead 50 = .ok (.invokevirtual 184, 3) := kX6_instead_30.2.2.1.2
theorem dX6_instead_53 : decode cX6_instead 53 = .ok (.invokestatic 192, 3) := kX6_instead_30.2.2.2.1
theorem dX6_instead_56 : decode cX6_instead 56 = .ok (.istore 5, 2) := kX6_instead_30.2.2.2.2
theorem kX6_instead_58 : (((((decode cX6_instead 58 = .ok (.iconst 0, 1)) ∧ (decode cX6_instead 59 = .ok (.istore 6, 2))) ∧ ((decode cX6_instead 61 = .ok (.iload 6, 2)) ∧ (decode cX6_instead 63 = .ok (.aload_n 0, 1)))) ∧ (((decode cX6_instead 64 = .ok (.getfield 7, 3)) ∧ (decode cX6_instead 67 = .ok (.iconst 0, 1))) ∧ ((decode cX6_instead 68 = .ok (.iaload, 1)) ∧ (decode cX6_instead 69 = .ok (.if_icmp .ge 65, 3))))) ∧ ((((decode cX6_instead 72 = .ok (.iload 6, 2)) ∧ (decode cX6_instead 74 = .ok (.iload_n 1, 1))) ∧ ((decode cX6_instead 75 = .ok (.if_icmp .eq 53, 3)) ∧ (decode cX6_instead 78 = .ok (.aload_n 0, 1)))) ∧ (((decode cX6_instead 79 = .ok (.iload_n 1, 1)) ∧ (decode cX6_instead 80 = .ok (.iconst 2, 1))) ∧ ((decode cX6_instead 81 = .ok (.iload 6, 2)) ∧ (decode cX6_instead 83 = .ok (.invokevirtual 72, 3)))))) := by decide +kernel
theorem dX6_instead_58 : decode cX6_instead 58 = .ok (.iconst 0, 1) := kX6_instead_58.1.1.1.1
theorem dX6_instead_59 : decode cX6_instead 59 = .ok (.istore 6, 2) := kX6_instead_58.1.1.1.2
theorem dX6_instead_61 : decode cX6_instead 61 = .ok (.iload 6, 2) := kX6_instead_58.1.1.2.1
theorem dX6_instead_63 : decode cX6_instead 63 = .ok (.aload_n 0, 1) := kX6_instead_58.1.1.2.2
theorem dX6_instead_64 : decode cX6_instead 64 = .ok (.getfield 7, 3) := kX6_instead_58.1.2.1.1
theorem dX6_instead_67 : decode cX6_instead 67 = .ok (.iconst 0, 1) := kX6_instead_58.1.2.1.2
theorem dX6_instead_68 : decode cX6_instead 68 = .ok (.iaload, 1) := kX6_instead_58.1.2.2.1
theorem dX6_instead_69 : decode cX6_instead 69 = .ok (.if_icmp .ge 65, 3) := kX6_instead_58.1.2.2.2
theorem dX6_instead_72 : decode cX6_instead 72 = .ok (.iload 6, 2) := kX6_instead_58.2.1.1.1
theorem dX6_instead_74 : decode cX6_instead 74 = .ok (.iload_n 1, 1) := kX6_instead_58.2.1.1.2
theorem dX6_instead_75 : decode cX6_instead 75 = .ok (.if_icmp .eq 53, 3) := kX6_instead_58.2.1.2.1
theorem dX6_instead_78 : decode cX6_instead 78 = .ok (.aload_n 0, 1) := kX6_instead_58.2.1.2.2
theorem dX6_instead_79 : decode cX6_instead 79 = .ok (.iload_n 1, 1) := kX6_instead_58.2.2.1.1
theorem dX6_instead_80 : decode cX6_instead 80 = .ok (.iconst 2, 1) := kX6_instead_58.2.2.1.2
theorem dX6_instead_81 : decode cX6_instead 81 = .ok (.iload 6, 2) := kX6_instead_58.2.2.2.1
theorem dX6_instead_83 : decode cX6_instead 83 = .ok (.invokevirtual 72, 3) := kX6_instead_58.2.2.2.2
theorem kX6_instead_86 : (((((decode cX6_instead 86 = .ok (.aload_n 0, 1)) ∧ (decode cX6_instead 87 = .ok (.iload_n 2, 1))) ∧ ((decode cX6_instead 88 = .ok (.invokevirtual 184, 3)) ∧ (decode cX6_instead 91 = .ok (.invokestatic 192, 3)))) ∧ (((decode cX6_instead 94 = .ok (.istore 7, 2)) ∧ (decode cX6_instead 96 = .ok (.iload 7, 2))) ∧ ((decode cX6_instead 98 = .ok (.iload 5, 2)) ∧ (decode cX6_instead 100 = .ok (.if_icmp .ge 8, 3))))) ∧ ((((decode cX6_instead 103 = .ok (.iload 6, 2)) ∧ (decode cX6_instead 105 = .ok (.goto 5, 3))) ∧ ((decode cX6_instead 108 = .ok (.iload 4, 2)) ∧ (decode cX6_instead 110 = .ok (.istore 4, 2)))) ∧ (((decode cX6_instead 112 = .ok (.iload 7, 2)) ∧ (decode cX6_instead 114 = .ok (.iload 5, 2))) ∧ ((decode cX6_instead 116 = .ok (.if_icmp .ge 8, 3)) ∧ (decode cX6_instead 119 = .ok (.iload 7, 2)))))) := by decide +kernel
theorem dX6_instead_86 : decode cX6_instead 86 = .ok (.aload_n 0, 1) := kX6_instead_86.1.1.1.1
theorem dX6_instead_87 : decode cX6_instead 87 = .ok (.iload_n 2, 1) := kX6_instead_86.1.1.1.2
theorem dX6_instead_88 : decode cX6_instead 88 = .ok (.invokevirtual 184, 3) := kX6_instead_86.1.1.2.1
theorem dX6_instead_91 : decode cX6_instead 91 = .ok (.invokestatic 192, 3) := kX6_instead_86.1.1.2.2
theorem dX6_instead_94 : decode cX6_instead 94 = .ok (.istore 7, 2) := kX6_instead_86.1.2.1.1
theorem dX6_instead_96 : decode cX6_instead 96 = .ok (.iload 7, 2) := kX6_instead_86.1.2.1.2
theorem dX6_instead_98 : decode cX6_instead 98 = .ok (.iload 5, 2) := kX6_instead_86.1.2.2.1
theorem dX6_instead_100 : decode cX6_instead 100 = .ok (.if_icmp .ge 8, 3) := kX6_instead_86.1.2.2.2
theorem dX6_instead_103 : decode cX6_instead 103 = .ok (.iload 6, 2) := kX6_instead_86.2.1.1.1
theorem dX6_instead_105 : decode cX6_instead 105 = .ok (.goto 5, 3) := kX6_instead_86.2.1.1.2
theorem dX6_instead_108 : decode cX6_instead 108 = .ok (.iload 4, 2) := kX6_instead_86.2.1.2.1
theorem dX6_instead_110 : decode cX6_instead 110 = .ok (.istore 4, 2) := kX6_instead_86.2.1.2.2
theorem dX6_instead_112 : decode cX6_instead 112 = .ok (.iload 7, 2) := kX6_instead_86.2.2.1.1
theorem dX6_instead_114 : decode cX6_instead 114 = .ok (.iload 5, 2) := kX6_instead_86.2.2.1.2
theorem dX6_instead_116 : decode cX6_instead 116 = .ok (.if_icmp .ge 8, 3) := kX6_instead_86.2.2.2.1
theorem dX6_instead_119 : decode cX6_instead 119 = .ok (.iload 7, 2) := kX6_instead_86.2.2.2.2
theorem kX6_instead_121 : (((((decode cX6_instead 121 = .ok (.goto 5, 3)) ∧ (decode cX6_instead 124 = .ok (.iload 5, 2))) ∧ (decode cX6_instead 126 = .ok (.istore 5, 2))) ∧ (((decode cX6_instead 128 = .ok (.iinc 6 1, 3)) ∧ (decode cX6_instead 131 = .ok (.goto (-70), 3))) ∧ (decode cX6_instead 134 = .ok (.iload_n 3, 1)))) ∧ ((((decode cX6_instead 135 = .ok (.ifCond .ne 8, 3)) ∧ (decode cX6_instead 138 = .ok (.iload 4, 2))) ∧ (decode cX6_instead 140 = .ok (.goto 5, 3))) ∧ ((decode cX6_instead 143 = .ok (.iload 5, 2)) ∧ (decode cX6_instead 145 = .ok (.ireturn, 1))))) := by decide +kernel
theorem dX6_instead_121 : decode cX6_instead 121 = .ok (.goto 5, 3) := kX6_instead_121.1.1.1.1
theorem dX6_instead_124 : decode cX6_instead 124 = .ok (.iload 5, 2) := kX6_instead_121.1.1.1.2
theorem dX6_instead_126 : decode cX6_instead 126 = .ok (.istore 5, 2) := kX6_instead_121.1.1.2
theorem dX6_instead_128 : decode cX6_instead 128 = .ok (.iinc 6 1, 3) := kX6_instead_121.1.2.1.1
theorem dX6_instead_131 : decode cX6_instead 131 = .ok (.goto (-70), 3) := kX6_instead_121.1.2.1.2
theorem dX6_instead_134 : decode cX6_instead 134 = .ok (.iload_n 3, 1) := kX6_instead_121.1.2.2
theorem dX6_instead_135 : decode cX6_instead 135 = .ok (.ifCond .ne 8, 3) := kX6_instead_121.2.1.1.1
theorem dX6_instead_138 : decode cX6_instead 138 = .ok (.iload 4, 2) := kX6_instead_121.2.1.1.2
theorem dX6_instead_140 : decode cX6_instead 140 = .ok (.goto 5, 3) := kX6_instead_121.2.1.2
theorem dX6_instead_143 : decode cX6_instead 143 = .ok (.iload 5, 2) := kX6_instead_121.2.2.1
theorem dX6_instead_145 : decode cX6_instead 145 = .ok (.ireturn, 1) := kX6_instead_121.2.2.2
set_option maxRecDepth 20000 in
theorem ggX6_needs_X6_isPerson : GoodIn wsX6_needs wsX6_isPerson := goodIn_r _ [6, 7, 8, 9, 5, 10, 61, 62, 63, 64, 65, 66, 67, 68, 69, 70, 71, 72, 73, 74, 75, 76, 77, 78, 79] rfl (by decide +kernel)
set_option maxRecDepth 20000 in
theorem gX6_needs_X6_isPerson : GoodIn wsX6_needs (wsV RX6 102 RX6 yX6_isPerson wsX6_isPerson) := goodIn_app (goodIn_of _ (by decide +kernel)) ggX6_needs_X6_isPerson
set_option maxRecDepth 20000 in
theorem ggX6_needs_X6_in : GoodIn wsX6_needs wsX6_in := goodIn_r _ [10] rfl (by decide +kernel)
set_option maxRecDepth 20000 in
theorem gX6_needs_X6_in : GoodIn wsX6_needs (va_wsS RX6 50 yX6_in wsX6_in) := goodIn_app (goodIn_of _ (by decide +kernel)) ggX6_needs_X6_in
set_option maxRecDepth 20000 in
theorem ggX6_needs_X6_asides : GoodIn wsX6_needs wsX6_asides := goodIn_r _ [14, 15, 7, 61, 62, 63, 64, 65, 66, 67, 68, 69, 70, 71, 72, 73, 74, 75, 76, 77, 78, 79] rfl (by decide +kernel)
set_option maxRecDepth 20000 in
theorem gX6_needs_X6_asides : GoodIn wsX6_needs (wsV RX6 175 RX6 yX6_asides wsX6_asides) := goodIn_app (goodIn_of _ (by decide +kernel)) ggX6_needs_X6_asides
set_option maxRecDepth 20000 in
theorem ggX6_needs_X6_tells : GoodIn wsX6_needs wsX6_tells := goodIn_r _ [19, 7, 61, 62, 63, 64, 65, 66, 67, 68, 69, 70, 71, 72, 73, 74, 75, 76, 77, 78, 79] rfl (by decide +kernel)
set_option maxRecDepth 20000 in
theorem gX6_needs_X6_tells : GoodIn wsX6_needs (wsV RX6 72 RX6 yX6_tells wsX6_tells) := goodIn_app (goodIn_of _ (by decide +kernel)) ggX6_needs_X6_tells
set_option maxRecDepth 20000 in
theorem ggX6_needs_X6_goesBy : GoodIn wsX6_needs wsX6_goesBy := goodIn_r _ [23, 7, 24, 25, 26, 27, 5, 28, 29, 30, 31, 32, 33, 34, 35, 36, 37, 38, 39, 40, 41, 42, 43, 44, 45, 46, 47, 48, 16, 17, 18, 19, 49, 50, 51, 52, 53, 54, 55, 56, 61, 62, 63, 64, 65, 66, 67, 68, 69, 70, 71, 72, 73, 74, 75, 76, 77, 78, 79] rfl (by decide +kernel)
set_option maxRecDepth 20000 in
theorem gX6_needs_X6_goesBy : GoodIn wsX6_needs (wsV RX6 87 RX6 yX6_goesBy wsX6_goesBy) := goodIn_app (goodIn_of _ (by decide +kernel)) ggX6_needs_X6_goesBy
set_option maxRecDepth 20000 in
theorem ggX6_needs_X6_isStopped : GoodIn wsX6_needs wsX6_isStopped := goodIn_r _ [36, 37, 38, 39, 5, 40, 41, 42, 43, 44, 7, 61, 62, 63, 64, 65, 66, 67, 68, 69, 70, 71, 72, 73, 74, 75, 76, 77, 78, 79] rfl (by decide +kernel)
set_option maxRecDepth 20000 in
theorem gX6_needs_X6_isStopped : GoodIn wsX6_needs (wsV RX6 65 RX6 yX6_isStopped wsX6_isStopped) := goodIn_app (goodIn_of _ (by decide +kernel)) ggX6_needs_X6_isStopped
set_option maxRecDepth 20000 in
theorem ggX6_needs_X6_backs : GoodIn wsX6_needs wsX6_backs := goodIn_r _ [60, 7, 15, 61, 62, 63, 64, 65, 66, 67, 68, 69, 70, 71, 72, 73, 74, 75, 76, 77, 78, 79] rfl (by decide +kernel)
set_option maxRecDepth 20000 in
theorem gX6_needs_X6_backs : GoodIn wsX6_needs (wsV RX6 181 RX6 yX6_backs wsX6_backs) := goodIn_app (goodIn_of _ (by decide +kernel)) ggX6_needs_X6_backs
theorem kX6_needs_0 : (((((decode cX6_needs 0 = .ok (.aload_n 0, 1)) ∧ (decode cX6_needs 1 = .ok (.iload_n 1, 1))) ∧ ((decode cX6_needs 2 = .ok (.invokevirtual 102, 3)) ∧ (decode cX6_needs 5 = .ok (.ifCond .eq 15, 3)))) ∧ (((decode cX6_needs 8 = .ok (.iload_n 2, 1)) ∧ (decode cX6_needs 9 = .ok (.i2l, 1))) ∧ ((decode cX6_needs 10 = .ok (.lconst 1, 1)) ∧ (decode cX6_needs 11 = .ok (.ldc2_w 190, 3))))) ∧ ((((decode cX6_needs 14 = .ok (.invokestatic 50, 3)) ∧ (decode cX6_needs 17 = .ok (.ifCond .ne 5, 3))) ∧ ((decode cX6_needs 20 = .ok (.iconst (-1), 1)) ∧ (decode cX6_needs 21 = .ok (.ireturn, 1)))) ∧ (((decode cX6_needs 22 = .ok (.bipush (-4), 2)) ∧ (decode cX6_needs 24 = .ok (.istore_n 3, 1))) ∧ ((decode cX6_needs 25 = .ok (.aload_n 0, 1)) ∧ (decode cX6_needs 26 = .ok (.invokevirtual 175, 3)))))) := by decide +kernel
theorem dX6_needs_0 : decode cX6_needs 0 = .ok (.aload_n 0, 1) := kX6_needs_0.1.1.1.1
theorem dX6_needs_1 : decode cX6_needs 1 = .ok (.iload_n 1, 1) := kX6_needs_0.1.1.1.2
theorem dX6_needs_2 : decode cX6_needs 2 = .ok (.invokevirtual 102, 3) := kX6_needs_0.1.1.2.1
theorem dX6_needs_5 : decode cX6_needs 5 = .ok (.ifCond .eq 15, 3) := kX6_needs_0.1.1.2.2
theorem dX6_needs_8 : decode cX6_needs 8 = .ok (.iload_n 2, 1) := kX6_needs_0.1.2.1.1
theorem dX6_needs_9 : decode cX6_needs 9 = .ok (.i2l, 1) := kX6_needs_0.1.2.1.2
theorem dX6_needs_10 : decode cX6_needs 10 = .ok (.lconst 1, 1) := kX6_needs_0.1.2.2.1
theorem dX6_needs_11 : decode cX6_needs 11 = .ok (.ldc2_w 190, 3) := kX6_needs_0.1.2.2.2
theorem dX6_needs_14 : decode cX6_needs 14 = .ok (.invokestatic 50, 3) := kX6_needs_0.2.1.1.1
theorem dX6_needs_17 : decode cX6_needs 17 = .ok (.ifCond .ne 5, 3) := kX6_needs_0.2.1.1.2
theorem dX6_needs_20 : decode cX6_needs 20 = .ok (.iconst (-1), 1) := kX6_needs_0.2.1.2.1
theorem dX6_needs_21 : decode cX6_needs 21 = .ok (.ireturn, 1) := kX6_needs_0.2.1.2.2
theorem dX6_needs_22 : decode cX6_needs 22 = .ok (.bipush (-4), 2) := kX6_needs_0.2.2.1.1
theorem dX6_needs_24 : decode cX6_needs 24 = .ok (.istore_n 3, 1) := kX6_needs_0.2.2.1.2
theorem dX6_needs_25 : decode cX6_needs 25 = .ok (.aload_n 0, 1) := kX6_needs_0.2.2.2.1
theorem dX6_needs_26 : decode cX6_needs 26 = .ok (.invokevirtual 175, 3) := kX6_needs_0.2.2.2.2
theorem kX6_needs_29 : (((((decode cX6_needs 29 = .ok (.iconst 0, 1)) ∧ (decode cX6_needs 30 = .ok (.istore 4, 2))) ∧ ((decode cX6_needs 32 = .ok (.iload 4, 2)) ∧ (decode cX6_needs 34 = .ok (.bipush 31, 2)))) ∧ (((decode cX6_needs 36 = .ok (.if_icmp .ge 92, 3)) ∧ (decode cX6_needs 39 = .ok (.iload_n 3, 1))) ∧ ((decode cX6_needs 40 = .ok (.bipush (-4), 2)) ∧ (decode cX6_needs 42 = .ok (.if_icmp .ne 86, 3))))) ∧ ((((decode cX6_needs 45 = .ok (.aload_n 0, 1)) ∧ (decode cX6_needs 46 = .ok (.iload_n 1, 1))) ∧ ((decode cX6_needs 47 = .ok (.iconst 1, 1)) ∧ (decode cX6_needs 48 = .ok (.iload 4, 2)))) ∧ (((decode cX6_needs 50 = .ok (.invokevirtual 72, 3)) ∧ (decode cX6_needs 53 = .ok (.iload 4, 2))) ∧ ((decode cX6_needs 55 = .ok (.ifCond .le 7, 3)) ∧ (decode cX6_needs 58 = .ok (.iconst 1, 1)))))) := by decide +kernel
theorem dX6_needs_29 : decode cX6_needs 29 = .ok (.iconst 0, 1) := kX6_needs_29.1.1.1.1
theorem dX6_needs_30 : decode cX6_needs 30 = .ok (.istore 4, 2) := kX6_needs_29.1.1.1.2
theorem dX6_needs_32 : decode cX6_needs 32 = .ok (.iload 4, 2) := kX6_needs_29.1.1.2.1
theorem dX6_needs_34 : decode cX6_needs 34 = .ok (.bipush 31, 2) := kX6_needs_29.1.1.2.2
theorem dX6_needs_36 : decode cX6_needs 36 = .ok (.if_icmp .ge 92, 3) := kX6_needs_29.1.2.1.1
theorem dX6_needs_39 : decode cX6_needs 39 = .ok (.iload_n 3, 1) := kX6_needs_29.1.2.1.2
theorem dX6_needs_40 : decode cX6_needs 40 = .ok (.bipush (-4), 2) := kX6_needs_29.1.2.2.1
theorem dX6_needs_42 : decode cX6_needs 42 = .ok (.if_icmp .ne 86, 3) := kX6_needs_29.1.2.2.2
theorem dX6_needs_45 : decode cX6_needs 45 = .ok (.aload_n 0, 1) := kX6_needs_29.2.1.1.1
theorem dX6_needs_46 : decode cX6_needs 46 = .ok (.iload_n 1, 1) := kX6_needs_29.2.1.1.2
theorem dX6_needs_47 : decode cX6_needs 47 = .ok (.iconst 1, 1) := kX6_needs_29.2.1.2.1
theorem dX6_needs_48 : decode cX6_needs 48 = .ok (.iload 4, 2) := kX6_needs_29.2.1.2.2
theorem dX6_needs_50 : decode cX6_needs 50 = .ok (.invokevirtual 72, 3) := kX6_needs_29.2.2.1.1
theorem dX6_needs_53 : decode cX6_needs 53 = .ok (.iload 4, 2) := kX6_needs_29.2.2.1.2
theorem dX6_needs_55 : decode cX6_needs 55 = .ok (.ifCond .le 7, 3) := kX6_needs_29.2.2.2.1
theorem dX6_needs_58 : decode cX6_needs 58 = .ok (.iconst 1, 1) := kX6_needs_29.2.2.2.2
theorem kX6_needs_59 : (((((decode cX6_needs 59 = .ok (.goto 4, 3)) ∧ (decode cX6_needs 62 = .ok (.iconst 0, 1))) ∧ ((decode cX6_needs 63 = .ok (.istore 5, 2)) ∧ (decode cX6_needs 65 = .ok (.iconst 0, 1)))) ∧ (((decode cX6_needs 66 = .ok (.istore 6, 2)) ∧ (decode cX6_needs 68 = .ok (.iload 6, 2))) ∧ ((decode cX6_needs 70 = .ok (.iload_n 2, 1)) ∧ (decode cX6_needs 71 = .ok (.if_icmp .ge 34, 3))))) ∧ ((((decode cX6_needs 74 = .ok (.aload_n 0, 1)) ∧ (decode cX6_needs 75 = .ok (.iconst 0, 1))) ∧ ((decode cX6_needs 76 = .ok (.invokevirtual 87, 3)) ∧ (decode cX6_needs 79 = .ok (.iload 5, 2)))) ∧ (((decode cX6_needs 81 = .ok (.ifCond .eq 15, 3)) ∧ (decode cX6_needs 84 = .ok (.aload_n 0, 1))) ∧ ((decode cX6_needs 85 = .ok (.iload_n 1, 1)) ∧ (decode cX6_needs 86 = .ok (.invokevirtual 65, 3)))))) := by decide +kernel
theorem dX6_needs_59 : decode cX6_needs 59 = .ok (.goto 4, 3) := kX6_needs_59.1.1.1.1
theorem dX6_needs_62 : decode cX6_needs 62 = .ok (.iconst 0, 1) := kX6_needs_59.1.1.1.2
theorem dX6_needs_63 : decode cX6_needs 63 = .ok (.istore 5, 2) := kX6_needs_59.1.1.2.1
theorem dX6_needs_65 : decode cX6_needs 65 = .ok (.iconst 0, 1) := kX6_needs_59.1.1.2.2
theorem dX6_needs_66 : decode cX6_needs 66 = .ok (.istore 6, 2) := kX6_needs_59.1.2.1.1
theorem dX6_needs_68 : decode cX6_needs 68 = .ok (.iload 6, 2) := kX6_needs_59.1.2.1.2
theorem dX6_needs_70 : decode cX6_needs 70 = .ok (.iload_n 2, 1) := kX6_needs_59.1.2.2.1
theorem dX6_needs_71 : decode cX6_needs 71 = .ok (.if_icmp .ge 34, 3) := kX6_needs_59.1.2.2.2
theorem dX6_needs_74 : decode cX6_needs 74 = .ok (.aload_n 0, 1) := kX6_needs_59.2.1.1.1
theorem dX6_needs_75 : decode cX6_needs 75 = .ok (.iconst 0, 1) := kX6_needs_59.2.1.1.2
theorem dX6_needs_76 : decode cX6_needs 76 = .ok (.invokevirtual 87, 3) := kX6_needs_59.2.1.2.1
theorem dX6_needs_79 : decode cX6_needs 79 = .ok (.iload 5, 2) := kX6_needs_59.2.1.2.2
theorem dX6_needs_81 : decode cX6_needs 81 = .ok (.ifCond .eq 15, 3) := kX6_needs_59.2.2.1.1
theorem dX6_needs_84 : decode cX6_needs 84 = .ok (.aload_n 0, 1) := kX6_needs_59.2.2.1.2
theorem dX6_needs_85 : decode cX6_needs 85 = .ok (.iload_n 1, 1) := kX6_needs_59.2.2.2.1
theorem dX6_needs_86 : decode cX6_needs 86 = .ok (.invokevirtual 65, 3) := kX6_needs_59.2.2.2.2
theorem kX6_needs_89 : (((((decode cX6_needs 89 = .ok (.ifCond .ne 7, 3)) ∧ (decode cX6_needs 92 = .ok (.iconst 1, 1))) ∧ ((decode cX6_needs 93 = .ok (.goto 4, 3)) ∧ (decode cX6_needs 96 = .ok (.iconst 0, 1)))) ∧ (((decode cX6_needs 97 = .ok (.istore 5, 2)) ∧ (decode cX6_needs 99 = .ok (.iinc 6 1, 3))) ∧ ((decode cX6_needs 102 = .ok (.goto (-34), 3)) ∧ (decode cX6_needs 105 = .ok (.iload 5, 2))))) ∧ ((((decode cX6_needs 107 = .ok (.ifCond .eq 8, 3)) ∧ (decode cX6_needs 110 = .ok (.iload 4, 2))) ∧ ((decode cX6_needs 112 = .ok (.goto 5, 3)) ∧ (decode cX6_needs 115 = .ok (.bipush (-4), 2)))) ∧ (((decode cX6_needs 117 = .ok (.istore_n 3, 1)) ∧ (decode cX6_needs 118 = .ok (.aload_n 0, 1))) ∧ ((decode cX6_needs 119 = .ok (.invokevirtual 181, 3)) ∧ (decode cX6_needs 122 = .ok (.iinc 4 1, 3)))))) := by decide +kernel
theorem dX6_needs_89 : decode cX6_needs 89 = .ok (.ifCond .ne 7, 3) := kX6_needs_89.1.1.1.1
theorem dX6_needs_92 : decode cX6_needs 92 = .ok (.iconst 1, 1) := kX6_needs_89.1.1.1.2
theorem dX6_needs_93 : decode cX6_needs 93 = .ok (.goto 4, 3) := kX6_needs_89.1.1.2.1
theorem dX6_needs_96 : decode cX6_needs 96 = .ok (.iconst 0, 1) := kX6_needs_89.1.1.2.2
theorem dX6_needs_97 : decode cX6_needs 97 = .ok (.istore 5, 2) := kX6_needs_89.1.2.1.1
theorem dX6_needs_99 : decode cX6_needs 99 = .ok (.iinc 6 1, 3) := kX6_needs_89.1.2.1.2
theorem dX6_needs_102 : decode cX6_needs 102 = .ok (.goto (-34), 3) := kX6_needs_89.1.2.2.1
theorem dX6_needs_105 : decode cX6_needs 105 = .ok (.iload 5, 2) := kX6_needs_89.1.2.2.2
theorem dX6_needs_107 : decode cX6_needs 107 = .ok (.ifCond .eq 8, 3) := kX6_needs_89.2.1.1.1
theorem dX6_needs_110 : decode cX6_needs 110 = .ok (.iload 4, 2) := kX6_needs_89.2.1.1.2
theorem dX6_needs_112 : decode cX6_needs 112 = .ok (.goto 5, 3) := kX6_needs_89.2.1.2.1
theorem dX6_needs_115 : decode cX6_needs 115 = .ok (.bipush (-4), 2) := kX6_needs_89.2.1.2.2
theorem dX6_needs_117 : decode cX6_needs 117 = .ok (.istore_n 3, 1) := kX6_needs_89.2.2.1.1
theorem dX6_needs_118 : decode cX6_needs 118 = .ok (.aload_n 0, 1) := kX6_needs_89.2.2.1.2
theorem dX6_needs_119 : decode cX6_needs 119 = .ok (.invokevirtual 181, 3) := kX6_needs_89.2.2.2.1
theorem dX6_needs_122 : decode cX6_needs 122 = .ok (.iinc 4 1, 3) := kX6_needs_89.2.2.2.2
theorem kX6_needs_125 : (((decode cX6_needs 125 = .ok (.goto (-93), 3)) ∧ (decode cX6_needs 128 = .ok (.iload_n 3, 1))) ∧ (decode cX6_needs 129 = .ok (.ireturn, 1))) := by decide +kernel
theorem dX6_needs_125 : decode cX6_needs 125 = .ok (.goto (-93), 3) := kX6_needs_125.1.1
theorem dX6_needs_128 : decode cX6_needs 128 = .ok (.iload_n 3, 1) := kX6_needs_125.1.2
theorem dX6_needs_129 : decode cX6_needs 129 = .ok (.ireturn, 1) := kX6_needs_125.2
set_option maxRecDepth 20000 in
theorem ggX6_changes_X6_whom : GoodIn wsX6_changes wsX6_whom := goodIn_r _ [7, 8, 9, 10, 6, 11, 1, 12, 13, 14, 15, 16, 17, 18, 19, 20, 21, 22, 23, 24, 25, 26, 27, 28, 29, 30] rfl (by decide +kernel)
set_option maxRecDepth 20000 in
theorem gX6_changes_X6_whom : GoodIn wsX6_changes (wsV RX6 62 RX6 yX6_whom wsX6_whom) := goodIn_app (goodIn_of _ (by decide +kernel)) ggX6_changes_X6_whom
theorem kX6_changes_0 : (((((decode cX6_changes 0 = .ok (.aload_n 0, 1)) ∧ (decode cX6_changes 1 = .ok (.getfield 7, 3))) ∧ ((decode cX6_changes 4 = .ok (.iconst 0, 1)) ∧ (decode cX6_changes 5 = .ok (.iaload, 1)))) ∧ (((decode cX6_changes 6 = .ok (.istore_n 2, 1)) ∧ (decode cX6_changes 7 = .ok (.iload_n 1, 1))) ∧ ((decode cX6_changes 8 = .ok (.istore_n 3, 1)) ∧ (decode cX6_changes 9 = .ok (.iconst 0, 1))))) ∧ ((((decode cX6_changes 10 = .ok (.istore 4, 2)) ∧ (decode cX6_changes 12 = .ok (.iconst 0, 1))) ∧ ((decode cX6_changes 13 = .ok (.istore 5, 2)) ∧ (decode cX6_changes 15 = .ok (.iconst 1, 1)))) ∧ (((decode cX6_changes 16 = .ok (.istore 6, 2)) ∧ (decode cX6_changes 18 = .ok (.iload_n 2, 1))) ∧ ((decode cX6_changes 19 = .ok (.iconst 1, 1)) ∧ (decode cX6_changes 20 = .ok (.isub, 1)))))) := by decide +kernel
theorem dX6_changes_0 : decode cX6_changes 0 = .ok (.aload_n 0, 1) := kX6_changes_0.1.1.1.1
theorem dX6_changes_1 : decode cX6_changes 1 = .ok (.getfield 7, 3) := kX6_changes_0.1.1.1.2
theorem dX6_changes_4 : decode cX6_changes 4 = .ok (.iconst 0, 1) := kX6_changes_0.1.1.2.1
theorem dX6_changes_5 : decode cX6_changes 5 = .ok (.iaload, 1) := kX6_changes_0.1.1.2.2
theorem dX6_changes_6 : decode cX6_changes 6 = .ok (.istore_n 2, 1) := kX6_changes_0.1.2.1.1
theorem dX6_changes_7 : decode cX6_changes 7 = .ok (.iload_n 1, 1) := kX6_changes_0.1.2.1.2
theorem dX6_changes_8 : decode cX6_changes 8 = .ok (.istore_n 3, 1) := kX6_changes_0.1.2.2.1
theorem dX6_changes_9 : decode cX6_changes 9 = .ok (.iconst 0, 1) := kX6_changes_0.1.2.2.2
theorem dX6_changes_10 : decode cX6_changes 10 = .ok (.istore 4, 2) := kX6_changes_0.2.1.1.1
theorem dX6_changes_12 : decode cX6_changes 12 = .ok (.iconst 0, 1) := kX6_changes_0.2.1.1.2
theorem dX6_changes_13 : decode cX6_changes 13 = .ok (.istore 5, 2) := kX6_changes_0.2.1.2.1
theorem dX6_changes_15 : decode cX6_changes 15 = .ok (.iconst 1, 1) := kX6_changes_0.2.1.2.2
theorem dX6_changes_16 : decode cX6_changes 16 = .ok (.istore 6, 2) := kX6_changes_0.2.2.1.1
theorem dX6_changes_18 : decode cX6_changes 18 = .ok (.iload_n 2, 1) := kX6_changes_0.2.2.1.2
theorem dX6_changes_19 : decode cX6_changes 19 = .ok (.iconst 1, 1) := kX6_changes_0.2.2.2.1
theorem dX6_changes_20 : decode cX6_changes 20 = .ok (.isub, 1) := kX6_changes_0.2.2.2.2
theorem kX6_changes_21 : (((((decode cX6_changes 21 = .ok (.istore 7, 2)) ∧ (decode cX6_changes 23 = .ok (.iload 7, 2))) ∧ ((decode cX6_changes 25 = .ok (.ifCond .lt 87, 3)) ∧ (decode cX6_changes 28 = .ok (.aload_n 0, 1)))) ∧ (((decode cX6_changes 29 = .ok (.getfield 28, 3)) ∧ (decode cX6_changes 32 = .ok (.iload 7, 2))) ∧ ((decode cX6_changes 34 = .ok (.iload_n 3, 1)) ∧ (decode cX6_changes 35 = .ok (.iload_n 2, 1))))) ∧ ((((decode cX6_changes 36 = .ok (.irem, 1)) ∧ (decode cX6_changes 37 = .ok (.iastore, 1))) ∧ ((decode cX6_changes 38 = .ok (.iload_n 3, 1)) ∧ (decode cX6_changes 39 = .ok (.iload_n 2, 1)))) ∧ (((decode cX6_changes 40 = .ok (.idiv, 1)) ∧ (decode cX6_changes 41 = .ok (.istore_n 3, 1))) ∧ ((decode cX6_changes 42 = .ok (.iload 4, 2)) ∧ (decode cX6_changes 44 = .ok (.iconst 1, 1)))))) := by decide +kernel
theorem dX6_changes_21 : decode cX6_changes 21 = .ok (.istore 7, 2) := kX6_changes_21.1.1.1.1
theorem dX6_changes_23 : decode cX6_changes 23 = .ok (.iload 7, 2) := kX6_changes_21.1.1.1.2
theorem dX6_changes_25 : decode cX6_changes 25 = .ok (.ifCond .lt 87, 3) := kX6_changes_21.1.1.2.1
theorem dX6_changes_28 : decode cX6_changes 28 = .ok (.aload_n 0, 1) := kX6_changes_21.1.1.2.2
theorem dX6_changes_29 : decode cX6_changes 29 = .ok (.getfield 28, 3) := kX6_changes_21.1.2.1.1
theorem dX6_changes_32 : decode cX6_changes 32 = .ok (.iload 7, 2) := kX6_changes_21.1.2.1.2
theorem dX6_changes_34 : decode cX6_changes 34 = .ok (.iload_n 3, 1) := kX6_changes_21.1.2.2.1
theorem dX6_changes_35 : decode cX6_changes 35 = .ok (.iload_n 2, 1) := kX6_changes_21.1.2.2.2
theorem dX6_changes_36 : decode cX6_changes 36 = .ok (.irem, 1) := kX6_changes_21.2.1.1.1
theorem dX6_changes_37 : decode cX6_changes 37 = .ok (.iastore, 1) := kX6_changes_21.2.1.1.2
theorem dX6_changes_38 : decode cX6_changes 38 = .ok (.iload_n 3, 1) := kX6_changes_21.2.1.2.1
theorem dX6_changes_39 : decode cX6_changes 39 = .ok (.iload_n 2, 1) := kX6_changes_21.2.1.2.2
theorem dX6_changes_40 : decode cX6_changes 40 = .ok (.idiv, 1) := kX6_changes_21.2.2.1.1
theorem dX6_changes_41 : decode cX6_changes 41 = .ok (.istore_n 3, 1) := kX6_changes_21.2.2.1.2
theorem dX6_changes_42 : decode cX6_changes 42 = .ok (.iload 4, 2) := kX6_changes_21.2.2.2.1
theorem dX6_changes_44 : decode cX6_changes 44 = .ok (.iconst 1, 1) := kX6_changes_21.2.2.2.2
theorem kX6_changes_45 : (((((decode cX6_changes 45 = .ok (.aload_n 0, 1)) ∧ (decode cX6_changes 46 = .ok (.getfield 28, 3))) ∧ ((decode cX6_changes 49 = .ok (.iload 7, 2)) ∧ (decode cX6_changes 51 = .ok (.iaload, 1)))) ∧ (((decode cX6_changes 52 = .ok (.ishl, 1)) ∧ (decode cX6_changes 53 = .ok (.ior, 1))) ∧ ((decode cX6_changes 54 = .ok (.istore 4, 2)) ∧ (decode cX6_changes 56 = .ok (.iload 6, 2))))) ∧ ((((decode cX6_changes 58 = .ok (.ifCond .eq 19, 3)) ∧ (decode cX6_changes 61 = .ok (.aload_n 0, 1))) ∧ ((decode cX6_changes 62 = .ok (.getfield 28, 3)) ∧ (decode cX6_changes 65 = .ok (.iload 7, 2)))) ∧ (((decode cX6_changes 67 = .ok (.iaload, 1)) ∧ (decode cX6_changes 68 = .ok (.iload 7, 2))) ∧ ((decode cX6_changes 70 = .ok (.if_icmp .eq 7, 3)) ∧ (decode cX6_changes 73 = .ok (.iconst 1, 1)))))) := by decide +kernel
theorem dX6_changes_45 : decode cX6_changes 45 = .ok (.aload_n 0, 1) := kX6_changes_45.1.1.1.1
theorem dX6_changes_46 : decode cX6_changes 46 = .ok (.getfield 28, 3) := kX6_changes_45.1.1.1.2
theorem dX6_changes_49 : decode cX6_changes 49 = .ok (.iload 7, 2) := kX6_changes_45.1.1.2.1
theorem dX6_changes_51 : decode cX6_changes 51 = .ok (.iaload, 1) := kX6_changes_45.1.1.2.2
theorem dX6_changes_52 : decode cX6_changes 52 = .ok (.ishl, 1) := kX6_changes_45.1.2.1.1
theorem dX6_changes_53 : decode cX6_changes 53 = .ok (.ior, 1) := kX6_changes_45.1.2.1.2
theorem dX6_changes_54 : decode cX6_changes 54 = .ok (.istore 4, 2) := kX6_changes_45.1.2.2.1
theorem dX6_changes_56 : decode cX6_changes 56 = .ok (.iload 6, 2) := kX6_changes_45.1.2.2.2
theorem dX6_changes_58 : decode cX6_changes 58 = .ok (.ifCond .eq 19, 3) := kX6_changes_45.2.1.1.1
theorem dX6_changes_61 : decode cX6_changes 61 = .ok (.aload_n 0, 1) := kX6_changes_45.2.1.1.2
theorem dX6_changes_62 : decode cX6_changes 62 = .ok (.getfield 28, 3) := kX6_changes_45.2.1.2.1
theorem dX6_changes_65 : decode cX6_changes 65 = .ok (.iload 7, 2) := kX6_changes_45.2.1.2.2
theorem dX6_changes_67 : decode cX6_changes 67 = .ok (.iaload, 1) := kX6_changes_45.2.2.1.1
theorem dX6_changes_68 : decode cX6_changes 68 = .ok (.iload 7, 2) := kX6_changes_45.2.2.1.2
theorem dX6_changes_70 : decode cX6_changes 70 = .ok (.if_icmp .eq 7, 3) := kX6_changes_45.2.2.2.1
theorem dX6_changes_73 : decode cX6_changes 73 = .ok (.iconst 1, 1) := kX6_changes_45.2.2.2.2
theorem kX6_changes_74 : (((((decode cX6_changes 74 = .ok (.goto 4, 3)) ∧ (decode cX6_changes 77 = .ok (.iconst 0, 1))) ∧ ((decode cX6_changes 78 = .ok (.istore 6, 2)) ∧ (decode cX6_changes 80 = .ok (.iload 5, 2)))) ∧ (((decode cX6_changes 82 = .ok (.aload_n 0, 1)) ∧ (decode cX6_changes 83 = .ok (.getfield 28, 3))) ∧ ((decode cX6_changes 86 = .ok (.iload 7, 2)) ∧ (decode cX6_changes 88 = .ok (.iaload, 1))))) ∧ ((((decode cX6_changes 89 = .ok (.aload_n 0, 1)) ∧ (decode cX6_changes 90 = .ok (.iload 7, 2))) ∧ ((decode cX6_changes 92 = .ok (.invokevirtual 62, 3)) ∧ (decode cX6_changes 95 = .ok (.if_icmp .ne 7, 3)))) ∧ (((decode cX6_changes 98 = .ok (.iconst 0, 1)) ∧ (decode cX6_changes 99 = .ok (.goto 4, 3))) ∧ ((decode cX6_changes 102 = .ok (.iconst 1, 1)) ∧ (decode cX6_changes 103 = .ok (.iadd, 1)))))) := by decide +kernel
theorem dX6_changes_74 : decode cX6_changes 74 = .ok (.goto 4, 3) := kX6_changes_74.1.1.1.1
theorem dX6_changes_77 : decode cX6_changes 77 = .ok (.iconst 0, 1) := kX6_changes_74.1.1.1.2
theorem dX6_changes_78 : decode cX6_changes 78 = .ok (.istore 6, 2) := kX6_changes_74.1.1.2.1
theorem dX6_changes_80 : decode cX6_changes 80 = .ok (.iload 5, 2) := kX6_changes_74.1.1.2.2
theorem dX6_changes_82 : decode cX6_changes 82 = .ok (.aload_n 0, 1) := kX6_changes_74.1.2.1.1
theorem dX6_changes_83 : decode cX6_changes 83 = .ok (.getfield 28, 3) := kX6_changes_74.1.2.1.2
theorem dX6_changes_86 : decode cX6_changes 86 = .ok (.iload 7, 2) := kX6_changes_74.1.2.2.1
theorem dX6_changes_88 : decode cX6_changes 88 = .ok (.iaload, 1) := kX6_changes_74.1.2.2.2
theorem dX6_changes_89 : decode cX6_changes 89 = .ok (.aload_n 0, 1) := kX6_changes_74.2.1.1.1
theorem dX6_changes_90 : decode cX6_changes 90 = .ok (.iload 7, 2) := kX6_changes_74.2.1.1.2
theorem dX6_changes_92 : decode cX6_changes 92 = .ok (.invokevirtual 62, 3) := kX6_changes_74.2.1.2.1
theorem dX6_changes_95 : decode cX6_changes 95 = .ok (.if_icmp .ne 7, 3) := kX6_changes_74.2.1.2.2
theorem dX6_changes_98 : decode cX6_changes 98 = .ok (.iconst 0, 1) := kX6_changes_74.2.2.1.1
theorem dX6_changes_99 : decode cX6_changes 99 = .ok (.goto 4, 3) := kX6_changes_74.2.2.1.2
theorem dX6_changes_102 : decode cX6_changes 102 = .ok (.iconst 1, 1) := kX6_changes_74.2.2.2.1
theorem dX6_changes_103 : decode cX6_changes 103 = .ok (.iadd, 1) := kX6_changes_74.2.2.2.2
theorem kX6_changes_104 : (((((decode cX6_changes 104 = .ok (.istore 5, 2)) ∧ (decode cX6_changes 106 = .ok (.iinc 7 (-1), 3))) ∧ ((decode cX6_changes 109 = .ok (.goto (-86), 3)) ∧ (decode cX6_changes 112 = .ok (.iload 6, 2)))) ∧ (((decode cX6_changes 114 = .ok (.ifCond .eq 18, 3)) ∧ (decode cX6_changes 117 = .ok (.iload 4, 2))) ∧ ((decode cX6_changes 119 = .ok (.iconst 1, 1)) ∧ (decode cX6_changes 120 = .ok (.iload_n 2, 1))))) ∧ ((((decode cX6_changes 121 = .ok (.ishl, 1)) ∧ (decode cX6_changes 122 = .ok (.iconst 1, 1))) ∧ ((decode cX6_changes 123 = .ok (.isub, 1)) ∧ (decode cX6_changes 124 = .ok (.if_icmp .ne 8, 3)))) ∧ (((decode cX6_changes 127 = .ok (.iload 5, 2)) ∧ (decode cX6_changes 129 = .ok (.goto 4, 3))) ∧ ((decode cX6_changes 132 = .ok (.iconst (-1), 1)) ∧ (decode cX6_changes 133 = .ok (.ireturn, 1)))))) := by decide +kernel
theorem dX6_changes_104 : decode cX6_changes 104 = .ok (.istore 5, 2) := kX6_changes_104.1.1.1.1
theorem dX6_changes_106 : decode cX6_changes 106 = .ok (.iinc 7 (-1), 3) := kX6_changes_104.1.1.1.2
theorem dX6_changes_109 : decode cX6_changes 109 = .ok (.goto (-86), 3) := kX6_changes_104.1.1.2.1
theorem dX6_changes_112 : decode cX6_changes 112 = .ok (.iload 6, 2) := kX6_changes_104.1.1.2.2
theorem dX6_changes_114 : decode cX6_changes 114 = .ok (.ifCond .eq 18, 3) := kX6_changes_104.1.2.1.1
theorem dX6_changes_117 : decode cX6_changes 117 = .ok (.iload 4, 2) := kX6_changes_104.1.2.1.2
theorem dX6_changes_119 : decode cX6_changes 119 = .ok (.iconst 1, 1) := kX6_changes_104.1.2.2.1
theorem dX6_changes_120 : decode cX6_changes 120 = .ok (.iload_n 2, 1) := kX6_changes_104.1.2.2.2
theorem dX6_changes_121 : decode cX6_changes 121 = .ok (.ishl, 1) := kX6_changes_104.2.1.1.1
theorem dX6_changes_122 : decode cX6_changes 122 = .ok (.iconst 1, 1) := kX6_changes_104.2.1.1.2
theorem dX6_changes_123 : decode cX6_changes 123 = .ok (.isub, 1) := kX6_changes_104.2.1.2.1
theorem dX6_changes_124 : decode cX6_changes 124 = .ok (.if_icmp .ne 8, 3) := kX6_changes_104.2.1.2.2
theorem dX6_changes_127 : decode cX6_changes 127 = .ok (.iload 5, 2) := kX6_changes_104.2.2.1.1
theorem dX6_changes_129 : decode cX6_changes 129 = .ok (.goto 4, 3) := kX6_changes_104.2.2.1.2
theorem dX6_changes_132 : decode cX6_changes 132 = .ok (.iconst (-1), 1) := kX6_changes_104.2.2.2.1
theorem dX6_changes_133 : decode cX6_changes 133 = .ok (.ireturn, 1) := kX6_changes_104.2.2.2.2
set_option maxRecDepth 20000 in
theorem ggX6_match_X6_in : GoodIn wsX6_match wsX6_in := goodIn_r _ [8] rfl (by decide +kernel)
set_option maxRecDepth 20000 in
theorem gX6_match_X6_in : GoodIn wsX6_match (va_wsS RX6 50 yX6_in wsX6_in) := goodIn_app (goodIn_of _ (by decide +kernel)) ggX6_match_X6_in
set_option maxRecDepth 20000 in
theorem ggX6_match_X6_changes : GoodIn wsX6_match wsX6_changes := goodIn_r _ [12, 2, 4, 13, 14, 15, 7, 16, 17, 18, 19, 20, 21, 22, 23, 24, 25, 26, 27, 28, 29, 30, 31, 32, 33, 34, 35, 36, 37, 38, 39] rfl (by decide +kernel)
set_option maxRecDepth 20000 in
theorem gX6_match_X6_changes : GoodIn wsX6_match (wsV RX6 197 RX6 yX6_changes wsX6_changes) := goodIn_app (goodIn_of _ (by decide +kernel)) ggX6_match_X6_changes
theorem kX6_match_0 : (((((decode cX6_match 0 = .ok (.iload_n 1, 1)) ∧ (decode cX6_match 1 = .ok (.i2l, 1))) ∧ ((decode cX6_match 2 = .ok (.ldc2_w 195, 3)) ∧ (decode cX6_match 5 = .ok (.aload_n 0, 1)))) ∧ (((decode cX6_match 6 = .ok (.getfield 7, 3)) ∧ (decode cX6_match 9 = .ok (.iconst 0, 1))) ∧ ((decode cX6_match 10 = .ok (.iaload, 1)) ∧ (decode cX6_match 11 = .ok (.iconst 1, 1))))) ∧ ((((decode cX6_match 12 = .ok (.isub, 1)) ∧ (decode cX6_match 13 = .ok (.i2l, 1))) ∧ ((decode cX6_match 14 = .ok (.invokestatic 50, 3)) ∧ (decode cX6_match 17 = .ok (.ifCond .ne 5, 3)))) ∧ (((decode cX6_match 20 = .ok (.iconst (-1), 1)) ∧ (decode cX6_match 21 = .ok (.ireturn, 1))) ∧ ((decode cX6_match 22 = .ok (.aload_n 0, 1)) ∧ (decode cX6_match 23 = .ok (.getfield 7, 3)))))) := by decide +kernel
theorem dX6_match_0 : decode cX6_match 0 = .ok (.iload_n 1, 1) := kX6_match_0.1.1.1.1
theorem dX6_match_1 : decode cX6_match 1 = .ok (.i2l, 1) := kX6_match_0.1.1.1.2
theorem dX6_match_2 : decode cX6_match 2 = .ok (.ldc2_w 195, 3) := kX6_match_0.1.1.2.1
theorem dX6_match_5 : decode cX6_match 5 = .ok (.aload_n 0, 1) := kX6_match_0.1.1.2.2
theorem dX6_match_6 : decode cX6_match 6 = .ok (.getfield 7, 3) := kX6_match_0.1.2.1.1
theorem dX6_match_9 : decode cX6_match 9 = .ok (.iconst 0, 1) := kX6_match_0.1.2.1.2
theorem dX6_match_10 : decode cX6_match 10 = .ok (.iaload, 1) := kX6_match_0.1.2.2.1
theorem dX6_match_11 : decode cX6_match 11 = .ok (.iconst 1, 1) := kX6_match_0.1.2.2.2
theorem dX6_match_12 : decode cX6_match 12 = .ok (.isub, 1) := kX6_match_0.2.1.1.1
theorem dX6_match_13 : decode cX6_match 13 = .ok (.i2l, 1) := kX6_match_0.2.1.1.2
theorem dX6_match_14 : decode cX6_match 14 = .ok (.invokestatic 50, 3) := kX6_match_0.2.1.2.1
theorem dX6_match_17 : decode cX6_match 17 = .ok (.ifCond .ne 5, 3) := kX6_match_0.2.1.2.2
theorem dX6_match_20 : decode cX6_match 20 = .ok (.iconst (-1), 1) := kX6_match_0.2.2.1.1
theorem dX6_match_21 : decode cX6_match 21 = .ok (.ireturn, 1) := kX6_match_0.2.2.1.2
theorem dX6_match_22 : decode cX6_match 22 = .ok (.aload_n 0, 1) := kX6_match_0.2.2.2.1
theorem dX6_match_23 : decode cX6_match 23 = .ok (.getfield 7, 3) := kX6_match_0.2.2.2.2
theorem kX6_match_26 : (((((decode cX6_match 26 = .ok (.iconst 0, 1)) ∧ (decode cX6_match 27 = .ok (.iaload, 1))) ∧ ((decode cX6_match 28 = .ok (.iconst 2, 1)) ∧ (decode cX6_match 29 = .ok (.if_icmp .ge 6, 3)))) ∧ (((decode cX6_match 32 = .ok (.bipush (-4), 2)) ∧ (decode cX6_match 34 = .ok (.ireturn, 1))) ∧ ((decode cX6_match 35 = .ok (.iconst 1, 1)) ∧ (decode cX6_match 36 = .ok (.istore_n 2, 1))))) ∧ ((((decode cX6_match 37 = .ok (.iconst 0, 1)) ∧ (decode cX6_match 38 = .ok (.istore_n 3, 1))) ∧ ((decode cX6_match 39 = .ok (.iload_n 3, 1)) ∧ (decode cX6_match 40 = .ok (.aload_n 0, 1)))) ∧ (((decode cX6_match 41 = .ok (.getfield 7, 3)) ∧ (decode cX6_match 44 = .ok (.iconst 0, 1))) ∧ ((decode cX6_match 45 = .ok (.iaload, 1)) ∧ (decode cX6_match 46 = .ok (.if_icmp .ge 18, 3)))))) := by decide +kernel
theorem dX6_match_26 : decode cX6_match 26 = .ok (.iconst 0, 1) := kX6_match_26.1.1.1.1
theorem dX6_match_27 : decode cX6_match 27 = .ok (.iaload, 1) := kX6_match_26.1.1.1.2
theorem dX6_match_28 : decode cX6_match 28 = .ok (.iconst 2, 1) := kX6_match_26.1.1.2.1
theorem dX6_match_29 : decode cX6_match 29 = .ok (.if_icmp .ge 6, 3) := kX6_match_26.1.1.2.2
theorem dX6_match_32 : decode cX6_match 32 = .ok (.bipush (-4), 2) := kX6_match_26.1.2.1.1
theorem dX6_match_34 : decode cX6_match 34 = .ok (.ireturn, 1) := kX6_match_26.1.2.1.2
theorem dX6_match_35 : decode cX6_match 35 = .ok (.iconst 1, 1) := kX6_match_26.1.2.2.1
theorem dX6_match_36 : decode cX6_match 36 = .ok (.istore_n 2, 1) := kX6_match_26.1.2.2.2
theorem dX6_match_37 : decode cX6_match 37 = .ok (.iconst 0, 1) := kX6_match_26.2.1.1.1
theorem dX6_match_38 : decode cX6_match 38 = .ok (.istore_n 3, 1) := kX6_match_26.2.1.1.2
theorem dX6_match_39 : decode cX6_match 39 = .ok (.iload_n 3, 1) := kX6_match_26.2.1.2.1
theorem dX6_match_40 : decode cX6_match 40 = .ok (.aload_n 0, 1) := kX6_match_26.2.1.2.2
theorem dX6_match_41 : decode cX6_match 41 = .ok (.getfield 7, 3) := kX6_match_26.2.2.1.1
theorem dX6_match_44 : decode cX6_match 44 = .ok (.iconst 0, 1) := kX6_match_26.2.2.1.2
theorem dX6_match_45 : decode cX6_match 45 = .ok (.iaload, 1) := kX6_match_26.2.2.2.1
theorem dX6_match_46 : decode cX6_match 46 = .ok (.if_icmp .ge 18, 3) := kX6_match_26.2.2.2.2
theorem kX6_match_49 : (((((decode cX6_match 49 = .ok (.iload_n 2, 1)) ∧ (decode cX6_match 50 = .ok (.aload_n 0, 1))) ∧ ((decode cX6_match 51 = .ok (.getfield 7, 3)) ∧ (decode cX6_match 54 = .ok (.iconst 0, 1)))) ∧ (((decode cX6_match 55 = .ok (.iaload, 1)) ∧ (decode cX6_match 56 = .ok (.imul, 1))) ∧ ((decode cX6_match 57 = .ok (.istore_n 2, 1)) ∧ (decode cX6_match 58 = .ok (.iinc 3 1, 3))))) ∧ ((((decode cX6_match 61 = .ok (.goto (-22), 3)) ∧ (decode cX6_match 64 = .ok (.bipush 99, 2))) ∧ ((decode cX6_match 66 = .ok (.istore_n 3, 1)) ∧ (decode cX6_match 67 = .ok (.iconst 0, 1)))) ∧ (((decode cX6_match 68 = .ok (.istore 4, 2)) ∧ (decode cX6_match 70 = .ok (.iload 4, 2))) ∧ ((decode cX6_match 72 = .ok (.iload_n 2, 1)) ∧ (decode cX6_match 73 = .ok (.if_icmp .ge 61, 3)))))) := by decide +kernel
theorem dX6_match_49 : decode cX6_match 49 = .ok (.iload_n 2, 1) := kX6_match_49.1.1.1.1
theorem dX6_match_50 : decode cX6_match 50 = .ok (.aload_n 0, 1) := kX6_match_49.1.1.1.2
theorem dX6_match_51 : decode cX6_match 51 = .ok (.getfield 7, 3) := kX6_match_49.1.1.2.1
theorem dX6_match_54 : decode cX6_match 54 = .ok (.iconst 0, 1) := kX6_match_49.1.1.2.2
theorem dX6_match_55 : decode cX6_match 55 = .ok (.iaload, 1) := kX6_match_49.1.2.1.1
theorem dX6_match_56 : decode cX6_match 56 = .ok (.imul, 1) := kX6_match_49.1.2.1.2
theorem dX6_match_57 : decode cX6_match 57 = .ok (.istore_n 2, 1) := kX6_match_49.1.2.2.1
theorem dX6_match_58 : decode cX6_match 58 = .ok (.iinc 3 1, 3) := kX6_match_49.1.2.2.2
theorem dX6_match_61 : decode cX6_match 61 = .ok (.goto (-22), 3) := kX6_match_49.2.1.1.1
theorem dX6_match_64 : decode cX6_match 64 = .ok (.bipush 99, 2) := kX6_match_49.2.1.1.2
theorem dX6_match_66 : decode cX6_match 66 = .ok (.istore_n 3, 1) := kX6_match_49.2.1.2.1
theorem dX6_match_67 : decode cX6_match 67 = .ok (.iconst 0, 1) := kX6_match_49.2.1.2.2
theorem dX6_match_68 : decode cX6_match 68 = .ok (.istore 4, 2) := kX6_match_49.2.2.1.1
theorem dX6_match_70 : decode cX6_match 70 = .ok (.iload 4, 2) := kX6_match_49.2.2.1.2
theorem dX6_match_72 : decode cX6_match 72 = .ok (.iload_n 2, 1) := kX6_match_49.2.2.2.1
theorem dX6_match_73 : decode cX6_match 73 = .ok (.if_icmp .ge 61, 3) := kX6_match_49.2.2.2.2
theorem kX6_match_76 : (((((decode cX6_match 76 = .ok (.aload_n 0, 1)) ∧ (decode cX6_match 77 = .ok (.iload 4, 2))) ∧ ((decode cX6_match 79 = .ok (.invokevirtual 197, 3)) ∧ (decode cX6_match 82 = .ok (.istore 5, 2)))) ∧ (((decode cX6_match 84 = .ok (.iload 5, 2)) ∧ (decode cX6_match 86 = .ok (.ifCond .lt 42, 3))) ∧ ((decode cX6_match 89 = .ok (.iload 5, 2)) ∧ (decode cX6_match 91 = .ok (.iload_n 3, 1))))) ∧ ((((decode cX6_match 92 = .ok (.if_icmp .ge 36, 3)) ∧ (decode cX6_match 95 = .ok (.iload 5, 2))) ∧ ((decode cX6_match 97 = .ok (.istore_n 3, 1)) ∧ (decode cX6_match 98 = .ok (.iconst 0, 1)))) ∧ (((decode cX6_match 99 = .ok (.istore 6, 2)) ∧ (decode cX6_match 101 = .ok (.iload 6, 2))) ∧ ((decode cX6_match 103 = .ok (.bipush 6, 2)) ∧ (decode cX6_match 105 = .ok (.if_icmp .ge 23, 3)))))) := by decide +kernel
theorem dX6_match_76 : decode cX6_match 76 = .ok (.aload_n 0, 1) := kX6_match_76.1.1.1.1
theorem dX6_match_77 : decode cX6_match 77 = .ok (.iload 4, 2) := kX6_match_76.1.1.1.2
theorem dX6_match_79 : decode cX6_match 79 = .ok (.invokevirtual 197, 3) := kX6_match_76.1.1.2.1
theorem dX6_match_82 : decode cX6_match 82 = .ok (.istore 5, 2) := kX6_match_76.1.1.2.2
theorem dX6_match_84 : decode cX6_match 84 = .ok (.iload 5, 2) := kX6_match_76.1.2.1.1
theorem dX6_match_86 : decode cX6_match 86 = .ok (.ifCond .lt 42, 3) := kX6_match_76.1.2.1.2
theorem dX6_match_89 : decode cX6_match 89 = .ok (.iload 5, 2) := kX6_match_76.1.2.2.1
theorem dX6_match_91 : decode cX6_match 91 = .ok (.iload_n 3, 1) := kX6_match_76.1.2.2.2
theorem dX6_match_92 : decode cX6_match 92 = .ok (.if_icmp .ge 36, 3) := kX6_match_76.2.1.1.1
theorem dX6_match_95 : decode cX6_match 95 = .ok (.iload 5, 2) := kX6_match_76.2.1.1.2
theorem dX6_match_97 : decode cX6_match 97 = .ok (.istore_n 3, 1) := kX6_match_76.2.1.2.1
theorem dX6_match_98 : decode cX6_match 98 = .ok (.iconst 0, 1) := kX6_match_76.2.1.2.2
theorem dX6_match_99 : decode cX6_match 99 = .ok (.istore 6, 2) := kX6_match_76.2.2.1.1
theorem dX6_match_101 : decode cX6_match 101 = .ok (.iload 6, 2) := kX6_match_76.2.2.1.2
theorem dX6_match_103 : decode cX6_match 103 = .ok (.bipush 6, 2) := kX6_match_76.2.2.2.1
theorem dX6_match_105 : decode cX6_match 105 = .ok (.if_icmp .ge 23, 3) := kX6_match_76.2.2.2.2
theorem kX6_match_108 : (((((decode cX6_match 108 = .ok (.aload_n 0, 1)) ∧ (decode cX6_match 109 = .ok (.getfield 31, 3))) ∧ ((decode cX6_match 112 = .ok (.iload 6, 2)) ∧ (decode cX6_match 114 = .ok (.aload_n 0, 1)))) ∧ (((decode cX6_match 115 = .ok (.getfield 28, 3)) ∧ (decode cX6_match 118 = .ok (.iload 6, 2))) ∧ ((decode cX6_match 120 = .ok (.iaload, 1)) ∧ (decode cX6_match 121 = .ok (.iastore, 1))))) ∧ ((((decode cX6_match 122 = .ok (.iinc 6 1, 3)) ∧ (decode cX6_match 125 = .ok (.goto (-24), 3))) ∧ ((decode cX6_match 128 = .ok (.iinc 4 1, 3)) ∧ (decode cX6_match 131 = .ok (.goto (-61), 3)))) ∧ (((decode cX6_match 134 = .ok (.iload_n 1, 1)) ∧ (decode cX6_match 135 = .ok (.ifCond .ge 7, 3))) ∧ ((decode cX6_match 138 = .ok (.iload_n 3, 1)) ∧ (decode cX6_match 139 = .ok (.goto 9, 3)))))) := by decide +kernel
theorem dX6_match_108 : decode cX6_match 108 = .ok (.aload_n 0, 1) := kX6_match_108.1.1.1.1
theorem dX6_match_109 : decode cX6_match 109 = .ok (.getfield 31, 3) := kX6_match_108.1.1.1.2
theorem dX6_match_112 : decode cX6_match 112 = .ok (.iload 6, 2) := kX6_match_108.1.1.2.1
theorem dX6_match_114 : decode cX6_match 114 = .ok (.aload_n 0, 1) := kX6_match_108.1.1.2.2
theorem dX6_match_115 : decode cX6_match 115 = .ok (.getfield 28, 3) := kX6_match_108.1.2.1.1
theorem dX6_match_118 : decode cX6_match 118 = .ok (.iload 6, 2) := kX6_match_108.1.2.1.2
theorem dX6_match_120 : decode cX6_match 120 = .ok (.iaload, 1) := kX6_match_108.1.2.2.1
theorem dX6_match_121 : decode cX6_match 121 = .ok (.iastore, 1) := kX6_match_108.1.2.2.2
theorem dX6_match_122 : decode cX6_match 122 = .ok (.iinc 6 1, 3) := kX6_match_108.2.1.1.1
theorem dX6_match_125 : decode cX6_match 125 = .ok (.goto (-24), 3) := kX6_match_108.2.1.1.2
theorem dX6_match_128 : decode cX6_match 128 = .ok (.iinc 4 1, 3) := kX6_match_108.2.1.2.1
theorem dX6_match_131 : decode cX6_match 131 = .ok (.goto (-61), 3) := kX6_match_108.2.1.2.2
theorem dX6_match_134 : decode cX6_match 134 = .ok (.iload_n 1, 1) := kX6_match_108.2.2.1.1
theorem dX6_match_135 : decode cX6_match 135 = .ok (.ifCond .ge 7, 3) := kX6_match_108.2.2.1.2
theorem dX6_match_138 : decode cX6_match 138 = .ok (.iload_n 3, 1) := kX6_match_108.2.2.2.1
theorem dX6_match_139 : decode cX6_match 139 = .ok (.goto 9, 3) := kX6_match_108.2.2.2.2
theorem kX6_match_142 : ((((decode cX6_match 142 = .ok (.aload_n 0, 1)) ∧ (decode cX6_match 143 = .ok (.getfield 31, 3))) ∧ (decode cX6_match 146 = .ok (.iload_n 1, 1))) ∧ ((decode cX6_match 147 = .ok (.iaload, 1)) ∧ (decode cX6_match 148 = .ok (.ireturn, 1)))) := by decide +kernel
theorem dX6_match_142 : decode cX6_match 142 = .ok (.aload_n 0, 1) := kX6_match_142.1.1.1
theorem dX6_match_143 : decode cX6_match 143 = .ok (.getfield 31, 3) := kX6_match_142.1.1.2
theorem dX6_match_146 : decode cX6_match 146 = .ok (.iload_n 1, 1) := kX6_match_142.1.2
theorem dX6_match_147 : decode cX6_match 147 = .ok (.iaload, 1) := kX6_match_142.2.1
theorem dX6_match_148 : decode cX6_match 148 = .ok (.ireturn, 1) := kX6_match_142.2.2
set_option maxRecDepth 20000 in
theorem ggX6_isAsAside_X6_turns : GoodIn wsX6_isAsAside wsX6_turns := goodIn_r _ [7, 8, 9, 10, 6, 11, 1, 12, 13, 14, 15, 16, 17, 18, 19, 20, 21, 22, 23, 24, 25, 26, 27, 28, 29, 30] rfl (by decide +kernel)
set_option maxRecDepth 20000 in
theorem gX6_isAsAside_X6_turns : GoodIn wsX6_isAsAside (wsV RX6 58 RX6 yX6_turns wsX6_turns) := goodIn_app (goodIn_of _ (by decide +kernel)) ggX6_isAsAside_X6_turns
theorem kX6_isAsAside_0 : (((((decode cX6_isAsAside 0 = .ok (.iconst 1, 1)) ∧ (decode cX6_isAsAside 1 = .ok (.istore_n 1, 1))) ∧ ((decode cX6_isAsAside 2 = .ok (.iconst 0, 1)) ∧ (decode cX6_isAsAside 3 = .ok (.istore_n 2, 1)))) ∧ (((decode cX6_isAsAside 4 = .ok (.iload_n 2, 1)) ∧ (decode cX6_isAsAside 5 = .ok (.aload_n 0, 1))) ∧ ((decode cX6_isAsAside 6 = .ok (.getfield 7, 3)) ∧ (decode cX6_isAsAside 9 = .ok (.iconst 0, 1))))) ∧ ((((decode cX6_isAsAside 10 = .ok (.iaload, 1)) ∧ (decode cX6_isAsAside 11 = .ok (.if_icmp .ge 39, 3))) ∧ ((decode cX6_isAsAside 14 = .ok (.iload_n 1, 1)) ∧ (decode cX6_isAsAside 15 = .ok (.ifCond .eq 27, 3)))) ∧ (((decode cX6_isAsAside 18 = .ok (.aload_n 0, 1)) ∧ (decode cX6_isAsAside 19 = .ok (.iload_n 2, 1))) ∧ ((decode cX6_isAsAside 20 = .ok (.invokevirtual 58, 3)) ∧ (decode cX6_isAsAside 23 = .ok (.aload_n 0, 1)))))) := by decide +kernel
theorem dX6_isAsAside_0 : decode cX6_isAsAside 0 = .ok (.iconst 1, 1) := kX6_isAsAside_0.1.1.1.1
theorem dX6_isAsAside_1 : decode cX6_isAsAside 1 = .ok (.istore_n 1, 1) := kX6_isAsAside_0.1.1.1.2
theorem dX6_isAsAside_2 : decode cX6_isAsAside 2 = .ok (.iconst 0, 1) := kX6_isAsAside_0.1.1.2.1
theorem dX6_isAsAside_3 : decode cX6_isAsAside 3 = .ok (.istore_n 2, 1) := kX6_isAsAside_0.1.1.2.2
theorem dX6_isAsAside_4 : decode cX6_isAsAside 4 = .ok (.iload_n 2, 1) := kX6_isAsAside_0.1.2.1.1
theorem dX6_isAsAside_5 : decode cX6_isAsAside 5 = .ok (.aload_n 0, 1) := kX6_isAsAside_0.1.2.1.2
theorem dX6_isAsAside_6 : decode cX6_isAsAside 6 = .ok (.getfield 7, 3) := kX6_isAsAside_0.1.2.2.1
theorem dX6_isAsAside_9 : decode cX6_isAsAside 9 = .ok (.iconst 0, 1) := kX6_isAsAside_0.1.2.2.2
theorem dX6_isAsAside_10 : decode cX6_isAsAside 10 = .ok (.iaload, 1) := kX6_isAsAside_0.2.1.1.1
theorem dX6_isAsAside_11 : decode cX6_isAsAside 11 = .ok (.if_icmp .ge 39, 3) := kX6_isAsAside_0.2.1.1.2
theorem dX6_isAsAside_14 : decode cX6_isAsAside 14 = .ok (.iload_n 1, 1) := kX6_isAsAside_0.2.1.2.1
theorem dX6_isAsAside_15 : decode cX6_isAsAside 15 = .ok (.ifCond .eq 27, 3) := kX6_isAsAside_0.2.1.2.2
theorem dX6_isAsAside_18 : decode cX6_isAsAside 18 = .ok (.aload_n 0, 1) := kX6_isAsAside_0.2.2.1.1
theorem dX6_isAsAside_19 : decode cX6_isAsAside 19 = .ok (.iload_n 2, 1) := kX6_isAsAside_0.2.2.1.2
theorem dX6_isAsAside_20 : decode cX6_isAsAside 20 = .ok (.invokevirtual 58, 3) := kX6_isAsAside_0.2.2.2.1
theorem dX6_isAsAside_23 : decode cX6_isAsAside 23 = .ok (.aload_n 0, 1) := kX6_isAsAside_0.2.2.2.2
theorem kX6_isAsAside_24 : (((((decode cX6_isAsAside 24 = .ok (.getfield 25, 3)) ∧ (decode cX6_isAsAside 27 = .ok (.iconst 3, 1))) ∧ ((decode cX6_isAsAside 28 = .ok (.iconst 4, 1)) ∧ (decode cX6_isAsAside 29 = .ok (.iload_n 2, 1)))) ∧ (((decode cX6_isAsAside 30 = .ok (.imul, 1)) ∧ (decode cX6_isAsAside 31 = .ok (.iadd, 1))) ∧ ((decode cX6_isAsAside 32 = .ok (.iconst 1, 1)) ∧ (decode cX6_isAsAside 33 = .ok (.iadd, 1))))) ∧ ((((decode cX6_isAsAside 34 = .ok (.iaload, 1)) ∧ (decode cX6_isAsAside 35 = .ok (.if_icmp .ne 7, 3))) ∧ ((decode cX6_isAsAside 38 = .ok (.iconst 1, 1)) ∧ (decode cX6_isAsAside 39 = .ok (.goto 4, 3)))) ∧ (((decode cX6_isAsAside 42 = .ok (.iconst 0, 1)) ∧ (decode cX6_isAsAside 43 = .ok (.istore_n 1, 1))) ∧ ((decode cX6_isAsAside 44 = .ok (.iinc 2 1, 3)) ∧ (decode cX6_isAsAside 47 = .ok (.goto (-43), 3)))))) := by decide +kernel
theorem dX6_isAsAside_24 : decode cX6_isAsAside 24 = .ok (.getfield 25, 3) := kX6_isAsAside_24.1.1.1.1
theorem dX6_isAsAside_27 : decode cX6_isAsAside 27 = .ok (.iconst 3, 1) := kX6_isAsAside_24.1.1.1.2
theorem dX6_isAsAside_28 : decode cX6_isAsAside 28 = .ok (.iconst 4, 1) := kX6_isAsAside_24.1.1.2.1
theorem dX6_isAsAside_29 : decode cX6_isAsAside 29 = .ok (.iload_n 2, 1) := kX6_isAsAside_24.1.1.2.2
theorem dX6_isAsAside_30 : decode cX6_isAsAside 30 = .ok (.imul, 1) := kX6_isAsAside_24.1.2.1.1
theorem dX6_isAsAside_31 : decode cX6_isAsAside 31 = .ok (.iadd, 1) := kX6_isAsAside_24.1.2.1.2
theorem dX6_isAsAside_32 : decode cX6_isAsAside 32 = .ok (.iconst 1, 1) := kX6_isAsAside_24.1.2.2.1
theorem dX6_isAsAside_33 : decode cX6_isAsAside 33 = .ok (.iadd, 1) := kX6_isAsAside_24.1.2.2.2
theorem dX6_isAsAside_34 : decode cX6_isAsAside 34 = .ok (.iaload, 1) := kX6_isAsAside_24.2.1.1.1
theorem dX6_isAsAside_35 : decode cX6_isAsAside 35 = .ok (.if_icmp .ne 7, 3) := kX6_isAsAside_24.2.1.1.2
theorem dX6_isAsAside_38 : decode cX6_isAsAside 38 = .ok (.iconst 1, 1) := kX6_isAsAside_24.2.1.2.1
theorem dX6_isAsAside_39 : decode cX6_isAsAside 39 = .ok (.goto 4, 3) := kX6_isAsAside_24.2.1.2.2
theorem dX6_isAsAside_42 : decode cX6_isAsAside 42 = .ok (.iconst 0, 1) := kX6_isAsAside_24.2.2.1.1
theorem dX6_isAsAside_43 : decode cX6_isAsAside 43 = .ok (.istore_n 1, 1) := kX6_isAsAside_24.2.2.1.2
theorem dX6_isAsAside_44 : decode cX6_isAsAside 44 = .ok (.iinc 2 1, 3) := kX6_isAsAside_24.2.2.2.1
theorem dX6_isAsAside_47 : decode cX6_isAsAside 47 = .ok (.goto (-43), 3) := kX6_isAsAside_24.2.2.2.2
theorem kX6_isAsAside_50 : ((decode cX6_isAsAside 50 = .ok (.iload_n 1, 1)) ∧ (decode cX6_isAsAside 51 = .ok (.ireturn, 1))) := by decide +kernel
theorem dX6_isAsAside_50 : decode cX6_isAsAside 50 = .ok (.iload_n 1, 1) := kX6_isAsAside_50.1
theorem dX6_isAsAside_51 : decode cX6_isAsAside 51 = .ok (.ireturn, 1) := kX6_isAsAside_50.2
set_option maxRecDepth 20000 in
theorem ggX6_again_X6_asides : GoodIn wsX6_again wsX6_asides := goodIn_r _ [5, 6, 7, 61, 62, 63, 64, 65, 66, 67, 68, 69, 70, 71, 72, 73, 74, 75, 76, 77, 78, 79] rfl (by decide +kernel)
set_option maxRecDepth 20000 in
theorem gX6_again_X6_asides : GoodIn wsX6_again (wsV RX6 175 RX6 yX6_asides wsX6_asides) := goodIn_app (goodIn_of _ (by decide +kernel)) ggX6_again_X6_asides
set_option maxRecDepth 20000 in
theorem ggX6_again_X6_goesOn : GoodIn wsX6_again wsX6_goesOn := goodIn_r _ [11, 12, 13, 14, 4, 15, 7, 16, 17, 18, 19, 20, 21, 22, 23, 24, 25, 26, 27, 28, 29, 30, 31, 32, 33, 34, 35, 36, 37, 38, 39, 40, 41, 42, 43, 44, 45, 46, 47, 48, 49, 50, 51, 52, 61, 62, 63, 64, 65, 66, 67, 68, 69, 70, 71, 72, 73, 74, 75, 76, 77, 78, 79] rfl (by decide +kernel)
set_option maxRecDepth 20000 in
theorem gX6_again_X6_goesOn : GoodIn wsX6_again (wsV RX6 178 RX6 yX6_goesOn wsX6_goesOn) := goodIn_app (goodIn_of _ (by decide +kernel)) ggX6_again_X6_goesOn
set_option maxRecDepth 20000 in
theorem ggX6_again_X6_isAsAside : GoodIn wsX6_again wsX6_isAsAside := goodIn_r _ [56, 7, 6, 29, 30, 31, 4, 32, 33, 34, 35, 36, 61, 62, 63, 64, 65, 66, 67, 68, 69, 70, 71, 72, 73, 74, 75, 76, 77, 78, 79] rfl (by decide +kernel)
set_option maxRecDepth 20000 in
theorem gX6_again_X6_isAsAside : GoodIn wsX6_again (wsV RX6 200 RX6 yX6_isAsAside wsX6_isAsAside) := goodIn_app (goodIn_of _ (by decide +kernel)) ggX6_again_X6_isAsAside
set_option maxRecDepth 20000 in
theorem ggX6_again_X6_backs : GoodIn wsX6_again wsX6_backs := goodIn_r _ [60, 7, 6, 61, 62, 63, 64, 65, 66, 67, 68, 69, 70, 71, 72, 73, 74, 75, 76, 77, 78, 79] rfl (by decide +kernel)
set_option maxRecDepth 20000 in
theorem gX6_again_X6_backs : GoodIn wsX6_again (wsV RX6 181 RX6 yX6_backs wsX6_backs) := goodIn_app (goodIn_of _ (by decide +kernel)) ggX6_again_X6_backs
theorem kX6_again_0 : (((((decode cX6_again 0 = .ok (.aload_n 0, 1)) ∧ (decode cX6_again 1 = .ok (.invokevirtual 175, 3))) ∧ ((decode cX6_again 4 = .ok (.bipush (-4), 2)) ∧ (decode cX6_again 6 = .ok (.istore_n 1, 1)))) ∧ (((decode cX6_again 7 = .ok (.bipush 24, 2)) ∧ (decode cX6_again 9 = .ok (.istore_n 2, 1))) ∧ ((decode cX6_again 10 = .ok (.iload_n 2, 1)) ∧ (decode cX6_again 11 = .ok (.sipush 241, 3))))) ∧ ((((decode cX6_again 14 = .ok (.if_icmp .ge 35, 3)) ∧ (decode cX6_again 17 = .ok (.iload_n 1, 1))) ∧ ((decode cX6_again 18 = .ok (.bipush (-4), 2)) ∧ (decode cX6_again 20 = .ok (.if_icmp .ne 29, 3)))) ∧ (((decode cX6_again 23 = .ok (.aload_n 0, 1)) ∧ (decode cX6_again 24 = .ok (.bipush 24, 2))) ∧ ((decode cX6_again 26 = .ok (.invokevirtual 178, 3)) ∧ (decode cX6_again 29 = .ok (.aload_n 0, 1)))))) := by decide +kernel
theorem dX6_again_0 : decode cX6_again 0 = .ok (.aload_n 0, 1) := kX6_again_0.1.1.1.1
theorem dX6_again_1 : decode cX6_again 1 = .ok (.invokevirtual 175, 3) := kX6_again_0.1.1.1.2
theorem dX6_again_4 : decode cX6_again 4 = .ok (.bipush (-4), 2) := kX6_again_0.1.1.2.1
theorem dX6_again_6 : decode cX6_again 6 = .ok (.istore_n 1, 1) := kX6_again_0.1.1.2.2
theorem dX6_again_7 : decode cX6_again 7 = .ok (.bipush 24, 2) := kX6_again_0.1.2.1.1
theorem dX6_again_9 : decode cX6_again 9 = .ok (.istore_n 2, 1) := kX6_again_0.1.2.1.2
theorem dX6_again_10 : decode cX6_again 10 = .ok (.iload_n 2, 1) := kX6_again_0.1.2.2.1
theorem dX6_again_11 : decode cX6_again 11 = .ok (.sipush 241, 3) := kX6_again_0.1.2.2.2
theorem dX6_again_14 : decode cX6_again 14 = .ok (.if_icmp .ge 35, 3) := kX6_again_0.2.1.1.1
theorem dX6_again_17 : decode cX6_again 17 = .ok (.iload_n 1, 1) := kX6_again_0.2.1.1.2
theorem dX6_again_18 : decode cX6_again 18 = .ok (.bipush (-4), 2) := kX6_again_0.2.1.2.1
theorem dX6_again_20 : decode cX6_again 20 = .ok (.if_icmp .ne 29, 3) := kX6_again_0.2.1.2.2
theorem dX6_again_23 : decode cX6_again 23 = .ok (.aload_n 0, 1) := kX6_again_0.2.2.1.1
theorem dX6_again_24 : decode cX6_again 24 = .ok (.bipush 24, 2) := kX6_again_0.2.2.1.2
theorem dX6_again_26 : decode cX6_again 26 = .ok (.invokevirtual 178, 3) := kX6_again_0.2.2.2.1
theorem dX6_again_29 : decode cX6_again 29 = .ok (.aload_n 0, 1) := kX6_again_0.2.2.2.2
theorem kX6_again_30 : (((((decode cX6_again 30 = .ok (.invokevirtual 200, 3)) ∧ (decode cX6_again 33 = .ok (.ifCond .eq 7, 3))) ∧ (decode cX6_again 36 = .ok (.iload_n 2, 1))) ∧ (((decode cX6_again 37 = .ok (.goto 5, 3)) ∧ (decode cX6_again 40 = .ok (.bipush (-4), 2))) ∧ (decode cX6_again 42 = .ok (.istore_n 1, 1)))) ∧ ((((decode cX6_again 43 = .ok (.iinc 2 24, 3)) ∧ (decode cX6_again 46 = .ok (.goto (-36), 3))) ∧ (decode cX6_again 49 = .ok (.aload_n 0, 1))) ∧ (((decode cX6_again 50 = .ok (.invokevirtual 181, 3)) ∧ (decode cX6_again 53 = .ok (.iload_n 1, 1))) ∧ (decode cX6_again 54 = .ok (.ireturn, 1))))) := by decide +kernel
theorem dX6_again_30 : decode cX6_again 30 = .ok (.invokevirtual 200, 3) := kX6_again_30.1.1.1.1
theorem dX6_again_33 : decode cX6_again 33 = .ok (.ifCond .eq 7, 3) := kX6_again_30.1.1.1.2
theorem dX6_again_36 : decode cX6_again 36 = .ok (.iload_n 2, 1) := kX6_again_30.1.1.2
theorem dX6_again_37 : decode cX6_again 37 = .ok (.goto 5, 3) := kX6_again_30.1.2.1.1
theorem dX6_again_40 : decode cX6_again 40 = .ok (.bipush (-4), 2) := kX6_again_30.1.2.1.2
theorem dX6_again_42 : decode cX6_again 42 = .ok (.istore_n 1, 1) := kX6_again_30.1.2.2
theorem dX6_again_43 : decode cX6_again 43 = .ok (.iinc 2 24, 3) := kX6_again_30.2.1.1.1
theorem dX6_again_46 : decode cX6_again 46 = .ok (.goto (-36), 3) := kX6_again_30.2.1.1.2
theorem dX6_again_49 : decode cX6_again 49 = .ok (.aload_n 0, 1) := kX6_again_30.2.1.2
theorem dX6_again_50 : decode cX6_again 50 = .ok (.invokevirtual 181, 3) := kX6_again_30.2.2.1.1
theorem dX6_again_53 : decode cX6_again 53 = .ok (.iload_n 1, 1) := kX6_again_30.2.2.1.2
theorem dX6_again_54 : decode cX6_again 54 = .ok (.ireturn, 1) := kX6_again_30.2.2.2
set_option maxRecDepth 20000 in
theorem ggX6_forget_X6_isPerson : GoodIn wsX6_forget wsX6_isPerson := goodIn_r _ [7, 2, 8, 9, 6, 10, 61, 62, 63, 64, 65, 66, 67, 68, 69, 70, 71, 72, 73, 74, 75, 76, 77, 78, 79] rfl (by decide +kernel)
set_option maxRecDepth 20000 in
theorem gX6_forget_X6_isPerson : GoodIn wsX6_forget (wsV RX6 102 RX6 yX6_isPerson wsX6_isPerson) := goodIn_app (goodIn_of _ (by decide +kernel)) ggX6_forget_X6_isPerson
set_option maxRecDepth 20000 in
theorem ggX6_forget_X6_in : GoodIn wsX6_forget wsX6_in := goodIn_r _ [10] rfl (by decide +kernel)
set_option maxRecDepth 20000 in
theorem gX6_forget_X6_in : GoodIn wsX6_forget (va_wsS RX6 50 yX6_in wsX6_in) := goodIn_app (goodIn_of _ (by decide +kernel)) ggX6_forget_X6_in
set_option maxRecDepth 20000 in
theorem ggX6_forget_X6_isWinding : GoodIn wsX6_forget wsX6_isWinding := goodIn_r _ [14, 2, 61, 62, 63, 64, 65, 66, 67, 68, 69, 70, 71, 72, 73, 74, 75, 76, 77, 78, 79] rfl (by decide +kernel)
set_option maxRecDepth 20000 in
theorem gX6_forget_X6_isWinding : GoodIn wsX6_forget (wsV RX6 76 RX6 yX6_isWinding wsX6_isWinding) := goodIn_app (goodIn_of _ (by decide +kernel)) ggX6_forget_X6_isWinding
set_option maxRecDepth 20000 in
theorem ggX6_forget_X6_isStopped : GoodIn wsX6_forget wsX6_isStopped := goodIn_r _ [18, 19, 20, 21, 6, 22, 23, 24, 25, 26, 2, 61, 62, 63, 64, 65, 66, 67, 68, 69, 70, 71, 72, 73, 74, 75, 76, 77, 78, 79] rfl (by decide +kernel)
set_option maxRecDepth 20000 in
theorem gX6_forget_X6_isStopped : GoodIn wsX6_forget (wsV RX6 65 RX6 yX6_isStopped wsX6_isStopped) := goodIn_app (goodIn_of _ (by decide +kernel)) ggX6_forget_X6_isStopped
set_option maxRecDepth 20000 in
theorem ggX6_forget_X6_whom : GoodIn wsX6_forget wsX6_whom := goodIn_r _ [30, 23, 24, 25, 6, 26, 2, 61, 62, 63, 64, 65, 66, 67, 68, 69, 70, 71, 72, 73, 74, 75, 76, 77, 78, 79] rfl (by decide +kernel)
set_option maxRecDepth 20000 in
theorem gX6_forget_X6_whom : GoodIn wsX6_forget (wsV RX6 62 RX6 yX6_whom wsX6_whom) := goodIn_app (goodIn_of _ (by decide +kernel)) ggX6_forget_X6_whom
set_option maxRecDepth 20000 in
theorem ggX6_forget_X6_asides : GoodIn wsX6_forget wsX6_asides := goodIn_r _ [34, 35, 2, 61, 62, 63, 64, 65, 66, 67, 68, 69, 70, 71, 72, 73, 74, 75, 76, 77, 78, 79] rfl (by decide +kernel)
set_option maxRecDepth 20000 in
theorem gX6_forget_X6_asides : GoodIn wsX6_forget (wsV RX6 175 RX6 yX6_asides wsX6_asides) := goodIn_app (goodIn_of _ (by decide +kernel)) ggX6_forget_X6_asides
set_option maxRecDepth 20000 in
theorem ggX6_forget_X6_goesBy : GoodIn wsX6_forget wsX6_goesBy := goodIn_r _ [39, 2, 40, 11, 12, 13, 6, 14, 41, 42, 43, 44, 15, 16, 17, 18, 19, 20, 21, 22, 23, 24, 25, 26, 27, 28, 29, 30, 45, 46, 47, 48, 49, 50, 51, 52, 53, 54, 55, 56, 61, 62, 63, 64, 65, 66, 67, 68, 69, 70, 71, 72, 73, 74, 75, 76, 77, 78, 79] rfl (by decide +kernel)
set_option maxRecDepth 20000 in
theorem gX6_forget_X6_goesBy : GoodIn wsX6_forget (wsV RX6 87 RX6 yX6_goesBy wsX6_goesBy) := goodIn_app (goodIn_of _ (by decide +kernel)) ggX6_forget_X6_goesBy
set_option maxRecDepth 20000 in
theorem ggX6_forget_X6_backs : GoodIn wsX6_forget wsX6_backs := goodIn_r _ [60, 2, 35, 61, 62, 63, 64, 65, 66, 67, 68, 69, 70, 71, 72, 73, 74, 75, 76, 77, 78, 79] rfl (by decide +kernel)
set_option maxRecDepth 20000 in
theorem gX6_forget_X6_backs : GoodIn wsX6_forget (wsV RX6 181 RX6 yX6_backs wsX6_backs) := goodIn_app (goodIn_of _ (by decide +kernel)) ggX6_forget_X6_backs
theorem kX6_forget_0 : (((((decode cX6_forget 0 = .ok (.aload_n 0, 1)) ∧ (decode cX6_forget 1 = .ok (.iload_n 1, 1))) ∧ ((decode cX6_forget 2 = .ok (.invokevirtual 102, 3)) ∧ (decode cX6_forget 5 = .ok (.ifCond .eq 25, 3)))) ∧ (((decode cX6_forget 8 = .ok (.iload_n 2, 1)) ∧ (decode cX6_forget 9 = .ok (.i2l, 1))) ∧ ((decode cX6_forget 10 = .ok (.lconst 0, 1)) ∧ (decode cX6_forget 11 = .ok (.ldc2_w 203, 3))))) ∧ ((((decode cX6_forget 14 = .ok (.invokestatic 50, 3)) ∧ (decode cX6_forget 17 = .ok (.ifCond .eq 13, 3))) ∧ ((decode cX6_forget 20 = .ok (.iload_n 3, 1)) ∧ (decode cX6_forget 21 = .ok (.i2l, 1)))) ∧ (((decode cX6_forget 22 = .ok (.lconst 0, 1)) ∧ (decode cX6_forget 23 = .ok (.lconst 1, 1))) ∧ ((decode cX6_forget 24 = .ok (.invokestatic 50, 3)) ∧ (decode cX6_forget 27 = .ok (.ifCond .ne 5, 3)))))) := by decide +kernel
theorem dX6_forget_0 : decode cX6_forget 0 = .ok (.aload_n 0, 1) := kX6_forget_0.1.1.1.1
theorem dX6_forget_1 : decode cX6_forget 1 = .ok (.iload_n 1, 1) := kX6_forget_0.1.1.1.2
theorem dX6_forget_2 : decode cX6_forget 2 = .ok (.invokevirtual 102, 3) := kX6_forget_0.1.1.2.1
theorem dX6_forget_5 : decode cX6_forget 5 = .ok (.ifCond .eq 25, 3) := kX6_forget_0.1.1.2.2
theorem dX6_forget_8 : decode cX6_forget 8 = .ok (.iload_n 2, 1) := kX6_forget_0.1.2.1.1
theorem dX6_forget_9 : decode cX6_forget 9 = .ok (.i2l, 1) := kX6_forget_0.1.2.1.2
theorem dX6_forget_10 : decode cX6_forget 10 = .ok (.lconst 0, 1) := kX6_forget_0.1.2.2.1
theorem dX6_forget_11 : decode cX6_forget 11 = .ok (.ldc2_w 203, 3) := kX6_forget_0.1.2.2.2
theorem dX6_forget_14 : decode cX6_forget 14 = .ok (.invokestatic 50, 3) := kX6_forget_0.2.1.1.1
theorem dX6_forget_17 : decode cX6_forget 17 = .ok (.ifCond .eq 13, 3) := kX6_forget_0.2.1.1.2
theorem dX6_forget_20 : decode cX6_forget 20 = .ok (.iload_n 3, 1) := kX6_forget_0.2.1.2.1
theorem dX6_forget_21 : decode cX6_forget 21 = .ok (.i2l, 1) := kX6_forget_0.2.1.2.2
theorem dX6_forget_22 : decode cX6_forget 22 = .ok (.lconst 0, 1) := kX6_forget_0.2.2.1.1
theorem dX6_forget_23 : decode cX6_forget 23 = .ok (.lconst 1, 1) := kX6_forget_0.2.2.1.2
theorem dX6_forget_24 : decode cX6_forget 24 = .ok (.invokestatic 50, 3) := kX6_forget_0.2.2.2.1
theorem dX6_forget_27 : decode cX6_forget 27 = .ok (.ifCond .ne 5, 3) := kX6_forget_0.2.2.2.2
theorem kX6_forget_30 : (((((decode cX6_forget 30 = .ok (.iconst (-1), 1)) ∧ (decode cX6_forget 31 = .ok (.ireturn, 1))) ∧ ((decode cX6_forget 32 = .ok (.iconst 0, 1)) ∧ (decode cX6_forget 33 = .ok (.istore 4, 2)))) ∧ (((decode cX6_forget 35 = .ok (.iconst 0, 1)) ∧ (decode cX6_forget 36 = .ok (.istore 5, 2))) ∧ ((decode cX6_forget 38 = .ok (.iload 5, 2)) ∧ (decode cX6_forget 40 = .ok (.aload_n 0, 1))))) ∧ ((((decode cX6_forget 41 = .ok (.getfield 7, 3)) ∧ (decode cX6_forget 44 = .ok (.iconst 0, 1))) ∧ ((decode cX6_forget 45 = .ok (.iaload, 1)) ∧ (decode cX6_forget 46 = .ok (.if_icmp .ge 49, 3)))) ∧ (((decode cX6_forget 49 = .ok (.iload 4, 2)) ∧ (decode cX6_forget 51 = .ok (.aload_n 0, 1))) ∧ ((decode cX6_forget 52 = .ok (.invokevirtual 76, 3)) ∧ (decode cX6_forget 55 = .ok (.ifCond .eq 30, 3)))))) := by decide +kernel
theorem dX6_forget_30 : decode cX6_forget 30 = .ok (.iconst (-1), 1) := kX6_forget_30.1.1.1.1
theorem dX6_forget_31 : decode cX6_forget 31 = .ok (.ireturn, 1) := kX6_forget_30.1.1.1.2
theorem dX6_forget_32 : decode cX6_forget 32 = .ok (.iconst 0, 1) := kX6_forget_30.1.1.2.1
theorem dX6_forget_33 : decode cX6_forget 33 = .ok (.istore 4, 2) := kX6_forget_30.1.1.2.2
theorem dX6_forget_35 : decode cX6_forget 35 = .ok (.iconst 0, 1) := kX6_forget_30.1.2.1.1
theorem dX6_forget_36 : decode cX6_forget 36 = .ok (.istore 5, 2) := kX6_forget_30.1.2.1.2
theorem dX6_forget_38 : decode cX6_forget 38 = .ok (.iload 5, 2) := kX6_forget_30.1.2.2.1
theorem dX6_forget_40 : decode cX6_forget 40 = .ok (.aload_n 0, 1) := kX6_forget_30.1.2.2.2
theorem dX6_forget_41 : decode cX6_forget 41 = .ok (.getfield 7, 3) := kX6_forget_30.2.1.1.1
theorem dX6_forget_44 : decode cX6_forget 44 = .ok (.iconst 0, 1) := kX6_forget_30.2.1.1.2
theorem dX6_forget_45 : decode cX6_forget 45 = .ok (.iaload, 1) := kX6_forget_30.2.1.2.1
theorem dX6_forget_46 : decode cX6_forget 46 = .ok (.if_icmp .ge 49, 3) := kX6_forget_30.2.1.2.2
theorem dX6_forget_49 : decode cX6_forget 49 = .ok (.iload 4, 2) := kX6_forget_30.2.2.1.1
theorem dX6_forget_51 : decode cX6_forget 51 = .ok (.aload_n 0, 1) := kX6_forget_30.2.2.1.2
theorem dX6_forget_52 : decode cX6_forget 52 = .ok (.invokevirtual 76, 3) := kX6_forget_30.2.2.2.1
theorem dX6_forget_55 : decode cX6_forget 55 = .ok (.ifCond .eq 30, 3) := kX6_forget_30.2.2.2.2
theorem kX6_forget_58 : (((((decode cX6_forget 58 = .ok (.aload_n 0, 1)) ∧ (decode cX6_forget 59 = .ok (.iload 5, 2))) ∧ ((decode cX6_forget 61 = .ok (.invokevirtual 65, 3)) ∧ (decode cX6_forget 64 = .ok (.ifCond .ne 21, 3)))) ∧ (((decode cX6_forget 67 = .ok (.aload_n 0, 1)) ∧ (decode cX6_forget 68 = .ok (.iload 5, 2))) ∧ ((decode cX6_forget 70 = .ok (.invokevirtual 62, 3)) ∧ (decode cX6_forget 73 = .ok (.bipush (-4), 2))))) ∧ ((((decode cX6_forget 75 = .ok (.if_icmp .eq 10, 3)) ∧ (decode cX6_forget 78 = .ok (.iconst 1, 1))) ∧ ((decode cX6_forget 79 = .ok (.iload 5, 2)) ∧ (decode cX6_forget 81 = .ok (.ishl, 1)))) ∧ (((decode cX6_forget 82 = .ok (.goto 4, 3)) ∧ (decode cX6_forget 85 = .ok (.iconst 0, 1))) ∧ ((decode cX6_forget 86 = .ok (.ior, 1)) ∧ (decode cX6_forget 87 = .ok (.istore 4, 2)))))) := by decide +kernel
theorem dX6_forget_58 : decode cX6_forget 58 = .ok (.aload_n 0, 1) := kX6_forget_58.1.1.1.1
theorem dX6_forget_59 : decode cX6_forget 59 = .ok (.iload 5, 2) := kX6_forget_58.1.1.1.2
theorem dX6_forget_61 : decode cX6_forget 61 = .ok (.invokevirtual 65, 3) := kX6_forget_58.1.1.2.1
theorem dX6_forget_64 : decode cX6_forget 64 = .ok (.ifCond .ne 21, 3) := kX6_forget_58.1.1.2.2
theorem dX6_forget_67 : decode cX6_forget 67 = .ok (.aload_n 0, 1) := kX6_forget_58.1.2.1.1
theorem dX6_forget_68 : decode cX6_forget 68 = .ok (.iload 5, 2) := kX6_forget_58.1.2.1.2
theorem dX6_forget_70 : decode cX6_forget 70 = .ok (.invokevirtual 62, 3) := kX6_forget_58.1.2.2.1
theorem dX6_forget_73 : decode cX6_forget 73 = .ok (.bipush (-4), 2) := kX6_forget_58.1.2.2.2
theorem dX6_forget_75 : decode cX6_forget 75 = .ok (.if_icmp .eq 10, 3) := kX6_forget_58.2.1.1.1
theorem dX6_forget_78 : decode cX6_forget 78 = .ok (.iconst 1, 1) := kX6_forget_58.2.1.1.2
theorem dX6_forget_79 : decode cX6_forget 79 = .ok (.iload 5, 2) := kX6_forget_58.2.1.2.1
theorem dX6_forget_81 : decode cX6_forget 81 = .ok (.ishl, 1) := kX6_forget_58.2.1.2.2
theorem dX6_forget_82 : decode cX6_forget 82 = .ok (.goto 4, 3) := kX6_forget_58.2.2.1.1
theorem dX6_forget_85 : decode cX6_forget 85 = .ok (.iconst 0, 1) := kX6_forget_58.2.2.1.2
theorem dX6_forget_86 : decode cX6_forget 86 = .ok (.ior, 1) := kX6_forget_58.2.2.2.1
theorem dX6_forget_87 : decode cX6_forget 87 = .ok (.istore 4, 2) := kX6_forget_58.2.2.2.2
theorem kX6_forget_89 : (((((decode cX6_forget 89 = .ok (.iinc 5 1, 3)) ∧ (decode cX6_forget 92 = .ok (.goto (-54), 3))) ∧ ((decode cX6_forget 95 = .ok (.iconst 0, 1)) ∧ (decode cX6_forget 96 = .ok (.istore 5, 2)))) ∧ (((decode cX6_forget 98 = .ok (.iconst 0, 1)) ∧ (decode cX6_forget 99 = .ok (.istore 6, 2))) ∧ ((decode cX6_forget 101 = .ok (.aload_n 0, 1)) ∧ (decode cX6_forget 102 = .ok (.invokevirtual 175, 3))))) ∧ ((((decode cX6_forget 105 = .ok (.iconst 0, 1)) ∧ (decode cX6_forget 106 = .ok (.istore 7, 2))) ∧ ((decode cX6_forget 108 = .ok (.iload 7, 2)) ∧ (decode cX6_forget 110 = .ok (.bipush 64, 2)))) ∧ (((decode cX6_forget 112 = .ok (.if_icmp .ge 112, 3)) ∧ (decode cX6_forget 115 = .ok (.iload 7, 2))) ∧ ((decode cX6_forget 117 = .ok (.iload 4, 2)) ∧ (decode cX6_forget 119 = .ok (.iconst (-1), 1)))))) := by decide +kernel
theorem dX6_forget_89 : decode cX6_forget 89 = .ok (.iinc 5 1, 3) := kX6_forget_89.1.1.1.1
theorem dX6_forget_92 : decode cX6_forget 92 = .ok (.goto (-54), 3) := kX6_forget_89.1.1.1.2
theorem dX6_forget_95 : decode cX6_forget 95 = .ok (.iconst 0, 1) := kX6_forget_89.1.1.2.1
theorem dX6_forget_96 : decode cX6_forget 96 = .ok (.istore 5, 2) := kX6_forget_89.1.1.2.2
theorem dX6_forget_98 : decode cX6_forget 98 = .ok (.iconst 0, 1) := kX6_forget_89.1.2.1.1
theorem dX6_forget_99 : decode cX6_forget 99 = .ok (.istore 6, 2) := kX6_forget_89.1.2.1.2
theorem dX6_forget_101 : decode cX6_forget 101 = .ok (.aload_n 0, 1) := kX6_forget_89.1.2.2.1
theorem dX6_forget_102 : decode cX6_forget 102 = .ok (.invokevirtual 175, 3) := kX6_forget_89.1.2.2.2
theorem dX6_forget_105 : decode cX6_forget 105 = .ok (.iconst 0, 1) := kX6_forget_89.2.1.1.1
theorem dX6_forget_106 : decode cX6_forget 106 = .ok (.istore 7, 2) := kX6_forget_89.2.1.1.2
theorem dX6_forget_108 : decode cX6_forget 108 = .ok (.iload 7, 2) := kX6_forget_89.2.1.2.1
theorem dX6_forget_110 : decode cX6_forget 110 = .ok (.bipush 64, 2) := kX6_forget_89.2.1.2.2
theorem dX6_forget_112 : decode cX6_forget 112 = .ok (.if_icmp .ge 112, 3) := kX6_forget_89.2.2.1.1
theorem dX6_forget_115 : decode cX6_forget 115 = .ok (.iload 7, 2) := kX6_forget_89.2.2.1.2
theorem dX6_forget_117 : decode cX6_forget 117 = .ok (.iload 4, 2) := kX6_forget_89.2.2.2.1
theorem dX6_forget_119 : decode cX6_forget 119 = .ok (.iconst (-1), 1) := kX6_forget_89.2.2.2.2
theorem kX6_forget_120 : (((((decode cX6_forget 120 = .ok (.ixor, 1)) ∧ (decode cX6_forget 121 = .ok (.iand, 1))) ∧ ((decode cX6_forget 122 = .ok (.ifCond .ne 96, 3)) ∧ (decode cX6_forget 125 = .ok (.iconst 1, 1)))) ∧ (((decode cX6_forget 126 = .ok (.istore 8, 2)) ∧ (decode cX6_forget 128 = .ok (.iconst 0, 1))) ∧ ((decode cX6_forget 129 = .ok (.istore 9, 2)) ∧ (decode cX6_forget 131 = .ok (.iload 9, 2))))) ∧ ((((decode cX6_forget 133 = .ok (.bipush 6, 2)) ∧ (decode cX6_forget 135 = .ok (.if_icmp .ge 47, 3))) ∧ ((decode cX6_forget 138 = .ok (.iload 8, 2)) ∧ (decode cX6_forget 140 = .ok (.iload 4, 2)))) ∧ (((decode cX6_forget 142 = .ok (.iload 9, 2)) ∧ (decode cX6_forget 144 = .ok (.ishr, 1))) ∧ ((decode cX6_forget 145 = .ok (.iconst 1, 1)) ∧ (decode cX6_forget 146 = .ok (.iand, 1)))))) := by decide +kernel
theorem dX6_forget_120 : decode cX6_forget 120 = .ok (.ixor, 1) := kX6_forget_120.1.1.1.1
theorem dX6_forget_121 : decode cX6_forget 121 = .ok (.iand, 1) := kX6_forget_120.1.1.1.2
theorem dX6_forget_122 : decode cX6_forget 122 = .ok (.ifCond .ne 96, 3) := kX6_forget_120.1.1.2.1
theorem dX6_forget_125 : decode cX6_forget 125 = .ok (.iconst 1, 1) := kX6_forget_120.1.1.2.2
theorem dX6_forget_126 : decode cX6_forget 126 = .ok (.istore 8, 2) := kX6_forget_120.1.2.1.1
theorem dX6_forget_128 : decode cX6_forget 128 = .ok (.iconst 0, 1) := kX6_forget_120.1.2.1.2
theorem dX6_forget_129 : decode cX6_forget 129 = .ok (.istore 9, 2) := kX6_forget_120.1.2.2.1
theorem dX6_forget_131 : decode cX6_forget 131 = .ok (.iload 9, 2) := kX6_forget_120.1.2.2.2
theorem dX6_forget_133 : decode cX6_forget 133 = .ok (.bipush 6, 2) := kX6_forget_120.2.1.1.1
theorem dX6_forget_135 : decode cX6_forget 135 = .ok (.if_icmp .ge 47, 3) := kX6_forget_120.2.1.1.2
theorem dX6_forget_138 : decode cX6_forget 138 = .ok (.iload 8, 2) := kX6_forget_120.2.1.2.1
theorem dX6_forget_140 : decode cX6_forget 140 = .ok (.iload 4, 2) := kX6_forget_120.2.1.2.2
theorem dX6_forget_142 : decode cX6_forget 142 = .ok (.iload 9, 2) := kX6_forget_120.2.2.1.1
theorem dX6_forget_144 : decode cX6_forget 144 = .ok (.ishr, 1) := kX6_forget_120.2.2.1.2
theorem dX6_forget_145 : decode cX6_forget 145 = .ok (.iconst 1, 1) := kX6_forget_120.2.2.2.1
theorem dX6_forget_146 : decode cX6_forget 146 = .ok (.iand, 1) := kX6_forget_120.2.2.2.2
theorem kX6_forget_147 : (((((decode cX6_forget 147 = .ok (.ifCond .ne 7, 3)) ∧ (decode cX6_forget 150 = .ok (.iconst 1, 1))) ∧ ((decode cX6_forget 151 = .ok (.goto 22, 3)) ∧ (decode cX6_forget 154 = .ok (.iload 7, 2)))) ∧ (((decode cX6_forget 156 = .ok (.iload 9, 2)) ∧ (decode cX6_forget 158 = .ok (.ishr, 1))) ∧ ((decode cX6_forget 159 = .ok (.iconst 1, 1)) ∧ (decode cX6_forget 160 = .ok (.iand, 1))))) ∧ ((((decode cX6_forget 161 = .ok (.iconst 1, 1)) ∧ (decode cX6_forget 162 = .ok (.if_icmp .ne 7, 3))) ∧ ((decode cX6_forget 165 = .ok (.iload_n 2, 1)) ∧ (decode cX6_forget 166 = .ok (.goto 7, 3)))) ∧ (((decode cX6_forget 169 = .ok (.bipush 10, 2)) ∧ (decode cX6_forget 171 = .ok (.iload_n 2, 1))) ∧ ((decode cX6_forget 172 = .ok (.isub, 1)) ∧ (decode cX6_forget 173 = .ok (.imul, 1)))))) := by decide +kernel
theorem dX6_forget_147 : decode cX6_forget 147 = .ok (.ifCond .ne 7, 3) := kX6_forget_147.1.1.1.1
theorem dX6_forget_150 : decode cX6_forget 150 = .ok (.iconst 1, 1) := kX6_forget_147.1.1.1.2
theorem dX6_forget_151 : decode cX6_forget 151 = .ok (.goto 22, 3) := kX6_forget_147.1.1.2.1
theorem dX6_forget_154 : decode cX6_forget 154 = .ok (.iload 7, 2) := kX6_forget_147.1.1.2.2
theorem dX6_forget_156 : decode cX6_forget 156 = .ok (.iload 9, 2) := kX6_forget_147.1.2.1.1
theorem dX6_forget_158 : decode cX6_forget 158 = .ok (.ishr, 1) := kX6_forget_147.1.2.1.2
theorem dX6_forget_159 : decode cX6_forget 159 = .ok (.iconst 1, 1) := kX6_forget_147.1.2.2.1
theorem dX6_forget_160 : decode cX6_forget 160 = .ok (.iand, 1) := kX6_forget_147.1.2.2.2
theorem dX6_forget_161 : decode cX6_forget 161 = .ok (.iconst 1, 1) := kX6_forget_147.2.1.1.1
theorem dX6_forget_162 : decode cX6_forget 162 = .ok (.if_icmp .ne 7, 3) := kX6_forget_147.2.1.1.2
theorem dX6_forget_165 : decode cX6_forget 165 = .ok (.iload_n 2, 1) := kX6_forget_147.2.1.2.1
theorem dX6_forget_166 : decode cX6_forget 166 = .ok (.goto 7, 3) := kX6_forget_147.2.1.2.2
theorem dX6_forget_169 : decode cX6_forget 169 = .ok (.bipush 10, 2) := kX6_forget_147.2.2.1.1
theorem dX6_forget_171 : decode cX6_forget 171 = .ok (.iload_n 2, 1) := kX6_forget_147.2.2.1.2
theorem dX6_forget_172 : decode cX6_forget 172 = .ok (.isub, 1) := kX6_forget_147.2.2.2.1
theorem dX6_forget_173 : decode cX6_forget 173 = .ok (.imul, 1) := kX6_forget_147.2.2.2.2
theorem kX6_forget_174 : (((((decode cX6_forget 174 = .ok (.istore 8, 2)) ∧ (decode cX6_forget 176 = .ok (.iinc 9 1, 3))) ∧ ((decode cX6_forget 179 = .ok (.goto (-48), 3)) ∧ (decode cX6_forget 182 = .ok (.aload_n 0, 1)))) ∧ (((decode cX6_forget 183 = .ok (.iload 7, 2)) ∧ (decode cX6_forget 185 = .ok (.invokevirtual 87, 3))) ∧ ((decode cX6_forget 188 = .ok (.iload 6, 2)) ∧ (decode cX6_forget 190 = .ok (.iload 8, 2))))) ∧ ((((decode cX6_forget 192 = .ok (.iadd, 1)) ∧ (decode cX6_forget 193 = .ok (.istore 6, 2))) ∧ ((decode cX6_forget 195 = .ok (.iload 5, 2)) ∧ (decode cX6_forget 197 = .ok (.aload_n 0, 1)))) ∧ (((decode cX6_forget 198 = .ok (.iload_n 1, 1)) ∧ (decode cX6_forget 199 = .ok (.invokevirtual 65, 3))) ∧ ((decode cX6_forget 202 = .ok (.ifCond .eq 8, 3)) ∧ (decode cX6_forget 205 = .ok (.iload 8, 2)))))) := by decide +kernel
theorem dX6_forget_174 : decode cX6_forget 174 = .ok (.istore 8, 2) := kX6_forget_174.1.1.1.1
theorem dX6_forget_176 : decode cX6_forget 176 = .ok (.iinc 9 1, 3) := kX6_forget_174.1.1.1.2
theorem dX6_forget_179 : decode cX6_forget 179 = .ok (.goto (-48), 3) := kX6_forget_174.1.1.2.1
theorem dX6_forget_182 : decode cX6_forget 182 = .ok (.aload_n 0, 1) := kX6_forget_174.1.1.2.2
theorem dX6_forget_183 : decode cX6_forget 183 = .ok (.iload 7, 2) := kX6_forget_174.1.2.1.1
theorem dX6_forget_185 : decode cX6_forget 185 = .ok (.invokevirtual 87, 3) := kX6_forget_174.1.2.1.2
theorem dX6_forget_188 : decode cX6_forget 188 = .ok (.iload 6, 2) := kX6_forget_174.1.2.2.1
theorem dX6_forget_190 : decode cX6_forget 190 = .ok (.iload 8, 2) := kX6_forget_174.1.2.2.2
theorem dX6_forget_192 : decode cX6_forget 192 = .ok (.iadd, 1) := kX6_forget_174.2.1.1.1
theorem dX6_forget_193 : decode cX6_forget 193 = .ok (.istore 6, 2) := kX6_forget_174.2.1.1.2
theorem dX6_forget_195 : decode cX6_forget 195 = .ok (.iload 5, 2) := kX6_forget_174.2.1.2.1
theorem dX6_forget_197 : decode cX6_forget 197 = .ok (.aload_n 0, 1) := kX6_forget_174.2.1.2.2
theorem dX6_forget_198 : decode cX6_forget 198 = .ok (.iload_n 1, 1) := kX6_forget_174.2.2.1.1
theorem dX6_forget_199 : decode cX6_forget 199 = .ok (.invokevirtual 65, 3) := kX6_forget_174.2.2.1.2
theorem dX6_forget_202 : decode cX6_forget 202 = .ok (.ifCond .eq 8, 3) := kX6_forget_174.2.2.2.1
theorem dX6_forget_205 : decode cX6_forget 205 = .ok (.iload 8, 2) := kX6_forget_174.2.2.2.2
theorem kX6_forget_207 : (((((decode cX6_forget 207 = .ok (.goto 4, 3)) ∧ (decode cX6_forget 210 = .ok (.iconst 0, 1))) ∧ ((decode cX6_forget 211 = .ok (.iadd, 1)) ∧ (decode cX6_forget 212 = .ok (.istore 5, 2)))) ∧ (((decode cX6_forget 214 = .ok (.aload_n 0, 1)) ∧ (decode cX6_forget 215 = .ok (.invokevirtual 181, 3))) ∧ ((decode cX6_forget 218 = .ok (.iinc 7 1, 3)) ∧ (decode cX6_forget 221 = .ok (.goto (-113), 3))))) ∧ ((((decode cX6_forget 224 = .ok (.iload 5, 2)) ∧ (decode cX6_forget 226 = .ok (.istore 7, 2))) ∧ ((decode cX6_forget 228 = .ok (.iload 6, 2)) ∧ (decode cX6_forget 230 = .ok (.istore 8, 2)))) ∧ (((decode cX6_forget 232 = .ok (.iload 8, 2)) ∧ (decode cX6_forget 234 = .ok (.ifCond .eq 21, 3))) ∧ ((decode cX6_forget 237 = .ok (.iload 7, 2)) ∧ (decode cX6_forget 239 = .ok (.iload 8, 2)))))) := by decide +kernel
theorem dX6_forget_207 : decode cX6_forget 207 = .ok (.goto 4, 3) := kX6_forget_207.1.1.1.1
theorem dX6_forget_210 : decode cX6_forget 210 = .ok (.iconst 0, 1) := kX6_forget_207.1.1.1.2
theorem dX6_forget_211 : decode cX6_forget 211 = .ok (.iadd, 1) := kX6_forget_207.1.1.2.1
theorem dX6_forget_212 : decode cX6_forget 212 = .ok (.istore 5, 2) := kX6_forget_207.1.1.2.2
theorem dX6_forget_214 : decode cX6_forget 214 = .ok (.aload_n 0, 1) := kX6_forget_207.1.2.1.1
theorem dX6_forget_215 : decode cX6_forget 215 = .ok (.invokevirtual 181, 3) := kX6_forget_207.1.2.1.2
theorem dX6_forget_218 : decode cX6_forget 218 = .ok (.iinc 7 1, 3) := kX6_forget_207.1.2.2.1
theorem dX6_forget_221 : decode cX6_forget 221 = .ok (.goto (-113), 3) := kX6_forget_207.1.2.2.2
theorem dX6_forget_224 : decode cX6_forget 224 = .ok (.iload 5, 2) := kX6_forget_207.2.1.1.1
theorem dX6_forget_226 : decode cX6_forget 226 = .ok (.istore 7, 2) := kX6_forget_207.2.1.1.2
theorem dX6_forget_228 : decode cX6_forget 228 = .ok (.iload 6, 2) := kX6_forget_207.2.1.2.1
theorem dX6_forget_230 : decode cX6_forget 230 = .ok (.istore 8, 2) := kX6_forget_207.2.1.2.2
theorem dX6_forget_232 : decode cX6_forget 232 = .ok (.iload 8, 2) := kX6_forget_207.2.2.1.1
theorem dX6_forget_234 : decode cX6_forget 234 = .ok (.ifCond .eq 21, 3) := kX6_forget_207.2.2.1.2
theorem dX6_forget_237 : decode cX6_forget 237 = .ok (.iload 7, 2) := kX6_forget_207.2.2.2.1
theorem dX6_forget_239 : decode cX6_forget 239 = .ok (.iload 8, 2) := kX6_forget_207.2.2.2.2
theorem kX6_forget_241 : (((((decode cX6_forget 241 = .ok (.irem, 1)) ∧ (decode cX6_forget 242 = .ok (.istore 9, 2))) ∧ ((decode cX6_forget 244 = .ok (.iload 8, 2)) ∧ (decode cX6_forget 246 = .ok (.istore 7, 2)))) ∧ (((decode cX6_forget 248 = .ok (.iload 9, 2)) ∧ (decode cX6_forget 250 = .ok (.istore 8, 2))) ∧ ((decode cX6_forget 252 = .ok (.goto (-20), 3)) ∧ (decode cX6_forget 255 = .ok (.iload_n 3, 1))))) ∧ ((((decode cX6_forget 256 = .ok (.ifCond .ne 11, 3)) ∧ (decode cX6_forget 259 = .ok (.iload 5, 2))) ∧ ((decode cX6_forget 261 = .ok (.iload 7, 2)) ∧ (decode cX6_forget 263 = .ok (.idiv, 1)))) ∧ (((decode cX6_forget 264 = .ok (.goto 8, 3)) ∧ (decode cX6_forget 267 = .ok (.iload 6, 2))) ∧ ((decode cX6_forget 269 = .ok (.iload 7, 2)) ∧ (decode cX6_forget 271 = .ok (.idiv, 1)))))) := by decide +kernel
theorem dX6_forget_241 : decode cX6_forget 241 = .ok (.irem, 1) := kX6_forget_241.1.1.1.1
theorem dX6_forget_242 : decode cX6_forget 242 = .ok (.istore 9, 2) := kX6_forget_241.1.1.1.2
theorem dX6_forget_244 : decode cX6_forget 244 = .ok (.iload 8, 2) := kX6_forget_241.1.1.2.1
theorem dX6_forget_246 : decode cX6_forget 246 = .ok (.istore 7, 2) := kX6_forget_241.1.1.2.2
theorem dX6_forget_248 : decode cX6_forget 248 = .ok (.iload 9, 2) := kX6_forget_241.1.2.1.1
theorem dX6_forget_250 : decode cX6_forget 250 = .ok (.istore 8, 2) := kX6_forget_241.1.2.1.2
theorem dX6_forget_252 : decode cX6_forget 252 = .ok (.goto (-20), 3) := kX6_forget_241.1.2.2.1
theorem dX6_forget_255 : decode cX6_forget 255 = .ok (.iload_n 3, 1) := kX6_forget_241.1.2.2.2
theorem dX6_forget_256 : decode cX6_forget 256 = .ok (.ifCond .ne 11, 3) := kX6_forget_241.2.1.1.1
theorem dX6_forget_259 : decode cX6_forget 259 = .ok (.iload 5, 2) := kX6_forget_241.2.1.1.2
theorem dX6_forget_261 : decode cX6_forget 261 = .ok (.iload 7, 2) := kX6_forget_241.2.1.2.1
theorem dX6_forget_263 : decode cX6_forget 263 = .ok (.idiv, 1) := kX6_forget_241.2.1.2.2
theorem dX6_forget_264 : decode cX6_forget 264 = .ok (.goto 8, 3) := kX6_forget_241.2.2.1.1
theorem dX6_forget_267 : decode cX6_forget 267 = .ok (.iload 6, 2) := kX6_forget_241.2.2.1.2
theorem dX6_forget_269 : decode cX6_forget 269 = .ok (.iload 7, 2) := kX6_forget_241.2.2.2.1
theorem dX6_forget_271 : decode cX6_forget 271 = .ok (.idiv, 1) := kX6_forget_241.2.2.2.2
theorem dX6_forget_272 : decode cX6_forget 272 = .ok (.ireturn, 1) := by decide +kernel
theorem kX6_image_0 : (((((decode cX6_image 0 = .ok (.iconst 0, 1)) ∧ (decode cX6_image 1 = .ok (.istore_n 1, 1))) ∧ ((decode cX6_image 2 = .ok (.iload_n 1, 1)) ∧ (decode cX6_image 3 = .ok (.bipush 27, 2)))) ∧ (((decode cX6_image 5 = .ok (.if_icmp .ge 21, 3)) ∧ (decode cX6_image 8 = .ok (.aload_n 0, 1))) ∧ ((decode cX6_image 9 = .ok (.getfield 34, 3)) ∧ (decode cX6_image 12 = .ok (.iload_n 1, 1))))) ∧ ((((decode cX6_image 13 = .ok (.aload_n 0, 1)) ∧ (decode cX6_image 14 = .ok (.getfield 7, 3))) ∧ ((decode cX6_image 17 = .ok (.iload_n 1, 1)) ∧ (decode cX6_image 18 = .ok (.iaload, 1)))) ∧ (((decode cX6_image 19 = .ok (.iastore, 1)) ∧ (decode cX6_image 20 = .ok (.iinc 1 1, 3))) ∧ ((decode cX6_image 23 = .ok (.goto (-21), 3)) ∧ (decode cX6_image 26 = .ok (.iconst 0, 1)))))) := by decide +kernel
theorem dX6_image_0 : decode cX6_image 0 = .ok (.iconst 0, 1) := kX6_image_0.1.1.1.1
theorem dX6_image_1 : decode cX6_image 1 = .ok (.istore_n 1, 1) := kX6_image_0.1.1.1.2
theorem dX6_image_2 : decode cX6_image 2 = .ok (.iload_n 1, 1) := kX6_image_0.1.1.2.1
theorem dX6_image_3 : decode cX6_image 3 = .ok (.bipush 27, 2) := kX6_image_0.1.1.2.2
theorem dX6_image_5 : decode cX6_image 5 = .ok (.if_icmp .ge 21, 3) := kX6_image_0.1.2.1.1
theorem dX6_image_8 : decode cX6_image 8 = .ok (.aload_n 0, 1) := kX6_image_0.1.2.1.2
theorem dX6_image_9 : decode cX6_image 9 = .ok (.getfield 34, 3) := kX6_image_0.1.2.2.1
theorem dX6_image_12 : decode cX6_image 12 = .ok (.iload_n 1, 1) := kX6_image_0.1.2.2.2
theorem dX6_image_13 : decode cX6_image 13 = .ok (.aload_n 0, 1) := kX6_image_0.2.1.1.1
theorem dX6_image_14 : decode cX6_image 14 = .ok (.getfield 7, 3) := kX6_image_0.2.1.1.2
theorem dX6_image_17 : decode cX6_image 17 = .ok (.iload_n 1, 1) := kX6_image_0.2.1.2.1
theorem dX6_image_18 : decode cX6_image 18 = .ok (.iaload, 1) := kX6_image_0.2.1.2.2
theorem dX6_image_19 : decode cX6_image 19 = .ok (.iastore, 1) := kX6_image_0.2.2.1.1
theorem dX6_image_20 : decode cX6_image 20 = .ok (.iinc 1 1, 3) := kX6_image_0.2.2.1.2
theorem dX6_image_23 : decode cX6_image 23 = .ok (.goto (-21), 3) := kX6_image_0.2.2.2.1
theorem dX6_image_26 : decode cX6_image 26 = .ok (.iconst 0, 1) := kX6_image_0.2.2.2.2
theorem kX6_image_27 : (((((decode cX6_image 27 = .ok (.istore_n 1, 1)) ∧ (decode cX6_image 28 = .ok (.iload_n 1, 1))) ∧ ((decode cX6_image 29 = .ok (.sipush 216, 3)) ∧ (decode cX6_image 32 = .ok (.if_icmp .ge 24, 3)))) ∧ (((decode cX6_image 35 = .ok (.aload_n 0, 1)) ∧ (decode cX6_image 36 = .ok (.getfield 34, 3))) ∧ ((decode cX6_image 39 = .ok (.bipush 27, 2)) ∧ (decode cX6_image 41 = .ok (.iload_n 1, 1))))) ∧ ((((decode cX6_image 42 = .ok (.iadd, 1)) ∧ (decode cX6_image 43 = .ok (.aload_n 0, 1))) ∧ ((decode cX6_image 44 = .ok (.getfield 22, 3)) ∧ (decode cX6_image 47 = .ok (.iload_n 1, 1)))) ∧ (((decode cX6_image 48 = .ok (.iaload, 1)) ∧ (decode cX6_image 49 = .ok (.iastore, 1))) ∧ ((decode cX6_image 50 = .ok (.iinc 1 1, 3)) ∧ (decode cX6_image 53 = .ok (.goto (-25), 3)))))) := by decide +kernel
theorem dX6_image_27 : decode cX6_image 27 = .ok (.istore_n 1, 1) := kX6_image_27.1.1.1.1
theorem dX6_image_28 : decode cX6_image 28 = .ok (.iload_n 1, 1) := kX6_image_27.1.1.1.2
theorem dX6_image_29 : decode cX6_image 29 = .ok (.sipush 216, 3) := kX6_image_27.1.1.2.1
theorem dX6_image_32 : decode cX6_image 32 = .ok (.if_icmp .ge 24, 3) := kX6_image_27.1.1.2.2
theorem dX6_image_35 : decode cX6_image 35 = .ok (.aload_n 0, 1) := kX6_image_27.1.2.1.1
theorem dX6_image_36 : decode cX6_image 36 = .ok (.getfield 34, 3) := kX6_image_27.1.2.1.2
theorem dX6_image_39 : decode cX6_image 39 = .ok (.bipush 27, 2) := kX6_image_27.1.2.2.1
theorem dX6_image_41 : decode cX6_image 41 = .ok (.iload_n 1, 1) := kX6_image_27.1.2.2.2
theorem dX6_image_42 : decode cX6_image 42 = .ok (.iadd, 1) := kX6_image_27.2.1.1.1
theorem dX6_image_43 : decode cX6_image 43 = .ok (.aload_n 0, 1) := kX6_image_27.2.1.1.2
theorem dX6_image_44 : decode cX6_image 44 = .ok (.getfield 22, 3) := kX6_image_27.2.1.2.1
theorem dX6_image_47 : decode cX6_image 47 = .ok (.iload_n 1, 1) := kX6_image_27.2.1.2.2
theorem dX6_image_48 : decode cX6_image 48 = .ok (.iaload, 1) := kX6_image_27.2.2.1.1
theorem dX6_image_49 : decode cX6_image 49 = .ok (.iastore, 1) := kX6_image_27.2.2.1.2
theorem dX6_image_50 : decode cX6_image 50 = .ok (.iinc 1 1, 3) := kX6_image_27.2.2.2.1
theorem dX6_image_53 : decode cX6_image 53 = .ok (.goto (-25), 3) := kX6_image_27.2.2.2.2
theorem kX6_image_56 : (((((decode cX6_image 56 = .ok (.aload_n 0, 1)) ∧ (decode cX6_image 57 = .ok (.aload_n 0, 1))) ∧ (decode cX6_image 58 = .ok (.getfield 90, 3))) ∧ ((decode cX6_image 61 = .ok (.putfield 205, 3)) ∧ (decode cX6_image 64 = .ok (.aload_n 0, 1)))) ∧ (((decode cX6_image 65 = .ok (.iconst 1, 1)) ∧ (decode cX6_image 66 = .ok (.putfield 208, 3))) ∧ ((decode cX6_image 69 = .ok (.iconst 1, 1)) ∧ (decode cX6_image 70 = .ok (.ireturn, 1))))) := by decide +kernel
theorem dX6_image_56 : decode cX6_image 56 = .ok (.aload_n 0, 1) := kX6_image_56.1.1.1.1
theorem dX6_image_57 : decode cX6_image 57 = .ok (.aload_n 0, 1) := kX6_image_56.1.1.1.2
theorem dX6_image_58 : decode cX6_image 58 = .ok (.getfield 90, 3) := kX6_image_56.1.1.2
theorem dX6_image_61 : decode cX6_image 61 = .ok (.putfield 205, 3) := kX6_image_56.1.2.1
theorem dX6_image_64 : decode cX6_image 64 = .ok (.aload_n 0, 1) := kX6_image_56.1.2.2
theorem dX6_image_65 : decode cX6_image 65 = .ok (.iconst 1, 1) := kX6_image_56.2.1.1
theorem dX6_image_66 : decode cX6_image 66 = .ok (.putfield 208, 3) := kX6_image_56.2.1.2
theorem dX6_image_69 : decode cX6_image 69 = .ok (.iconst 1, 1) := kX6_image_56.2.2.1
theorem dX6_image_70 : decode cX6_image 70 = .ok (.ireturn, 1) := kX6_image_56.2.2.2
theorem kX6_restore_0 : (((((decode cX6_restore 0 = .ok (.aload_n 0, 1)) ∧ (decode cX6_restore 1 = .ok (.getfield 208, 3))) ∧ ((decode cX6_restore 4 = .ok (.ifCond .ne 6, 3)) ∧ (decode cX6_restore 7 = .ok (.bipush (-4), 2)))) ∧ (((decode cX6_restore 9 = .ok (.ireturn, 1)) ∧ (decode cX6_restore 10 = .ok (.iconst 0, 1))) ∧ ((decode cX6_restore 11 = .ok (.istore_n 1, 1)) ∧ (decode cX6_restore 12 = .ok (.iload_n 1, 1))))) ∧ ((((decode cX6_restore 13 = .ok (.bipush 27, 2)) ∧ (decode cX6_restore 15 = .ok (.if_icmp .ge 21, 3))) ∧ ((decode cX6_restore 18 = .ok (.aload_n 0, 1)) ∧ (decode cX6_restore 19 = .ok (.getfield 7, 3)))) ∧ (((decode cX6_restore 22 = .ok (.iload_n 1, 1)) ∧ (decode cX6_restore 23 = .ok (.aload_n 0, 1))) ∧ ((decode cX6_restore 24 = .ok (.getfield 34, 3)) ∧ (decode cX6_restore 27 = .ok (.iload_n 1, 1)))))) := by decide +kernel
theorem dX6_restore_0 : decode cX6_restore 0 = .ok (.aload_n 0, 1) := kX6_restore_0.1.1.1.1
theorem dX6_restore_1 : decode cX6_restore 1 = .ok (.getfield 208, 3) := kX6_restore_0.1.1.1.2
theorem dX6_restore_4 : decode cX6_restore 4 = .ok (.ifCond .ne 6, 3) := kX6_restore_0.1.1.2.1
theorem dX6_restore_7 : decode cX6_restore 7 = .ok (.bipush (-4), 2) := kX6_restore_0.1.1.2.2
theorem dX6_restore_9 : decode cX6_restore 9 = .ok (.ireturn, 1) := kX6_restore_0.1.2.1.1
theorem dX6_restore_10 : decode cX6_restore 10 = .ok (.iconst 0, 1) := kX6_restore_0.1.2.1.2
theorem dX6_restore_11 : decode cX6_restore 11 = .ok (.istore_n 1, 1) := kX6_restore_0.1.2.2.1
theorem dX6_restore_12 : decode cX6_restore 12 = .ok (.iload_n 1, 1) := kX6_restore_0.1.2.2.2
theorem dX6_restore_13 : decode cX6_restore 13 = .ok (.bipush 27, 2) := kX6_restore_0.2.1.1.1
theorem dX6_restore_15 : decode cX6_restore 15 = .ok (.if_icmp .ge 21, 3) := kX6_restore_0.2.1.1.2
theorem dX6_restore_18 : decode cX6_restore 18 = .ok (.aload_n 0, 1) := kX6_restore_0.2.1.2.1
theorem dX6_restore_19 : decode cX6_restore 19 = .ok (.getfield 7, 3) := kX6_restore_0.2.1.2.2
theorem dX6_restore_22 : decode cX6_restore 22 = .ok (.iload_n 1, 1) := kX6_restore_0.2.2.1.1
theorem dX6_restore_23 : decode cX6_restore 23 = .ok (.aload_n 0, 1) := kX6_restore_0.2.2.1.2
theorem dX6_restore_24 : decode cX6_restore 24 = .ok (.getfield 34, 3) := kX6_restore_0.2.2.2.1
theorem dX6_restore_27 : decode cX6_restore 27 = .ok (.iload_n 1, 1) := kX6_restore_0.2.2.2.2
theorem kX6_restore_28 : (((((decode cX6_restore 28 = .ok (.iaload, 1)) ∧ (decode cX6_restore 29 = .ok (.iastore, 1))) ∧ ((decode cX6_restore 30 = .ok (.iinc 1 1, 3)) ∧ (decode cX6_restore 33 = .ok (.goto (-21), 3)))) ∧ (((decode cX6_restore 36 = .ok (.iconst 0, 1)) ∧ (decode cX6_restore 37 = .ok (.istore_n 1, 1))) ∧ ((decode cX6_restore 38 = .ok (.iload_n 1, 1)) ∧ (decode cX6_restore 39 = .ok (.sipush 216, 3))))) ∧ ((((decode cX6_restore 42 = .ok (.if_icmp .ge 24, 3)) ∧ (decode cX6_restore 45 = .ok (.aload_n 0, 1))) ∧ ((decode cX6_restore 46 = .ok (.getfield 22, 3)) ∧ (decode cX6_restore 49 = .ok (.iload_n 1, 1)))) ∧ (((decode cX6_restore 50 = .ok (.aload_n 0, 1)) ∧ (decode cX6_restore 51 = .ok (.getfield 34, 3))) ∧ ((decode cX6_restore 54 = .ok (.bipush 27, 2)) ∧ (decode cX6_restore 56 = .ok (.iload_n 1, 1)))))) := by decide +kernel
theorem dX6_restore_28 : decode cX6_restore 28 = .ok (.iaload, 1) := kX6_restore_28.1.1.1.1
theorem dX6_restore_29 : decode cX6_restore 29 = .ok (.iastore, 1) := kX6_restore_28.1.1.1.2
theorem dX6_restore_30 : decode cX6_restore 30 = .ok (.iinc 1 1, 3) := kX6_restore_28.1.1.2.1
theorem dX6_restore_33 : decode cX6_restore 33 = .ok (.goto (-21), 3) := kX6_restore_28.1.1.2.2
theorem dX6_restore_36 : decode cX6_restore 36 = .ok (.iconst 0, 1) := kX6_restore_28.1.2.1.1
theorem dX6_restore_37 : decode cX6_restore 37 = .ok (.istore_n 1, 1) := kX6_restore_28.1.2.1.2
theorem dX6_restore_38 : decode cX6_restore 38 = .ok (.iload_n 1, 1) := kX6_restore_28.1.2.2.1
theorem dX6_restore_39 : decode cX6_restore 39 = .ok (.sipush 216, 3) := kX6_restore_28.1.2.2.2
theorem dX6_restore_42 : decode cX6_restore 42 = .ok (.if_icmp .ge 24, 3) := kX6_restore_28.2.1.1.1
theorem dX6_restore_45 : decode cX6_restore 45 = .ok (.aload_n 0, 1) := kX6_restore_28.2.1.1.2
theorem dX6_restore_46 : decode cX6_restore 46 = .ok (.getfield 22, 3) := kX6_restore_28.2.1.2.1
theorem dX6_restore_49 : decode cX6_restore 49 = .ok (.iload_n 1, 1) := kX6_restore_28.2.1.2.2
theorem dX6_restore_50 : decode cX6_restore 50 = .ok (.aload_n 0, 1) := kX6_restore_28.2.2.1.1
theorem dX6_restore_51 : decode cX6_restore 51 = .ok (.getfield 34, 3) := kX6_restore_28.2.2.1.2
theorem dX6_restore_54 : decode cX6_restore 54 = .ok (.bipush 27, 2) := kX6_restore_28.2.2.2.1
theorem dX6_restore_56 : decode cX6_restore 56 = .ok (.iload_n 1, 1) := kX6_restore_28.2.2.2.2
theorem kX6_restore_57 : (((((decode cX6_restore 57 = .ok (.iadd, 1)) ∧ (decode cX6_restore 58 = .ok (.iaload, 1))) ∧ (decode cX6_restore 59 = .ok (.iastore, 1))) ∧ (((decode cX6_restore 60 = .ok (.iinc 1 1, 3)) ∧ (decode cX6_restore 63 = .ok (.goto (-25), 3))) ∧ (decode cX6_restore 66 = .ok (.aload_n 0, 1)))) ∧ ((((decode cX6_restore 67 = .ok (.aload_n 0, 1)) ∧ (decode cX6_restore 68 = .ok (.getfield 205, 3))) ∧ (decode cX6_restore 71 = .ok (.putfield 90, 3))) ∧ ((decode cX6_restore 74 = .ok (.iconst 1, 1)) ∧ (decode cX6_restore 75 = .ok (.ireturn, 1))))) := by decide +kernel
theorem dX6_restore_57 : decode cX6_restore 57 = .ok (.iadd, 1) := kX6_restore_57.1.1.1.1
theorem dX6_restore_58 : decode cX6_restore 58 = .ok (.iaload, 1) := kX6_restore_57.1.1.1.2
theorem dX6_restore_59 : decode cX6_restore 59 = .ok (.iastore, 1) := kX6_restore_57.1.1.2
theorem dX6_restore_60 : decode cX6_restore 60 = .ok (.iinc 1 1, 3) := kX6_restore_57.1.2.1.1
theorem dX6_restore_63 : decode cX6_restore 63 = .ok (.goto (-25), 3) := kX6_restore_57.1.2.1.2
theorem dX6_restore_66 : decode cX6_restore 66 = .ok (.aload_n 0, 1) := kX6_restore_57.1.2.2
theorem dX6_restore_67 : decode cX6_restore 67 = .ok (.aload_n 0, 1) := kX6_restore_57.2.1.1.1
theorem dX6_restore_68 : decode cX6_restore 68 = .ok (.getfield 205, 3) := kX6_restore_57.2.1.1.2
theorem dX6_restore_71 : decode cX6_restore 71 = .ok (.putfield 90, 3) := kX6_restore_57.2.1.2
theorem dX6_restore_74 : decode cX6_restore 74 = .ok (.iconst 1, 1) := kX6_restore_57.2.2.1
theorem dX6_restore_75 : decode cX6_restore 75 = .ok (.ireturn, 1) := kX6_restore_57.2.2.2
set_option maxRecDepth 20000 in
theorem ggX6_isSheet_X6_in : GoodIn wsX6_isSheet wsX6_in := goodIn_r _ [5] rfl (by decide +kernel)
set_option maxRecDepth 20000 in
theorem gX6_isSheet_X6_in : GoodIn wsX6_isSheet (va_wsS RX6 50 yX6_in wsX6_in) := goodIn_app (goodIn_of _ (by decide +kernel)) ggX6_isSheet_X6_in
theorem kX6_isSheet_0 : ((((decode cX6_isSheet 0 = .ok (.iload_n 0, 1)) ∧ (decode cX6_isSheet 1 = .ok (.i2l, 1))) ∧ (decode cX6_isSheet 2 = .ok (.lconst 0, 1))) ∧ (((decode cX6_isSheet 3 = .ok (.ldc2_w 211, 3)) ∧ (decode cX6_isSheet 6 = .ok (.invokestatic 50, 3))) ∧ (decode cX6_isSheet 9 = .ok (.ireturn, 1)))) := by decide +kernel
theorem dX6_isSheet_0 : decode cX6_isSheet 0 = .ok (.iload_n 0, 1) := kX6_isSheet_0.1.1.1
theorem dX6_isSheet_1 : decode cX6_isSheet 1 = .ok (.i2l, 1) := kX6_isSheet_0.1.1.2
theorem dX6_isSheet_2 : decode cX6_isSheet 2 = .ok (.lconst 0, 1) := kX6_isSheet_0.1.2
theorem dX6_isSheet_3 : decode cX6_isSheet 3 = .ok (.ldc2_w 211, 3) := kX6_isSheet_0.2.1.1
theorem dX6_isSheet_6 : decode cX6_isSheet 6 = .ok (.invokestatic 50, 3) := kX6_isSheet_0.2.1.2
theorem dX6_isSheet_9 : decode cX6_isSheet 9 = .ok (.ireturn, 1) := kX6_isSheet_0.2.2
set_option maxRecDepth 20000 in
theorem ggX6_isLane_X6_in : GoodIn wsX6_isLane wsX6_in := goodIn_r _ [5] rfl (by decide +kernel)
set_option maxRecDepth 20000 in
theorem gX6_isLane_X6_in : GoodIn wsX6_isLane (va_wsS RX6 50 yX6_in wsX6_in) := goodIn_app (goodIn_of _ (by decide +kernel)) ggX6_isLane_X6_in
theorem kX6_isLane_0 : ((((decode cX6_isLane 0 = .ok (.iload_n 0, 1)) ∧ (decode cX6_isLane 1 = .ok (.i2l, 1))) ∧ (decode cX6_isLane 2 = .ok (.lconst 0, 1))) ∧ (((decode cX6_isLane 3 = .ok (.ldc2_w 211, 3)) ∧ (decode cX6_isLane 6 = .ok (.invokestatic 50, 3))) ∧ (decode cX6_isLane 9 = .ok (.ireturn, 1)))) := by decide +kernel
theorem dX6_isLane_0 : decode cX6_isLane 0 = .ok (.iload_n 0, 1) := kX6_isLane_0.1.1.1
theorem dX6_isLane_1 : decode cX6_isLane 1 = .ok (.i2l, 1) := kX6_isLane_0.1.1.2
theorem dX6_isLane_2 : decode cX6_isLane 2 = .ok (.lconst 0, 1) := kX6_isLane_0.1.2
theorem dX6_isLane_3 : decode cX6_isLane 3 = .ok (.ldc2_w 211, 3) := kX6_isLane_0.2.1.1
theorem dX6_isLane_6 : decode cX6_isLane 6 = .ok (.invokestatic 50, 3) := kX6_isLane_0.2.1.2
theorem dX6_isLane_9 : decode cX6_isLane 9 = .ok (.ireturn, 1) := kX6_isLane_0.2.2
theorem kX6_why_0 : (((((decode cX6_why 0 = .ok (.aload_n 0, 1)) ∧ (decode cX6_why 1 = .ok (.getfield 37, 3))) ∧ ((decode cX6_why 4 = .ok (.iload_n 1, 1)) ∧ (decode cX6_why 5 = .ok (.iaload, 1)))) ∧ (((decode cX6_why 6 = .ok (.ifCond .ge 6, 3)) ∧ (decode cX6_why 9 = .ok (.bipush (-11), 2))) ∧ ((decode cX6_why 11 = .ok (.ireturn, 1)) ∧ (decode cX6_why 12 = .ok (.aload_n 0, 1))))) ∧ ((((decode cX6_why 13 = .ok (.getfield 37, 3)) ∧ (decode cX6_why 16 = .ok (.iload_n 1, 1))) ∧ ((decode cX6_why 17 = .ok (.iaload, 1)) ∧ (decode cX6_why 18 = .ok (.iload_n 2, 1)))) ∧ (((decode cX6_why 19 = .ok (.if_icmp .eq 6, 3)) ∧ (decode cX6_why 22 = .ok (.bipush (-12), 2))) ∧ ((decode cX6_why 24 = .ok (.ireturn, 1)) ∧ (decode cX6_why 25 = .ok (.iload_n 3, 1)))))) := by decide +kernel
theorem dX6_why_0 : decode cX6_why 0 = .ok (.aload_n 0, 1) := kX6_why_0.1.1.1.1
theorem dX6_why_1 : decode cX6_why 1 = .ok (.getfield 37, 3) := kX6_why_0.1.1.1.2
theorem dX6_why_4 : decode cX6_why 4 = .ok (.iload_n 1, 1) := kX6_why_0.1.1.2.1
theorem dX6_why_5 : decode cX6_why 5 = .ok (.iaload, 1) := kX6_why_0.1.1.2.2
theorem dX6_why_6 : decode cX6_why 6 = .ok (.ifCond .ge 6, 3) := kX6_why_0.1.2.1.1
theorem dX6_why_9 : decode cX6_why 9 = .ok (.bipush (-11), 2) := kX6_why_0.1.2.1.2
theorem dX6_why_11 : decode cX6_why 11 = .ok (.ireturn, 1) := kX6_why_0.1.2.2.1
theorem dX6_why_12 : decode cX6_why 12 = .ok (.aload_n 0, 1) := kX6_why_0.1.2.2.2
theorem dX6_why_13 : decode cX6_why 13 = .ok (.getfield 37, 3) := kX6_why_0.2.1.1.1
theorem dX6_why_16 : decode cX6_why 16 = .ok (.iload_n 1, 1) := kX6_why_0.2.1.1.2
theorem dX6_why_17 : decode cX6_why 17 = .ok (.iaload, 1) := kX6_why_0.2.1.2.1
theorem dX6_why_18 : decode cX6_why 18 = .ok (.iload_n 2, 1) := kX6_why_0.2.1.2.2
theorem dX6_why_19 : decode cX6_why 19 = .ok (.if_icmp .eq 6, 3) := kX6_why_0.2.2.1.1
theorem dX6_why_22 : decode cX6_why 22 = .ok (.bipush (-12), 2) := kX6_why_0.2.2.1.2
theorem dX6_why_24 : decode cX6_why 24 = .ok (.ireturn, 1) := kX6_why_0.2.2.2.1
theorem dX6_why_25 : decode cX6_why 25 = .ok (.iload_n 3, 1) := kX6_why_0.2.2.2.2
theorem kX6_why_26 : (((((decode cX6_why 26 = .ok (.ifCond .lt 25, 3)) ∧ (decode cX6_why 29 = .ok (.iload 4, 2))) ∧ ((decode cX6_why 31 = .ok (.ifCond .lt 20, 3)) ∧ (decode cX6_why 34 = .ok (.iload_n 3, 1)))) ∧ (((decode cX6_why 35 = .ok (.i2l, 1)) ∧ (decode cX6_why 36 = .ok (.iload 4, 2))) ∧ ((decode cX6_why 38 = .ok (.i2l, 1)) ∧ (decode cX6_why 39 = .ok (.ladd, 1))))) ∧ ((((decode cX6_why 40 = .ok (.aload_n 0, 1)) ∧ (decode cX6_why 41 = .ok (.getfield 40, 3))) ∧ ((decode cX6_why 44 = .ok (.iload_n 1, 1)) ∧ (decode cX6_why 45 = .ok (.iaload, 1)))) ∧ (((decode cX6_why 46 = .ok (.i2l, 1)) ∧ (decode cX6_why 47 = .ok (.lcmp, 1))) ∧ ((decode cX6_why 48 = .ok (.ifCond .le 8, 3)) ∧ (decode cX6_why 51 = .ok (.bipush (-13), 2)))))) := by decide +kernel
theorem dX6_why_26 : decode cX6_why 26 = .ok (.ifCond .lt 25, 3) := kX6_why_26.1.1.1.1
theorem dX6_why_29 : decode cX6_why 29 = .ok (.iload 4, 2) := kX6_why_26.1.1.1.2
theorem dX6_why_31 : decode cX6_why 31 = .ok (.ifCond .lt 20, 3) := kX6_why_26.1.1.2.1
theorem dX6_why_34 : decode cX6_why 34 = .ok (.iload_n 3, 1) := kX6_why_26.1.1.2.2
theorem dX6_why_35 : decode cX6_why 35 = .ok (.i2l, 1) := kX6_why_26.1.2.1.1
theorem dX6_why_36 : decode cX6_why 36 = .ok (.iload 4, 2) := kX6_why_26.1.2.1.2
theorem dX6_why_38 : decode cX6_why 38 = .ok (.i2l, 1) := kX6_why_26.1.2.2.1
theorem dX6_why_39 : decode cX6_why 39 = .ok (.ladd, 1) := kX6_why_26.1.2.2.2
theorem dX6_why_40 : decode cX6_why 40 = .ok (.aload_n 0, 1) := kX6_why_26.2.1.1.1
theorem dX6_why_41 : decode cX6_why 41 = .ok (.getfield 40, 3) := kX6_why_26.2.1.1.2
theorem dX6_why_44 : decode cX6_why 44 = .ok (.iload_n 1, 1) := kX6_why_26.2.1.2.1
theorem dX6_why_45 : decode cX6_why 45 = .ok (.iaload, 1) := kX6_why_26.2.1.2.2
theorem dX6_why_46 : decode cX6_why 46 = .ok (.i2l, 1) := kX6_why_26.2.2.1.1
theorem dX6_why_47 : decode cX6_why 47 = .ok (.lcmp, 1) := kX6_why_26.2.2.1.2
theorem dX6_why_48 : decode cX6_why 48 = .ok (.ifCond .le 8, 3) := kX6_why_26.2.2.2.1
theorem dX6_why_51 : decode cX6_why 51 = .ok (.bipush (-13), 2) := kX6_why_26.2.2.2.2
theorem kX6_why_53 : (((decode cX6_why 53 = .ok (.goto 4, 3)) ∧ (decode cX6_why 56 = .ok (.iconst 0, 1))) ∧ (decode cX6_why 57 = .ok (.ireturn, 1))) := by decide +kernel
theorem dX6_why_53 : decode cX6_why 53 = .ok (.goto 4, 3) := kX6_why_53.1.1
theorem dX6_why_56 : decode cX6_why 56 = .ok (.iconst 0, 1) := kX6_why_53.1.2
theorem dX6_why_57 : decode cX6_why 57 = .ok (.ireturn, 1) := kX6_why_53.2
set_option maxRecDepth 20000 in
theorem ggX6_isSo_X6_goesBy : GoodIn wsX6_isSo wsX6_goesBy := goodIn_r _ [6, 7, 8, 9, 10, 11, 5, 12, 13, 14, 15, 16, 17, 18, 19, 20, 21, 22, 23, 24, 25, 26, 27, 28, 29, 30, 31, 32, 33, 34, 35, 36, 37, 38, 39, 40, 41, 42, 43, 44, 50, 51, 52, 53, 54, 55, 56, 57, 58, 59, 60, 61, 62, 63, 64, 65, 66, 67, 68] rfl (by decide +kernel)
set_option maxRecDepth 20000 in
theorem gX6_isSo_X6_goesBy : GoodIn wsX6_isSo (wsV RX6 87 RX6 yX6_goesBy wsX6_goesBy) := goodIn_app (goodIn_of _ (by decide +kernel)) ggX6_isSo_X6_goesBy
set_option maxRecDepth 20000 in
theorem ggX6_isSo_X6_turns : GoodIn wsX6_isSo wsX6_turns := goodIn_r _ [24, 25, 26, 27, 5, 28, 7, 50, 51, 52, 53, 54, 55, 56, 57, 58, 59, 60, 61, 62, 63, 64, 65, 66, 67, 68] rfl (by decide +kernel)
set_option maxRecDepth 20000 in
theorem gX6_isSo_X6_turns : GoodIn wsX6_isSo (wsV RX6 58 RX6 yX6_turns wsX6_turns) := goodIn_app (goodIn_of _ (by decide +kernel)) ggX6_isSo_X6_turns
set_option maxRecDepth 20000 in
theorem ggX6_isSo_X6_backs : GoodIn wsX6_isSo wsX6_backs := goodIn_r _ [48, 7, 49, 50, 51, 52, 53, 54, 55, 56, 57, 58, 59, 60, 61, 62, 63, 64, 65, 66, 67, 68] rfl (by decide +kernel)
set_option maxRecDepth 20000 in
theorem gX6_isSo_X6_backs : GoodIn wsX6_isSo (wsV RX6 181 RX6 yX6_backs wsX6_backs) := goodIn_app (goodIn_of _ (by decide +kernel)) ggX6_isSo_X6_backs
theorem kX6_isSo_0 : (((((decode cX6_isSo 0 = .ok (.iconst 1, 1)) ∧ (decode cX6_isSo 1 = .ok (.istore 4, 2))) ∧ ((decode cX6_isSo 3 = .ok (.iconst 0, 1)) ∧ (decode cX6_isSo 4 = .ok (.istore 5, 2)))) ∧ (((decode cX6_isSo 6 = .ok (.iload 5, 2)) ∧ (decode cX6_isSo 8 = .ok (.iload_n 3, 1))) ∧ ((decode cX6_isSo 9 = .ok (.if_icmp .ge 45, 3)) ∧ (decode cX6_isSo 12 = .ok (.aload_n 0, 1))))) ∧ ((((decode cX6_isSo 13 = .ok (.iconst 0, 1)) ∧ (decode cX6_isSo 14 = .ok (.invokevirtual 87, 3))) ∧ ((decode cX6_isSo 17 = .ok (.iload 4, 2)) ∧ (decode cX6_isSo 19 = .ok (.ifCond .eq 26, 3)))) ∧ (((decode cX6_isSo 22 = .ok (.aload_n 0, 1)) ∧ (decode cX6_isSo 23 = .ok (.iload_n 1, 1))) ∧ ((decode cX6_isSo 24 = .ok (.invokevirtual 58, 3)) ∧ (decode cX6_isSo 27 = .ok (.i2l, 1)))))) := by decide +kernel
theorem dX6_isSo_0 : decode cX6_isSo 0 = .ok (.iconst 1, 1) := kX6_isSo_0.1.1.1.1
theorem dX6_isSo_1 : decode cX6_isSo 1 = .ok (.istore 4, 2) := kX6_isSo_0.1.1.1.2
theorem dX6_isSo_3 : decode cX6_isSo 3 = .ok (.iconst 0, 1) := kX6_isSo_0.1.1.2.1
theorem dX6_isSo_4 : decode cX6_isSo 4 = .ok (.istore 5, 2) := kX6_isSo_0.1.1.2.2
theorem dX6_isSo_6 : decode cX6_isSo 6 = .ok (.iload 5, 2) := kX6_isSo_0.1.2.1.1
theorem dX6_isSo_8 : decode cX6_isSo 8 = .ok (.iload_n 3, 1) := kX6_isSo_0.1.2.1.2
theorem dX6_isSo_9 : decode cX6_isSo 9 = .ok (.if_icmp .ge 45, 3) := kX6_isSo_0.1.2.2.1
theorem dX6_isSo_12 : decode cX6_isSo 12 = .ok (.aload_n 0, 1) := kX6_isSo_0.1.2.2.2
theorem dX6_isSo_13 : decode cX6_isSo 13 = .ok (.iconst 0, 1) := kX6_isSo_0.2.1.1.1
theorem dX6_isSo_14 : decode cX6_isSo 14 = .ok (.invokevirtual 87, 3) := kX6_isSo_0.2.1.1.2
theorem dX6_isSo_17 : decode cX6_isSo 17 = .ok (.iload 4, 2) := kX6_isSo_0.2.1.2.1
theorem dX6_isSo_19 : decode cX6_isSo 19 = .ok (.ifCond .eq 26, 3) := kX6_isSo_0.2.1.2.2
theorem dX6_isSo_22 : decode cX6_isSo 22 = .ok (.aload_n 0, 1) := kX6_isSo_0.2.2.1.1
theorem dX6_isSo_23 : decode cX6_isSo 23 = .ok (.iload_n 1, 1) := kX6_isSo_0.2.2.1.2
theorem dX6_isSo_24 : decode cX6_isSo 24 = .ok (.invokevirtual 58, 3) := kX6_isSo_0.2.2.2.1
theorem dX6_isSo_27 : decode cX6_isSo 27 = .ok (.i2l, 1) := kX6_isSo_0.2.2.2.2
theorem kX6_isSo_28 : (((((decode cX6_isSo 28 = .ok (.aload_n 0, 1)) ∧ (decode cX6_isSo 29 = .ok (.getfield 43, 3))) ∧ ((decode cX6_isSo 32 = .ok (.iload_n 2, 1)) ∧ (decode cX6_isSo 33 = .ok (.iload 5, 2)))) ∧ (((decode cX6_isSo 35 = .ok (.iadd, 1)) ∧ (decode cX6_isSo 36 = .ok (.laload, 1))) ∧ ((decode cX6_isSo 37 = .ok (.lcmp, 1)) ∧ (decode cX6_isSo 38 = .ok (.ifCond .ne 7, 3))))) ∧ ((((decode cX6_isSo 41 = .ok (.iconst 1, 1)) ∧ (decode cX6_isSo 42 = .ok (.goto 4, 3))) ∧ ((decode cX6_isSo 45 = .ok (.iconst 0, 1)) ∧ (decode cX6_isSo 46 = .ok (.istore 4, 2)))) ∧ (((decode cX6_isSo 48 = .ok (.iinc 5 1, 3)) ∧ (decode cX6_isSo 51 = .ok (.goto (-45), 3))) ∧ ((decode cX6_isSo 54 = .ok (.aload_n 0, 1)) ∧ (decode cX6_isSo 55 = .ok (.invokevirtual 181, 3)))))) := by decide +kernel
theorem dX6_isSo_28 : decode cX6_isSo 28 = .ok (.aload_n 0, 1) := kX6_isSo_28.1.1.1.1
theorem dX6_isSo_29 : decode cX6_isSo 29 = .ok (.getfield 43, 3) := kX6_isSo_28.1.1.1.2
theorem dX6_isSo_32 : decode cX6_isSo 32 = .ok (.iload_n 2, 1) := kX6_isSo_28.1.1.2.1
theorem dX6_isSo_33 : decode cX6_isSo 33 = .ok (.iload 5, 2) := kX6_isSo_28.1.1.2.2
theorem dX6_isSo_35 : decode cX6_isSo 35 = .ok (.iadd, 1) := kX6_isSo_28.1.2.1.1
theorem dX6_isSo_36 : decode cX6_isSo 36 = .ok (.laload, 1) := kX6_isSo_28.1.2.1.2
theorem dX6_isSo_37 : decode cX6_isSo 37 = .ok (.lcmp, 1) := kX6_isSo_28.1.2.2.1
theorem dX6_isSo_38 : decode cX6_isSo 38 = .ok (.ifCond .ne 7, 3) := kX6_isSo_28.1.2.2.2
theorem dX6_isSo_41 : decode cX6_isSo 41 = .ok (.iconst 1, 1) := kX6_isSo_28.2.1.1.1
theorem dX6_isSo_42 : decode cX6_isSo 42 = .ok (.goto 4, 3) := kX6_isSo_28.2.1.1.2
theorem dX6_isSo_45 : decode cX6_isSo 45 = .ok (.iconst 0, 1) := kX6_isSo_28.2.1.2.1
theorem dX6_isSo_46 : decode cX6_isSo 46 = .ok (.istore 4, 2) := kX6_isSo_28.2.1.2.2
theorem dX6_isSo_48 : decode cX6_isSo 48 = .ok (.iinc 5 1, 3) := kX6_isSo_28.2.2.1.1
theorem dX6_isSo_51 : decode cX6_isSo 51 = .ok (.goto (-45), 3) := kX6_isSo_28.2.2.1.2
theorem dX6_isSo_54 : decode cX6_isSo 54 = .ok (.aload_n 0, 1) := kX6_isSo_28.2.2.2.1
theorem dX6_isSo_55 : decode cX6_isSo 55 = .ok (.invokevirtual 181, 3) := kX6_isSo_28.2.2.2.2
theorem kX6_isSo_58 : ((decode cX6_isSo 58 = .ok (.iload 4, 2)) ∧ (decode cX6_isSo 60 = .ok (.ireturn, 1))) := by decide +kernel
theorem dX6_isSo_58 : decode cX6_isSo 58 = .ok (.iload 4, 2) := kX6_isSo_58.1
theorem dX6_isSo_60 : decode cX6_isSo 60 = .ok (.ireturn, 1) := kX6_isSo_58.2
set_option maxRecDepth 20000 in
theorem ggX6_heard_X6_isPerson : GoodIn wsX6_heard wsX6_isPerson := goodIn_r _ [7, 2, 8, 9, 6, 10, 79, 80, 81, 82, 83, 84, 85, 86, 87, 88, 89, 90, 91, 92, 93, 94, 95, 96, 97] rfl (by decide +kernel)
set_option maxRecDepth 20000 in
theorem gX6_heard_X6_isPerson : GoodIn wsX6_heard (wsV RX6 102 RX6 yX6_isPerson wsX6_isPerson) := goodIn_app (goodIn_of _ (by decide +kernel)) ggX6_heard_X6_isPerson
set_option maxRecDepth 20000 in
theorem ggX6_heard_X6_isSheet : GoodIn wsX6_heard wsX6_isSheet := goodIn_r _ [13, 14, 8, 9, 6, 10] rfl (by decide +kernel)
set_option maxRecDepth 20000 in
theorem gX6_heard_X6_isSheet : GoodIn wsX6_heard (va_wsS RX6 213 yX6_isSheet wsX6_isSheet) := goodIn_app (goodIn_of _ (by decide +kernel)) ggX6_heard_X6_isSheet
set_option maxRecDepth 20000 in
theorem ggX6_heard_X6_isLane : GoodIn wsX6_heard wsX6_isLane := goodIn_r _ [17, 14, 8, 9, 6, 10] rfl (by decide +kernel)
set_option maxRecDepth 20000 in
theorem gX6_heard_X6_isLane : GoodIn wsX6_heard (va_wsS RX6 216 yX6_isLane wsX6_isLane) := goodIn_app (goodIn_of _ (by decide +kernel)) ggX6_heard_X6_isLane
set_option maxRecDepth 20000 in
theorem ggX6_heard_X6_in : GoodIn wsX6_heard wsX6_in := goodIn_r _ [10] rfl (by decide +kernel)
set_option maxRecDepth 20000 in
theorem gX6_heard_X6_in : GoodIn wsX6_heard (va_wsS RX6 50 yX6_in wsX6_in) := goodIn_app (goodIn_of _ (by decide +kernel)) ggX6_heard_X6_in
set_option maxRecDepth 20000 in
theorem ggX6_heard_X6_why : GoodIn wsX6_heard wsX6_why := goodIn_r _ [21, 22, 23, 79, 80, 81, 82, 83, 84, 85, 86, 87, 88, 89, 90, 91, 92, 93, 94, 95, 96, 97] rfl (by decide +kernel)
set_option maxRecDepth 20000 in
theorem gX6_heard_X6_why : GoodIn wsX6_heard (wsV RX6 221 RX6 yX6_why wsX6_why) := goodIn_app (goodIn_of _ (by decide +kernel)) ggX6_heard_X6_why
set_option maxRecDepth 20000 in
theorem ggX6_heard_X6_asides : GoodIn wsX6_heard wsX6_asides := goodIn_r _ [27, 28, 2, 79, 80, 81, 82, 83, 84, 85, 86, 87, 88, 89, 90, 91, 92, 93, 94, 95, 96, 97] rfl (by decide +kernel)
set_option maxRecDepth 20000 in
theorem gX6_heard_X6_asides : GoodIn wsX6_heard (wsV RX6 175 RX6 yX6_asides wsX6_asides) := goodIn_app (goodIn_of _ (by decide +kernel)) ggX6_heard_X6_asides
set_option maxRecDepth 20000 in
theorem ggX6_heard_X6_tells : GoodIn wsX6_heard wsX6_tells := goodIn_r _ [32, 2, 79, 80, 81, 82, 83, 84, 85, 86, 87, 88, 89, 90, 91, 92, 93, 94, 95, 96, 97] rfl (by decide +kernel)
set_option maxRecDepth 20000 in
theorem gX6_heard_X6_tells : GoodIn wsX6_heard (wsV RX6 72 RX6 yX6_tells wsX6_tells) := goodIn_app (goodIn_of _ (by decide +kernel)) ggX6_heard_X6_tells
set_option maxRecDepth 20000 in
theorem ggX6_heard_X6_isSo : GoodIn wsX6_heard wsX6_isSo := goodIn_r _ [36, 37, 38, 39, 40, 6, 41, 2, 42, 43, 44, 45, 46, 47, 48, 49, 50, 51, 52, 53, 54, 55, 56, 57, 58, 59, 60, 61, 62, 63, 64, 65, 66, 29, 30, 31, 32, 67, 68, 69, 70, 71, 72, 73, 74, 75, 76, 77, 78, 28, 79, 80, 81, 82, 83, 84, 85, 86, 87, 88, 89, 90, 91, 92, 93, 94, 95, 96, 97] rfl (by decide +kernel)
set_option maxRecDepth 20000 in
theorem gX6_heard_X6_isSo : GoodIn wsX6_heard (wsV RX6 225 RX6 yX6_isSo wsX6_isSo) := goodIn_app (goodIn_of _ (by decide +kernel)) ggX6_heard_X6_isSo
theorem kX6_heard_0 : (((((decode cX6_heard 0 = .ok (.aload_n 0, 1)) ∧ (decode cX6_heard 1 = .ok (.iload_n 1, 1))) ∧ ((decode cX6_heard 2 = .ok (.invokevirtual 102, 3)) ∧ (decode cX6_heard 5 = .ok (.ifCond .eq 49, 3)))) ∧ (((decode cX6_heard 8 = .ok (.iload_n 2, 1)) ∧ (decode cX6_heard 9 = .ok (.invokestatic 213, 3))) ∧ ((decode cX6_heard 12 = .ok (.ifCond .eq 42, 3)) ∧ (decode cX6_heard 15 = .ok (.iload_n 3, 1))))) ∧ ((((decode cX6_heard 16 = .ok (.invokestatic 216, 3)) ∧ (decode cX6_heard 19 = .ok (.ifCond .eq 35, 3))) ∧ ((decode cX6_heard 22 = .ok (.iload 5, 2)) ∧ (decode cX6_heard 24 = .ok (.i2l, 1)))) ∧ (((decode cX6_heard 25 = .ok (.lconst 1, 1)) ∧ (decode cX6_heard 26 = .ok (.ldc2_w 219, 3))) ∧ ((decode cX6_heard 29 = .ok (.invokestatic 50, 3)) ∧ (decode cX6_heard 32 = .ok (.ifCond .eq 22, 3)))))) := by decide +kernel
theorem dX6_heard_0 : decode cX6_heard 0 = .ok (.aload_n 0, 1) := kX6_heard_0.1.1.1.1
theorem dX6_heard_1 : decode cX6_heard 1 = .ok (.iload_n 1, 1) := kX6_heard_0.1.1.1.2
theorem dX6_heard_2 : decode cX6_heard 2 = .ok (.invokevirtual 102, 3) := kX6_heard_0.1.1.2.1
theorem dX6_heard_5 : decode cX6_heard 5 = .ok (.ifCond .eq 49, 3) := kX6_heard_0.1.1.2.2
theorem dX6_heard_8 : decode cX6_heard 8 = .ok (.iload_n 2, 1) := kX6_heard_0.1.2.1.1
theorem dX6_heard_9 : decode cX6_heard 9 = .ok (.invokestatic 213, 3) := kX6_heard_0.1.2.1.2
theorem dX6_heard_12 : decode cX6_heard 12 = .ok (.ifCond .eq 42, 3) := kX6_heard_0.1.2.2.1
theorem dX6_heard_15 : decode cX6_heard 15 = .ok (.iload_n 3, 1) := kX6_heard_0.1.2.2.2
theorem dX6_heard_16 : decode cX6_heard 16 = .ok (.invokestatic 216, 3) := kX6_heard_0.2.1.1.1
theorem dX6_heard_19 : decode cX6_heard 19 = .ok (.ifCond .eq 35, 3) := kX6_heard_0.2.1.1.2
theorem dX6_heard_22 : decode cX6_heard 22 = .ok (.iload 5, 2) := kX6_heard_0.2.1.2.1
theorem dX6_heard_24 : decode cX6_heard 24 = .ok (.i2l, 1) := kX6_heard_0.2.1.2.2
theorem dX6_heard_25 : decode cX6_heard 25 = .ok (.lconst 1, 1) := kX6_heard_0.2.2.1.1
theorem dX6_heard_26 : decode cX6_heard 26 = .ok (.ldc2_w 219, 3) := kX6_heard_0.2.2.1.2
theorem dX6_heard_29 : decode cX6_heard 29 = .ok (.invokestatic 50, 3) := kX6_heard_0.2.2.2.1
theorem dX6_heard_32 : decode cX6_heard 32 = .ok (.ifCond .eq 22, 3) := kX6_heard_0.2.2.2.2
theorem kX6_heard_35 : (((((decode cX6_heard 35 = .ok (.iload 6, 2)) ∧ (decode cX6_heard 37 = .ok (.i2l, 1))) ∧ ((decode cX6_heard 38 = .ok (.lconst 0, 1)) ∧ (decode cX6_heard 39 = .ok (.aload_n 0, 1)))) ∧ (((decode cX6_heard 40 = .ok (.getfield 7, 3)) ∧ (decode cX6_heard 43 = .ok (.iconst 0, 1))) ∧ ((decode cX6_heard 44 = .ok (.iaload, 1)) ∧ (decode cX6_heard 45 = .ok (.iconst 1, 1))))) ∧ ((((decode cX6_heard 46 = .ok (.iadd, 1)) ∧ (decode cX6_heard 47 = .ok (.i2l, 1))) ∧ ((decode cX6_heard 48 = .ok (.invokestatic 50, 3)) ∧ (decode cX6_heard 51 = .ok (.ifCond .ne 5, 3)))) ∧ (((decode cX6_heard 54 = .ok (.iconst (-1), 1)) ∧ (decode cX6_heard 55 = .ok (.ireturn, 1))) ∧ ((decode cX6_heard 56 = .ok (.aload_n 0, 1)) ∧ (decode cX6_heard 57 = .ok (.iload_n 2, 1)))))) := by decide +kernel
theorem dX6_heard_35 : decode cX6_heard 35 = .ok (.iload 6, 2) := kX6_heard_35.1.1.1.1
theorem dX6_heard_37 : decode cX6_heard 37 = .ok (.i2l, 1) := kX6_heard_35.1.1.1.2
theorem dX6_heard_38 : decode cX6_heard 38 = .ok (.lconst 0, 1) := kX6_heard_35.1.1.2.1
theorem dX6_heard_39 : decode cX6_heard 39 = .ok (.aload_n 0, 1) := kX6_heard_35.1.1.2.2
theorem dX6_heard_40 : decode cX6_heard 40 = .ok (.getfield 7, 3) := kX6_heard_35.1.2.1.1
theorem dX6_heard_43 : decode cX6_heard 43 = .ok (.iconst 0, 1) := kX6_heard_35.1.2.1.2
theorem dX6_heard_44 : decode cX6_heard 44 = .ok (.iaload, 1) := kX6_heard_35.1.2.2.1
theorem dX6_heard_45 : decode cX6_heard 45 = .ok (.iconst 1, 1) := kX6_heard_35.1.2.2.2
theorem dX6_heard_46 : decode cX6_heard 46 = .ok (.iadd, 1) := kX6_heard_35.2.1.1.1
theorem dX6_heard_47 : decode cX6_heard 47 = .ok (.i2l, 1) := kX6_heard_35.2.1.1.2
theorem dX6_heard_48 : decode cX6_heard 48 = .ok (.invokestatic 50, 3) := kX6_heard_35.2.1.2.1
theorem dX6_heard_51 : decode cX6_heard 51 = .ok (.ifCond .ne 5, 3) := kX6_heard_35.2.1.2.2
theorem dX6_heard_54 : decode cX6_heard 54 = .ok (.iconst (-1), 1) := kX6_heard_35.2.2.1.1
theorem dX6_heard_55 : decode cX6_heard 55 = .ok (.ireturn, 1) := kX6_heard_35.2.2.1.2
theorem dX6_heard_56 : decode cX6_heard 56 = .ok (.aload_n 0, 1) := kX6_heard_35.2.2.2.1
theorem dX6_heard_57 : decode cX6_heard 57 = .ok (.iload_n 2, 1) := kX6_heard_35.2.2.2.2
theorem kX6_heard_58 : (((((decode cX6_heard 58 = .ok (.iload_n 3, 1)) ∧ (decode cX6_heard 59 = .ok (.iload 4, 2))) ∧ ((decode cX6_heard 61 = .ok (.iload 5, 2)) ∧ (decode cX6_heard 63 = .ok (.invokevirtual 221, 3)))) ∧ (((decode cX6_heard 66 = .ok (.istore 7, 2)) ∧ (decode cX6_heard 68 = .ok (.iload 7, 2))) ∧ ((decode cX6_heard 70 = .ok (.ifCond .ge 6, 3)) ∧ (decode cX6_heard 73 = .ok (.iload 7, 2))))) ∧ ((((decode cX6_heard 75 = .ok (.ireturn, 1)) ∧ (decode cX6_heard 76 = .ok (.iload 6, 2))) ∧ ((decode cX6_heard 78 = .ok (.iconst 2, 1)) ∧ (decode cX6_heard 79 = .ok (.if_icmp .ge 7, 3)))) ∧ (((decode cX6_heard 82 = .ok (.iload_n 1, 1)) ∧ (decode cX6_heard 83 = .ok (.goto 7, 3))) ∧ ((decode cX6_heard 86 = .ok (.iload 6, 2)) ∧ (decode cX6_heard 88 = .ok (.iconst 2, 1)))))) := by decide +kernel
theorem dX6_heard_58 : decode cX6_heard 58 = .ok (.iload_n 3, 1) := kX6_heard_58.1.1.1.1
theorem dX6_heard_59 : decode cX6_heard 59 = .ok (.iload 4, 2) := kX6_heard_58.1.1.1.2
theorem dX6_heard_61 : decode cX6_heard 61 = .ok (.iload 5, 2) := kX6_heard_58.1.1.2.1
theorem dX6_heard_63 : decode cX6_heard 63 = .ok (.invokevirtual 221, 3) := kX6_heard_58.1.1.2.2
theorem dX6_heard_66 : decode cX6_heard 66 = .ok (.istore 7, 2) := kX6_heard_58.1.2.1.1
theorem dX6_heard_68 : decode cX6_heard 68 = .ok (.iload 7, 2) := kX6_heard_58.1.2.1.2
theorem dX6_heard_70 : decode cX6_heard 70 = .ok (.ifCond .ge 6, 3) := kX6_heard_58.1.2.2.1
theorem dX6_heard_73 : decode cX6_heard 73 = .ok (.iload 7, 2) := kX6_heard_58.1.2.2.2
theorem dX6_heard_75 : decode cX6_heard 75 = .ok (.ireturn, 1) := kX6_heard_58.2.1.1.1
theorem dX6_heard_76 : decode cX6_heard 76 = .ok (.iload 6, 2) := kX6_heard_58.2.1.1.2
theorem dX6_heard_78 : decode cX6_heard 78 = .ok (.iconst 2, 1) := kX6_heard_58.2.1.2.1
theorem dX6_heard_79 : decode cX6_heard 79 = .ok (.if_icmp .ge 7, 3) := kX6_heard_58.2.1.2.2
theorem dX6_heard_82 : decode cX6_heard 82 = .ok (.iload_n 1, 1) := kX6_heard_58.2.2.1.1
theorem dX6_heard_83 : decode cX6_heard 83 = .ok (.goto 7, 3) := kX6_heard_58.2.2.1.2
theorem dX6_heard_86 : decode cX6_heard 86 = .ok (.iload 6, 2) := kX6_heard_58.2.2.2.1
theorem dX6_heard_88 : decode cX6_heard 88 = .ok (.iconst 2, 1) := kX6_heard_58.2.2.2.2
theorem kX6_heard_89 : (((((decode cX6_heard 89 = .ok (.isub, 1)) ∧ (decode cX6_heard 90 = .ok (.istore 8, 2))) ∧ ((decode cX6_heard 92 = .ok (.iload 6, 2)) ∧ (decode cX6_heard 94 = .ok (.iconst 2, 1)))) ∧ (((decode cX6_heard 95 = .ok (.if_icmp .ge 8, 3)) ∧ (decode cX6_heard 98 = .ok (.iload 6, 2))) ∧ ((decode cX6_heard 100 = .ok (.goto 4, 3)) ∧ (decode cX6_heard 103 = .ok (.iconst 3, 1))))) ∧ ((((decode cX6_heard 104 = .ok (.istore 9, 2)) ∧ (decode cX6_heard 106 = .ok (.iload 6, 2))) ∧ ((decode cX6_heard 108 = .ok (.ifCond .ne 7, 3)) ∧ (decode cX6_heard 111 = .ok (.iconst 4, 1)))) ∧ (((decode cX6_heard 112 = .ok (.goto 16, 3)) ∧ (decode cX6_heard 115 = .ok (.iload 6, 2))) ∧ ((decode cX6_heard 117 = .ok (.iconst 1, 1)) ∧ (decode cX6_heard 118 = .ok (.if_icmp .ne 8, 3)))))) := by decide +kernel
theorem dX6_heard_89 : decode cX6_heard 89 = .ok (.isub, 1) := kX6_heard_89.1.1.1.1
theorem dX6_heard_90 : decode cX6_heard 90 = .ok (.istore 8, 2) := kX6_heard_89.1.1.1.2
theorem dX6_heard_92 : decode cX6_heard 92 = .ok (.iload 6, 2) := kX6_heard_89.1.1.2.1
theorem dX6_heard_94 : decode cX6_heard 94 = .ok (.iconst 2, 1) := kX6_heard_89.1.1.2.2
theorem dX6_heard_95 : decode cX6_heard 95 = .ok (.if_icmp .ge 8, 3) := kX6_heard_89.1.2.1.1
theorem dX6_heard_98 : decode cX6_heard 98 = .ok (.iload 6, 2) := kX6_heard_89.1.2.1.2
theorem dX6_heard_100 : decode cX6_heard 100 = .ok (.goto 4, 3) := kX6_heard_89.1.2.2.1
theorem dX6_heard_103 : decode cX6_heard 103 = .ok (.iconst 3, 1) := kX6_heard_89.1.2.2.2
theorem dX6_heard_104 : decode cX6_heard 104 = .ok (.istore 9, 2) := kX6_heard_89.2.1.1.1
theorem dX6_heard_106 : decode cX6_heard 106 = .ok (.iload 6, 2) := kX6_heard_89.2.1.1.2
theorem dX6_heard_108 : decode cX6_heard 108 = .ok (.ifCond .ne 7, 3) := kX6_heard_89.2.1.2.1
theorem dX6_heard_111 : decode cX6_heard 111 = .ok (.iconst 4, 1) := kX6_heard_89.2.1.2.2
theorem dX6_heard_112 : decode cX6_heard 112 = .ok (.goto 16, 3) := kX6_heard_89.2.2.1.1
theorem dX6_heard_115 : decode cX6_heard 115 = .ok (.iload 6, 2) := kX6_heard_89.2.2.1.2
theorem dX6_heard_117 : decode cX6_heard 117 = .ok (.iconst 1, 1) := kX6_heard_89.2.2.2.1
theorem dX6_heard_118 : decode cX6_heard 118 = .ok (.if_icmp .ne 8, 3) := kX6_heard_89.2.2.2.2
theorem kX6_heard_121 : (((((decode cX6_heard 121 = .ok (.bipush 30, 2)) ∧ (decode cX6_heard 123 = .ok (.goto 5, 3))) ∧ ((decode cX6_heard 126 = .ok (.bipush 12, 2)) ∧ (decode cX6_heard 128 = .ok (.istore 10, 2)))) ∧ (((decode cX6_heard 130 = .ok (.iconst 0, 1)) ∧ (decode cX6_heard 131 = .ok (.istore 11, 2))) ∧ ((decode cX6_heard 133 = .ok (.aload_n 0, 1)) ∧ (decode cX6_heard 134 = .ok (.invokevirtual 175, 3))))) ∧ ((((decode cX6_heard 137 = .ok (.iload 6, 2)) ∧ (decode cX6_heard 139 = .ok (.iconst 2, 1))) ∧ ((decode cX6_heard 140 = .ok (.if_icmp .ge 7, 3)) ∧ (decode cX6_heard 143 = .ok (.iconst 0, 1)))) ∧ (((decode cX6_heard 144 = .ok (.goto 4, 3)) ∧ (decode cX6_heard 147 = .ok (.iconst 1, 1))) ∧ ((decode cX6_heard 148 = .ok (.istore 12, 2)) ∧ (decode cX6_heard 150 = .ok (.iload 12, 2)))))) := by decide +kernel
theorem dX6_heard_121 : decode cX6_heard 121 = .ok (.bipush 30, 2) := kX6_heard_121.1.1.1.1
theorem dX6_heard_123 : decode cX6_heard 123 = .ok (.goto 5, 3) := kX6_heard_121.1.1.1.2
theorem dX6_heard_126 : decode cX6_heard 126 = .ok (.bipush 12, 2) := kX6_heard_121.1.1.2.1
theorem dX6_heard_128 : decode cX6_heard 128 = .ok (.istore 10, 2) := kX6_heard_121.1.1.2.2
theorem dX6_heard_130 : decode cX6_heard 130 = .ok (.iconst 0, 1) := kX6_heard_121.1.2.1.1
theorem dX6_heard_131 : decode cX6_heard 131 = .ok (.istore 11, 2) := kX6_heard_121.1.2.1.2
theorem dX6_heard_133 : decode cX6_heard 133 = .ok (.aload_n 0, 1) := kX6_heard_121.1.2.2.1
theorem dX6_heard_134 : decode cX6_heard 134 = .ok (.invokevirtual 175, 3) := kX6_heard_121.1.2.2.2
theorem dX6_heard_137 : decode cX6_heard 137 = .ok (.iload 6, 2) := kX6_heard_121.2.1.1.1
theorem dX6_heard_139 : decode cX6_heard 139 = .ok (.iconst 2, 1) := kX6_heard_121.2.1.1.2
theorem dX6_heard_140 : decode cX6_heard 140 = .ok (.if_icmp .ge 7, 3) := kX6_heard_121.2.1.2.1
theorem dX6_heard_143 : decode cX6_heard 143 = .ok (.iconst 0, 1) := kX6_heard_121.2.1.2.2
theorem dX6_heard_144 : decode cX6_heard 144 = .ok (.goto 4, 3) := kX6_heard_121.2.2.1.1
theorem dX6_heard_147 : decode cX6_heard 147 = .ok (.iconst 1, 1) := kX6_heard_121.2.2.1.2
theorem dX6_heard_148 : decode cX6_heard 148 = .ok (.istore 12, 2) := kX6_heard_121.2.2.2.1
theorem dX6_heard_150 : decode cX6_heard 150 = .ok (.iload 12, 2) := kX6_heard_121.2.2.2.2
theorem kX6_heard_152 : (((((decode cX6_heard 152 = .ok (.iload 10, 2)) ∧ (decode cX6_heard 154 = .ok (.if_icmp .gt 49, 3))) ∧ ((decode cX6_heard 157 = .ok (.aload_n 0, 1)) ∧ (decode cX6_heard 158 = .ok (.iload 8, 2)))) ∧ (((decode cX6_heard 160 = .ok (.iload 9, 2)) ∧ (decode cX6_heard 162 = .ok (.iload 12, 2))) ∧ ((decode cX6_heard 164 = .ok (.invokevirtual 72, 3)) ∧ (decode cX6_heard 167 = .ok (.iload 11, 2))))) ∧ ((((decode cX6_heard 169 = .ok (.aload_n 0, 1)) ∧ (decode cX6_heard 170 = .ok (.iload_n 1, 1))) ∧ ((decode cX6_heard 171 = .ok (.bipush 24, 2)) ∧ (decode cX6_heard 173 = .ok (.iload_n 2, 1)))) ∧ (((decode cX6_heard 174 = .ok (.imul, 1)) ∧ (decode cX6_heard 175 = .ok (.iload 4, 2))) ∧ ((decode cX6_heard 177 = .ok (.iadd, 1)) ∧ (decode cX6_heard 178 = .ok (.iload 5, 2)))))) := by decide +kernel
theorem dX6_heard_152 : decode cX6_heard 152 = .ok (.iload 10, 2) := kX6_heard_152.1.1.1.1
theorem dX6_heard_154 : decode cX6_heard 154 = .ok (.if_icmp .gt 49, 3) := kX6_heard_152.1.1.1.2
theorem dX6_heard_157 : decode cX6_heard 157 = .ok (.aload_n 0, 1) := kX6_heard_152.1.1.2.1
theorem dX6_heard_158 : decode cX6_heard 158 = .ok (.iload 8, 2) := kX6_heard_152.1.1.2.2
theorem dX6_heard_160 : decode cX6_heard 160 = .ok (.iload 9, 2) := kX6_heard_152.1.2.1.1
theorem dX6_heard_162 : decode cX6_heard 162 = .ok (.iload 12, 2) := kX6_heard_152.1.2.1.2
theorem dX6_heard_164 : decode cX6_heard 164 = .ok (.invokevirtual 72, 3) := kX6_heard_152.1.2.2.1
theorem dX6_heard_167 : decode cX6_heard 167 = .ok (.iload 11, 2) := kX6_heard_152.1.2.2.2
theorem dX6_heard_169 : decode cX6_heard 169 = .ok (.aload_n 0, 1) := kX6_heard_152.2.1.1.1
theorem dX6_heard_170 : decode cX6_heard 170 = .ok (.iload_n 1, 1) := kX6_heard_152.2.1.1.2
theorem dX6_heard_171 : decode cX6_heard 171 = .ok (.bipush 24, 2) := kX6_heard_152.2.1.2.1
theorem dX6_heard_173 : decode cX6_heard 173 = .ok (.iload_n 2, 1) := kX6_heard_152.2.1.2.2
theorem dX6_heard_174 : decode cX6_heard 174 = .ok (.imul, 1) := kX6_heard_152.2.2.1.1
theorem dX6_heard_175 : decode cX6_heard 175 = .ok (.iload 4, 2) := kX6_heard_152.2.2.1.2
theorem dX6_heard_177 : decode cX6_heard 177 = .ok (.iadd, 1) := kX6_heard_152.2.2.2.1
theorem dX6_heard_178 : decode cX6_heard 178 = .ok (.iload 5, 2) := kX6_heard_152.2.2.2.2
theorem kX6_heard_180 : (((((decode cX6_heard 180 = .ok (.invokevirtual 225, 3)) ∧ (decode cX6_heard 183 = .ok (.ifCond .eq 10, 3))) ∧ ((decode cX6_heard 186 = .ok (.iconst 1, 1)) ∧ (decode cX6_heard 187 = .ok (.iload 12, 2)))) ∧ (((decode cX6_heard 189 = .ok (.ishl, 1)) ∧ (decode cX6_heard 190 = .ok (.goto 4, 3))) ∧ (decode cX6_heard 193 = .ok (.iconst 0, 1)))) ∧ ((((decode cX6_heard 194 = .ok (.ior, 1)) ∧ (decode cX6_heard 195 = .ok (.istore 11, 2))) ∧ (decode cX6_heard 197 = .ok (.iinc 12 1, 3))) ∧ (((decode cX6_heard 200 = .ok (.goto (-50), 3)) ∧ (decode cX6_heard 203 = .ok (.iload 11, 2))) ∧ (decode cX6_heard 205 = .ok (.ireturn, 1))))) := by decide +kernel
theorem dX6_heard_180 : decode cX6_heard 180 = .ok (.invokevirtual 225, 3) := kX6_heard_180.1.1.1.1
theorem dX6_heard_183 : decode cX6_heard 183 = .ok (.ifCond .eq 10, 3) := kX6_heard_180.1.1.1.2
theorem dX6_heard_186 : decode cX6_heard 186 = .ok (.iconst 1, 1) := kX6_heard_180.1.1.2.1
theorem dX6_heard_187 : decode cX6_heard 187 = .ok (.iload 12, 2) := kX6_heard_180.1.1.2.2
theorem dX6_heard_189 : decode cX6_heard 189 = .ok (.ishl, 1) := kX6_heard_180.1.2.1.1
theorem dX6_heard_190 : decode cX6_heard 190 = .ok (.goto 4, 3) := kX6_heard_180.1.2.1.2
theorem dX6_heard_193 : decode cX6_heard 193 = .ok (.iconst 0, 1) := kX6_heard_180.1.2.2
theorem dX6_heard_194 : decode cX6_heard 194 = .ok (.ior, 1) := kX6_heard_180.2.1.1.1
theorem dX6_heard_195 : decode cX6_heard 195 = .ok (.istore 11, 2) := kX6_heard_180.2.1.1.2
theorem dX6_heard_197 : decode cX6_heard 197 = .ok (.iinc 12 1, 3) := kX6_heard_180.2.1.2
theorem dX6_heard_200 : decode cX6_heard 200 = .ok (.goto (-50), 3) := kX6_heard_180.2.2.1.1
theorem dX6_heard_203 : decode cX6_heard 203 = .ok (.iload 11, 2) := kX6_heard_180.2.2.1.2
theorem dX6_heard_205 : decode cX6_heard 205 = .ok (.ireturn, 1) := kX6_heard_180.2.2.2
set_option maxRecDepth 20000 in
theorem ggX6_film_X6_isPerson : GoodIn wsX6_film wsX6_isPerson := goodIn_r _ [7, 8, 9, 10, 6, 11, 75, 76, 77, 78, 79, 80, 81, 82, 83, 84, 85, 86, 87, 88, 89, 90, 91, 92, 93] rfl (by decide +kernel)
set_option maxRecDepth 20000 in
theorem gX6_film_X6_isPerson : GoodIn wsX6_film (wsV RX6 102 RX6 yX6_isPerson wsX6_isPerson) := goodIn_app (goodIn_of _ (by decide +kernel)) ggX6_film_X6_isPerson
set_option maxRecDepth 20000 in
theorem ggX6_film_X6_in : GoodIn wsX6_film wsX6_in := goodIn_r _ [11] rfl (by decide +kernel)
set_option maxRecDepth 20000 in
theorem gX6_film_X6_in : GoodIn wsX6_film (va_wsS RX6 50 yX6_in wsX6_in) := goodIn_app (goodIn_of _ (by decide +kernel)) ggX6_film_X6_in
set_option maxRecDepth 20000 in
theorem ggX6_film_X6_isSheet : GoodIn wsX6_film wsX6_isSheet := goodIn_r _ [14, 15, 9, 10, 6, 11] rfl (by decide +kernel)
set_option maxRecDepth 20000 in
theorem gX6_film_X6_isSheet : GoodIn wsX6_film (va_wsS RX6 213 yX6_isSheet wsX6_isSheet) := goodIn_app (goodIn_of _ (by decide +kernel)) ggX6_film_X6_isSheet
set_option maxRecDepth 20000 in
theorem ggX6_film_X6_isLane : GoodIn wsX6_film wsX6_isLane := goodIn_r _ [18, 15, 9, 10, 6, 11] rfl (by decide +kernel)
set_option maxRecDepth 20000 in
theorem gX6_film_X6_isLane : GoodIn wsX6_film (va_wsS RX6 216 yX6_isLane wsX6_isLane) := goodIn_app (goodIn_of _ (by decide +kernel)) ggX6_film_X6_isLane
set_option maxRecDepth 20000 in
theorem ggX6_film_X6_why : GoodIn wsX6_film wsX6_why := goodIn_r _ [22, 23, 24, 75, 76, 77, 78, 79, 80, 81, 82, 83, 84, 85, 86, 87, 88, 89, 90, 91, 92, 93] rfl (by decide +kernel)
set_option maxRecDepth 20000 in
theorem gX6_film_X6_why : GoodIn wsX6_film (wsV RX6 221 RX6 yX6_why wsX6_why) := goodIn_app (goodIn_of _ (by decide +kernel)) ggX6_film_X6_why
set_option maxRecDepth 20000 in
theorem ggX6_film_X6_asides : GoodIn wsX6_film wsX6_asides := goodIn_r _ [28, 29, 8, 75, 76, 77, 78, 79, 80, 81, 82, 83, 84, 85, 86, 87, 88, 89, 90, 91, 92, 93] rfl (by decide +kernel)
set_option maxRecDepth 20000 in
theorem gX6_film_X6_asides : GoodIn wsX6_film (wsV RX6 175 RX6 yX6_asides wsX6_asides) := goodIn_app (goodIn_of _ (by decide +kernel)) ggX6_film_X6_asides
set_option maxRecDepth 20000 in
theorem ggX6_film_X6_goesBy : GoodIn wsX6_film wsX6_goesBy := goodIn_r _ [33, 8, 34, 35, 36, 37, 6, 38, 39, 40, 41, 42, 43, 44, 45, 46, 47, 48, 49, 50, 51, 52, 53, 54, 55, 56, 57, 58, 59, 60, 61, 62, 63, 64, 65, 66, 67, 68, 69, 70, 75, 76, 77, 78, 79, 80, 81, 82, 83, 84, 85, 86, 87, 88, 89, 90, 91, 92, 93] rfl (by decide +kernel)
set_option maxRecDepth 20000 in
theorem gX6_film_X6_goesBy : GoodIn wsX6_film (wsV RX6 87 RX6 yX6_goesBy wsX6_goesBy) := goodIn_app (goodIn_of _ (by decide +kernel)) ggX6_film_X6_goesBy
set_option maxRecDepth 20000 in
theorem ggX6_film_X6_turns : GoodIn wsX6_film wsX6_turns := goodIn_r _ [50, 51, 52, 53, 6, 54, 8, 75, 76, 77, 78, 79, 80, 81, 82, 83, 84, 85, 86, 87, 88, 89, 90, 91, 92, 93] rfl (by decide +kernel)
set_option maxRecDepth 20000 in
theorem gX6_film_X6_turns : GoodIn wsX6_film (wsV RX6 58 RX6 yX6_turns wsX6_turns) := goodIn_app (goodIn_of _ (by decide +kernel)) ggX6_film_X6_turns
set_option maxRecDepth 20000 in
theorem ggX6_film_X6_backs : GoodIn wsX6_film wsX6_backs := goodIn_r _ [74, 8, 29, 75, 76, 77, 78, 79, 80, 81, 82, 83, 84, 85, 86, 87, 88, 89, 90, 91, 92, 93] rfl (by decide +kernel)
set_option maxRecDepth 20000 in
theorem gX6_film_X6_backs : GoodIn wsX6_film (wsV RX6 181 RX6 yX6_backs wsX6_backs) := goodIn_app (goodIn_of _ (by decide +kernel)) ggX6_film_X6_backs
theorem kX6_film_0 : (((((decode cX6_film 0 = .ok (.aload_n 0, 1)) ∧ (decode cX6_film 1 = .ok (.iload_n 1, 1))) ∧ ((decode cX6_film 2 = .ok (.invokevirtual 102, 3)) ∧ (decode cX6_film 5 = .ok (.ifCond .eq 30, 3)))) ∧ (((decode cX6_film 8 = .ok (.iload_n 2, 1)) ∧ (decode cX6_film 9 = .ok (.i2l, 1))) ∧ ((decode cX6_film 10 = .ok (.lconst 1, 1)) ∧ (decode cX6_film 11 = .ok (.ldc2_w 229, 3))))) ∧ ((((decode cX6_film 14 = .ok (.invokestatic 50, 3)) ∧ (decode cX6_film 17 = .ok (.ifCond .eq 18, 3))) ∧ ((decode cX6_film 20 = .ok (.iload_n 3, 1)) ∧ (decode cX6_film 21 = .ok (.invokestatic 213, 3)))) ∧ (((decode cX6_film 24 = .ok (.ifCond .eq 11, 3)) ∧ (decode cX6_film 27 = .ok (.iload 4, 2))) ∧ ((decode cX6_film 29 = .ok (.invokestatic 216, 3)) ∧ (decode cX6_film 32 = .ok (.ifCond .ne 5, 3)))))) := by decide +kernel
theorem dX6_film_0 : decode cX6_film 0 = .ok (.aload_n 0, 1) := kX6_film_0.1.1.1.1
theorem dX6_film_1 : decode cX6_film 1 = .ok (.iload_n 1, 1) := kX6_film_0.1.1.1.2
theorem dX6_film_2 : decode cX6_film 2 = .ok (.invokevirtual 102, 3) := kX6_film_0.1.1.2.1
theorem dX6_film_5 : decode cX6_film 5 = .ok (.ifCond .eq 30, 3) := kX6_film_0.1.1.2.2
theorem dX6_film_8 : decode cX6_film 8 = .ok (.iload_n 2, 1) := kX6_film_0.1.2.1.1
theorem dX6_film_9 : decode cX6_film 9 = .ok (.i2l, 1) := kX6_film_0.1.2.1.2
theorem dX6_film_10 : decode cX6_film 10 = .ok (.lconst 1, 1) := kX6_film_0.1.2.2.1
theorem dX6_film_11 : decode cX6_film 11 = .ok (.ldc2_w 229, 3) := kX6_film_0.1.2.2.2
theorem dX6_film_14 : decode cX6_film 14 = .ok (.invokestatic 50, 3) := kX6_film_0.2.1.1.1
theorem dX6_film_17 : decode cX6_film 17 = .ok (.ifCond .eq 18, 3) := kX6_film_0.2.1.1.2
theorem dX6_film_20 : decode cX6_film 20 = .ok (.iload_n 3, 1) := kX6_film_0.2.1.2.1
theorem dX6_film_21 : decode cX6_film 21 = .ok (.invokestatic 213, 3) := kX6_film_0.2.1.2.2
theorem dX6_film_24 : decode cX6_film 24 = .ok (.ifCond .eq 11, 3) := kX6_film_0.2.2.1.1
theorem dX6_film_27 : decode cX6_film 27 = .ok (.iload 4, 2) := kX6_film_0.2.2.1.2
theorem dX6_film_29 : decode cX6_film 29 = .ok (.invokestatic 216, 3) := kX6_film_0.2.2.2.1
theorem dX6_film_32 : decode cX6_film 32 = .ok (.ifCond .ne 5, 3) := kX6_film_0.2.2.2.2
theorem kX6_film_35 : (((((decode cX6_film 35 = .ok (.iconst (-1), 1)) ∧ (decode cX6_film 36 = .ok (.ireturn, 1))) ∧ ((decode cX6_film 37 = .ok (.aload_n 0, 1)) ∧ (decode cX6_film 38 = .ok (.iload_n 3, 1)))) ∧ (((decode cX6_film 39 = .ok (.iload 4, 2)) ∧ (decode cX6_film 41 = .ok (.iload 5, 2))) ∧ ((decode cX6_film 43 = .ok (.iload_n 2, 1)) ∧ (decode cX6_film 44 = .ok (.invokevirtual 221, 3))))) ∧ ((((decode cX6_film 47 = .ok (.istore 6, 2)) ∧ (decode cX6_film 49 = .ok (.iload 6, 2))) ∧ ((decode cX6_film 51 = .ok (.ifCond .ge 6, 3)) ∧ (decode cX6_film 54 = .ok (.iload 6, 2)))) ∧ (((decode cX6_film 56 = .ok (.ireturn, 1)) ∧ (decode cX6_film 57 = .ok (.aload_n 0, 1))) ∧ ((decode cX6_film 58 = .ok (.invokevirtual 175, 3)) ∧ (decode cX6_film 61 = .ok (.iconst 0, 1)))))) := by decide +kernel
theorem dX6_film_35 : decode cX6_film 35 = .ok (.iconst (-1), 1) := kX6_film_35.1.1.1.1
theorem dX6_film_36 : decode cX6_film 36 = .ok (.ireturn, 1) := kX6_film_35.1.1.1.2
theorem dX6_film_37 : decode cX6_film 37 = .ok (.aload_n 0, 1) := kX6_film_35.1.1.2.1
theorem dX6_film_38 : decode cX6_film 38 = .ok (.iload_n 3, 1) := kX6_film_35.1.1.2.2
theorem dX6_film_39 : decode cX6_film 39 = .ok (.iload 4, 2) := kX6_film_35.1.2.1.1
theorem dX6_film_41 : decode cX6_film 41 = .ok (.iload 5, 2) := kX6_film_35.1.2.1.2
theorem dX6_film_43 : decode cX6_film 43 = .ok (.iload_n 2, 1) := kX6_film_35.1.2.2.1
theorem dX6_film_44 : decode cX6_film 44 = .ok (.invokevirtual 221, 3) := kX6_film_35.1.2.2.2
theorem dX6_film_47 : decode cX6_film 47 = .ok (.istore 6, 2) := kX6_film_35.2.1.1.1
theorem dX6_film_49 : decode cX6_film 49 = .ok (.iload 6, 2) := kX6_film_35.2.1.1.2
theorem dX6_film_51 : decode cX6_film 51 = .ok (.ifCond .ge 6, 3) := kX6_film_35.2.1.2.1
theorem dX6_film_54 : decode cX6_film 54 = .ok (.iload 6, 2) := kX6_film_35.2.1.2.2
theorem dX6_film_56 : decode cX6_film 56 = .ok (.ireturn, 1) := kX6_film_35.2.2.1.1
theorem dX6_film_57 : decode cX6_film 57 = .ok (.aload_n 0, 1) := kX6_film_35.2.2.1.2
theorem dX6_film_58 : decode cX6_film 58 = .ok (.invokevirtual 175, 3) := kX6_film_35.2.2.2.1
theorem dX6_film_61 : decode cX6_film 61 = .ok (.iconst 0, 1) := kX6_film_35.2.2.2.2
theorem kX6_film_62 : (((((decode cX6_film 62 = .ok (.istore 7, 2)) ∧ (decode cX6_film 64 = .ok (.iload 7, 2))) ∧ ((decode cX6_film 66 = .ok (.iload_n 2, 1)) ∧ (decode cX6_film 67 = .ok (.if_icmp .ge 35, 3)))) ∧ (((decode cX6_film 70 = .ok (.aload_n 0, 1)) ∧ (decode cX6_film 71 = .ok (.iconst 0, 1))) ∧ ((decode cX6_film 72 = .ok (.invokevirtual 87, 3)) ∧ (decode cX6_film 75 = .ok (.aload_n 0, 1))))) ∧ ((((decode cX6_film 76 = .ok (.getfield 43, 3)) ∧ (decode cX6_film 79 = .ok (.bipush 24, 2))) ∧ ((decode cX6_film 81 = .ok (.iload_n 3, 1)) ∧ (decode cX6_film 82 = .ok (.imul, 1)))) ∧ (((decode cX6_film 83 = .ok (.iload 5, 2)) ∧ (decode cX6_film 85 = .ok (.iadd, 1))) ∧ ((decode cX6_film 86 = .ok (.iload 7, 2)) ∧ (decode cX6_film 88 = .ok (.iadd, 1)))))) := by decide +kernel
theorem dX6_film_62 : decode cX6_film 62 = .ok (.istore 7, 2) := kX6_film_62.1.1.1.1
theorem dX6_film_64 : decode cX6_film 64 = .ok (.iload 7, 2) := kX6_film_62.1.1.1.2
theorem dX6_film_66 : decode cX6_film 66 = .ok (.iload_n 2, 1) := kX6_film_62.1.1.2.1
theorem dX6_film_67 : decode cX6_film 67 = .ok (.if_icmp .ge 35, 3) := kX6_film_62.1.1.2.2
theorem dX6_film_70 : decode cX6_film 70 = .ok (.aload_n 0, 1) := kX6_film_62.1.2.1.1
theorem dX6_film_71 : decode cX6_film 71 = .ok (.iconst 0, 1) := kX6_film_62.1.2.1.2
theorem dX6_film_72 : decode cX6_film 72 = .ok (.invokevirtual 87, 3) := kX6_film_62.1.2.2.1
theorem dX6_film_75 : decode cX6_film 75 = .ok (.aload_n 0, 1) := kX6_film_62.1.2.2.2
theorem dX6_film_76 : decode cX6_film 76 = .ok (.getfield 43, 3) := kX6_film_62.2.1.1.1
theorem dX6_film_79 : decode cX6_film 79 = .ok (.bipush 24, 2) := kX6_film_62.2.1.1.2
theorem dX6_film_81 : decode cX6_film 81 = .ok (.iload_n 3, 1) := kX6_film_62.2.1.2.1
theorem dX6_film_82 : decode cX6_film 82 = .ok (.imul, 1) := kX6_film_62.2.1.2.2
theorem dX6_film_83 : decode cX6_film 83 = .ok (.iload 5, 2) := kX6_film_62.2.2.1.1
theorem dX6_film_85 : decode cX6_film 85 = .ok (.iadd, 1) := kX6_film_62.2.2.1.2
theorem dX6_film_86 : decode cX6_film 86 = .ok (.iload 7, 2) := kX6_film_62.2.2.2.1
theorem dX6_film_88 : decode cX6_film 88 = .ok (.iadd, 1) := kX6_film_62.2.2.2.2
theorem kX6_film_89 : (((((decode cX6_film 89 = .ok (.aload_n 0, 1)) ∧ (decode cX6_film 90 = .ok (.iload_n 1, 1))) ∧ (decode cX6_film 91 = .ok (.invokevirtual 58, 3))) ∧ (((decode cX6_film 94 = .ok (.i2l, 1)) ∧ (decode cX6_film 95 = .ok (.lastore, 1))) ∧ (decode cX6_film 96 = .ok (.iinc 7 1, 3)))) ∧ ((((decode cX6_film 99 = .ok (.goto (-35), 3)) ∧ (decode cX6_film 102 = .ok (.aload_n 0, 1))) ∧ (decode cX6_film 103 = .ok (.invokevirtual 181, 3))) ∧ ((decode cX6_film 106 = .ok (.iload_n 2, 1)) ∧ (decode cX6_film 107 = .ok (.ireturn, 1))))) := by decide +kernel
theorem dX6_film_89 : decode cX6_film 89 = .ok (.aload_n 0, 1) := kX6_film_89.1.1.1.1
theorem dX6_film_90 : decode cX6_film 90 = .ok (.iload_n 1, 1) := kX6_film_89.1.1.1.2
theorem dX6_film_91 : decode cX6_film 91 = .ok (.invokevirtual 58, 3) := kX6_film_89.1.1.2
theorem dX6_film_94 : decode cX6_film 94 = .ok (.i2l, 1) := kX6_film_89.1.2.1.1
theorem dX6_film_95 : decode cX6_film 95 = .ok (.lastore, 1) := kX6_film_89.1.2.1.2
theorem dX6_film_96 : decode cX6_film 96 = .ok (.iinc 7 1, 3) := kX6_film_89.1.2.2
theorem dX6_film_99 : decode cX6_film 99 = .ok (.goto (-35), 3) := kX6_film_89.2.1.1.1
theorem dX6_film_102 : decode cX6_film 102 = .ok (.aload_n 0, 1) := kX6_film_89.2.1.1.2
theorem dX6_film_103 : decode cX6_film 103 = .ok (.invokevirtual 181, 3) := kX6_film_89.2.1.2
theorem dX6_film_106 : decode cX6_film 106 = .ok (.iload_n 2, 1) := kX6_film_89.2.2.1
theorem dX6_film_107 : decode cX6_film 107 = .ok (.ireturn, 1) := kX6_film_89.2.2.2
set_option maxRecDepth 20000 in
theorem ggX6_sheet_X6_isSheet : GoodIn wsX6_sheet wsX6_isSheet := goodIn_r _ [7, 8, 9, 10, 6, 11] rfl (by decide +kernel)
set_option maxRecDepth 20000 in
theorem gX6_sheet_X6_isSheet : GoodIn wsX6_sheet (va_wsS RX6 213 yX6_isSheet wsX6_isSheet) := goodIn_app (goodIn_of _ (by decide +kernel)) ggX6_sheet_X6_isSheet
set_option maxRecDepth 20000 in
theorem ggX6_sheet_X6_isLane : GoodIn wsX6_sheet wsX6_isLane := goodIn_r _ [14, 8, 9, 10, 6, 11] rfl (by decide +kernel)
set_option maxRecDepth 20000 in
theorem gX6_sheet_X6_isLane : GoodIn wsX6_sheet (va_wsS RX6 216 yX6_isLane wsX6_isLane) := goodIn_app (goodIn_of _ (by decide +kernel)) ggX6_sheet_X6_isLane
theorem kX6_sheet_0 : (((((decode cX6_sheet 0 = .ok (.iload_n 1, 1)) ∧ (decode cX6_sheet 1 = .ok (.invokestatic 213, 3))) ∧ ((decode cX6_sheet 4 = .ok (.ifCond .eq 16, 3)) ∧ (decode cX6_sheet 7 = .ok (.iload_n 2, 1)))) ∧ (((decode cX6_sheet 8 = .ok (.invokestatic 216, 3)) ∧ (decode cX6_sheet 11 = .ok (.ifCond .eq 9, 3))) ∧ ((decode cX6_sheet 14 = .ok (.iload_n 3, 1)) ∧ (decode cX6_sheet 15 = .ok (.bipush 24, 2))))) ∧ ((((decode cX6_sheet 17 = .ok (.if_icmp .le 5, 3)) ∧ (decode cX6_sheet 20 = .ok (.iconst (-1), 1))) ∧ ((decode cX6_sheet 21 = .ok (.ireturn, 1)) ∧ (decode cX6_sheet 22 = .ok (.iload_n 3, 1)))) ∧ (((decode cX6_sheet 23 = .ok (.ifCond .ge 6, 3)) ∧ (decode cX6_sheet 26 = .ok (.bipush (-14), 2))) ∧ ((decode cX6_sheet 28 = .ok (.ireturn, 1)) ∧ (decode cX6_sheet 29 = .ok (.aload_n 0, 1)))))) := by decide +kernel
theorem dX6_sheet_0 : decode cX6_sheet 0 = .ok (.iload_n 1, 1) := kX6_sheet_0.1.1.1.1
theorem dX6_sheet_1 : decode cX6_sheet 1 = .ok (.invokestatic 213, 3) := kX6_sheet_0.1.1.1.2
theorem dX6_sheet_4 : decode cX6_sheet 4 = .ok (.ifCond .eq 16, 3) := kX6_sheet_0.1.1.2.1
theorem dX6_sheet_7 : decode cX6_sheet 7 = .ok (.iload_n 2, 1) := kX6_sheet_0.1.1.2.2
theorem dX6_sheet_8 : decode cX6_sheet 8 = .ok (.invokestatic 216, 3) := kX6_sheet_0.1.2.1.1
theorem dX6_sheet_11 : decode cX6_sheet 11 = .ok (.ifCond .eq 9, 3) := kX6_sheet_0.1.2.1.2
theorem dX6_sheet_14 : decode cX6_sheet 14 = .ok (.iload_n 3, 1) := kX6_sheet_0.1.2.2.1
theorem dX6_sheet_15 : decode cX6_sheet 15 = .ok (.bipush 24, 2) := kX6_sheet_0.1.2.2.2
theorem dX6_sheet_17 : decode cX6_sheet 17 = .ok (.if_icmp .le 5, 3) := kX6_sheet_0.2.1.1.1
theorem dX6_sheet_20 : decode cX6_sheet 20 = .ok (.iconst (-1), 1) := kX6_sheet_0.2.1.1.2
theorem dX6_sheet_21 : decode cX6_sheet 21 = .ok (.ireturn, 1) := kX6_sheet_0.2.1.2.1
theorem dX6_sheet_22 : decode cX6_sheet 22 = .ok (.iload_n 3, 1) := kX6_sheet_0.2.1.2.2
theorem dX6_sheet_23 : decode cX6_sheet 23 = .ok (.ifCond .ge 6, 3) := kX6_sheet_0.2.2.1.1
theorem dX6_sheet_26 : decode cX6_sheet 26 = .ok (.bipush (-14), 2) := kX6_sheet_0.2.2.1.2
theorem dX6_sheet_28 : decode cX6_sheet 28 = .ok (.ireturn, 1) := kX6_sheet_0.2.2.2.1
theorem dX6_sheet_29 : decode cX6_sheet 29 = .ok (.aload_n 0, 1) := kX6_sheet_0.2.2.2.2
theorem kX6_sheet_30 : (((((decode cX6_sheet 30 = .ok (.getfield 37, 3)) ∧ (decode cX6_sheet 33 = .ok (.iload_n 1, 1))) ∧ ((decode cX6_sheet 34 = .ok (.iload_n 2, 1)) ∧ (decode cX6_sheet 35 = .ok (.iastore, 1)))) ∧ (((decode cX6_sheet 36 = .ok (.aload_n 0, 1)) ∧ (decode cX6_sheet 37 = .ok (.getfield 40, 3))) ∧ ((decode cX6_sheet 40 = .ok (.iload_n 1, 1)) ∧ (decode cX6_sheet 41 = .ok (.iload_n 3, 1))))) ∧ ((((decode cX6_sheet 42 = .ok (.iastore, 1)) ∧ (decode cX6_sheet 43 = .ok (.iconst 0, 1))) ∧ ((decode cX6_sheet 44 = .ok (.istore 4, 2)) ∧ (decode cX6_sheet 46 = .ok (.iload 4, 2)))) ∧ (((decode cX6_sheet 48 = .ok (.bipush 24, 2)) ∧ (decode cX6_sheet 50 = .ok (.if_icmp .ge 22, 3))) ∧ ((decode cX6_sheet 53 = .ok (.aload_n 0, 1)) ∧ (decode cX6_sheet 54 = .ok (.getfield 43, 3)))))) := by decide +kernel
theorem dX6_sheet_30 : decode cX6_sheet 30 = .ok (.getfield 37, 3) := kX6_sheet_30.1.1.1.1
theorem dX6_sheet_33 : decode cX6_sheet 33 = .ok (.iload_n 1, 1) := kX6_sheet_30.1.1.1.2
theorem dX6_sheet_34 : decode cX6_sheet 34 = .ok (.iload_n 2, 1) := kX6_sheet_30.1.1.2.1
theorem dX6_sheet_35 : decode cX6_sheet 35 = .ok (.iastore, 1) := kX6_sheet_30.1.1.2.2
theorem dX6_sheet_36 : decode cX6_sheet 36 = .ok (.aload_n 0, 1) := kX6_sheet_30.1.2.1.1
theorem dX6_sheet_37 : decode cX6_sheet 37 = .ok (.getfield 40, 3) := kX6_sheet_30.1.2.1.2
theorem dX6_sheet_40 : decode cX6_sheet 40 = .ok (.iload_n 1, 1) := kX6_sheet_30.1.2.2.1
theorem dX6_sheet_41 : decode cX6_sheet 41 = .ok (.iload_n 3, 1) := kX6_sheet_30.1.2.2.2
theorem dX6_sheet_42 : decode cX6_sheet 42 = .ok (.iastore, 1) := kX6_sheet_30.2.1.1.1
theorem dX6_sheet_43 : decode cX6_sheet 43 = .ok (.iconst 0, 1) := kX6_sheet_30.2.1.1.2
theorem dX6_sheet_44 : decode cX6_sheet 44 = .ok (.istore 4, 2) := kX6_sheet_30.2.1.2.1
theorem dX6_sheet_46 : decode cX6_sheet 46 = .ok (.iload 4, 2) := kX6_sheet_30.2.1.2.2
theorem dX6_sheet_48 : decode cX6_sheet 48 = .ok (.bipush 24, 2) := kX6_sheet_30.2.2.1.1
theorem dX6_sheet_50 : decode cX6_sheet 50 = .ok (.if_icmp .ge 22, 3) := kX6_sheet_30.2.2.1.2
theorem dX6_sheet_53 : decode cX6_sheet 53 = .ok (.aload_n 0, 1) := kX6_sheet_30.2.2.2.1
theorem dX6_sheet_54 : decode cX6_sheet 54 = .ok (.getfield 43, 3) := kX6_sheet_30.2.2.2.2
theorem kX6_sheet_57 : (((((decode cX6_sheet 57 = .ok (.bipush 24, 2)) ∧ (decode cX6_sheet 59 = .ok (.iload_n 1, 1))) ∧ (decode cX6_sheet 60 = .ok (.imul, 1))) ∧ (((decode cX6_sheet 61 = .ok (.iload 4, 2)) ∧ (decode cX6_sheet 63 = .ok (.iadd, 1))) ∧ (decode cX6_sheet 64 = .ok (.lconst 0, 1)))) ∧ ((((decode cX6_sheet 65 = .ok (.lastore, 1)) ∧ (decode cX6_sheet 66 = .ok (.iinc 4 1, 3))) ∧ (decode cX6_sheet 69 = .ok (.goto (-23), 3))) ∧ ((decode cX6_sheet 72 = .ok (.iload_n 3, 1)) ∧ (decode cX6_sheet 73 = .ok (.ireturn, 1))))) := by decide +kernel
theorem dX6_sheet_57 : decode cX6_sheet 57 = .ok (.bipush 24, 2) := kX6_sheet_57.1.1.1.1
theorem dX6_sheet_59 : decode cX6_sheet 59 = .ok (.iload_n 1, 1) := kX6_sheet_57.1.1.1.2
theorem dX6_sheet_60 : decode cX6_sheet 60 = .ok (.imul, 1) := kX6_sheet_57.1.1.2
theorem dX6_sheet_61 : decode cX6_sheet 61 = .ok (.iload 4, 2) := kX6_sheet_57.1.2.1.1
theorem dX6_sheet_63 : decode cX6_sheet 63 = .ok (.iadd, 1) := kX6_sheet_57.1.2.1.2
theorem dX6_sheet_64 : decode cX6_sheet 64 = .ok (.lconst 0, 1) := kX6_sheet_57.1.2.2
theorem dX6_sheet_65 : decode cX6_sheet 65 = .ok (.lastore, 1) := kX6_sheet_57.2.1.1.1
theorem dX6_sheet_66 : decode cX6_sheet 66 = .ok (.iinc 4 1, 3) := kX6_sheet_57.2.1.1.2
theorem dX6_sheet_69 : decode cX6_sheet 69 = .ok (.goto (-23), 3) := kX6_sheet_57.2.1.2
theorem dX6_sheet_72 : decode cX6_sheet 72 = .ok (.iload_n 3, 1) := kX6_sheet_57.2.2.1
theorem dX6_sheet_73 : decode cX6_sheet 73 = .ok (.ireturn, 1) := kX6_sheet_57.2.2.2
set_option maxRecDepth 20000 in
theorem ggX6_drop_X6_isSheet : GoodIn wsX6_drop wsX6_isSheet := goodIn_r _ [6, 7, 8, 9, 5, 10] rfl (by decide +kernel)
set_option maxRecDepth 20000 in
theorem gX6_drop_X6_isSheet : GoodIn wsX6_drop (va_wsS RX6 213 yX6_isSheet wsX6_isSheet) := goodIn_app (goodIn_of _ (by decide +kernel)) ggX6_drop_X6_isSheet
theorem kX6_drop_0 : (((((decode cX6_drop 0 = .ok (.iload_n 1, 1)) ∧ (decode cX6_drop 1 = .ok (.invokestatic 213, 3))) ∧ ((decode cX6_drop 4 = .ok (.ifCond .ne 5, 3)) ∧ (decode cX6_drop 7 = .ok (.iconst (-1), 1)))) ∧ (((decode cX6_drop 8 = .ok (.ireturn, 1)) ∧ (decode cX6_drop 9 = .ok (.aload_n 0, 1))) ∧ ((decode cX6_drop 10 = .ok (.getfield 37, 3)) ∧ (decode cX6_drop 13 = .ok (.iload_n 1, 1))))) ∧ ((((decode cX6_drop 14 = .ok (.iaload, 1)) ∧ (decode cX6_drop 15 = .ok (.ifCond .ge 6, 3))) ∧ ((decode cX6_drop 18 = .ok (.bipush (-11), 2)) ∧ (decode cX6_drop 20 = .ok (.ireturn, 1)))) ∧ (((decode cX6_drop 21 = .ok (.aload_n 0, 1)) ∧ (decode cX6_drop 22 = .ok (.getfield 37, 3))) ∧ ((decode cX6_drop 25 = .ok (.iload_n 1, 1)) ∧ (decode cX6_drop 26 = .ok (.iconst (-1), 1)))))) := by decide +kernel
theorem dX6_drop_0 : decode cX6_drop 0 = .ok (.iload_n 1, 1) := kX6_drop_0.1.1.1.1
theorem dX6_drop_1 : decode cX6_drop 1 = .ok (.invokestatic 213, 3) := kX6_drop_0.1.1.1.2
theorem dX6_drop_4 : decode cX6_drop 4 = .ok (.ifCond .ne 5, 3) := kX6_drop_0.1.1.2.1
theorem dX6_drop_7 : decode cX6_drop 7 = .ok (.iconst (-1), 1) := kX6_drop_0.1.1.2.2
theorem dX6_drop_8 : decode cX6_drop 8 = .ok (.ireturn, 1) := kX6_drop_0.1.2.1.1
theorem dX6_drop_9 : decode cX6_drop 9 = .ok (.aload_n 0, 1) := kX6_drop_0.1.2.1.2
theorem dX6_drop_10 : decode cX6_drop 10 = .ok (.getfield 37, 3) := kX6_drop_0.1.2.2.1
theorem dX6_drop_13 : decode cX6_drop 13 = .ok (.iload_n 1, 1) := kX6_drop_0.1.2.2.2
theorem dX6_drop_14 : decode cX6_drop 14 = .ok (.iaload, 1) := kX6_drop_0.2.1.1.1
theorem dX6_drop_15 : decode cX6_drop 15 = .ok (.ifCond .ge 6, 3) := kX6_drop_0.2.1.1.2
theorem dX6_drop_18 : decode cX6_drop 18 = .ok (.bipush (-11), 2) := kX6_drop_0.2.1.2.1
theorem dX6_drop_20 : decode cX6_drop 20 = .ok (.ireturn, 1) := kX6_drop_0.2.1.2.2
theorem dX6_drop_21 : decode cX6_drop 21 = .ok (.aload_n 0, 1) := kX6_drop_0.2.2.1.1
theorem dX6_drop_22 : decode cX6_drop 22 = .ok (.getfield 37, 3) := kX6_drop_0.2.2.1.2
theorem dX6_drop_25 : decode cX6_drop 25 = .ok (.iload_n 1, 1) := kX6_drop_0.2.2.2.1
theorem dX6_drop_26 : decode cX6_drop 26 = .ok (.iconst (-1), 1) := kX6_drop_0.2.2.2.2
theorem kX6_drop_27 : ((((decode cX6_drop 27 = .ok (.iastore, 1)) ∧ (decode cX6_drop 28 = .ok (.aload_n 0, 1))) ∧ (decode cX6_drop 29 = .ok (.getfield 40, 3))) ∧ (((decode cX6_drop 32 = .ok (.iload_n 1, 1)) ∧ (decode cX6_drop 33 = .ok (.iaload, 1))) ∧ (decode cX6_drop 34 = .ok (.ireturn, 1)))) := by decide +kernel
theorem dX6_drop_27 : decode cX6_drop 27 = .ok (.iastore, 1) := kX6_drop_27.1.1.1
theorem dX6_drop_28 : decode cX6_drop 28 = .ok (.aload_n 0, 1) := kX6_drop_27.1.1.2
theorem dX6_drop_29 : decode cX6_drop 29 = .ok (.getfield 40, 3) := kX6_drop_27.1.2
theorem dX6_drop_32 : decode cX6_drop 32 = .ok (.iload_n 1, 1) := kX6_drop_27.2.1.1
theorem dX6_drop_33 : decode cX6_drop 33 = .ok (.iaload, 1) := kX6_drop_27.2.1.2
theorem dX6_drop_34 : decode cX6_drop 34 = .ok (.ireturn, 1) := kX6_drop_27.2.2
set_option maxRecDepth 20000 in
theorem ggX6_item_X6_isSheet : GoodIn wsX6_item wsX6_isSheet := goodIn_r _ [5, 6, 7, 8, 4, 9] rfl (by decide +kernel)
set_option maxRecDepth 20000 in
theorem gX6_item_X6_isSheet : GoodIn wsX6_item (va_wsS RX6 213 yX6_isSheet wsX6_isSheet) := goodIn_app (goodIn_of _ (by decide +kernel)) ggX6_item_X6_isSheet
set_option maxRecDepth 20000 in
theorem ggX6_item_X6_isLane : GoodIn wsX6_item wsX6_isLane := goodIn_r _ [12, 6, 7, 8, 4, 9] rfl (by decide +kernel)
set_option maxRecDepth 20000 in
theorem gX6_item_X6_isLane : GoodIn wsX6_item (va_wsS RX6 216 yX6_isLane wsX6_isLane) := goodIn_app (goodIn_of _ (by decide +kernel)) ggX6_item_X6_isLane
set_option maxRecDepth 20000 in
theorem ggX6_item_X6_why : GoodIn wsX6_item wsX6_why := goodIn_r _ [16, 17, 18, 19, 20, 21, 22, 23, 24, 25, 26, 27, 28, 29, 30, 31, 32, 33, 34, 35, 36, 37] rfl (by decide +kernel)
set_option maxRecDepth 20000 in
theorem gX6_item_X6_why : GoodIn wsX6_item (wsV RX6 221 RX6 yX6_why wsX6_why) := goodIn_app (goodIn_of _ (by decide +kernel)) ggX6_item_X6_why
theorem kX6_item_0 : (((((decode cX6_item 0 = .ok (.iload_n 1, 1)) ∧ (decode cX6_item 1 = .ok (.invokestatic 213, 3))) ∧ ((decode cX6_item 4 = .ok (.ifCond .eq 10, 3)) ∧ (decode cX6_item 7 = .ok (.iload_n 2, 1)))) ∧ (((decode cX6_item 8 = .ok (.invokestatic 216, 3)) ∧ (decode cX6_item 11 = .ok (.ifCond .ne 5, 3))) ∧ ((decode cX6_item 14 = .ok (.iconst (-1), 1)) ∧ (decode cX6_item 15 = .ok (.ireturn, 1))))) ∧ ((((decode cX6_item 16 = .ok (.aload_n 0, 1)) ∧ (decode cX6_item 17 = .ok (.iload_n 1, 1))) ∧ ((decode cX6_item 18 = .ok (.iload_n 2, 1)) ∧ (decode cX6_item 19 = .ok (.iload_n 3, 1)))) ∧ (((decode cX6_item 20 = .ok (.iconst 1, 1)) ∧ (decode cX6_item 21 = .ok (.invokevirtual 221, 3))) ∧ ((decode cX6_item 24 = .ok (.istore 6, 2)) ∧ (decode cX6_item 26 = .ok (.iload 6, 2)))))) := by decide +kernel
theorem dX6_item_0 : decode cX6_item 0 = .ok (.iload_n 1, 1) := kX6_item_0.1.1.1.1
theorem dX6_item_1 : decode cX6_item 1 = .ok (.invokestatic 213, 3) := kX6_item_0.1.1.1.2
theorem dX6_item_4 : decode cX6_item 4 = .ok (.ifCond .eq 10, 3) := kX6_item_0.1.1.2.1
theorem dX6_item_7 : decode cX6_item 7 = .ok (.iload_n 2, 1) := kX6_item_0.1.1.2.2
theorem dX6_item_8 : decode cX6_item 8 = .ok (.invokestatic 216, 3) := kX6_item_0.1.2.1.1
theorem dX6_item_11 : decode cX6_item 11 = .ok (.ifCond .ne 5, 3) := kX6_item_0.1.2.1.2
theorem dX6_item_14 : decode cX6_item 14 = .ok (.iconst (-1), 1) := kX6_item_0.1.2.2.1
theorem dX6_item_15 : decode cX6_item 15 = .ok (.ireturn, 1) := kX6_item_0.1.2.2.2
theorem dX6_item_16 : decode cX6_item 16 = .ok (.aload_n 0, 1) := kX6_item_0.2.1.1.1
theorem dX6_item_17 : decode cX6_item 17 = .ok (.iload_n 1, 1) := kX6_item_0.2.1.1.2
theorem dX6_item_18 : decode cX6_item 18 = .ok (.iload_n 2, 1) := kX6_item_0.2.1.2.1
theorem dX6_item_19 : decode cX6_item 19 = .ok (.iload_n 3, 1) := kX6_item_0.2.1.2.2
theorem dX6_item_20 : decode cX6_item 20 = .ok (.iconst 1, 1) := kX6_item_0.2.2.1.1
theorem dX6_item_21 : decode cX6_item 21 = .ok (.invokevirtual 221, 3) := kX6_item_0.2.2.1.2
theorem dX6_item_24 : decode cX6_item 24 = .ok (.istore 6, 2) := kX6_item_0.2.2.2.1
theorem dX6_item_26 : decode cX6_item 26 = .ok (.iload 6, 2) := kX6_item_0.2.2.2.2
theorem kX6_item_28 : (((((decode cX6_item 28 = .ok (.ifCond .ge 6, 3)) ∧ (decode cX6_item 31 = .ok (.iload 6, 2))) ∧ ((decode cX6_item 33 = .ok (.ireturn, 1)) ∧ (decode cX6_item 34 = .ok (.aload_n 0, 1)))) ∧ (((decode cX6_item 35 = .ok (.getfield 43, 3)) ∧ (decode cX6_item 38 = .ok (.bipush 24, 2))) ∧ ((decode cX6_item 40 = .ok (.iload_n 1, 1)) ∧ (decode cX6_item 41 = .ok (.imul, 1))))) ∧ ((((decode cX6_item 42 = .ok (.iload_n 3, 1)) ∧ (decode cX6_item 43 = .ok (.iadd, 1))) ∧ ((decode cX6_item 44 = .ok (.iload_n 2, 1)) ∧ (decode cX6_item 45 = .ok (.ifCond .ne 11, 3)))) ∧ (((decode cX6_item 48 = .ok (.lload 4, 2)) ∧ (decode cX6_item 50 = .ok (.l2i, 1))) ∧ ((decode cX6_item 51 = .ok (.i2b, 1)) ∧ (decode cX6_item 52 = .ok (.i2l, 1)))))) := by decide +kernel
theorem dX6_item_28 : decode cX6_item 28 = .ok (.ifCond .ge 6, 3) := kX6_item_28.1.1.1.1
theorem dX6_item_31 : decode cX6_item 31 = .ok (.iload 6, 2) := kX6_item_28.1.1.1.2
theorem dX6_item_33 : decode cX6_item 33 = .ok (.ireturn, 1) := kX6_item_28.1.1.2.1
theorem dX6_item_34 : decode cX6_item 34 = .ok (.aload_n 0, 1) := kX6_item_28.1.1.2.2
theorem dX6_item_35 : decode cX6_item 35 = .ok (.getfield 43, 3) := kX6_item_28.1.2.1.1
theorem dX6_item_38 : decode cX6_item 38 = .ok (.bipush 24, 2) := kX6_item_28.1.2.1.2
theorem dX6_item_40 : decode cX6_item 40 = .ok (.iload_n 1, 1) := kX6_item_28.1.2.2.1
theorem dX6_item_41 : decode cX6_item 41 = .ok (.imul, 1) := kX6_item_28.1.2.2.2
theorem dX6_item_42 : decode cX6_item 42 = .ok (.iload_n 3, 1) := kX6_item_28.2.1.1.1
theorem dX6_item_43 : decode cX6_item 43 = .ok (.iadd, 1) := kX6_item_28.2.1.1.2
theorem dX6_item_44 : decode cX6_item 44 = .ok (.iload_n 2, 1) := kX6_item_28.2.1.2.1
theorem dX6_item_45 : decode cX6_item 45 = .ok (.ifCond .ne 11, 3) := kX6_item_28.2.1.2.2
theorem dX6_item_48 : decode cX6_item 48 = .ok (.lload 4, 2) := kX6_item_28.2.2.1.1
theorem dX6_item_50 : decode cX6_item 50 = .ok (.l2i, 1) := kX6_item_28.2.2.1.2
theorem dX6_item_51 : decode cX6_item 51 = .ok (.i2b, 1) := kX6_item_28.2.2.2.1
theorem dX6_item_52 : decode cX6_item 52 = .ok (.i2l, 1) := kX6_item_28.2.2.2.2
theorem kX6_item_53 : (((((decode cX6_item 53 = .ok (.goto 30, 3)) ∧ (decode cX6_item 56 = .ok (.iload_n 2, 1))) ∧ ((decode cX6_item 57 = .ok (.iconst 1, 1)) ∧ (decode cX6_item 58 = .ok (.if_icmp .ne 11, 3)))) ∧ (((decode cX6_item 61 = .ok (.lload 4, 2)) ∧ (decode cX6_item 63 = .ok (.l2i, 1))) ∧ ((decode cX6_item 64 = .ok (.i2s, 1)) ∧ (decode cX6_item 65 = .ok (.i2l, 1))))) ∧ ((((decode cX6_item 66 = .ok (.goto 17, 3)) ∧ (decode cX6_item 69 = .ok (.iload_n 2, 1))) ∧ ((decode cX6_item 70 = .ok (.iconst 2, 1)) ∧ (decode cX6_item 71 = .ok (.if_icmp .ne 10, 3)))) ∧ (((decode cX6_item 74 = .ok (.lload 4, 2)) ∧ (decode cX6_item 76 = .ok (.l2i, 1))) ∧ ((decode cX6_item 77 = .ok (.i2l, 1)) ∧ (decode cX6_item 78 = .ok (.goto 5, 3)))))) := by decide +kernel
theorem dX6_item_53 : decode cX6_item 53 = .ok (.goto 30, 3) := kX6_item_53.1.1.1.1
theorem dX6_item_56 : decode cX6_item 56 = .ok (.iload_n 2, 1) := kX6_item_53.1.1.1.2
theorem dX6_item_57 : decode cX6_item 57 = .ok (.iconst 1, 1) := kX6_item_53.1.1.2.1
theorem dX6_item_58 : decode cX6_item 58 = .ok (.if_icmp .ne 11, 3) := kX6_item_53.1.1.2.2
theorem dX6_item_61 : decode cX6_item 61 = .ok (.lload 4, 2) := kX6_item_53.1.2.1.1
theorem dX6_item_63 : decode cX6_item 63 = .ok (.l2i, 1) := kX6_item_53.1.2.1.2
theorem dX6_item_64 : decode cX6_item 64 = .ok (.i2s, 1) := kX6_item_53.1.2.2.1
theorem dX6_item_65 : decode cX6_item 65 = .ok (.i2l, 1) := kX6_item_53.1.2.2.2
theorem dX6_item_66 : decode cX6_item 66 = .ok (.goto 17, 3) := kX6_item_53.2.1.1.1
theorem dX6_item_69 : decode cX6_item 69 = .ok (.iload_n 2, 1) := kX6_item_53.2.1.1.2
theorem dX6_item_70 : decode cX6_item 70 = .ok (.iconst 2, 1) := kX6_item_53.2.1.2.1
theorem dX6_item_71 : decode cX6_item 71 = .ok (.if_icmp .ne 10, 3) := kX6_item_53.2.1.2.2
theorem dX6_item_74 : decode cX6_item 74 = .ok (.lload 4, 2) := kX6_item_53.2.2.1.1
theorem dX6_item_76 : decode cX6_item 76 = .ok (.l2i, 1) := kX6_item_53.2.2.1.2
theorem dX6_item_77 : decode cX6_item 77 = .ok (.i2l, 1) := kX6_item_53.2.2.2.1
theorem dX6_item_78 : decode cX6_item 78 = .ok (.goto 5, 3) := kX6_item_53.2.2.2.2
theorem kX6_item_81 : (((decode cX6_item 81 = .ok (.lload 4, 2)) ∧ (decode cX6_item 83 = .ok (.lastore, 1))) ∧ ((decode cX6_item 84 = .ok (.iconst 1, 1)) ∧ (decode cX6_item 85 = .ok (.ireturn, 1)))) := by decide +kernel
theorem dX6_item_81 : decode cX6_item 81 = .ok (.lload 4, 2) := kX6_item_81.1.1
theorem dX6_item_83 : decode cX6_item 83 = .ok (.lastore, 1) := kX6_item_81.1.2
theorem dX6_item_84 : decode cX6_item 84 = .ok (.iconst 1, 1) := kX6_item_81.2.1
theorem dX6_item_85 : decode cX6_item 85 = .ok (.ireturn, 1) := kX6_item_81.2.2
set_option maxRecDepth 20000 in
theorem ggX6_copy_X6_isSheet : GoodIn wsX6_copy wsX6_isSheet := goodIn_r _ [7, 8, 9, 10, 6, 11] rfl (by decide +kernel)
set_option maxRecDepth 20000 in
theorem gX6_copy_X6_isSheet : GoodIn wsX6_copy (va_wsS RX6 213 yX6_isSheet wsX6_isSheet) := goodIn_app (goodIn_of _ (by decide +kernel)) ggX6_copy_X6_isSheet
set_option maxRecDepth 20000 in
theorem ggX6_copy_X6_why : GoodIn wsX6_copy wsX6_why := goodIn_r _ [15, 1, 16, 17, 18, 19, 20, 21, 22, 23, 24, 25, 26, 27, 28, 29, 30, 31, 32, 33, 34, 35] rfl (by decide +kernel)
set_option maxRecDepth 20000 in
theorem gX6_copy_X6_why : GoodIn wsX6_copy (wsV RX6 221 RX6 yX6_why wsX6_why) := goodIn_app (goodIn_of _ (by decide +kernel)) ggX6_copy_X6_why
theorem kX6_copy_0 : (((((decode cX6_copy 0 = .ok (.iload_n 1, 1)) ∧ (decode cX6_copy 1 = .ok (.invokestatic 213, 3))) ∧ ((decode cX6_copy 4 = .ok (.ifCond .eq 10, 3)) ∧ (decode cX6_copy 7 = .ok (.iload_n 3, 1)))) ∧ (((decode cX6_copy 8 = .ok (.invokestatic 213, 3)) ∧ (decode cX6_copy 11 = .ok (.ifCond .ne 5, 3))) ∧ ((decode cX6_copy 14 = .ok (.iconst (-1), 1)) ∧ (decode cX6_copy 15 = .ok (.ireturn, 1))))) ∧ ((((decode cX6_copy 16 = .ok (.aload_n 0, 1)) ∧ (decode cX6_copy 17 = .ok (.getfield 37, 3))) ∧ ((decode cX6_copy 20 = .ok (.iload_n 1, 1)) ∧ (decode cX6_copy 21 = .ok (.iaload, 1)))) ∧ (((decode cX6_copy 22 = .ok (.ifCond .lt 12, 3)) ∧ (decode cX6_copy 25 = .ok (.aload_n 0, 1))) ∧ ((decode cX6_copy 26 = .ok (.getfield 37, 3)) ∧ (decode cX6_copy 29 = .ok (.iload_n 3, 1)))))) := by decide +kernel
theorem dX6_copy_0 : decode cX6_copy 0 = .ok (.iload_n 1, 1) := kX6_copy_0.1.1.1.1
theorem dX6_copy_1 : decode cX6_copy 1 = .ok (.invokestatic 213, 3) := kX6_copy_0.1.1.1.2
theorem dX6_copy_4 : decode cX6_copy 4 = .ok (.ifCond .eq 10, 3) := kX6_copy_0.1.1.2.1
theorem dX6_copy_7 : decode cX6_copy 7 = .ok (.iload_n 3, 1) := kX6_copy_0.1.1.2.2
theorem dX6_copy_8 : decode cX6_copy 8 = .ok (.invokestatic 213, 3) := kX6_copy_0.1.2.1.1
theorem dX6_copy_11 : decode cX6_copy 11 = .ok (.ifCond .ne 5, 3) := kX6_copy_0.1.2.1.2
theorem dX6_copy_14 : decode cX6_copy 14 = .ok (.iconst (-1), 1) := kX6_copy_0.1.2.2.1
theorem dX6_copy_15 : decode cX6_copy 15 = .ok (.ireturn, 1) := kX6_copy_0.1.2.2.2
theorem dX6_copy_16 : decode cX6_copy 16 = .ok (.aload_n 0, 1) := kX6_copy_0.2.1.1.1
theorem dX6_copy_17 : decode cX6_copy 17 = .ok (.getfield 37, 3) := kX6_copy_0.2.1.1.2
theorem dX6_copy_20 : decode cX6_copy 20 = .ok (.iload_n 1, 1) := kX6_copy_0.2.1.2.1
theorem dX6_copy_21 : decode cX6_copy 21 = .ok (.iaload, 1) := kX6_copy_0.2.1.2.2
theorem dX6_copy_22 : decode cX6_copy 22 = .ok (.ifCond .lt 12, 3) := kX6_copy_0.2.2.1.1
theorem dX6_copy_25 : decode cX6_copy 25 = .ok (.aload_n 0, 1) := kX6_copy_0.2.2.1.2
theorem dX6_copy_26 : decode cX6_copy 26 = .ok (.getfield 37, 3) := kX6_copy_0.2.2.2.1
theorem dX6_copy_29 : decode cX6_copy 29 = .ok (.iload_n 3, 1) := kX6_copy_0.2.2.2.2
theorem kX6_copy_30 : (((((decode cX6_copy 30 = .ok (.iaload, 1)) ∧ (decode cX6_copy 31 = .ok (.ifCond .ge 6, 3))) ∧ ((decode cX6_copy 34 = .ok (.bipush (-11), 2)) ∧ (decode cX6_copy 36 = .ok (.ireturn, 1)))) ∧ (((decode cX6_copy 37 = .ok (.aload_n 0, 1)) ∧ (decode cX6_copy 38 = .ok (.iload_n 3, 1))) ∧ ((decode cX6_copy 39 = .ok (.aload_n 0, 1)) ∧ (decode cX6_copy 40 = .ok (.getfield 37, 3))))) ∧ ((((decode cX6_copy 43 = .ok (.iload_n 1, 1)) ∧ (decode cX6_copy 44 = .ok (.iaload, 1))) ∧ ((decode cX6_copy 45 = .ok (.iload 4, 2)) ∧ (decode cX6_copy 47 = .ok (.iload 5, 2)))) ∧ (((decode cX6_copy 49 = .ok (.invokevirtual 221, 3)) ∧ (decode cX6_copy 52 = .ok (.istore 6, 2))) ∧ ((decode cX6_copy 54 = .ok (.iload 6, 2)) ∧ (decode cX6_copy 56 = .ok (.ifCond .ne 20, 3)))))) := by decide +kernel
theorem dX6_copy_30 : decode cX6_copy 30 = .ok (.iaload, 1) := kX6_copy_30.1.1.1.1
theorem dX6_copy_31 : decode cX6_copy 31 = .ok (.ifCond .ge 6, 3) := kX6_copy_30.1.1.1.2
theorem dX6_copy_34 : decode cX6_copy 34 = .ok (.bipush (-11), 2) := kX6_copy_30.1.1.2.1
theorem dX6_copy_36 : decode cX6_copy 36 = .ok (.ireturn, 1) := kX6_copy_30.1.1.2.2
theorem dX6_copy_37 : decode cX6_copy 37 = .ok (.aload_n 0, 1) := kX6_copy_30.1.2.1.1
theorem dX6_copy_38 : decode cX6_copy 38 = .ok (.iload_n 3, 1) := kX6_copy_30.1.2.1.2
theorem dX6_copy_39 : decode cX6_copy 39 = .ok (.aload_n 0, 1) := kX6_copy_30.1.2.2.1
theorem dX6_copy_40 : decode cX6_copy 40 = .ok (.getfield 37, 3) := kX6_copy_30.1.2.2.2
theorem dX6_copy_43 : decode cX6_copy 43 = .ok (.iload_n 1, 1) := kX6_copy_30.2.1.1.1
theorem dX6_copy_44 : decode cX6_copy 44 = .ok (.iaload, 1) := kX6_copy_30.2.1.1.2
theorem dX6_copy_45 : decode cX6_copy 45 = .ok (.iload 4, 2) := kX6_copy_30.2.1.2.1
theorem dX6_copy_47 : decode cX6_copy 47 = .ok (.iload 5, 2) := kX6_copy_30.2.1.2.2
theorem dX6_copy_49 : decode cX6_copy 49 = .ok (.invokevirtual 221, 3) := kX6_copy_30.2.2.1.1
theorem dX6_copy_52 : decode cX6_copy 52 = .ok (.istore 6, 2) := kX6_copy_30.2.2.1.2
theorem dX6_copy_54 : decode cX6_copy 54 = .ok (.iload 6, 2) := kX6_copy_30.2.2.2.1
theorem dX6_copy_56 : decode cX6_copy 56 = .ok (.ifCond .ne 20, 3) := kX6_copy_30.2.2.2.2
theorem kX6_copy_59 : (((((decode cX6_copy 59 = .ok (.aload_n 0, 1)) ∧ (decode cX6_copy 60 = .ok (.iload_n 1, 1))) ∧ ((decode cX6_copy 61 = .ok (.aload_n 0, 1)) ∧ (decode cX6_copy 62 = .ok (.getfield 37, 3)))) ∧ (((decode cX6_copy 65 = .ok (.iload_n 1, 1)) ∧ (decode cX6_copy 66 = .ok (.iaload, 1))) ∧ ((decode cX6_copy 67 = .ok (.iload_n 2, 1)) ∧ (decode cX6_copy 68 = .ok (.iload 5, 2))))) ∧ ((((decode cX6_copy 70 = .ok (.invokevirtual 221, 3)) ∧ (decode cX6_copy 73 = .ok (.goto 5, 3))) ∧ ((decode cX6_copy 76 = .ok (.iload 6, 2)) ∧ (decode cX6_copy 78 = .ok (.istore 6, 2)))) ∧ (((decode cX6_copy 80 = .ok (.iload 6, 2)) ∧ (decode cX6_copy 82 = .ok (.ifCond .ge 6, 3))) ∧ ((decode cX6_copy 85 = .ok (.iload 6, 2)) ∧ (decode cX6_copy 87 = .ok (.ireturn, 1)))))) := by decide +kernel
theorem dX6_copy_59 : decode cX6_copy 59 = .ok (.aload_n 0, 1) := kX6_copy_59.1.1.1.1
theorem dX6_copy_60 : decode cX6_copy 60 = .ok (.iload_n 1, 1) := kX6_copy_59.1.1.1.2
theorem dX6_copy_61 : decode cX6_copy 61 = .ok (.aload_n 0, 1) := kX6_copy_59.1.1.2.1
theorem dX6_copy_62 : decode cX6_copy 62 = .ok (.getfield 37, 3) := kX6_copy_59.1.1.2.2
theorem dX6_copy_65 : decode cX6_copy 65 = .ok (.iload_n 1, 1) := kX6_copy_59.1.2.1.1
theorem dX6_copy_66 : decode cX6_copy 66 = .ok (.iaload, 1) := kX6_copy_59.1.2.1.2
theorem dX6_copy_67 : decode cX6_copy 67 = .ok (.iload_n 2, 1) := kX6_copy_59.1.2.2.1
theorem dX6_copy_68 : decode cX6_copy 68 = .ok (.iload 5, 2) := kX6_copy_59.1.2.2.2
theorem dX6_copy_70 : decode cX6_copy 70 = .ok (.invokevirtual 221, 3) := kX6_copy_59.2.1.1.1
theorem dX6_copy_73 : decode cX6_copy 73 = .ok (.goto 5, 3) := kX6_copy_59.2.1.1.2
theorem dX6_copy_76 : decode cX6_copy 76 = .ok (.iload 6, 2) := kX6_copy_59.2.1.2.1
theorem dX6_copy_78 : decode cX6_copy 78 = .ok (.istore 6, 2) := kX6_copy_59.2.1.2.2
theorem dX6_copy_80 : decode cX6_copy 80 = .ok (.iload 6, 2) := kX6_copy_59.2.2.1.1
theorem dX6_copy_82 : decode cX6_copy 82 = .ok (.ifCond .ge 6, 3) := kX6_copy_59.2.2.1.2
theorem dX6_copy_85 : decode cX6_copy 85 = .ok (.iload 6, 2) := kX6_copy_59.2.2.2.1
theorem dX6_copy_87 : decode cX6_copy 87 = .ok (.ireturn, 1) := kX6_copy_59.2.2.2.2
theorem kX6_copy_88 : (((((decode cX6_copy 88 = .ok (.iconst 0, 1)) ∧ (decode cX6_copy 89 = .ok (.istore 7, 2))) ∧ ((decode cX6_copy 91 = .ok (.iload 7, 2)) ∧ (decode cX6_copy 93 = .ok (.iload 5, 2)))) ∧ (((decode cX6_copy 95 = .ok (.if_icmp .ge 30, 3)) ∧ (decode cX6_copy 98 = .ok (.aload_n 0, 1))) ∧ ((decode cX6_copy 99 = .ok (.getfield 47, 3)) ∧ (decode cX6_copy 102 = .ok (.iload 7, 2))))) ∧ ((((decode cX6_copy 104 = .ok (.aload_n 0, 1)) ∧ (decode cX6_copy 105 = .ok (.getfield 43, 3))) ∧ ((decode cX6_copy 108 = .ok (.bipush 24, 2)) ∧ (decode cX6_copy 110 = .ok (.iload_n 1, 1)))) ∧ (((decode cX6_copy 111 = .ok (.imul, 1)) ∧ (decode cX6_copy 112 = .ok (.iload_n 2, 1))) ∧ ((decode cX6_copy 113 = .ok (.iadd, 1)) ∧ (decode cX6_copy 114 = .ok (.iload 7, 2)))))) := by decide +kernel
theorem dX6_copy_88 : decode cX6_copy 88 = .ok (.iconst 0, 1) := kX6_copy_88.1.1.1.1
theorem dX6_copy_89 : decode cX6_copy 89 = .ok (.istore 7, 2) := kX6_copy_88.1.1.1.2
theorem dX6_copy_91 : decode cX6_copy 91 = .ok (.iload 7, 2) := kX6_copy_88.1.1.2.1
theorem dX6_copy_93 : decode cX6_copy 93 = .ok (.iload 5, 2) := kX6_copy_88.1.1.2.2
theorem dX6_copy_95 : decode cX6_copy 95 = .ok (.if_icmp .ge 30, 3) := kX6_copy_88.1.2.1.1
theorem dX6_copy_98 : decode cX6_copy 98 = .ok (.aload_n 0, 1) := kX6_copy_88.1.2.1.2
theorem dX6_copy_99 : decode cX6_copy 99 = .ok (.getfield 47, 3) := kX6_copy_88.1.2.2.1
theorem dX6_copy_102 : decode cX6_copy 102 = .ok (.iload 7, 2) := kX6_copy_88.1.2.2.2
theorem dX6_copy_104 : decode cX6_copy 104 = .ok (.aload_n 0, 1) := kX6_copy_88.2.1.1.1
theorem dX6_copy_105 : decode cX6_copy 105 = .ok (.getfield 43, 3) := kX6_copy_88.2.1.1.2
theorem dX6_copy_108 : decode cX6_copy 108 = .ok (.bipush 24, 2) := kX6_copy_88.2.1.2.1
theorem dX6_copy_110 : decode cX6_copy 110 = .ok (.iload_n 1, 1) := kX6_copy_88.2.1.2.2
theorem dX6_copy_111 : decode cX6_copy 111 = .ok (.imul, 1) := kX6_copy_88.2.2.1.1
theorem dX6_copy_112 : decode cX6_copy 112 = .ok (.iload_n 2, 1) := kX6_copy_88.2.2.1.2
theorem dX6_copy_113 : decode cX6_copy 113 = .ok (.iadd, 1) := kX6_copy_88.2.2.2.1
theorem dX6_copy_114 : decode cX6_copy 114 = .ok (.iload 7, 2) := kX6_copy_88.2.2.2.2
theorem kX6_copy_116 : (((((decode cX6_copy 116 = .ok (.iadd, 1)) ∧ (decode cX6_copy 117 = .ok (.laload, 1))) ∧ ((decode cX6_copy 118 = .ok (.lastore, 1)) ∧ (decode cX6_copy 119 = .ok (.iinc 7 1, 3)))) ∧ (((decode cX6_copy 122 = .ok (.goto (-31), 3)) ∧ (decode cX6_copy 125 = .ok (.iconst 0, 1))) ∧ ((decode cX6_copy 126 = .ok (.istore 7, 2)) ∧ (decode cX6_copy 128 = .ok (.iload 7, 2))))) ∧ ((((decode cX6_copy 130 = .ok (.iload 5, 2)) ∧ (decode cX6_copy 132 = .ok (.if_icmp .ge 31, 3))) ∧ ((decode cX6_copy 135 = .ok (.aload_n 0, 1)) ∧ (decode cX6_copy 136 = .ok (.getfield 43, 3)))) ∧ (((decode cX6_copy 139 = .ok (.bipush 24, 2)) ∧ (decode cX6_copy 141 = .ok (.iload_n 3, 1))) ∧ ((decode cX6_copy 142 = .ok (.imul, 1)) ∧ (decode cX6_copy 143 = .ok (.iload 4, 2)))))) := by decide +kernel
theorem dX6_copy_116 : decode cX6_copy 116 = .ok (.iadd, 1) := kX6_copy_116.1.1.1.1
theorem dX6_copy_117 : decode cX6_copy 117 = .ok (.laload, 1) := kX6_copy_116.1.1.1.2
theorem dX6_copy_118 : decode cX6_copy 118 = .ok (.lastore, 1) := kX6_copy_116.1.1.2.1
theorem dX6_copy_119 : decode cX6_copy 119 = .ok (.iinc 7 1, 3) := kX6_copy_116.1.1.2.2
theorem dX6_copy_122 : decode cX6_copy 122 = .ok (.goto (-31), 3) := kX6_copy_116.1.2.1.1
theorem dX6_copy_125 : decode cX6_copy 125 = .ok (.iconst 0, 1) := kX6_copy_116.1.2.1.2
theorem dX6_copy_126 : decode cX6_copy 126 = .ok (.istore 7, 2) := kX6_copy_116.1.2.2.1
theorem dX6_copy_128 : decode cX6_copy 128 = .ok (.iload 7, 2) := kX6_copy_116.1.2.2.2
theorem dX6_copy_130 : decode cX6_copy 130 = .ok (.iload 5, 2) := kX6_copy_116.2.1.1.1
theorem dX6_copy_132 : decode cX6_copy 132 = .ok (.if_icmp .ge 31, 3) := kX6_copy_116.2.1.1.2
theorem dX6_copy_135 : decode cX6_copy 135 = .ok (.aload_n 0, 1) := kX6_copy_116.2.1.2.1
theorem dX6_copy_136 : decode cX6_copy 136 = .ok (.getfield 43, 3) := kX6_copy_116.2.1.2.2
theorem dX6_copy_139 : decode cX6_copy 139 = .ok (.bipush 24, 2) := kX6_copy_116.2.2.1.1
theorem dX6_copy_141 : decode cX6_copy 141 = .ok (.iload_n 3, 1) := kX6_copy_116.2.2.1.2
theorem dX6_copy_142 : decode cX6_copy 142 = .ok (.imul, 1) := kX6_copy_116.2.2.2.1
theorem dX6_copy_143 : decode cX6_copy 143 = .ok (.iload 4, 2) := kX6_copy_116.2.2.2.2
theorem kX6_copy_145 : (((((decode cX6_copy 145 = .ok (.iadd, 1)) ∧ (decode cX6_copy 146 = .ok (.iload 7, 2))) ∧ (decode cX6_copy 148 = .ok (.iadd, 1))) ∧ (((decode cX6_copy 149 = .ok (.aload_n 0, 1)) ∧ (decode cX6_copy 150 = .ok (.getfield 47, 3))) ∧ (decode cX6_copy 153 = .ok (.iload 7, 2)))) ∧ ((((decode cX6_copy 155 = .ok (.laload, 1)) ∧ (decode cX6_copy 156 = .ok (.lastore, 1))) ∧ (decode cX6_copy 157 = .ok (.iinc 7 1, 3))) ∧ (((decode cX6_copy 160 = .ok (.goto (-32), 3)) ∧ (decode cX6_copy 163 = .ok (.iload 5, 2))) ∧ (decode cX6_copy 165 = .ok (.ireturn, 1))))) := by decide +kernel
theorem dX6_copy_145 : decode cX6_copy 145 = .ok (.iadd, 1) := kX6_copy_145.1.1.1.1
theorem dX6_copy_146 : decode cX6_copy 146 = .ok (.iload 7, 2) := kX6_copy_145.1.1.1.2
theorem dX6_copy_148 : decode cX6_copy 148 = .ok (.iadd, 1) := kX6_copy_145.1.1.2
theorem dX6_copy_149 : decode cX6_copy 149 = .ok (.aload_n 0, 1) := kX6_copy_145.1.2.1.1
theorem dX6_copy_150 : decode cX6_copy 150 = .ok (.getfield 47, 3) := kX6_copy_145.1.2.1.2
theorem dX6_copy_153 : decode cX6_copy 153 = .ok (.iload 7, 2) := kX6_copy_145.1.2.2
theorem dX6_copy_155 : decode cX6_copy 155 = .ok (.laload, 1) := kX6_copy_145.2.1.1.1
theorem dX6_copy_156 : decode cX6_copy 156 = .ok (.lastore, 1) := kX6_copy_145.2.1.1.2
theorem dX6_copy_157 : decode cX6_copy 157 = .ok (.iinc 7 1, 3) := kX6_copy_145.2.1.2
theorem dX6_copy_160 : decode cX6_copy 160 = .ok (.goto (-32), 3) := kX6_copy_145.2.2.1.1
theorem dX6_copy_163 : decode cX6_copy 163 = .ok (.iload 5, 2) := kX6_copy_145.2.2.1.2
theorem dX6_copy_165 : decode cX6_copy 165 = .ok (.ireturn, 1) := kX6_copy_145.2.2.2
