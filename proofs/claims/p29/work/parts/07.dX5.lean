set_option maxRecDepth 20000 in
theorem ggX5_init_X2_init : GoodIn wsX5_init wsX2_init := goodIn_r _ [29, 30, 2, 3, 31, 32, 33, 34, 35, 36, 37, 38, 65, 66, 67, 68, 69, 70, 71] rfl (by decide +kernel)
set_option maxRecDepth 20000 in
theorem gX5_init_X2_init_n9 : GoodIn wsX5_init (wsX2_init) := ggX5_init_X2_init
set_option maxRecDepth 20000 in
theorem ggX5_init_X1_init : GoodIn wsX5_init wsX1_init := goodIn_r _ [40, 41, 2, 3, 42, 43, 44, 45, 5, 6, 28, 29, 30, 31, 32, 33, 34, 35, 36, 37, 38, 81, 82, 83, 65, 66, 67, 68, 69, 70, 71] rfl (by decide +kernel)
set_option maxRecDepth 20000 in
theorem gX5_init_X1_init_n18 : GoodIn wsX5_init (wsX1_init) := ggX5_init_X1_init
set_option maxRecDepth 20000 in
theorem ggX5_init_X4_init : GoodIn wsX5_init wsX4_init := goodIn_r _ [47, 48, 2, 3, 32, 49, 50, 51, 84, 85, 86] rfl (by decide +kernel)
set_option maxRecDepth 20000 in
theorem gX5_init_X4_init_n38 : GoodIn wsX5_init (wsX4_init) := ggX5_init_X4_init
set_option maxRecDepth 20000 in
theorem ggX5_init_X0_init : GoodIn wsX5_init wsX0_init := goodIn_r _ [53, 54, 2, 3, 55, 32, 56, 57, 87, 88, 89] rfl (by decide +kernel)
set_option maxRecDepth 20000 in
theorem gX5_init_X0_init_n45 : GoodIn wsX5_init (wsX0_init) := ggX5_init_X0_init
set_option maxRecDepth 20000 in
theorem ggX5_init_X3_init : GoodIn wsX5_init wsX3_init := goodIn_r _ [59, 60, 2, 3, 61, 62, 63, 64, 90, 91, 92] rfl (by decide +kernel)
set_option maxRecDepth 20000 in
theorem gX5_init_X3_init_n56 : GoodIn wsX5_init (wsX3_init) := ggX5_init_X3_init
theorem kX5_init_0 : (((((decode cX5_init 0 = .ok (.aload_n 0, 1)) ∧ (decode cX5_init 1 = .ok (.invokespecial 1, 3))) ∧ ((decode cX5_init 4 = .ok (.aload_n 0, 1)) ∧ (decode cX5_init 5 = .ok (.new 7, 3)))) ∧ (((decode cX5_init 8 = .ok (.dup, 1)) ∧ (decode cX5_init 9 = .ok (.invokespecial 9, 3))) ∧ ((decode cX5_init 12 = .ok (.putfield 10, 3)) ∧ (decode cX5_init 15 = .ok (.aload_n 0, 1))))) ∧ ((((decode cX5_init 16 = .ok (.new 16, 3)) ∧ (decode cX5_init 19 = .ok (.dup, 1))) ∧ ((decode cX5_init 20 = .ok (.invokespecial 18, 3)) ∧ (decode cX5_init 23 = .ok (.putfield 19, 3)))) ∧ (((decode cX5_init 26 = .ok (.aload_n 0, 1)) ∧ (decode cX5_init 27 = .ok (.new 7, 3))) ∧ ((decode cX5_init 30 = .ok (.dup, 1)) ∧ (decode cX5_init 31 = .ok (.invokespecial 9, 3)))))) := by decide +kernel
theorem dX5_init_0 : decode cX5_init 0 = .ok (.aload_n 0, 1) := kX5_init_0.1.1.1.1
theorem dX5_init_1 : decode cX5_init 1 = .ok (.invokespecial 1, 3) := kX5_init_0.1.1.1.2
theorem dX5_init_4 : decode cX5_init 4 = .ok (.aload_n 0, 1) := kX5_init_0.1.1.2.1
theorem dX5_init_5 : decode cX5_init 5 = .ok (.new 7, 3) := kX5_init_0.1.1.2.2
theorem dX5_init_8 : decode cX5_init 8 = .ok (.dup, 1) := kX5_init_0.1.2.1.1
theorem dX5_init_9 : decode cX5_init 9 = .ok (.invokespecial 9, 3) := kX5_init_0.1.2.1.2
theorem dX5_init_12 : decode cX5_init 12 = .ok (.putfield 10, 3) := kX5_init_0.1.2.2.1
theorem dX5_init_15 : decode cX5_init 15 = .ok (.aload_n 0, 1) := kX5_init_0.1.2.2.2
theorem dX5_init_16 : decode cX5_init 16 = .ok (.new 16, 3) := kX5_init_0.2.1.1.1
theorem dX5_init_19 : decode cX5_init 19 = .ok (.dup, 1) := kX5_init_0.2.1.1.2
theorem dX5_init_20 : decode cX5_init 20 = .ok (.invokespecial 18, 3) := kX5_init_0.2.1.2.1
theorem dX5_init_23 : decode cX5_init 23 = .ok (.putfield 19, 3) := kX5_init_0.2.1.2.2
theorem dX5_init_26 : decode cX5_init 26 = .ok (.aload_n 0, 1) := kX5_init_0.2.2.1.1
theorem dX5_init_27 : decode cX5_init 27 = .ok (.new 7, 3) := kX5_init_0.2.2.1.2
theorem dX5_init_30 : decode cX5_init 30 = .ok (.dup, 1) := kX5_init_0.2.2.2.1
theorem dX5_init_31 : decode cX5_init 31 = .ok (.invokespecial 9, 3) := kX5_init_0.2.2.2.2
theorem kX5_init_34 : (((((decode cX5_init 34 = .ok (.putfield 23, 3)) ∧ (decode cX5_init 37 = .ok (.aload_n 0, 1))) ∧ ((decode cX5_init 38 = .ok (.new 16, 3)) ∧ (decode cX5_init 41 = .ok (.dup, 1)))) ∧ (((decode cX5_init 42 = .ok (.invokespecial 18, 3)) ∧ (decode cX5_init 45 = .ok (.putfield 26, 3))) ∧ ((decode cX5_init 48 = .ok (.aload_n 0, 1)) ∧ (decode cX5_init 49 = .ok (.iconst 0, 1))))) ∧ ((((decode cX5_init 50 = .ok (.putfield 29, 3)) ∧ (decode cX5_init 53 = .ok (.aload_n 0, 1))) ∧ ((decode cX5_init 54 = .ok (.new 7, 3)) ∧ (decode cX5_init 57 = .ok (.dup, 1)))) ∧ (((decode cX5_init 58 = .ok (.invokespecial 9, 3)) ∧ (decode cX5_init 61 = .ok (.putfield 33, 3))) ∧ ((decode cX5_init 64 = .ok (.aload_n 0, 1)) ∧ (decode cX5_init 65 = .ok (.new 36, 3)))))) := by decide +kernel
theorem dX5_init_34 : decode cX5_init 34 = .ok (.putfield 23, 3) := kX5_init_34.1.1.1.1
theorem dX5_init_37 : decode cX5_init 37 = .ok (.aload_n 0, 1) := kX5_init_34.1.1.1.2
theorem dX5_init_38 : decode cX5_init 38 = .ok (.new 16, 3) := kX5_init_34.1.1.2.1
theorem dX5_init_41 : decode cX5_init 41 = .ok (.dup, 1) := kX5_init_34.1.1.2.2
theorem dX5_init_42 : decode cX5_init 42 = .ok (.invokespecial 18, 3) := kX5_init_34.1.2.1.1
theorem dX5_init_45 : decode cX5_init 45 = .ok (.putfield 26, 3) := kX5_init_34.1.2.1.2
theorem dX5_init_48 : decode cX5_init 48 = .ok (.aload_n 0, 1) := kX5_init_34.1.2.2.1
theorem dX5_init_49 : decode cX5_init 49 = .ok (.iconst 0, 1) := kX5_init_34.1.2.2.2
theorem dX5_init_50 : decode cX5_init 50 = .ok (.putfield 29, 3) := kX5_init_34.2.1.1.1
theorem dX5_init_53 : decode cX5_init 53 = .ok (.aload_n 0, 1) := kX5_init_34.2.1.1.2
theorem dX5_init_54 : decode cX5_init 54 = .ok (.new 7, 3) := kX5_init_34.2.1.2.1
theorem dX5_init_57 : decode cX5_init 57 = .ok (.dup, 1) := kX5_init_34.2.1.2.2
theorem dX5_init_58 : decode cX5_init 58 = .ok (.invokespecial 9, 3) := kX5_init_34.2.2.1.1
theorem dX5_init_61 : decode cX5_init 61 = .ok (.putfield 33, 3) := kX5_init_34.2.2.1.2
theorem dX5_init_64 : decode cX5_init 64 = .ok (.aload_n 0, 1) := kX5_init_34.2.2.2.1
theorem dX5_init_65 : decode cX5_init 65 = .ok (.new 36, 3) := kX5_init_34.2.2.2.2
theorem kX5_init_68 : (((((decode cX5_init 68 = .ok (.dup, 1)) ∧ (decode cX5_init 69 = .ok (.invokespecial 38, 3))) ∧ ((decode cX5_init 72 = .ok (.putfield 39, 3)) ∧ (decode cX5_init 75 = .ok (.aload_n 0, 1)))) ∧ (((decode cX5_init 76 = .ok (.new 43, 3)) ∧ (decode cX5_init 79 = .ok (.dup, 1))) ∧ ((decode cX5_init 80 = .ok (.invokespecial 45, 3)) ∧ (decode cX5_init 83 = .ok (.putfield 46, 3))))) ∧ ((((decode cX5_init 86 = .ok (.aload_n 0, 1)) ∧ (decode cX5_init 87 = .ok (.iconst 4, 1))) ∧ ((decode cX5_init 88 = .ok (.anewarray 50, 3)) ∧ (decode cX5_init 91 = .ok (.putfield 52, 3)))) ∧ (((decode cX5_init 94 = .ok (.iconst 0, 1)) ∧ (decode cX5_init 95 = .ok (.istore_n 1, 1))) ∧ ((decode cX5_init 96 = .ok (.iload_n 1, 1)) ∧ (decode cX5_init 97 = .ok (.aload_n 0, 1)))))) := by decide +kernel
theorem dX5_init_68 : decode cX5_init 68 = .ok (.dup, 1) := kX5_init_68.1.1.1.1
theorem dX5_init_69 : decode cX5_init 69 = .ok (.invokespecial 38, 3) := kX5_init_68.1.1.1.2
theorem dX5_init_72 : decode cX5_init 72 = .ok (.putfield 39, 3) := kX5_init_68.1.1.2.1
theorem dX5_init_75 : decode cX5_init 75 = .ok (.aload_n 0, 1) := kX5_init_68.1.1.2.2
theorem dX5_init_76 : decode cX5_init 76 = .ok (.new 43, 3) := kX5_init_68.1.2.1.1
theorem dX5_init_79 : decode cX5_init 79 = .ok (.dup, 1) := kX5_init_68.1.2.1.2
theorem dX5_init_80 : decode cX5_init 80 = .ok (.invokespecial 45, 3) := kX5_init_68.1.2.2.1
theorem dX5_init_83 : decode cX5_init 83 = .ok (.putfield 46, 3) := kX5_init_68.1.2.2.2
theorem dX5_init_86 : decode cX5_init 86 = .ok (.aload_n 0, 1) := kX5_init_68.2.1.1.1
theorem dX5_init_87 : decode cX5_init 87 = .ok (.iconst 4, 1) := kX5_init_68.2.1.1.2
theorem dX5_init_88 : decode cX5_init 88 = .ok (.anewarray 50, 3) := kX5_init_68.2.1.2.1
theorem dX5_init_91 : decode cX5_init 91 = .ok (.putfield 52, 3) := kX5_init_68.2.1.2.2
theorem dX5_init_94 : decode cX5_init 94 = .ok (.iconst 0, 1) := kX5_init_68.2.2.1.1
theorem dX5_init_95 : decode cX5_init 95 = .ok (.istore_n 1, 1) := kX5_init_68.2.2.1.2
theorem dX5_init_96 : decode cX5_init 96 = .ok (.iload_n 1, 1) := kX5_init_68.2.2.2.1
theorem dX5_init_97 : decode cX5_init 97 = .ok (.aload_n 0, 1) := kX5_init_68.2.2.2.2
theorem kX5_init_98 : (((((decode cX5_init 98 = .ok (.getfield 52, 3)) ∧ (decode cX5_init 101 = .ok (.arraylength, 1))) ∧ ((decode cX5_init 102 = .ok (.if_icmp .ge 22, 3)) ∧ (decode cX5_init 105 = .ok (.aload_n 0, 1)))) ∧ (((decode cX5_init 106 = .ok (.getfield 52, 3)) ∧ (decode cX5_init 109 = .ok (.iload_n 1, 1))) ∧ (decode cX5_init 110 = .ok (.new 50, 3)))) ∧ ((((decode cX5_init 113 = .ok (.dup, 1)) ∧ (decode cX5_init 114 = .ok (.invokespecial 56, 3))) ∧ (decode cX5_init 117 = .ok (.aastore, 1))) ∧ (((decode cX5_init 118 = .ok (.iinc 1 1, 3)) ∧ (decode cX5_init 121 = .ok (.goto (-25), 3))) ∧ (decode cX5_init 124 = .ok (.return_, 1))))) := by decide +kernel
theorem dX5_init_98 : decode cX5_init 98 = .ok (.getfield 52, 3) := kX5_init_98.1.1.1.1
theorem dX5_init_101 : decode cX5_init 101 = .ok (.arraylength, 1) := kX5_init_98.1.1.1.2
theorem dX5_init_102 : decode cX5_init 102 = .ok (.if_icmp .ge 22, 3) := kX5_init_98.1.1.2.1
theorem dX5_init_105 : decode cX5_init 105 = .ok (.aload_n 0, 1) := kX5_init_98.1.1.2.2
theorem dX5_init_106 : decode cX5_init 106 = .ok (.getfield 52, 3) := kX5_init_98.1.2.1.1
theorem dX5_init_109 : decode cX5_init 109 = .ok (.iload_n 1, 1) := kX5_init_98.1.2.1.2
theorem dX5_init_110 : decode cX5_init 110 = .ok (.new 50, 3) := kX5_init_98.1.2.2
theorem dX5_init_113 : decode cX5_init 113 = .ok (.dup, 1) := kX5_init_98.2.1.1.1
theorem dX5_init_114 : decode cX5_init 114 = .ok (.invokespecial 56, 3) := kX5_init_98.2.1.1.2
theorem dX5_init_117 : decode cX5_init 117 = .ok (.aastore, 1) := kX5_init_98.2.1.2
theorem dX5_init_118 : decode cX5_init 118 = .ok (.iinc 1 1, 3) := kX5_init_98.2.2.1.1
theorem dX5_init_121 : decode cX5_init 121 = .ok (.goto (-25), 3) := kX5_init_98.2.2.1.2
theorem dX5_init_124 : decode cX5_init 124 = .ok (.return_, 1) := kX5_init_98.2.2.2
set_option maxRecDepth 20000 in
theorem ggX5_person_X1_empty : GoodIn wsX5_person wsX1_empty := goodIn_r _ [6, 7, 33, 34, 35] rfl (by decide +kernel)
set_option maxRecDepth 20000 in
theorem gX5_person_X1_empty_n61 : GoodIn wsX5_person (wsX1_empty) := ggX5_person_X1_empty
set_option maxRecDepth 20000 in
theorem ggX5_person_X2_join : GoodIn wsX5_person wsX2_join := goodIn_r _ [11, 12, 13, 14, 15, 16, 26, 27, 28, 29, 30, 31, 32] rfl (by decide +kernel)
set_option maxRecDepth 20000 in
theorem gX5_person_X2_join_n64 : GoodIn wsX5_person (wsX2_join) := ggX5_person_X2_join
theorem kX5_person_0 : (((((decode cX5_person 0 = .ok (.iload_n 1, 1)) ∧ (decode cX5_person 1 = .ok (.ifCond .lt 18, 3))) ∧ ((decode cX5_person 4 = .ok (.iload_n 1, 1)) ∧ (decode cX5_person 5 = .ok (.iconst 4, 1)))) ∧ (((decode cX5_person 6 = .ok (.if_icmp .gt 13, 3)) ∧ (decode cX5_person 9 = .ok (.iload_n 2, 1))) ∧ ((decode cX5_person 10 = .ok (.ifCond .lt 9, 3)) ∧ (decode cX5_person 13 = .ok (.iload_n 2, 1))))) ∧ ((((decode cX5_person 14 = .ok (.bipush 30, 2)) ∧ (decode cX5_person 16 = .ok (.if_icmp .le 5, 3))) ∧ ((decode cX5_person 19 = .ok (.iconst (-1), 1)) ∧ (decode cX5_person 20 = .ok (.ireturn, 1)))) ∧ (((decode cX5_person 21 = .ok (.aload_n 0, 1)) ∧ (decode cX5_person 22 = .ok (.getfield 10, 3))) ∧ ((decode cX5_person 25 = .ok (.getfield 57, 3)) ∧ (decode cX5_person 28 = .ok (.bipush 6, 2)))))) := by decide +kernel
theorem dX5_person_0 : decode cX5_person 0 = .ok (.iload_n 1, 1) := kX5_person_0.1.1.1.1
theorem dX5_person_1 : decode cX5_person 1 = .ok (.ifCond .lt 18, 3) := kX5_person_0.1.1.1.2
theorem dX5_person_4 : decode cX5_person 4 = .ok (.iload_n 1, 1) := kX5_person_0.1.1.2.1
theorem dX5_person_5 : decode cX5_person 5 = .ok (.iconst 4, 1) := kX5_person_0.1.1.2.2
theorem dX5_person_6 : decode cX5_person 6 = .ok (.if_icmp .gt 13, 3) := kX5_person_0.1.2.1.1
theorem dX5_person_9 : decode cX5_person 9 = .ok (.iload_n 2, 1) := kX5_person_0.1.2.1.2
theorem dX5_person_10 : decode cX5_person 10 = .ok (.ifCond .lt 9, 3) := kX5_person_0.1.2.2.1
theorem dX5_person_13 : decode cX5_person 13 = .ok (.iload_n 2, 1) := kX5_person_0.1.2.2.2
theorem dX5_person_14 : decode cX5_person 14 = .ok (.bipush 30, 2) := kX5_person_0.2.1.1.1
theorem dX5_person_16 : decode cX5_person 16 = .ok (.if_icmp .le 5, 3) := kX5_person_0.2.1.1.2
theorem dX5_person_19 : decode cX5_person 19 = .ok (.iconst (-1), 1) := kX5_person_0.2.1.2.1
theorem dX5_person_20 : decode cX5_person 20 = .ok (.ireturn, 1) := kX5_person_0.2.1.2.2
theorem dX5_person_21 : decode cX5_person 21 = .ok (.aload_n 0, 1) := kX5_person_0.2.2.1.1
theorem dX5_person_22 : decode cX5_person 22 = .ok (.getfield 10, 3) := kX5_person_0.2.2.1.2
theorem dX5_person_25 : decode cX5_person 25 = .ok (.getfield 57, 3) := kX5_person_0.2.2.2.1
theorem dX5_person_28 : decode cX5_person 28 = .ok (.bipush 6, 2) := kX5_person_0.2.2.2.2
theorem kX5_person_30 : (((((decode cX5_person 30 = .ok (.if_icmp .lt 6, 3)) ∧ (decode cX5_person 33 = .ok (.bipush (-3), 2))) ∧ (decode cX5_person 35 = .ok (.ireturn, 1))) ∧ (((decode cX5_person 36 = .ok (.aload_n 0, 1)) ∧ (decode cX5_person 37 = .ok (.getfield 19, 3))) ∧ (decode cX5_person 40 = .ok (.invokevirtual 61, 3)))) ∧ ((((decode cX5_person 43 = .ok (.aload_n 0, 1)) ∧ (decode cX5_person 44 = .ok (.getfield 10, 3))) ∧ (decode cX5_person 47 = .ok (.iload_n 1, 1))) ∧ (((decode cX5_person 48 = .ok (.iload_n 2, 1)) ∧ (decode cX5_person 49 = .ok (.invokevirtual 64, 3))) ∧ (decode cX5_person 52 = .ok (.ireturn, 1))))) := by decide +kernel
theorem dX5_person_30 : decode cX5_person 30 = .ok (.if_icmp .lt 6, 3) := kX5_person_30.1.1.1.1
theorem dX5_person_33 : decode cX5_person 33 = .ok (.bipush (-3), 2) := kX5_person_30.1.1.1.2
theorem dX5_person_35 : decode cX5_person 35 = .ok (.ireturn, 1) := kX5_person_30.1.1.2
theorem dX5_person_36 : decode cX5_person 36 = .ok (.aload_n 0, 1) := kX5_person_30.1.2.1.1
theorem dX5_person_37 : decode cX5_person 37 = .ok (.getfield 19, 3) := kX5_person_30.1.2.1.2
theorem dX5_person_40 : decode cX5_person 40 = .ok (.invokevirtual 61, 3) := kX5_person_30.1.2.2
theorem dX5_person_43 : decode cX5_person 43 = .ok (.aload_n 0, 1) := kX5_person_30.2.1.1.1
theorem dX5_person_44 : decode cX5_person 44 = .ok (.getfield 10, 3) := kX5_person_30.2.1.1.2
theorem dX5_person_47 : decode cX5_person 47 = .ok (.iload_n 1, 1) := kX5_person_30.2.1.2
theorem dX5_person_48 : decode cX5_person 48 = .ok (.iload_n 2, 1) := kX5_person_30.2.2.1.1
theorem dX5_person_49 : decode cX5_person 49 = .ok (.invokevirtual 64, 3) := kX5_person_30.2.2.1.2
theorem dX5_person_52 : decode cX5_person 52 = .ok (.ireturn, 1) := kX5_person_30.2.2.2
set_option maxRecDepth 20000 in
theorem ggX5_of_X2_has : GoodIn wsX5_of wsX2_has := goodIn_r _ [5, 6, 46, 47, 48, 49, 50, 51, 52] rfl (by decide +kernel)
set_option maxRecDepth 20000 in
theorem gX5_of_X2_has_n68 : GoodIn wsX5_of (wsX2_has) := ggX5_of_X2_has
set_option maxRecDepth 20000 in
theorem ggX5_of_X2_stopped : GoodIn wsX5_of wsX2_stopped := goodIn_r _ [9, 6, 10, 11, 12, 3, 13, 14, 46, 47, 48, 49, 50, 51, 52] rfl (by decide +kernel)
set_option maxRecDepth 20000 in
theorem gX5_of_X2_stopped_n85 : GoodIn wsX5_of (wsX2_stopped) := ggX5_of_X2_stopped
set_option maxRecDepth 20000 in
theorem ggX5_of_X2_runsOff : GoodIn wsX5_of wsX2_runsOff := goodIn_r _ [17, 18, 19, 20, 21, 3, 22, 23, 24, 25, 26, 27, 28, 29, 30, 31, 32, 33, 34, 35, 36, 6, 46, 47, 48, 49, 50, 51, 52] rfl (by decide +kernel)
set_option maxRecDepth 20000 in
theorem gX5_of_X2_runsOff_n89 : GoodIn wsX5_of (wsX2_runsOff) := ggX5_of_X2_runsOff
set_option maxRecDepth 20000 in
theorem ggX5_of_X2_woundBy : GoodIn wsX5_of wsX2_woundBy := goodIn_r _ [36, 6, 32, 46, 47, 48, 49, 50, 51, 52] rfl (by decide +kernel)
set_option maxRecDepth 20000 in
theorem gX5_of_X2_woundBy_n92 : GoodIn wsX5_of (wsX2_woundBy) := ggX5_of_X2_woundBy
theorem kX5_of_0 : (((((decode cX5_of 0 = .ok (.aload_n 0, 1)) ∧ (decode cX5_of 1 = .ok (.getfield 10, 3))) ∧ ((decode cX5_of 4 = .ok (.iload_n 1, 1)) ∧ (decode cX5_of 5 = .ok (.invokevirtual 68, 3)))) ∧ (((decode cX5_of 8 = .ok (.ifCond .ne 5, 3)) ∧ (decode cX5_of 11 = .ok (.iconst (-1), 1))) ∧ ((decode cX5_of 12 = .ok (.ireturn, 1)) ∧ (decode cX5_of 13 = .ok (.iload_n 2, 1))))) ∧ ((((decode cX5_of 14 = .ok (.tableswitch 103 0 5 #[38, 48, 58, 68, 78, 94], 38)) ∧ (decode cX5_of 52 = .ok (.aload_n 0, 1))) ∧ ((decode cX5_of 53 = .ok (.getfield 10, 3)) ∧ (decode cX5_of 56 = .ok (.getfield 72, 3)))) ∧ (((decode cX5_of 59 = .ok (.iload_n 1, 1)) ∧ (decode cX5_of 60 = .ok (.iaload, 1))) ∧ ((decode cX5_of 61 = .ok (.ireturn, 1)) ∧ (decode cX5_of 62 = .ok (.aload_n 0, 1)))))) := by decide +kernel
theorem dX5_of_0 : decode cX5_of 0 = .ok (.aload_n 0, 1) := kX5_of_0.1.1.1.1
theorem dX5_of_1 : decode cX5_of 1 = .ok (.getfield 10, 3) := kX5_of_0.1.1.1.2
theorem dX5_of_4 : decode cX5_of 4 = .ok (.iload_n 1, 1) := kX5_of_0.1.1.2.1
theorem dX5_of_5 : decode cX5_of 5 = .ok (.invokevirtual 68, 3) := kX5_of_0.1.1.2.2
theorem dX5_of_8 : decode cX5_of 8 = .ok (.ifCond .ne 5, 3) := kX5_of_0.1.2.1.1
theorem dX5_of_11 : decode cX5_of 11 = .ok (.iconst (-1), 1) := kX5_of_0.1.2.1.2
theorem dX5_of_12 : decode cX5_of 12 = .ok (.ireturn, 1) := kX5_of_0.1.2.2.1
theorem dX5_of_13 : decode cX5_of 13 = .ok (.iload_n 2, 1) := kX5_of_0.1.2.2.2
theorem dX5_of_14 : decode cX5_of 14 = .ok (.tableswitch 103 0 5 #[38, 48, 58, 68, 78, 94], 38) := kX5_of_0.2.1.1.1
theorem dX5_of_52 : decode cX5_of 52 = .ok (.aload_n 0, 1) := kX5_of_0.2.1.1.2
theorem dX5_of_53 : decode cX5_of 53 = .ok (.getfield 10, 3) := kX5_of_0.2.1.2.1
theorem dX5_of_56 : decode cX5_of 56 = .ok (.getfield 72, 3) := kX5_of_0.2.1.2.2
theorem dX5_of_59 : decode cX5_of 59 = .ok (.iload_n 1, 1) := kX5_of_0.2.2.1.1
theorem dX5_of_60 : decode cX5_of 60 = .ok (.iaload, 1) := kX5_of_0.2.2.1.2
theorem dX5_of_61 : decode cX5_of 61 = .ok (.ireturn, 1) := kX5_of_0.2.2.2.1
theorem dX5_of_62 : decode cX5_of 62 = .ok (.aload_n 0, 1) := kX5_of_0.2.2.2.2
theorem kX5_of_63 : (((((decode cX5_of 63 = .ok (.getfield 10, 3)) ∧ (decode cX5_of 66 = .ok (.getfield 76, 3))) ∧ ((decode cX5_of 69 = .ok (.iload_n 1, 1)) ∧ (decode cX5_of 70 = .ok (.iaload, 1)))) ∧ (((decode cX5_of 71 = .ok (.ireturn, 1)) ∧ (decode cX5_of 72 = .ok (.aload_n 0, 1))) ∧ ((decode cX5_of 73 = .ok (.getfield 10, 3)) ∧ (decode cX5_of 76 = .ok (.getfield 79, 3))))) ∧ ((((decode cX5_of 79 = .ok (.iload_n 1, 1)) ∧ (decode cX5_of 80 = .ok (.iaload, 1))) ∧ ((decode cX5_of 81 = .ok (.ireturn, 1)) ∧ (decode cX5_of 82 = .ok (.aload_n 0, 1)))) ∧ (((decode cX5_of 83 = .ok (.getfield 10, 3)) ∧ (decode cX5_of 86 = .ok (.getfield 82, 3))) ∧ ((decode cX5_of 89 = .ok (.iload_n 1, 1)) ∧ (decode cX5_of 90 = .ok (.iaload, 1)))))) := by decide +kernel
theorem dX5_of_63 : decode cX5_of 63 = .ok (.getfield 10, 3) := kX5_of_63.1.1.1.1
theorem dX5_of_66 : decode cX5_of 66 = .ok (.getfield 76, 3) := kX5_of_63.1.1.1.2
theorem dX5_of_69 : decode cX5_of 69 = .ok (.iload_n 1, 1) := kX5_of_63.1.1.2.1
theorem dX5_of_70 : decode cX5_of 70 = .ok (.iaload, 1) := kX5_of_63.1.1.2.2
theorem dX5_of_71 : decode cX5_of 71 = .ok (.ireturn, 1) := kX5_of_63.1.2.1.1
theorem dX5_of_72 : decode cX5_of 72 = .ok (.aload_n 0, 1) := kX5_of_63.1.2.1.2
theorem dX5_of_73 : decode cX5_of 73 = .ok (.getfield 10, 3) := kX5_of_63.1.2.2.1
theorem dX5_of_76 : decode cX5_of 76 = .ok (.getfield 79, 3) := kX5_of_63.1.2.2.2
theorem dX5_of_79 : decode cX5_of 79 = .ok (.iload_n 1, 1) := kX5_of_63.2.1.1.1
theorem dX5_of_80 : decode cX5_of 80 = .ok (.iaload, 1) := kX5_of_63.2.1.1.2
theorem dX5_of_81 : decode cX5_of 81 = .ok (.ireturn, 1) := kX5_of_63.2.1.2.1
theorem dX5_of_82 : decode cX5_of 82 = .ok (.aload_n 0, 1) := kX5_of_63.2.1.2.2
theorem dX5_of_83 : decode cX5_of 83 = .ok (.getfield 10, 3) := kX5_of_63.2.2.1.1
theorem dX5_of_86 : decode cX5_of 86 = .ok (.getfield 82, 3) := kX5_of_63.2.2.1.2
theorem dX5_of_89 : decode cX5_of 89 = .ok (.iload_n 1, 1) := kX5_of_63.2.2.2.1
theorem dX5_of_90 : decode cX5_of 90 = .ok (.iaload, 1) := kX5_of_63.2.2.2.2
theorem kX5_of_91 : (((((decode cX5_of 91 = .ok (.ireturn, 1)) ∧ (decode cX5_of 92 = .ok (.aload_n 0, 1))) ∧ ((decode cX5_of 93 = .ok (.getfield 10, 3)) ∧ (decode cX5_of 96 = .ok (.iload_n 1, 1)))) ∧ (((decode cX5_of 97 = .ok (.aload_n 0, 1)) ∧ (decode cX5_of 98 = .ok (.getfield 10, 3))) ∧ ((decode cX5_of 101 = .ok (.invokevirtual 85, 3)) ∧ (decode cX5_of 104 = .ok (.invokevirtual 89, 3))))) ∧ ((((decode cX5_of 107 = .ok (.ireturn, 1)) ∧ (decode cX5_of 108 = .ok (.aload_n 0, 1))) ∧ ((decode cX5_of 109 = .ok (.getfield 10, 3)) ∧ (decode cX5_of 112 = .ok (.iload_n 1, 1)))) ∧ (((decode cX5_of 113 = .ok (.invokevirtual 92, 3)) ∧ (decode cX5_of 116 = .ok (.ireturn, 1))) ∧ ((decode cX5_of 117 = .ok (.iconst (-1), 1)) ∧ (decode cX5_of 118 = .ok (.ireturn, 1)))))) := by decide +kernel
theorem dX5_of_91 : decode cX5_of 91 = .ok (.ireturn, 1) := kX5_of_91.1.1.1.1
theorem dX5_of_92 : decode cX5_of 92 = .ok (.aload_n 0, 1) := kX5_of_91.1.1.1.2
theorem dX5_of_93 : decode cX5_of 93 = .ok (.getfield 10, 3) := kX5_of_91.1.1.2.1
theorem dX5_of_96 : decode cX5_of 96 = .ok (.iload_n 1, 1) := kX5_of_91.1.1.2.2
theorem dX5_of_97 : decode cX5_of 97 = .ok (.aload_n 0, 1) := kX5_of_91.1.2.1.1
theorem dX5_of_98 : decode cX5_of 98 = .ok (.getfield 10, 3) := kX5_of_91.1.2.1.2
theorem dX5_of_101 : decode cX5_of 101 = .ok (.invokevirtual 85, 3) := kX5_of_91.1.2.2.1
theorem dX5_of_104 : decode cX5_of 104 = .ok (.invokevirtual 89, 3) := kX5_of_91.1.2.2.2
theorem dX5_of_107 : decode cX5_of 107 = .ok (.ireturn, 1) := kX5_of_91.2.1.1.1
theorem dX5_of_108 : decode cX5_of 108 = .ok (.aload_n 0, 1) := kX5_of_91.2.1.1.2
theorem dX5_of_109 : decode cX5_of 109 = .ok (.getfield 10, 3) := kX5_of_91.2.1.2.1
theorem dX5_of_112 : decode cX5_of 112 = .ok (.iload_n 1, 1) := kX5_of_91.2.1.2.2
theorem dX5_of_113 : decode cX5_of 113 = .ok (.invokevirtual 92, 3) := kX5_of_91.2.2.1.1
theorem dX5_of_116 : decode cX5_of 116 = .ok (.ireturn, 1) := kX5_of_91.2.2.1.2
theorem dX5_of_117 : decode cX5_of 117 = .ok (.iconst (-1), 1) := kX5_of_91.2.2.2.1
theorem dX5_of_118 : decode cX5_of 118 = .ok (.ireturn, 1) := kX5_of_91.2.2.2.2
set_option maxRecDepth 20000 in
theorem ggX5_type_X4_isFull : GoodIn wsX5_type wsX4_isFull := goodIn_r _ [5, 6, 20, 21, 22] rfl (by decide +kernel)
set_option maxRecDepth 20000 in
theorem gX5_type_X4_isFull_n96 : GoodIn wsX5_type (wsX4_isFull) := ggX5_type_X4_isFull
set_option maxRecDepth 20000 in
theorem ggX5_type_X4_append : GoodIn wsX5_type wsX4_append := goodIn_r _ [9, 6, 10, 20, 21, 22] rfl (by decide +kernel)
set_option maxRecDepth 20000 in
theorem gX5_type_X4_append_n100 : GoodIn wsX5_type (wsX4_append) := ggX5_type_X4_append
theorem kX5_type_0 : (((((decode cX5_type 0 = .ok (.iload_n 1, 1)) ∧ (decode cX5_type 1 = .ok (.bipush 32, 2))) ∧ ((decode cX5_type 3 = .ok (.if_icmp .lt 9, 3)) ∧ (decode cX5_type 6 = .ok (.iload_n 1, 1)))) ∧ (((decode cX5_type 7 = .ok (.bipush 126, 2)) ∧ (decode cX5_type 9 = .ok (.if_icmp .le 5, 3))) ∧ ((decode cX5_type 12 = .ok (.iconst (-1), 1)) ∧ (decode cX5_type 13 = .ok (.ireturn, 1))))) ∧ ((((decode cX5_type 14 = .ok (.aload_n 0, 1)) ∧ (decode cX5_type 15 = .ok (.getfield 39, 3))) ∧ ((decode cX5_type 18 = .ok (.invokevirtual 96, 3)) ∧ (decode cX5_type 21 = .ok (.ifCond .eq 6, 3)))) ∧ (((decode cX5_type 24 = .ok (.bipush (-3), 2)) ∧ (decode cX5_type 26 = .ok (.ireturn, 1))) ∧ ((decode cX5_type 27 = .ok (.aload_n 0, 1)) ∧ (decode cX5_type 28 = .ok (.getfield 39, 3)))))) := by decide +kernel
theorem dX5_type_0 : decode cX5_type 0 = .ok (.iload_n 1, 1) := kX5_type_0.1.1.1.1
theorem dX5_type_1 : decode cX5_type 1 = .ok (.bipush 32, 2) := kX5_type_0.1.1.1.2
theorem dX5_type_3 : decode cX5_type 3 = .ok (.if_icmp .lt 9, 3) := kX5_type_0.1.1.2.1
theorem dX5_type_6 : decode cX5_type 6 = .ok (.iload_n 1, 1) := kX5_type_0.1.1.2.2
theorem dX5_type_7 : decode cX5_type 7 = .ok (.bipush 126, 2) := kX5_type_0.1.2.1.1
theorem dX5_type_9 : decode cX5_type 9 = .ok (.if_icmp .le 5, 3) := kX5_type_0.1.2.1.2
theorem dX5_type_12 : decode cX5_type 12 = .ok (.iconst (-1), 1) := kX5_type_0.1.2.2.1
theorem dX5_type_13 : decode cX5_type 13 = .ok (.ireturn, 1) := kX5_type_0.1.2.2.2
theorem dX5_type_14 : decode cX5_type 14 = .ok (.aload_n 0, 1) := kX5_type_0.2.1.1.1
theorem dX5_type_15 : decode cX5_type 15 = .ok (.getfield 39, 3) := kX5_type_0.2.1.1.2
theorem dX5_type_18 : decode cX5_type 18 = .ok (.invokevirtual 96, 3) := kX5_type_0.2.1.2.1
theorem dX5_type_21 : decode cX5_type 21 = .ok (.ifCond .eq 6, 3) := kX5_type_0.2.1.2.2
theorem dX5_type_24 : decode cX5_type 24 = .ok (.bipush (-3), 2) := kX5_type_0.2.2.1.1
theorem dX5_type_26 : decode cX5_type 26 = .ok (.ireturn, 1) := kX5_type_0.2.2.1.2
theorem dX5_type_27 : decode cX5_type 27 = .ok (.aload_n 0, 1) := kX5_type_0.2.2.2.1
theorem dX5_type_28 : decode cX5_type 28 = .ok (.getfield 39, 3) := kX5_type_0.2.2.2.2
theorem kX5_type_31 : (((decode cX5_type 31 = .ok (.iload_n 1, 1)) ∧ (decode cX5_type 32 = .ok (.invokevirtual 100, 3))) ∧ (decode cX5_type 35 = .ok (.ireturn, 1))) := by decide +kernel
theorem dX5_type_31 : decode cX5_type 31 = .ok (.iload_n 1, 1) := kX5_type_31.1.1
theorem dX5_type_32 : decode cX5_type 32 = .ok (.invokevirtual 100, 3) := kX5_type_31.1.2
theorem dX5_type_35 : decode cX5_type 35 = .ok (.ireturn, 1) := kX5_type_31.2
set_option maxRecDepth 20000 in
theorem ggX5_close_X2_empty : GoodIn wsX5_close wsX2_empty := goodIn_r _ [8, 9, 10, 131, 132, 133, 134, 135, 136, 137] rfl (by decide +kernel)
set_option maxRecDepth 20000 in
theorem gX5_close_X2_empty_n103 : GoodIn wsX5_close (wsX2_empty) := ggX5_close_X2_empty
set_option maxRecDepth 20000 in
theorem ggX5_close_X4_readClose : GoodIn wsX5_close wsX4_readClose := goodIn_r _ [14, 15, 16, 17, 18, 12, 19, 20, 21, 22, 23, 24, 25, 26, 27, 28, 29, 30, 31, 32, 33, 34, 35, 36, 37, 38, 39, 40, 41, 42, 43, 44, 45, 46, 47, 48, 49, 50, 51, 52, 53, 54, 55, 56, 57, 58, 59, 60, 61, 62, 63, 64, 65, 66, 67, 68, 69, 70, 71, 72, 73, 74, 75, 76, 77, 78, 79, 80, 81, 82, 83, 84, 85, 86, 87, 88, 89, 90, 6, 91, 92, 9, 93, 94, 95, 96, 97, 98, 99, 100, 101, 102, 103, 104, 105, 106, 128, 129, 130, 131, 132, 133, 134, 135, 136, 137] rfl (by decide +kernel)
set_option maxRecDepth 20000 in
theorem gX5_close_X4_readClose_n104 : GoodIn wsX5_close (wsX4_readClose) := ggX5_close_X4_readClose
set_option maxRecDepth 20000 in
theorem ggX5_close_X4_empty : GoodIn wsX5_close wsX4_empty := goodIn_r _ [109, 24, 128, 129, 130] rfl (by decide +kernel)
set_option maxRecDepth 20000 in
theorem gX5_close_X4_empty_n111 : GoodIn wsX5_close (wsX4_empty) := ggX5_close_X4_empty
set_option maxRecDepth 20000 in
theorem ggX5_close_X2_become : GoodIn wsX5_close wsX2_become := goodIn_r _ [112, 9, 10, 113, 93, 94, 95, 96, 131, 132, 133, 134, 135, 136, 137] rfl (by decide +kernel)
set_option maxRecDepth 20000 in
theorem gX5_close_X2_become_n115 : GoodIn wsX5_close (wsX2_become) := ggX5_close_X2_become
set_option maxRecDepth 20000 in
theorem ggX5_close_X1_empty : GoodIn wsX5_close wsX1_empty := goodIn_r _ [117, 118, 138, 139, 140] rfl (by decide +kernel)
set_option maxRecDepth 20000 in
theorem gX5_close_X1_empty_n61 : GoodIn wsX5_close (wsX1_empty) := ggX5_close_X1_empty
theorem kX5_close_0 : (((((decode cX5_close 0 = .ok (.aload_n 0, 1)) ∧ (decode cX5_close 1 = .ok (.getfield 33, 3))) ∧ ((decode cX5_close 4 = .ok (.invokevirtual 103, 3)) ∧ (decode cX5_close 7 = .ok (.aload_n 0, 1)))) ∧ (((decode cX5_close 8 = .ok (.getfield 39, 3)) ∧ (decode cX5_close 11 = .ok (.aload_n 0, 1))) ∧ ((decode cX5_close 12 = .ok (.getfield 33, 3)) ∧ (decode cX5_close 15 = .ok (.invokevirtual 104, 3))))) ∧ ((((decode cX5_close 18 = .ok (.istore_n 1, 1)) ∧ (decode cX5_close 19 = .ok (.aload_n 0, 1))) ∧ ((decode cX5_close 20 = .ok (.getfield 39, 3)) ∧ (decode cX5_close 23 = .ok (.getfield 108, 3)))) ∧ (((decode cX5_close 26 = .ok (.istore_n 2, 1)) ∧ (decode cX5_close 27 = .ok (.aload_n 0, 1))) ∧ ((decode cX5_close 28 = .ok (.getfield 39, 3)) ∧ (decode cX5_close 31 = .ok (.invokevirtual 111, 3)))))) := by decide +kernel
theorem dX5_close_0 : decode cX5_close 0 = .ok (.aload_n 0, 1) := kX5_close_0.1.1.1.1
theorem dX5_close_1 : decode cX5_close 1 = .ok (.getfield 33, 3) := kX5_close_0.1.1.1.2
theorem dX5_close_4 : decode cX5_close 4 = .ok (.invokevirtual 103, 3) := kX5_close_0.1.1.2.1
theorem dX5_close_7 : decode cX5_close 7 = .ok (.aload_n 0, 1) := kX5_close_0.1.1.2.2
theorem dX5_close_8 : decode cX5_close 8 = .ok (.getfield 39, 3) := kX5_close_0.1.2.1.1
theorem dX5_close_11 : decode cX5_close 11 = .ok (.aload_n 0, 1) := kX5_close_0.1.2.1.2
theorem dX5_close_12 : decode cX5_close 12 = .ok (.getfield 33, 3) := kX5_close_0.1.2.2.1
theorem dX5_close_15 : decode cX5_close 15 = .ok (.invokevirtual 104, 3) := kX5_close_0.1.2.2.2
theorem dX5_close_18 : decode cX5_close 18 = .ok (.istore_n 1, 1) := kX5_close_0.2.1.1.1
theorem dX5_close_19 : decode cX5_close 19 = .ok (.aload_n 0, 1) := kX5_close_0.2.1.1.2
theorem dX5_close_20 : decode cX5_close 20 = .ok (.getfield 39, 3) := kX5_close_0.2.1.2.1
theorem dX5_close_23 : decode cX5_close 23 = .ok (.getfield 108, 3) := kX5_close_0.2.1.2.2
theorem dX5_close_26 : decode cX5_close 26 = .ok (.istore_n 2, 1) := kX5_close_0.2.2.1.1
theorem dX5_close_27 : decode cX5_close 27 = .ok (.aload_n 0, 1) := kX5_close_0.2.2.1.2
theorem dX5_close_28 : decode cX5_close 28 = .ok (.getfield 39, 3) := kX5_close_0.2.2.2.1
theorem dX5_close_31 : decode cX5_close 31 = .ok (.invokevirtual 111, 3) := kX5_close_0.2.2.2.2
theorem kX5_close_34 : (((((decode cX5_close 34 = .ok (.iload_n 1, 1)) ∧ (decode cX5_close 35 = .ok (.ifCond .ne 8, 3))) ∧ ((decode cX5_close 38 = .ok (.bipush (-20), 2)) ∧ (decode cX5_close 40 = .ok (.iload_n 2, 1)))) ∧ (((decode cX5_close 41 = .ok (.isub, 1)) ∧ (decode cX5_close 42 = .ok (.ireturn, 1))) ∧ ((decode cX5_close 43 = .ok (.aload_n 0, 1)) ∧ (decode cX5_close 44 = .ok (.getfield 33, 3))))) ∧ ((((decode cX5_close 47 = .ok (.aload_n 0, 1)) ∧ (decode cX5_close 48 = .ok (.getfield 10, 3))) ∧ ((decode cX5_close 51 = .ok (.getfield 112, 3)) ∧ (decode cX5_close 54 = .ok (.putfield 112, 3)))) ∧ (((decode cX5_close 57 = .ok (.aload_n 0, 1)) ∧ (decode cX5_close 58 = .ok (.getfield 10, 3))) ∧ ((decode cX5_close 61 = .ok (.aload_n 0, 1)) ∧ (decode cX5_close 62 = .ok (.getfield 33, 3)))))) := by decide +kernel
theorem dX5_close_34 : decode cX5_close 34 = .ok (.iload_n 1, 1) := kX5_close_34.1.1.1.1
theorem dX5_close_35 : decode cX5_close 35 = .ok (.ifCond .ne 8, 3) := kX5_close_34.1.1.1.2
theorem dX5_close_38 : decode cX5_close 38 = .ok (.bipush (-20), 2) := kX5_close_34.1.1.2.1
theorem dX5_close_40 : decode cX5_close 40 = .ok (.iload_n 2, 1) := kX5_close_34.1.1.2.2
theorem dX5_close_41 : decode cX5_close 41 = .ok (.isub, 1) := kX5_close_34.1.2.1.1
theorem dX5_close_42 : decode cX5_close 42 = .ok (.ireturn, 1) := kX5_close_34.1.2.1.2
theorem dX5_close_43 : decode cX5_close 43 = .ok (.aload_n 0, 1) := kX5_close_34.1.2.2.1
theorem dX5_close_44 : decode cX5_close 44 = .ok (.getfield 33, 3) := kX5_close_34.1.2.2.2
theorem dX5_close_47 : decode cX5_close 47 = .ok (.aload_n 0, 1) := kX5_close_34.2.1.1.1
theorem dX5_close_48 : decode cX5_close 48 = .ok (.getfield 10, 3) := kX5_close_34.2.1.1.2
theorem dX5_close_51 : decode cX5_close 51 = .ok (.getfield 112, 3) := kX5_close_34.2.1.2.1
theorem dX5_close_54 : decode cX5_close 54 = .ok (.putfield 112, 3) := kX5_close_34.2.1.2.2
theorem dX5_close_57 : decode cX5_close 57 = .ok (.aload_n 0, 1) := kX5_close_34.2.2.1.1
theorem dX5_close_58 : decode cX5_close 58 = .ok (.getfield 10, 3) := kX5_close_34.2.2.1.2
theorem dX5_close_61 : decode cX5_close 61 = .ok (.aload_n 0, 1) := kX5_close_34.2.2.2.1
theorem dX5_close_62 : decode cX5_close 62 = .ok (.getfield 33, 3) := kX5_close_34.2.2.2.2
theorem kX5_close_65 : ((((decode cX5_close 65 = .ok (.invokevirtual 115, 3)) ∧ (decode cX5_close 68 = .ok (.aload_n 0, 1))) ∧ ((decode cX5_close 69 = .ok (.getfield 19, 3)) ∧ (decode cX5_close 72 = .ok (.invokevirtual 61, 3)))) ∧ (((decode cX5_close 75 = .ok (.aload_n 0, 1)) ∧ (decode cX5_close 76 = .ok (.getfield 10, 3))) ∧ ((decode cX5_close 79 = .ok (.getfield 57, 3)) ∧ (decode cX5_close 82 = .ok (.ireturn, 1))))) := by decide +kernel
theorem dX5_close_65 : decode cX5_close 65 = .ok (.invokevirtual 115, 3) := kX5_close_65.1.1.1
theorem dX5_close_68 : decode cX5_close 68 = .ok (.aload_n 0, 1) := kX5_close_65.1.1.2
theorem dX5_close_69 : decode cX5_close 69 = .ok (.getfield 19, 3) := kX5_close_65.1.2.1
theorem dX5_close_72 : decode cX5_close 72 = .ok (.invokevirtual 61, 3) := kX5_close_65.1.2.2
theorem dX5_close_75 : decode cX5_close 75 = .ok (.aload_n 0, 1) := kX5_close_65.2.1.1
theorem dX5_close_76 : decode cX5_close 76 = .ok (.getfield 10, 3) := kX5_close_65.2.1.2
theorem dX5_close_79 : decode cX5_close 79 = .ok (.getfield 57, 3) := kX5_close_65.2.2.1
theorem dX5_close_82 : decode cX5_close 82 = .ok (.ireturn, 1) := kX5_close_65.2.2.2
set_option maxRecDepth 20000 in
theorem ggX5_count_X2_stopped : GoodIn wsX5_count wsX2_stopped := goodIn_r _ [6, 7, 8, 9, 10, 4, 11, 12, 48, 49, 50, 51, 52, 53, 54] rfl (by decide +kernel)
set_option maxRecDepth 20000 in
theorem gX5_count_X2_stopped_n85 : GoodIn wsX5_count (wsX2_stopped) := ggX5_count_X2_stopped
set_option maxRecDepth 20000 in
theorem ggX5_count_X2_turnsTogether : GoodIn wsX5_count wsX2_turnsTogether := goodIn_r _ [15, 7, 12, 48, 49, 50, 51, 52, 53, 54] rfl (by decide +kernel)
set_option maxRecDepth 20000 in
theorem gX5_count_X2_turnsTogether_n122 : GoodIn wsX5_count (wsX2_turnsTogether) := ggX5_count_X2_turnsTogether
set_option maxRecDepth 20000 in
theorem ggX5_count_X2_ring : GoodIn wsX5_count wsX2_ring := goodIn_r _ [18, 7, 19, 20, 21, 4, 22, 23, 24, 25, 26, 27, 48, 49, 50, 51, 52, 53, 54] rfl (by decide +kernel)
set_option maxRecDepth 20000 in
theorem gX5_count_X2_ring_n125 : GoodIn wsX5_count (wsX2_ring) := ggX5_count_X2_ring
set_option maxRecDepth 20000 in
theorem ggX5_count_X2_without : GoodIn wsX5_count wsX2_without := goodIn_r _ [30, 7, 31, 32, 33, 4, 34, 23, 48, 49, 50, 51, 52, 53, 54] rfl (by decide +kernel)
set_option maxRecDepth 20000 in
theorem gX5_count_X2_without_n128 : GoodIn wsX5_count (wsX2_without) := ggX5_count_X2_without
set_option maxRecDepth 20000 in
theorem ggX5_count_X2_isWindingHour : GoodIn wsX5_count wsX2_isWindingHour := goodIn_r _ [37, 38, 48, 49, 50, 51, 52, 53, 54] rfl (by decide +kernel)
set_option maxRecDepth 20000 in
theorem gX5_count_X2_isWindingHour_n131 : GoodIn wsX5_count (wsX2_isWindingHour) := ggX5_count_X2_isWindingHour
theorem kX5_count_0 : (((((decode cX5_count 0 = .ok (.iload_n 1, 1)) ∧ (decode cX5_count 1 = .ok (.tableswitch 119 0 7 #[47, 55, 63, 71, 79, 87, 95, 111], 47))) ∧ ((decode cX5_count 48 = .ok (.aload_n 0, 1)) ∧ (decode cX5_count 49 = .ok (.getfield 10, 3)))) ∧ (((decode cX5_count 52 = .ok (.getfield 57, 3)) ∧ (decode cX5_count 55 = .ok (.ireturn, 1))) ∧ ((decode cX5_count 56 = .ok (.aload_n 0, 1)) ∧ (decode cX5_count 57 = .ok (.getfield 10, 3))))) ∧ ((((decode cX5_count 60 = .ok (.getfield 119, 3)) ∧ (decode cX5_count 63 = .ok (.ireturn, 1))) ∧ ((decode cX5_count 64 = .ok (.aload_n 0, 1)) ∧ (decode cX5_count 65 = .ok (.getfield 10, 3)))) ∧ (((decode cX5_count 68 = .ok (.invokevirtual 85, 3)) ∧ (decode cX5_count 71 = .ok (.ireturn, 1))) ∧ ((decode cX5_count 72 = .ok (.aload_n 0, 1)) ∧ (decode cX5_count 73 = .ok (.getfield 10, 3)))))) := by decide +kernel
theorem dX5_count_0 : decode cX5_count 0 = .ok (.iload_n 1, 1) := kX5_count_0.1.1.1.1
theorem dX5_count_1 : decode cX5_count 1 = .ok (.tableswitch 119 0 7 #[47, 55, 63, 71, 79, 87, 95, 111], 47) := kX5_count_0.1.1.1.2
theorem dX5_count_48 : decode cX5_count 48 = .ok (.aload_n 0, 1) := kX5_count_0.1.1.2.1
theorem dX5_count_49 : decode cX5_count 49 = .ok (.getfield 10, 3) := kX5_count_0.1.1.2.2
theorem dX5_count_52 : decode cX5_count 52 = .ok (.getfield 57, 3) := kX5_count_0.1.2.1.1
theorem dX5_count_55 : decode cX5_count 55 = .ok (.ireturn, 1) := kX5_count_0.1.2.1.2
theorem dX5_count_56 : decode cX5_count 56 = .ok (.aload_n 0, 1) := kX5_count_0.1.2.2.1
theorem dX5_count_57 : decode cX5_count 57 = .ok (.getfield 10, 3) := kX5_count_0.1.2.2.2
theorem dX5_count_60 : decode cX5_count 60 = .ok (.getfield 119, 3) := kX5_count_0.2.1.1.1
theorem dX5_count_63 : decode cX5_count 63 = .ok (.ireturn, 1) := kX5_count_0.2.1.1.2
theorem dX5_count_64 : decode cX5_count 64 = .ok (.aload_n 0, 1) := kX5_count_0.2.1.2.1
theorem dX5_count_65 : decode cX5_count 65 = .ok (.getfield 10, 3) := kX5_count_0.2.1.2.2
theorem dX5_count_68 : decode cX5_count 68 = .ok (.invokevirtual 85, 3) := kX5_count_0.2.2.1.1
theorem dX5_count_71 : decode cX5_count 71 = .ok (.ireturn, 1) := kX5_count_0.2.2.1.2
theorem dX5_count_72 : decode cX5_count 72 = .ok (.aload_n 0, 1) := kX5_count_0.2.2.2.1
theorem dX5_count_73 : decode cX5_count 73 = .ok (.getfield 10, 3) := kX5_count_0.2.2.2.2
theorem kX5_count_76 : (((((decode cX5_count 76 = .ok (.invokevirtual 122, 3)) ∧ (decode cX5_count 79 = .ok (.ireturn, 1))) ∧ ((decode cX5_count 80 = .ok (.aload_n 0, 1)) ∧ (decode cX5_count 81 = .ok (.getfield 10, 3)))) ∧ (((decode cX5_count 84 = .ok (.invokevirtual 125, 3)) ∧ (decode cX5_count 87 = .ok (.ireturn, 1))) ∧ ((decode cX5_count 88 = .ok (.aload_n 0, 1)) ∧ (decode cX5_count 89 = .ok (.getfield 10, 3))))) ∧ ((((decode cX5_count 92 = .ok (.invokevirtual 128, 3)) ∧ (decode cX5_count 95 = .ok (.ireturn, 1))) ∧ ((decode cX5_count 96 = .ok (.aload_n 0, 1)) ∧ (decode cX5_count 97 = .ok (.getfield 10, 3)))) ∧ (((decode cX5_count 100 = .ok (.invokevirtual 131, 3)) ∧ (decode cX5_count 103 = .ok (.ifCond .eq 7, 3))) ∧ ((decode cX5_count 106 = .ok (.iconst 1, 1)) ∧ (decode cX5_count 107 = .ok (.goto 4, 3)))))) := by decide +kernel
theorem dX5_count_76 : decode cX5_count 76 = .ok (.invokevirtual 122, 3) := kX5_count_76.1.1.1.1
theorem dX5_count_79 : decode cX5_count 79 = .ok (.ireturn, 1) := kX5_count_76.1.1.1.2
theorem dX5_count_80 : decode cX5_count 80 = .ok (.aload_n 0, 1) := kX5_count_76.1.1.2.1
theorem dX5_count_81 : decode cX5_count 81 = .ok (.getfield 10, 3) := kX5_count_76.1.1.2.2
theorem dX5_count_84 : decode cX5_count 84 = .ok (.invokevirtual 125, 3) := kX5_count_76.1.2.1.1
theorem dX5_count_87 : decode cX5_count 87 = .ok (.ireturn, 1) := kX5_count_76.1.2.1.2
theorem dX5_count_88 : decode cX5_count 88 = .ok (.aload_n 0, 1) := kX5_count_76.1.2.2.1
theorem dX5_count_89 : decode cX5_count 89 = .ok (.getfield 10, 3) := kX5_count_76.1.2.2.2
theorem dX5_count_92 : decode cX5_count 92 = .ok (.invokevirtual 128, 3) := kX5_count_76.2.1.1.1
theorem dX5_count_95 : decode cX5_count 95 = .ok (.ireturn, 1) := kX5_count_76.2.1.1.2
theorem dX5_count_96 : decode cX5_count 96 = .ok (.aload_n 0, 1) := kX5_count_76.2.1.2.1
theorem dX5_count_97 : decode cX5_count 97 = .ok (.getfield 10, 3) := kX5_count_76.2.1.2.2
theorem dX5_count_100 : decode cX5_count 100 = .ok (.invokevirtual 131, 3) := kX5_count_76.2.2.1.1
theorem dX5_count_103 : decode cX5_count 103 = .ok (.ifCond .eq 7, 3) := kX5_count_76.2.2.1.2
theorem dX5_count_106 : decode cX5_count 106 = .ok (.iconst 1, 1) := kX5_count_76.2.2.2.1
theorem dX5_count_107 : decode cX5_count 107 = .ok (.goto 4, 3) := kX5_count_76.2.2.2.2
theorem kX5_count_110 : ((((decode cX5_count 110 = .ok (.iconst 0, 1)) ∧ (decode cX5_count 111 = .ok (.ireturn, 1))) ∧ ((decode cX5_count 112 = .ok (.aload_n 0, 1)) ∧ (decode cX5_count 113 = .ok (.getfield 19, 3)))) ∧ (((decode cX5_count 116 = .ok (.getfield 134, 3)) ∧ (decode cX5_count 119 = .ok (.ireturn, 1))) ∧ ((decode cX5_count 120 = .ok (.iconst (-1), 1)) ∧ (decode cX5_count 121 = .ok (.ireturn, 1))))) := by decide +kernel
theorem dX5_count_110 : decode cX5_count 110 = .ok (.iconst 0, 1) := kX5_count_110.1.1.1
theorem dX5_count_111 : decode cX5_count 111 = .ok (.ireturn, 1) := kX5_count_110.1.1.2
theorem dX5_count_112 : decode cX5_count 112 = .ok (.aload_n 0, 1) := kX5_count_110.1.2.1
theorem dX5_count_113 : decode cX5_count 113 = .ok (.getfield 19, 3) := kX5_count_110.1.2.2
theorem dX5_count_116 : decode cX5_count 116 = .ok (.getfield 134, 3) := kX5_count_110.2.1.1
theorem dX5_count_119 : decode cX5_count 119 = .ok (.ireturn, 1) := kX5_count_110.2.1.2
theorem dX5_count_120 : decode cX5_count 120 = .ok (.iconst (-1), 1) := kX5_count_110.2.2.1
theorem dX5_count_121 : decode cX5_count 121 = .ok (.ireturn, 1) := kX5_count_110.2.2.2
set_option maxRecDepth 20000 in
theorem ggX5_hours_X5_spend : GoodIn wsX5_hours wsX5_spend := goodIn_r _ [5, 6, 7, 8, 9, 10, 11, 12, 13, 14, 15, 16, 17, 18, 19, 20, 21, 22, 23, 24, 25, 26, 27, 28, 29, 30, 31, 32, 33, 34, 35, 36, 37, 38, 39, 40, 41, 42, 43, 44, 45, 46, 47, 48, 49, 50, 51, 52, 53, 54, 55, 56, 57, 58, 59, 60, 61, 62, 63, 64, 65, 66, 67, 68, 69, 70, 71, 72, 73, 74, 75, 76, 77, 78, 79, 80, 81, 82, 83, 84, 85, 86, 87, 88, 89, 90, 91, 92, 93, 94, 95, 96, 97, 98, 99, 100, 101, 102, 103, 104, 105, 106, 107, 108, 109, 110, 111, 112, 113] rfl (by decide +kernel)
set_option maxRecDepth 20000 in
theorem gX5_hours_X5_spend : GoodIn wsX5_hours (wsV RX5 135 RX5 yX5_spend wsX5_spend) := goodIn_app (goodIn_of _ (by decide +kernel)) ggX5_hours_X5_spend
theorem kX5_hours_0 : ((((decode cX5_hours 0 = .ok (.aload_n 0, 1)) ∧ (decode cX5_hours 1 = .ok (.iload_n 1, 1))) ∧ (decode cX5_hours 2 = .ok (.iconst 0, 1))) ∧ ((decode cX5_hours 3 = .ok (.invokevirtual 135, 3)) ∧ (decode cX5_hours 6 = .ok (.ireturn, 1)))) := by decide +kernel
theorem dX5_hours_0 : decode cX5_hours 0 = .ok (.aload_n 0, 1) := kX5_hours_0.1.1.1
theorem dX5_hours_1 : decode cX5_hours 1 = .ok (.iload_n 1, 1) := kX5_hours_0.1.1.2
theorem dX5_hours_2 : decode cX5_hours 2 = .ok (.iconst 0, 1) := kX5_hours_0.1.2
theorem dX5_hours_3 : decode cX5_hours 3 = .ok (.invokevirtual 135, 3) := kX5_hours_0.2.1
theorem dX5_hours_6 : decode cX5_hours 6 = .ok (.ireturn, 1) := kX5_hours_0.2.2
set_option maxRecDepth 20000 in
theorem ggX5_lend_X2_has : GoodIn wsX5_lend wsX2_has := goodIn_r _ [6, 7, 41, 42, 43, 44, 45, 46, 47] rfl (by decide +kernel)
set_option maxRecDepth 20000 in
theorem gX5_lend_X2_has_n68 : GoodIn wsX5_lend (wsX2_has) := ggX5_lend_X2_has
set_option maxRecDepth 20000 in
theorem ggX5_lend_X1_keep : GoodIn wsX5_lend wsX1_keep := goodIn_r _ [11, 12, 13, 14, 15, 16, 17, 18, 19, 4, 20, 21, 7, 22, 23, 24, 25, 26, 27, 48, 49, 50, 41, 42, 43, 44, 45, 46, 47] rfl (by decide +kernel)
set_option maxRecDepth 20000 in
theorem gX5_lend_X1_keep_n139 : GoodIn wsX5_lend (wsX1_keep) := ggX5_lend_X1_keep
set_option maxRecDepth 20000 in
theorem ggX5_lend_X2_addTurns : GoodIn wsX5_lend wsX2_addTurns := goodIn_r _ [30, 25, 31, 16, 17, 18, 41, 42, 43, 44, 45, 46, 47] rfl (by decide +kernel)
set_option maxRecDepth 20000 in
theorem gX5_lend_X2_addTurns_n142 : GoodIn wsX5_lend (wsX2_addTurns) := ggX5_lend_X2_addTurns
theorem kX5_lend_0 : (((((decode cX5_lend 0 = .ok (.aload_n 0, 1)) ∧ (decode cX5_lend 1 = .ok (.getfield 10, 3))) ∧ ((decode cX5_lend 4 = .ok (.iload_n 1, 1)) ∧ (decode cX5_lend 5 = .ok (.invokevirtual 68, 3)))) ∧ (((decode cX5_lend 8 = .ok (.ifCond .eq 14, 3)) ∧ (decode cX5_lend 11 = .ok (.iload_n 2, 1))) ∧ ((decode cX5_lend 12 = .ok (.iconst 1, 1)) ∧ (decode cX5_lend 13 = .ok (.if_icmp .lt 9, 3))))) ∧ ((((decode cX5_lend 16 = .ok (.iload_n 2, 1)) ∧ (decode cX5_lend 17 = .ok (.bipush 30, 2))) ∧ ((decode cX5_lend 19 = .ok (.if_icmp .le 5, 3)) ∧ (decode cX5_lend 22 = .ok (.iconst (-1), 1)))) ∧ (((decode cX5_lend 23 = .ok (.ireturn, 1)) ∧ (decode cX5_lend 24 = .ok (.aload_n 0, 1))) ∧ ((decode cX5_lend 25 = .ok (.getfield 10, 3)) ∧ (decode cX5_lend 28 = .ok (.getfield 76, 3)))))) := by decide +kernel
theorem dX5_lend_0 : decode cX5_lend 0 = .ok (.aload_n 0, 1) := kX5_lend_0.1.1.1.1
theorem dX5_lend_1 : decode cX5_lend 1 = .ok (.getfield 10, 3) := kX5_lend_0.1.1.1.2
theorem dX5_lend_4 : decode cX5_lend 4 = .ok (.iload_n 1, 1) := kX5_lend_0.1.1.2.1
theorem dX5_lend_5 : decode cX5_lend 5 = .ok (.invokevirtual 68, 3) := kX5_lend_0.1.1.2.2
theorem dX5_lend_8 : decode cX5_lend 8 = .ok (.ifCond .eq 14, 3) := kX5_lend_0.1.2.1.1
theorem dX5_lend_11 : decode cX5_lend 11 = .ok (.iload_n 2, 1) := kX5_lend_0.1.2.1.2
theorem dX5_lend_12 : decode cX5_lend 12 = .ok (.iconst 1, 1) := kX5_lend_0.1.2.2.1
theorem dX5_lend_13 : decode cX5_lend 13 = .ok (.if_icmp .lt 9, 3) := kX5_lend_0.1.2.2.2
theorem dX5_lend_16 : decode cX5_lend 16 = .ok (.iload_n 2, 1) := kX5_lend_0.2.1.1.1
theorem dX5_lend_17 : decode cX5_lend 17 = .ok (.bipush 30, 2) := kX5_lend_0.2.1.1.2
theorem dX5_lend_19 : decode cX5_lend 19 = .ok (.if_icmp .le 5, 3) := kX5_lend_0.2.1.2.1
theorem dX5_lend_22 : decode cX5_lend 22 = .ok (.iconst (-1), 1) := kX5_lend_0.2.1.2.2
theorem dX5_lend_23 : decode cX5_lend 23 = .ok (.ireturn, 1) := kX5_lend_0.2.2.1.1
theorem dX5_lend_24 : decode cX5_lend 24 = .ok (.aload_n 0, 1) := kX5_lend_0.2.2.1.2
theorem dX5_lend_25 : decode cX5_lend 25 = .ok (.getfield 10, 3) := kX5_lend_0.2.2.2.1
theorem dX5_lend_28 : decode cX5_lend 28 = .ok (.getfield 76, 3) := kX5_lend_0.2.2.2.2
theorem kX5_lend_31 : (((((decode cX5_lend 31 = .ok (.iload_n 1, 1)) ∧ (decode cX5_lend 32 = .ok (.iaload, 1))) ∧ ((decode cX5_lend 33 = .ok (.bipush 30, 2)) ∧ (decode cX5_lend 35 = .ok (.if_icmp .lt 6, 3)))) ∧ (((decode cX5_lend 38 = .ok (.bipush (-2), 2)) ∧ (decode cX5_lend 40 = .ok (.ireturn, 1))) ∧ ((decode cX5_lend 41 = .ok (.aload_n 0, 1)) ∧ (decode cX5_lend 42 = .ok (.getfield 19, 3))))) ∧ ((((decode cX5_lend 45 = .ok (.aload_n 0, 1)) ∧ (decode cX5_lend 46 = .ok (.getfield 10, 3))) ∧ ((decode cX5_lend 49 = .ok (.invokevirtual 139, 3)) ∧ (decode cX5_lend 52 = .ok (.aload_n 0, 1)))) ∧ (((decode cX5_lend 53 = .ok (.getfield 10, 3)) ∧ (decode cX5_lend 56 = .ok (.iload_n 1, 1))) ∧ ((decode cX5_lend 57 = .ok (.iload_n 2, 1)) ∧ (decode cX5_lend 58 = .ok (.invokevirtual 142, 3)))))) := by decide +kernel
theorem dX5_lend_31 : decode cX5_lend 31 = .ok (.iload_n 1, 1) := kX5_lend_31.1.1.1.1
theorem dX5_lend_32 : decode cX5_lend 32 = .ok (.iaload, 1) := kX5_lend_31.1.1.1.2
theorem dX5_lend_33 : decode cX5_lend 33 = .ok (.bipush 30, 2) := kX5_lend_31.1.1.2.1
theorem dX5_lend_35 : decode cX5_lend 35 = .ok (.if_icmp .lt 6, 3) := kX5_lend_31.1.1.2.2
theorem dX5_lend_38 : decode cX5_lend 38 = .ok (.bipush (-2), 2) := kX5_lend_31.1.2.1.1
theorem dX5_lend_40 : decode cX5_lend 40 = .ok (.ireturn, 1) := kX5_lend_31.1.2.1.2
theorem dX5_lend_41 : decode cX5_lend 41 = .ok (.aload_n 0, 1) := kX5_lend_31.1.2.2.1
theorem dX5_lend_42 : decode cX5_lend 42 = .ok (.getfield 19, 3) := kX5_lend_31.1.2.2.2
theorem dX5_lend_45 : decode cX5_lend 45 = .ok (.aload_n 0, 1) := kX5_lend_31.2.1.1.1
theorem dX5_lend_46 : decode cX5_lend 46 = .ok (.getfield 10, 3) := kX5_lend_31.2.1.1.2
theorem dX5_lend_49 : decode cX5_lend 49 = .ok (.invokevirtual 139, 3) := kX5_lend_31.2.1.2.1
theorem dX5_lend_52 : decode cX5_lend 52 = .ok (.aload_n 0, 1) := kX5_lend_31.2.1.2.2
theorem dX5_lend_53 : decode cX5_lend 53 = .ok (.getfield 10, 3) := kX5_lend_31.2.2.1.1
theorem dX5_lend_56 : decode cX5_lend 56 = .ok (.iload_n 1, 1) := kX5_lend_31.2.2.1.2
theorem dX5_lend_57 : decode cX5_lend 57 = .ok (.iload_n 2, 1) := kX5_lend_31.2.2.2.1
theorem dX5_lend_58 : decode cX5_lend 58 = .ok (.invokevirtual 142, 3) := kX5_lend_31.2.2.2.2
theorem kX5_lend_61 : ((((decode cX5_lend 61 = .ok (.aload_n 0, 1)) ∧ (decode cX5_lend 62 = .ok (.getfield 10, 3))) ∧ (decode cX5_lend 65 = .ok (.getfield 76, 3))) ∧ (((decode cX5_lend 68 = .ok (.iload_n 1, 1)) ∧ (decode cX5_lend 69 = .ok (.iaload, 1))) ∧ (decode cX5_lend 70 = .ok (.ireturn, 1)))) := by decide +kernel
theorem dX5_lend_61 : decode cX5_lend 61 = .ok (.aload_n 0, 1) := kX5_lend_61.1.1.1
theorem dX5_lend_62 : decode cX5_lend 62 = .ok (.getfield 10, 3) := kX5_lend_61.1.1.2
theorem dX5_lend_65 : decode cX5_lend 65 = .ok (.getfield 76, 3) := kX5_lend_61.1.2
theorem dX5_lend_68 : decode cX5_lend 68 = .ok (.iload_n 1, 1) := kX5_lend_61.2.1.1
theorem dX5_lend_69 : decode cX5_lend 69 = .ok (.iaload, 1) := kX5_lend_61.2.1.2
theorem dX5_lend_70 : decode cX5_lend 70 = .ok (.ireturn, 1) := kX5_lend_61.2.2
set_option maxRecDepth 20000 in
theorem ggX5_tell_X2_has : GoodIn wsX5_tell wsX2_has := goodIn_r _ [6, 7, 37, 38, 39, 40, 41, 42, 43] rfl (by decide +kernel)
set_option maxRecDepth 20000 in
theorem gX5_tell_X2_has_n68 : GoodIn wsX5_tell (wsX2_has) := ggX5_tell_X2_has
set_option maxRecDepth 20000 in
theorem ggX5_tell_X1_keep : GoodIn wsX5_tell wsX1_keep := goodIn_r _ [11, 12, 13, 14, 15, 16, 17, 18, 19, 4, 20, 21, 7, 22, 23, 24, 25, 26, 27, 44, 45, 46, 37, 38, 39, 40, 41, 42, 43] rfl (by decide +kernel)
set_option maxRecDepth 20000 in
theorem gX5_tell_X1_keep_n139 : GoodIn wsX5_tell (wsX1_keep) := ggX5_tell_X1_keep
theorem kX5_tell_0 : (((((decode cX5_tell 0 = .ok (.aload_n 0, 1)) ∧ (decode cX5_tell 1 = .ok (.getfield 10, 3))) ∧ ((decode cX5_tell 4 = .ok (.iload_n 1, 1)) ∧ (decode cX5_tell 5 = .ok (.invokevirtual 68, 3)))) ∧ (((decode cX5_tell 8 = .ok (.ifCond .eq 25, 3)) ∧ (decode cX5_tell 11 = .ok (.iload_n 2, 1))) ∧ ((decode cX5_tell 12 = .ok (.iload_n 1, 1)) ∧ (decode cX5_tell 13 = .ok (.if_icmp .eq 20, 3))))) ∧ ((((decode cX5_tell 16 = .ok (.iload_n 2, 1)) ∧ (decode cX5_tell 17 = .ok (.bipush (-4), 2))) ∧ ((decode cX5_tell 19 = .ok (.if_icmp .eq 16, 3)) ∧ (decode cX5_tell 22 = .ok (.aload_n 0, 1)))) ∧ (((decode cX5_tell 23 = .ok (.getfield 10, 3)) ∧ (decode cX5_tell 26 = .ok (.iload_n 2, 1))) ∧ ((decode cX5_tell 27 = .ok (.invokevirtual 68, 3)) ∧ (decode cX5_tell 30 = .ok (.ifCond .ne 5, 3)))))) := by decide +kernel
theorem dX5_tell_0 : decode cX5_tell 0 = .ok (.aload_n 0, 1) := kX5_tell_0.1.1.1.1
theorem dX5_tell_1 : decode cX5_tell 1 = .ok (.getfield 10, 3) := kX5_tell_0.1.1.1.2
theorem dX5_tell_4 : decode cX5_tell 4 = .ok (.iload_n 1, 1) := kX5_tell_0.1.1.2.1
theorem dX5_tell_5 : decode cX5_tell 5 = .ok (.invokevirtual 68, 3) := kX5_tell_0.1.1.2.2
theorem dX5_tell_8 : decode cX5_tell 8 = .ok (.ifCond .eq 25, 3) := kX5_tell_0.1.2.1.1
theorem dX5_tell_11 : decode cX5_tell 11 = .ok (.iload_n 2, 1) := kX5_tell_0.1.2.1.2
theorem dX5_tell_12 : decode cX5_tell 12 = .ok (.iload_n 1, 1) := kX5_tell_0.1.2.2.1
theorem dX5_tell_13 : decode cX5_tell 13 = .ok (.if_icmp .eq 20, 3) := kX5_tell_0.1.2.2.2
theorem dX5_tell_16 : decode cX5_tell 16 = .ok (.iload_n 2, 1) := kX5_tell_0.2.1.1.1
theorem dX5_tell_17 : decode cX5_tell 17 = .ok (.bipush (-4), 2) := kX5_tell_0.2.1.1.2
theorem dX5_tell_19 : decode cX5_tell 19 = .ok (.if_icmp .eq 16, 3) := kX5_tell_0.2.1.2.1
theorem dX5_tell_22 : decode cX5_tell 22 = .ok (.aload_n 0, 1) := kX5_tell_0.2.1.2.2
theorem dX5_tell_23 : decode cX5_tell 23 = .ok (.getfield 10, 3) := kX5_tell_0.2.2.1.1
theorem dX5_tell_26 : decode cX5_tell 26 = .ok (.iload_n 2, 1) := kX5_tell_0.2.2.1.2
theorem dX5_tell_27 : decode cX5_tell 27 = .ok (.invokevirtual 68, 3) := kX5_tell_0.2.2.2.1
theorem dX5_tell_30 : decode cX5_tell 30 = .ok (.ifCond .ne 5, 3) := kX5_tell_0.2.2.2.2
theorem kX5_tell_33 : (((((decode cX5_tell 33 = .ok (.iconst (-1), 1)) ∧ (decode cX5_tell 34 = .ok (.ireturn, 1))) ∧ ((decode cX5_tell 35 = .ok (.aload_n 0, 1)) ∧ (decode cX5_tell 36 = .ok (.getfield 10, 3)))) ∧ (((decode cX5_tell 39 = .ok (.getfield 79, 3)) ∧ (decode cX5_tell 42 = .ok (.iload_n 1, 1))) ∧ ((decode cX5_tell 43 = .ok (.iaload, 1)) ∧ (decode cX5_tell 44 = .ok (.istore_n 3, 1))))) ∧ ((((decode cX5_tell 45 = .ok (.iload_n 2, 1)) ∧ (decode cX5_tell 46 = .ok (.iload_n 3, 1))) ∧ ((decode cX5_tell 47 = .ok (.if_icmp .ne 6, 3)) ∧ (decode cX5_tell 50 = .ok (.bipush (-2), 2)))) ∧ (((decode cX5_tell 52 = .ok (.ireturn, 1)) ∧ (decode cX5_tell 53 = .ok (.aload_n 0, 1))) ∧ ((decode cX5_tell 54 = .ok (.getfield 19, 3)) ∧ (decode cX5_tell 57 = .ok (.aload_n 0, 1)))))) := by decide +kernel
theorem dX5_tell_33 : decode cX5_tell 33 = .ok (.iconst (-1), 1) := kX5_tell_33.1.1.1.1
theorem dX5_tell_34 : decode cX5_tell 34 = .ok (.ireturn, 1) := kX5_tell_33.1.1.1.2
theorem dX5_tell_35 : decode cX5_tell 35 = .ok (.aload_n 0, 1) := kX5_tell_33.1.1.2.1
theorem dX5_tell_36 : decode cX5_tell 36 = .ok (.getfield 10, 3) := kX5_tell_33.1.1.2.2
theorem dX5_tell_39 : decode cX5_tell 39 = .ok (.getfield 79, 3) := kX5_tell_33.1.2.1.1
theorem dX5_tell_42 : decode cX5_tell 42 = .ok (.iload_n 1, 1) := kX5_tell_33.1.2.1.2
theorem dX5_tell_43 : decode cX5_tell 43 = .ok (.iaload, 1) := kX5_tell_33.1.2.2.1
theorem dX5_tell_44 : decode cX5_tell 44 = .ok (.istore_n 3, 1) := kX5_tell_33.1.2.2.2
theorem dX5_tell_45 : decode cX5_tell 45 = .ok (.iload_n 2, 1) := kX5_tell_33.2.1.1.1
theorem dX5_tell_46 : decode cX5_tell 46 = .ok (.iload_n 3, 1) := kX5_tell_33.2.1.1.2
theorem dX5_tell_47 : decode cX5_tell 47 = .ok (.if_icmp .ne 6, 3) := kX5_tell_33.2.1.2.1
theorem dX5_tell_50 : decode cX5_tell 50 = .ok (.bipush (-2), 2) := kX5_tell_33.2.1.2.2
theorem dX5_tell_52 : decode cX5_tell 52 = .ok (.ireturn, 1) := kX5_tell_33.2.2.1.1
theorem dX5_tell_53 : decode cX5_tell 53 = .ok (.aload_n 0, 1) := kX5_tell_33.2.2.1.2
theorem dX5_tell_54 : decode cX5_tell 54 = .ok (.getfield 19, 3) := kX5_tell_33.2.2.2.1
theorem dX5_tell_57 : decode cX5_tell 57 = .ok (.aload_n 0, 1) := kX5_tell_33.2.2.2.2
theorem kX5_tell_58 : (((((decode cX5_tell 58 = .ok (.getfield 10, 3)) ∧ (decode cX5_tell 61 = .ok (.invokevirtual 139, 3))) ∧ (decode cX5_tell 64 = .ok (.aload_n 0, 1))) ∧ ((decode cX5_tell 65 = .ok (.getfield 10, 3)) ∧ (decode cX5_tell 68 = .ok (.getfield 79, 3)))) ∧ ((((decode cX5_tell 71 = .ok (.iload_n 1, 1)) ∧ (decode cX5_tell 72 = .ok (.iload_n 2, 1))) ∧ (decode cX5_tell 73 = .ok (.iastore, 1))) ∧ ((decode cX5_tell 74 = .ok (.iload_n 3, 1)) ∧ (decode cX5_tell 75 = .ok (.ireturn, 1))))) := by decide +kernel
theorem dX5_tell_58 : decode cX5_tell 58 = .ok (.getfield 10, 3) := kX5_tell_58.1.1.1.1
theorem dX5_tell_61 : decode cX5_tell 61 = .ok (.invokevirtual 139, 3) := kX5_tell_58.1.1.1.2
theorem dX5_tell_64 : decode cX5_tell 64 = .ok (.aload_n 0, 1) := kX5_tell_58.1.1.2
theorem dX5_tell_65 : decode cX5_tell 65 = .ok (.getfield 10, 3) := kX5_tell_58.1.2.1
theorem dX5_tell_68 : decode cX5_tell 68 = .ok (.getfield 79, 3) := kX5_tell_58.1.2.2
theorem dX5_tell_71 : decode cX5_tell 71 = .ok (.iload_n 1, 1) := kX5_tell_58.2.1.1.1
theorem dX5_tell_72 : decode cX5_tell 72 = .ok (.iload_n 2, 1) := kX5_tell_58.2.1.1.2
theorem dX5_tell_73 : decode cX5_tell 73 = .ok (.iastore, 1) := kX5_tell_58.2.1.2
theorem dX5_tell_74 : decode cX5_tell 74 = .ok (.iload_n 3, 1) := kX5_tell_58.2.2.1
theorem dX5_tell_75 : decode cX5_tell 75 = .ok (.ireturn, 1) := kX5_tell_58.2.2.2
set_option maxRecDepth 20000 in
theorem ggX5_cut_X2_has : GoodIn wsX5_cut wsX2_has := goodIn_r _ [6, 7, 37, 38, 39, 40, 41, 42, 43] rfl (by decide +kernel)
set_option maxRecDepth 20000 in
theorem gX5_cut_X2_has_n68 : GoodIn wsX5_cut (wsX2_has) := ggX5_cut_X2_has
set_option maxRecDepth 20000 in
theorem ggX5_cut_X1_keep : GoodIn wsX5_cut wsX1_keep := goodIn_r _ [11, 12, 13, 14, 15, 16, 17, 18, 19, 4, 20, 21, 7, 22, 23, 24, 25, 26, 27, 44, 45, 46, 37, 38, 39, 40, 41, 42, 43] rfl (by decide +kernel)
set_option maxRecDepth 20000 in
theorem gX5_cut_X1_keep_n139 : GoodIn wsX5_cut (wsX1_keep) := ggX5_cut_X1_keep
theorem kX5_cut_0 : (((((decode cX5_cut 0 = .ok (.aload_n 0, 1)) ∧ (decode cX5_cut 1 = .ok (.getfield 10, 3))) ∧ ((decode cX5_cut 4 = .ok (.iload_n 1, 1)) ∧ (decode cX5_cut 5 = .ok (.invokevirtual 68, 3)))) ∧ (((decode cX5_cut 8 = .ok (.ifCond .eq 14, 3)) ∧ (decode cX5_cut 11 = .ok (.iload_n 2, 1))) ∧ ((decode cX5_cut 12 = .ok (.iconst 1, 1)) ∧ (decode cX5_cut 13 = .ok (.if_icmp .lt 9, 3))))) ∧ ((((decode cX5_cut 16 = .ok (.iload_n 2, 1)) ∧ (decode cX5_cut 17 = .ok (.bipush 12, 2))) ∧ ((decode cX5_cut 19 = .ok (.if_icmp .le 5, 3)) ∧ (decode cX5_cut 22 = .ok (.iconst (-1), 1)))) ∧ (((decode cX5_cut 23 = .ok (.ireturn, 1)) ∧ (decode cX5_cut 24 = .ok (.aload_n 0, 1))) ∧ ((decode cX5_cut 25 = .ok (.getfield 10, 3)) ∧ (decode cX5_cut 28 = .ok (.getfield 82, 3)))))) := by decide +kernel
theorem dX5_cut_0 : decode cX5_cut 0 = .ok (.aload_n 0, 1) := kX5_cut_0.1.1.1.1
theorem dX5_cut_1 : decode cX5_cut 1 = .ok (.getfield 10, 3) := kX5_cut_0.1.1.1.2
theorem dX5_cut_4 : decode cX5_cut 4 = .ok (.iload_n 1, 1) := kX5_cut_0.1.1.2.1
theorem dX5_cut_5 : decode cX5_cut 5 = .ok (.invokevirtual 68, 3) := kX5_cut_0.1.1.2.2
theorem dX5_cut_8 : decode cX5_cut 8 = .ok (.ifCond .eq 14, 3) := kX5_cut_0.1.2.1.1
theorem dX5_cut_11 : decode cX5_cut 11 = .ok (.iload_n 2, 1) := kX5_cut_0.1.2.1.2
theorem dX5_cut_12 : decode cX5_cut 12 = .ok (.iconst 1, 1) := kX5_cut_0.1.2.2.1
theorem dX5_cut_13 : decode cX5_cut 13 = .ok (.if_icmp .lt 9, 3) := kX5_cut_0.1.2.2.2
theorem dX5_cut_16 : decode cX5_cut 16 = .ok (.iload_n 2, 1) := kX5_cut_0.2.1.1.1
theorem dX5_cut_17 : decode cX5_cut 17 = .ok (.bipush 12, 2) := kX5_cut_0.2.1.1.2
theorem dX5_cut_19 : decode cX5_cut 19 = .ok (.if_icmp .le 5, 3) := kX5_cut_0.2.1.2.1
theorem dX5_cut_22 : decode cX5_cut 22 = .ok (.iconst (-1), 1) := kX5_cut_0.2.1.2.2
theorem dX5_cut_23 : decode cX5_cut 23 = .ok (.ireturn, 1) := kX5_cut_0.2.2.1.1
theorem dX5_cut_24 : decode cX5_cut 24 = .ok (.aload_n 0, 1) := kX5_cut_0.2.2.1.2
theorem dX5_cut_25 : decode cX5_cut 25 = .ok (.getfield 10, 3) := kX5_cut_0.2.2.2.1
theorem dX5_cut_28 : decode cX5_cut 28 = .ok (.getfield 82, 3) := kX5_cut_0.2.2.2.2
theorem kX5_cut_31 : (((((decode cX5_cut 31 = .ok (.iload_n 1, 1)) ∧ (decode cX5_cut 32 = .ok (.iaload, 1))) ∧ ((decode cX5_cut 33 = .ok (.istore_n 3, 1)) ∧ (decode cX5_cut 34 = .ok (.iload_n 2, 1)))) ∧ (((decode cX5_cut 35 = .ok (.iload_n 3, 1)) ∧ (decode cX5_cut 36 = .ok (.if_icmp .ne 6, 3))) ∧ ((decode cX5_cut 39 = .ok (.bipush (-2), 2)) ∧ (decode cX5_cut 41 = .ok (.ireturn, 1))))) ∧ ((((decode cX5_cut 42 = .ok (.aload_n 0, 1)) ∧ (decode cX5_cut 43 = .ok (.getfield 19, 3))) ∧ ((decode cX5_cut 46 = .ok (.aload_n 0, 1)) ∧ (decode cX5_cut 47 = .ok (.getfield 10, 3)))) ∧ (((decode cX5_cut 50 = .ok (.invokevirtual 139, 3)) ∧ (decode cX5_cut 53 = .ok (.aload_n 0, 1))) ∧ ((decode cX5_cut 54 = .ok (.getfield 10, 3)) ∧ (decode cX5_cut 57 = .ok (.getfield 82, 3)))))) := by decide +kernel
theorem dX5_cut_31 : decode cX5_cut 31 = .ok (.iload_n 1, 1) := kX5_cut_31.1.1.1.1
theorem dX5_cut_32 : decode cX5_cut 32 = .ok (.iaload, 1) := kX5_cut_31.1.1.1.2
theorem dX5_cut_33 : decode cX5_cut 33 = .ok (.istore_n 3, 1) := kX5_cut_31.1.1.2.1
theorem dX5_cut_34 : decode cX5_cut 34 = .ok (.iload_n 2, 1) := kX5_cut_31.1.1.2.2
theorem dX5_cut_35 : decode cX5_cut 35 = .ok (.iload_n 3, 1) := kX5_cut_31.1.2.1.1
theorem dX5_cut_36 : decode cX5_cut 36 = .ok (.if_icmp .ne 6, 3) := kX5_cut_31.1.2.1.2
theorem dX5_cut_39 : decode cX5_cut 39 = .ok (.bipush (-2), 2) := kX5_cut_31.1.2.2.1
theorem dX5_cut_41 : decode cX5_cut 41 = .ok (.ireturn, 1) := kX5_cut_31.1.2.2.2
theorem dX5_cut_42 : decode cX5_cut 42 = .ok (.aload_n 0, 1) := kX5_cut_31.2.1.1.1
theorem dX5_cut_43 : decode cX5_cut 43 = .ok (.getfield 19, 3) := kX5_cut_31.2.1.1.2
theorem dX5_cut_46 : decode cX5_cut 46 = .ok (.aload_n 0, 1) := kX5_cut_31.2.1.2.1
theorem dX5_cut_47 : decode cX5_cut 47 = .ok (.getfield 10, 3) := kX5_cut_31.2.1.2.2
theorem dX5_cut_50 : decode cX5_cut 50 = .ok (.invokevirtual 139, 3) := kX5_cut_31.2.2.1.1
theorem dX5_cut_53 : decode cX5_cut 53 = .ok (.aload_n 0, 1) := kX5_cut_31.2.2.1.2
theorem dX5_cut_54 : decode cX5_cut 54 = .ok (.getfield 10, 3) := kX5_cut_31.2.2.2.1
theorem dX5_cut_57 : decode cX5_cut 57 = .ok (.getfield 82, 3) := kX5_cut_31.2.2.2.2
theorem kX5_cut_60 : ((((decode cX5_cut 60 = .ok (.iload_n 1, 1)) ∧ (decode cX5_cut 61 = .ok (.iload_n 2, 1))) ∧ (decode cX5_cut 62 = .ok (.iastore, 1))) ∧ ((decode cX5_cut 63 = .ok (.iload_n 3, 1)) ∧ (decode cX5_cut 64 = .ok (.ireturn, 1)))) := by decide +kernel
theorem dX5_cut_60 : decode cX5_cut 60 = .ok (.iload_n 1, 1) := kX5_cut_60.1.1.1
theorem dX5_cut_61 : decode cX5_cut 61 = .ok (.iload_n 2, 1) := kX5_cut_60.1.1.2
theorem dX5_cut_62 : decode cX5_cut 62 = .ok (.iastore, 1) := kX5_cut_60.1.2
theorem dX5_cut_63 : decode cX5_cut 63 = .ok (.iload_n 3, 1) := kX5_cut_60.2.1
theorem dX5_cut_64 : decode cX5_cut 64 = .ok (.ireturn, 1) := kX5_cut_60.2.2
set_option maxRecDepth 20000 in
theorem ggX5_drift_X5_spend : GoodIn wsX5_drift wsX5_spend := goodIn_r _ [5, 6, 7, 8, 9, 10, 11, 12, 13, 14, 15, 16, 17, 18, 19, 20, 21, 22, 23, 24, 25, 26, 27, 28, 29, 30, 31, 32, 33, 34, 35, 36, 37, 38, 39, 40, 41, 42, 43, 44, 45, 46, 47, 48, 49, 50, 51, 52, 53, 54, 55, 56, 57, 58, 59, 60, 61, 62, 63, 64, 65, 66, 67, 68, 69, 70, 71, 72, 73, 74, 75, 76, 77, 78, 79, 80, 81, 82, 83, 84, 85, 86, 87, 88, 89, 90, 91, 92, 93, 94, 95, 96, 97, 98, 99, 100, 101, 102, 103, 104, 105, 106, 107, 108, 109, 110, 111, 112, 113] rfl (by decide +kernel)
set_option maxRecDepth 20000 in
theorem gX5_drift_X5_spend : GoodIn wsX5_drift (wsV RX5 135 RX5 yX5_spend wsX5_spend) := goodIn_app (goodIn_of _ (by decide +kernel)) ggX5_drift_X5_spend
theorem kX5_drift_0 : ((((decode cX5_drift 0 = .ok (.aload_n 0, 1)) ∧ (decode cX5_drift 1 = .ok (.iload_n 1, 1))) ∧ (decode cX5_drift 2 = .ok (.iconst 1, 1))) ∧ ((decode cX5_drift 3 = .ok (.invokevirtual 135, 3)) ∧ (decode cX5_drift 6 = .ok (.ireturn, 1)))) := by decide +kernel
theorem dX5_drift_0 : decode cX5_drift 0 = .ok (.aload_n 0, 1) := kX5_drift_0.1.1.1
theorem dX5_drift_1 : decode cX5_drift 1 = .ok (.iload_n 1, 1) := kX5_drift_0.1.1.2
theorem dX5_drift_2 : decode cX5_drift 2 = .ok (.iconst 1, 1) := kX5_drift_0.1.2
theorem dX5_drift_3 : decode cX5_drift 3 = .ok (.invokevirtual 135, 3) := kX5_drift_0.2.1
theorem dX5_drift_6 : decode cX5_drift 6 = .ok (.ireturn, 1) := kX5_drift_0.2.2
set_option maxRecDepth 20000 in
theorem ggX5_undo_X1_takeBack : GoodIn wsX5_undo wsX1_takeBack := goodIn_r _ [6, 7, 8, 9, 10, 11, 12, 13, 14, 15, 16, 17, 18, 19, 20, 21, 22, 23, 24, 34, 35, 36, 37, 38, 39, 40, 41, 42, 43] rfl (by decide +kernel)
set_option maxRecDepth 20000 in
theorem gX5_undo_X1_takeBack_n146 : GoodIn wsX5_undo (wsX1_takeBack) := ggX5_undo_X1_takeBack
theorem kX5_undo_0 : (((((decode cX5_undo 0 = .ok (.aload_n 0, 1)) ∧ (decode cX5_undo 1 = .ok (.getfield 19, 3))) ∧ ((decode cX5_undo 4 = .ok (.getfield 134, 3)) ∧ (decode cX5_undo 7 = .ok (.ifCond .ne 6, 3)))) ∧ (((decode cX5_undo 10 = .ok (.bipush (-4), 2)) ∧ (decode cX5_undo 12 = .ok (.ireturn, 1))) ∧ ((decode cX5_undo 13 = .ok (.aload_n 0, 1)) ∧ (decode cX5_undo 14 = .ok (.getfield 19, 3))))) ∧ ((((decode cX5_undo 17 = .ok (.aload_n 0, 1)) ∧ (decode cX5_undo 18 = .ok (.getfield 10, 3))) ∧ ((decode cX5_undo 21 = .ok (.invokevirtual 146, 3)) ∧ (decode cX5_undo 24 = .ok (.aload_n 0, 1)))) ∧ (((decode cX5_undo 25 = .ok (.getfield 19, 3)) ∧ (decode cX5_undo 28 = .ok (.getfield 134, 3))) ∧ (decode cX5_undo 31 = .ok (.ireturn, 1))))) := by decide +kernel
theorem dX5_undo_0 : decode cX5_undo 0 = .ok (.aload_n 0, 1) := kX5_undo_0.1.1.1.1
theorem dX5_undo_1 : decode cX5_undo 1 = .ok (.getfield 19, 3) := kX5_undo_0.1.1.1.2
theorem dX5_undo_4 : decode cX5_undo 4 = .ok (.getfield 134, 3) := kX5_undo_0.1.1.2.1
theorem dX5_undo_7 : decode cX5_undo 7 = .ok (.ifCond .ne 6, 3) := kX5_undo_0.1.1.2.2
theorem dX5_undo_10 : decode cX5_undo 10 = .ok (.bipush (-4), 2) := kX5_undo_0.1.2.1.1
theorem dX5_undo_12 : decode cX5_undo 12 = .ok (.ireturn, 1) := kX5_undo_0.1.2.1.2
theorem dX5_undo_13 : decode cX5_undo 13 = .ok (.aload_n 0, 1) := kX5_undo_0.1.2.2.1
theorem dX5_undo_14 : decode cX5_undo 14 = .ok (.getfield 19, 3) := kX5_undo_0.1.2.2.2
theorem dX5_undo_17 : decode cX5_undo 17 = .ok (.aload_n 0, 1) := kX5_undo_0.2.1.1.1
theorem dX5_undo_18 : decode cX5_undo 18 = .ok (.getfield 10, 3) := kX5_undo_0.2.1.1.2
theorem dX5_undo_21 : decode cX5_undo 21 = .ok (.invokevirtual 146, 3) := kX5_undo_0.2.1.2.1
theorem dX5_undo_24 : decode cX5_undo 24 = .ok (.aload_n 0, 1) := kX5_undo_0.2.1.2.2
theorem dX5_undo_25 : decode cX5_undo 25 = .ok (.getfield 19, 3) := kX5_undo_0.2.2.1.1
theorem dX5_undo_28 : decode cX5_undo 28 = .ok (.getfield 134, 3) := kX5_undo_0.2.2.1.2
theorem dX5_undo_31 : decode cX5_undo 31 = .ok (.ireturn, 1) := kX5_undo_0.2.2.2
theorem kX5_seed_0 : (((((decode cX5_seed 0 = .ok (.iload_n 1, 1)) ∧ (decode cX5_seed 1 = .ok (.ifCond .ge 5, 3))) ∧ ((decode cX5_seed 4 = .ok (.iconst (-1), 1)) ∧ (decode cX5_seed 5 = .ok (.ireturn, 1)))) ∧ (((decode cX5_seed 6 = .ok (.aload_n 0, 1)) ∧ (decode cX5_seed 7 = .ok (.getfield 10, 3))) ∧ (decode cX5_seed 10 = .ok (.getfield 112, 3)))) ∧ ((((decode cX5_seed 13 = .ok (.istore_n 2, 1)) ∧ (decode cX5_seed 14 = .ok (.aload_n 0, 1))) ∧ ((decode cX5_seed 15 = .ok (.getfield 10, 3)) ∧ (decode cX5_seed 18 = .ok (.iload_n 1, 1)))) ∧ (((decode cX5_seed 19 = .ok (.putfield 112, 3)) ∧ (decode cX5_seed 22 = .ok (.iload_n 2, 1))) ∧ (decode cX5_seed 23 = .ok (.ireturn, 1))))) := by decide +kernel
theorem dX5_seed_0 : decode cX5_seed 0 = .ok (.iload_n 1, 1) := kX5_seed_0.1.1.1.1
theorem dX5_seed_1 : decode cX5_seed 1 = .ok (.ifCond .ge 5, 3) := kX5_seed_0.1.1.1.2
theorem dX5_seed_4 : decode cX5_seed 4 = .ok (.iconst (-1), 1) := kX5_seed_0.1.1.2.1
theorem dX5_seed_5 : decode cX5_seed 5 = .ok (.ireturn, 1) := kX5_seed_0.1.1.2.2
theorem dX5_seed_6 : decode cX5_seed 6 = .ok (.aload_n 0, 1) := kX5_seed_0.1.2.1.1
theorem dX5_seed_7 : decode cX5_seed 7 = .ok (.getfield 10, 3) := kX5_seed_0.1.2.1.2
theorem dX5_seed_10 : decode cX5_seed 10 = .ok (.getfield 112, 3) := kX5_seed_0.1.2.2
theorem dX5_seed_13 : decode cX5_seed 13 = .ok (.istore_n 2, 1) := kX5_seed_0.2.1.1.1
theorem dX5_seed_14 : decode cX5_seed 14 = .ok (.aload_n 0, 1) := kX5_seed_0.2.1.1.2
theorem dX5_seed_15 : decode cX5_seed 15 = .ok (.getfield 10, 3) := kX5_seed_0.2.1.2.1
theorem dX5_seed_18 : decode cX5_seed 18 = .ok (.iload_n 1, 1) := kX5_seed_0.2.1.2.2
theorem dX5_seed_19 : decode cX5_seed 19 = .ok (.putfield 112, 3) := kX5_seed_0.2.2.1.1
theorem dX5_seed_22 : decode cX5_seed 22 = .ok (.iload_n 2, 1) := kX5_seed_0.2.2.1.2
theorem dX5_seed_23 : decode cX5_seed 23 = .ok (.ireturn, 1) := kX5_seed_0.2.2.2
set_option maxRecDepth 20000 in
theorem ggX5_spend_X1_keep : GoodIn wsX5_spend wsX1_keep := goodIn_r _ [6, 7, 8, 9, 10, 11, 12, 13, 14, 15, 16, 17, 18, 19, 20, 21, 22, 23, 24, 106, 107, 108, 99, 100, 101, 102, 103, 104, 105] rfl (by decide +kernel)
set_option maxRecDepth 20000 in
theorem gX5_spend_X1_keep_n139 : GoodIn wsX5_spend (wsX1_keep) := ggX5_spend_X1_keep
set_option maxRecDepth 20000 in
theorem ggX5_spend_X2_lendByDraw : GoodIn wsX5_spend wsX2_lendByDraw := goodIn_r _ [27, 20, 28, 29, 18, 30, 31, 32, 33, 15, 34, 22, 35, 11, 12, 13, 99, 100, 101, 102, 103, 104, 105] rfl (by decide +kernel)
set_option maxRecDepth 20000 in
theorem gX5_spend_X2_lendByDraw_n149 : GoodIn wsX5_spend (wsX2_lendByDraw) := ggX5_spend_X2_lendByDraw
set_option maxRecDepth 20000 in
theorem ggX5_spend_X2_passHour : GoodIn wsX5_spend wsX2_passHour := goodIn_r _ [38, 39, 40, 41, 15, 42, 19, 43, 44, 45, 46, 18, 23, 47, 48, 49, 50, 22, 51, 52, 53, 54, 55, 56, 57, 58, 24, 31, 32, 33, 34, 35, 11, 12, 13, 59, 60, 61, 62, 63, 64, 65, 66, 67, 68, 69, 70, 71, 72, 73, 21, 74, 75, 76, 77, 78, 79, 80, 81, 82, 83, 84, 85, 86, 87, 88, 89, 99, 100, 101, 102, 103, 104, 105] rfl (by decide +kernel)
set_option maxRecDepth 20000 in
theorem gX5_spend_X2_passHour_n152 : GoodIn wsX5_spend (wsX2_passHour) := ggX5_spend_X2_passHour
set_option maxRecDepth 20000 in
theorem ggX5_spend_X2_stopped : GoodIn wsX5_spend wsX2_stopped := goodIn_r _ [69, 18, 47, 48, 49, 15, 50, 22, 99, 100, 101, 102, 103, 104, 105] rfl (by decide +kernel)
set_option maxRecDepth 20000 in
theorem gX5_spend_X2_stopped_n85 : GoodIn wsX5_spend (wsX2_stopped) := ggX5_spend_X2_stopped
theorem kX5_spend_0 : (((((decode cX5_spend 0 = .ok (.iload_n 1, 1)) ∧ (decode cX5_spend 1 = .ok (.iconst 1, 1))) ∧ ((decode cX5_spend 2 = .ok (.if_icmp .lt 9, 3)) ∧ (decode cX5_spend 5 = .ok (.iload_n 1, 1)))) ∧ (((decode cX5_spend 6 = .ok (.bipush 48, 2)) ∧ (decode cX5_spend 8 = .ok (.if_icmp .le 5, 3))) ∧ ((decode cX5_spend 11 = .ok (.iconst (-1), 1)) ∧ (decode cX5_spend 12 = .ok (.ireturn, 1))))) ∧ ((((decode cX5_spend 13 = .ok (.aload_n 0, 1)) ∧ (decode cX5_spend 14 = .ok (.getfield 10, 3))) ∧ ((decode cX5_spend 17 = .ok (.getfield 119, 3)) ∧ (decode cX5_spend 20 = .ok (.iload_n 1, 1)))) ∧ (((decode cX5_spend 21 = .ok (.iadd, 1)) ∧ (decode cX5_spend 22 = .ok (.sipush 9999, 3))) ∧ ((decode cX5_spend 25 = .ok (.if_icmp .le 6, 3)) ∧ (decode cX5_spend 28 = .ok (.bipush (-3), 2)))))) := by decide +kernel
theorem dX5_spend_0 : decode cX5_spend 0 = .ok (.iload_n 1, 1) := kX5_spend_0.1.1.1.1
theorem dX5_spend_1 : decode cX5_spend 1 = .ok (.iconst 1, 1) := kX5_spend_0.1.1.1.2
theorem dX5_spend_2 : decode cX5_spend 2 = .ok (.if_icmp .lt 9, 3) := kX5_spend_0.1.1.2.1
theorem dX5_spend_5 : decode cX5_spend 5 = .ok (.iload_n 1, 1) := kX5_spend_0.1.1.2.2
theorem dX5_spend_6 : decode cX5_spend 6 = .ok (.bipush 48, 2) := kX5_spend_0.1.2.1.1
theorem dX5_spend_8 : decode cX5_spend 8 = .ok (.if_icmp .le 5, 3) := kX5_spend_0.1.2.1.2
theorem dX5_spend_11 : decode cX5_spend 11 = .ok (.iconst (-1), 1) := kX5_spend_0.1.2.2.1
theorem dX5_spend_12 : decode cX5_spend 12 = .ok (.ireturn, 1) := kX5_spend_0.1.2.2.2
theorem dX5_spend_13 : decode cX5_spend 13 = .ok (.aload_n 0, 1) := kX5_spend_0.2.1.1.1
theorem dX5_spend_14 : decode cX5_spend 14 = .ok (.getfield 10, 3) := kX5_spend_0.2.1.1.2
theorem dX5_spend_17 : decode cX5_spend 17 = .ok (.getfield 119, 3) := kX5_spend_0.2.1.2.1
theorem dX5_spend_20 : decode cX5_spend 20 = .ok (.iload_n 1, 1) := kX5_spend_0.2.1.2.2
theorem dX5_spend_21 : decode cX5_spend 21 = .ok (.iadd, 1) := kX5_spend_0.2.2.1.1
theorem dX5_spend_22 : decode cX5_spend 22 = .ok (.sipush 9999, 3) := kX5_spend_0.2.2.1.2
theorem dX5_spend_25 : decode cX5_spend 25 = .ok (.if_icmp .le 6, 3) := kX5_spend_0.2.2.2.1
theorem dX5_spend_28 : decode cX5_spend 28 = .ok (.bipush (-3), 2) := kX5_spend_0.2.2.2.2
theorem kX5_spend_30 : (((((decode cX5_spend 30 = .ok (.ireturn, 1)) ∧ (decode cX5_spend 31 = .ok (.iconst 0, 1))) ∧ ((decode cX5_spend 32 = .ok (.istore_n 3, 1)) ∧ (decode cX5_spend 33 = .ok (.iload_n 3, 1)))) ∧ (((decode cX5_spend 34 = .ok (.iload_n 1, 1)) ∧ (decode cX5_spend 35 = .ok (.if_icmp .ge 38, 3))) ∧ ((decode cX5_spend 38 = .ok (.aload_n 0, 1)) ∧ (decode cX5_spend 39 = .ok (.getfield 19, 3))))) ∧ ((((decode cX5_spend 42 = .ok (.aload_n 0, 1)) ∧ (decode cX5_spend 43 = .ok (.getfield 10, 3))) ∧ ((decode cX5_spend 46 = .ok (.invokevirtual 139, 3)) ∧ (decode cX5_spend 49 = .ok (.iload_n 2, 1)))) ∧ (((decode cX5_spend 50 = .ok (.ifCond .eq 10, 3)) ∧ (decode cX5_spend 53 = .ok (.aload_n 0, 1))) ∧ ((decode cX5_spend 54 = .ok (.getfield 10, 3)) ∧ (decode cX5_spend 57 = .ok (.invokevirtual 149, 3)))))) := by decide +kernel
theorem dX5_spend_30 : decode cX5_spend 30 = .ok (.ireturn, 1) := kX5_spend_30.1.1.1.1
theorem dX5_spend_31 : decode cX5_spend 31 = .ok (.iconst 0, 1) := kX5_spend_30.1.1.1.2
theorem dX5_spend_32 : decode cX5_spend 32 = .ok (.istore_n 3, 1) := kX5_spend_30.1.1.2.1
theorem dX5_spend_33 : decode cX5_spend 33 = .ok (.iload_n 3, 1) := kX5_spend_30.1.1.2.2
theorem dX5_spend_34 : decode cX5_spend 34 = .ok (.iload_n 1, 1) := kX5_spend_30.1.2.1.1
theorem dX5_spend_35 : decode cX5_spend 35 = .ok (.if_icmp .ge 38, 3) := kX5_spend_30.1.2.1.2
theorem dX5_spend_38 : decode cX5_spend 38 = .ok (.aload_n 0, 1) := kX5_spend_30.1.2.2.1
theorem dX5_spend_39 : decode cX5_spend 39 = .ok (.getfield 19, 3) := kX5_spend_30.1.2.2.2
theorem dX5_spend_42 : decode cX5_spend 42 = .ok (.aload_n 0, 1) := kX5_spend_30.2.1.1.1
theorem dX5_spend_43 : decode cX5_spend 43 = .ok (.getfield 10, 3) := kX5_spend_30.2.1.1.2
theorem dX5_spend_46 : decode cX5_spend 46 = .ok (.invokevirtual 139, 3) := kX5_spend_30.2.1.2.1
theorem dX5_spend_49 : decode cX5_spend 49 = .ok (.iload_n 2, 1) := kX5_spend_30.2.1.2.2
theorem dX5_spend_50 : decode cX5_spend 50 = .ok (.ifCond .eq 10, 3) := kX5_spend_30.2.2.1.1
theorem dX5_spend_53 : decode cX5_spend 53 = .ok (.aload_n 0, 1) := kX5_spend_30.2.2.1.2
theorem dX5_spend_54 : decode cX5_spend 54 = .ok (.getfield 10, 3) := kX5_spend_30.2.2.2.1
theorem dX5_spend_57 : decode cX5_spend 57 = .ok (.invokevirtual 149, 3) := kX5_spend_30.2.2.2.2
theorem kX5_spend_60 : (((((decode cX5_spend 60 = .ok (.aload_n 0, 1)) ∧ (decode cX5_spend 61 = .ok (.getfield 10, 3))) ∧ (decode cX5_spend 64 = .ok (.invokevirtual 152, 3))) ∧ ((decode cX5_spend 67 = .ok (.iinc 3 1, 3)) ∧ (decode cX5_spend 70 = .ok (.goto (-37), 3)))) ∧ (((decode cX5_spend 73 = .ok (.aload_n 0, 1)) ∧ (decode cX5_spend 74 = .ok (.getfield 10, 3))) ∧ ((decode cX5_spend 77 = .ok (.invokevirtual 85, 3)) ∧ (decode cX5_spend 80 = .ok (.ireturn, 1))))) := by decide +kernel
theorem dX5_spend_60 : decode cX5_spend 60 = .ok (.aload_n 0, 1) := kX5_spend_60.1.1.1.1
theorem dX5_spend_61 : decode cX5_spend 61 = .ok (.getfield 10, 3) := kX5_spend_60.1.1.1.2
theorem dX5_spend_64 : decode cX5_spend 64 = .ok (.invokevirtual 152, 3) := kX5_spend_60.1.1.2
theorem dX5_spend_67 : decode cX5_spend 67 = .ok (.iinc 3 1, 3) := kX5_spend_60.1.2.1
theorem dX5_spend_70 : decode cX5_spend 70 = .ok (.goto (-37), 3) := kX5_spend_60.1.2.2
theorem dX5_spend_73 : decode cX5_spend 73 = .ok (.aload_n 0, 1) := kX5_spend_60.2.1.1
theorem dX5_spend_74 : decode cX5_spend 74 = .ok (.getfield 10, 3) := kX5_spend_60.2.1.2
theorem dX5_spend_77 : decode cX5_spend 77 = .ok (.invokevirtual 85, 3) := kX5_spend_60.2.2.1
theorem dX5_spend_80 : decode cX5_spend 80 = .ok (.ireturn, 1) := kX5_spend_60.2.2.2
set_option maxRecDepth 20000 in
theorem ggX5_ahead_X2_has : GoodIn wsX5_ahead wsX2_has := goodIn_r _ [6, 7, 89, 90, 91, 92, 93, 94, 95] rfl (by decide +kernel)
set_option maxRecDepth 20000 in
theorem gX5_ahead_X2_has_n68 : GoodIn wsX5_ahead (wsX2_has) := ggX5_ahead_X2_has
set_option maxRecDepth 20000 in
theorem ggX5_ahead_X2_become : GoodIn wsX5_ahead wsX2_become := goodIn_r _ [10, 7, 11, 12, 13, 14, 15, 16, 89, 90, 91, 92, 93, 94, 95] rfl (by decide +kernel)
set_option maxRecDepth 20000 in
theorem gX5_ahead_X2_become_n115 : GoodIn wsX5_ahead (wsX2_become) := ggX5_ahead_X2_become
set_option maxRecDepth 20000 in
theorem ggX5_ahead_X2_passHours : GoodIn wsX5_ahead wsX2_passHours := goodIn_r _ [19, 20, 21, 22, 4, 23, 24, 25, 26, 27, 11, 28, 29, 30, 31, 7, 15, 32, 33, 34, 35, 14, 36, 3, 5, 6, 37, 38, 39, 40, 16, 41, 42, 43, 44, 45, 46, 47, 48, 49, 50, 51, 52, 53, 54, 55, 56, 57, 58, 59, 60, 61, 62, 63, 13, 64, 65, 66, 67, 68, 69, 70, 71, 72, 73, 74, 75, 76, 77, 78, 79, 89, 90, 91, 92, 93, 94, 95] rfl (by decide +kernel)
set_option maxRecDepth 20000 in
theorem gX5_ahead_X2_passHours_n155 : GoodIn wsX5_ahead (wsX2_passHours) := ggX5_ahead_X2_passHours
theorem kX5_ahead_0 : (((((decode cX5_ahead 0 = .ok (.aload_n 0, 1)) ∧ (decode cX5_ahead 1 = .ok (.getfield 10, 3))) ∧ ((decode cX5_ahead 4 = .ok (.iload_n 1, 1)) ∧ (decode cX5_ahead 5 = .ok (.invokevirtual 68, 3)))) ∧ (((decode cX5_ahead 8 = .ok (.ifCond .eq 13, 3)) ∧ (decode cX5_ahead 11 = .ok (.iload_n 2, 1))) ∧ ((decode cX5_ahead 12 = .ok (.ifCond .lt 9, 3)) ∧ (decode cX5_ahead 15 = .ok (.iload_n 2, 1))))) ∧ ((((decode cX5_ahead 16 = .ok (.bipush 80, 2)) ∧ (decode cX5_ahead 18 = .ok (.if_icmp .le 5, 3))) ∧ ((decode cX5_ahead 21 = .ok (.iconst (-1), 1)) ∧ (decode cX5_ahead 22 = .ok (.ireturn, 1)))) ∧ (((decode cX5_ahead 23 = .ok (.aload_n 0, 1)) ∧ (decode cX5_ahead 24 = .ok (.getfield 33, 3))) ∧ ((decode cX5_ahead 27 = .ok (.aload_n 0, 1)) ∧ (decode cX5_ahead 28 = .ok (.getfield 10, 3)))))) := by decide +kernel
theorem dX5_ahead_0 : decode cX5_ahead 0 = .ok (.aload_n 0, 1) := kX5_ahead_0.1.1.1.1
theorem dX5_ahead_1 : decode cX5_ahead 1 = .ok (.getfield 10, 3) := kX5_ahead_0.1.1.1.2
theorem dX5_ahead_4 : decode cX5_ahead 4 = .ok (.iload_n 1, 1) := kX5_ahead_0.1.1.2.1
theorem dX5_ahead_5 : decode cX5_ahead 5 = .ok (.invokevirtual 68, 3) := kX5_ahead_0.1.1.2.2
theorem dX5_ahead_8 : decode cX5_ahead 8 = .ok (.ifCond .eq 13, 3) := kX5_ahead_0.1.2.1.1
theorem dX5_ahead_11 : decode cX5_ahead 11 = .ok (.iload_n 2, 1) := kX5_ahead_0.1.2.1.2
theorem dX5_ahead_12 : decode cX5_ahead 12 = .ok (.ifCond .lt 9, 3) := kX5_ahead_0.1.2.2.1
theorem dX5_ahead_15 : decode cX5_ahead 15 = .ok (.iload_n 2, 1) := kX5_ahead_0.1.2.2.2
theorem dX5_ahead_16 : decode cX5_ahead 16 = .ok (.bipush 80, 2) := kX5_ahead_0.2.1.1.1
theorem dX5_ahead_18 : decode cX5_ahead 18 = .ok (.if_icmp .le 5, 3) := kX5_ahead_0.2.1.1.2
theorem dX5_ahead_21 : decode cX5_ahead 21 = .ok (.iconst (-1), 1) := kX5_ahead_0.2.1.2.1
theorem dX5_ahead_22 : decode cX5_ahead 22 = .ok (.ireturn, 1) := kX5_ahead_0.2.1.2.2
theorem dX5_ahead_23 : decode cX5_ahead 23 = .ok (.aload_n 0, 1) := kX5_ahead_0.2.2.1.1
theorem dX5_ahead_24 : decode cX5_ahead 24 = .ok (.getfield 33, 3) := kX5_ahead_0.2.2.1.2
theorem dX5_ahead_27 : decode cX5_ahead 27 = .ok (.aload_n 0, 1) := kX5_ahead_0.2.2.2.1
theorem dX5_ahead_28 : decode cX5_ahead 28 = .ok (.getfield 10, 3) := kX5_ahead_0.2.2.2.2
theorem kX5_ahead_31 : (((((decode cX5_ahead 31 = .ok (.invokevirtual 115, 3)) ∧ (decode cX5_ahead 34 = .ok (.aload_n 0, 1))) ∧ (decode cX5_ahead 35 = .ok (.getfield 33, 3))) ∧ (((decode cX5_ahead 38 = .ok (.iload_n 2, 1)) ∧ (decode cX5_ahead 39 = .ok (.invokevirtual 155, 3))) ∧ (decode cX5_ahead 42 = .ok (.aload_n 0, 1)))) ∧ ((((decode cX5_ahead 43 = .ok (.getfield 33, 3)) ∧ (decode cX5_ahead 46 = .ok (.getfield 76, 3))) ∧ (decode cX5_ahead 49 = .ok (.iload_n 1, 1))) ∧ ((decode cX5_ahead 50 = .ok (.iaload, 1)) ∧ (decode cX5_ahead 51 = .ok (.ireturn, 1))))) := by decide +kernel
theorem dX5_ahead_31 : decode cX5_ahead 31 = .ok (.invokevirtual 115, 3) := kX5_ahead_31.1.1.1.1
theorem dX5_ahead_34 : decode cX5_ahead 34 = .ok (.aload_n 0, 1) := kX5_ahead_31.1.1.1.2
theorem dX5_ahead_35 : decode cX5_ahead 35 = .ok (.getfield 33, 3) := kX5_ahead_31.1.1.2
theorem dX5_ahead_38 : decode cX5_ahead 38 = .ok (.iload_n 2, 1) := kX5_ahead_31.1.2.1.1
theorem dX5_ahead_39 : decode cX5_ahead 39 = .ok (.invokevirtual 155, 3) := kX5_ahead_31.1.2.1.2
theorem dX5_ahead_42 : decode cX5_ahead 42 = .ok (.aload_n 0, 1) := kX5_ahead_31.1.2.2
theorem dX5_ahead_43 : decode cX5_ahead 43 = .ok (.getfield 33, 3) := kX5_ahead_31.2.1.1.1
theorem dX5_ahead_46 : decode cX5_ahead 46 = .ok (.getfield 76, 3) := kX5_ahead_31.2.1.1.2
theorem dX5_ahead_49 : decode cX5_ahead 49 = .ok (.iload_n 1, 1) := kX5_ahead_31.2.1.2
theorem dX5_ahead_50 : decode cX5_ahead 50 = .ok (.iaload, 1) := kX5_ahead_31.2.2.1
theorem dX5_ahead_51 : decode cX5_ahead 51 = .ok (.ireturn, 1) := kX5_ahead_31.2.2.2
set_option maxRecDepth 20000 in
theorem ggX5_then_X2_become : GoodIn wsX5_then wsX2_become := goodIn_r _ [6, 7, 8, 9, 10, 11, 12, 13, 89, 90, 91, 92, 93, 94, 95] rfl (by decide +kernel)
set_option maxRecDepth 20000 in
theorem gX5_then_X2_become_n115 : GoodIn wsX5_then (wsX2_become) := ggX5_then_X2_become
set_option maxRecDepth 20000 in
theorem ggX5_then_X2_passHours : GoodIn wsX5_then wsX2_passHours := goodIn_r _ [16, 17, 18, 19, 4, 20, 21, 22, 23, 24, 8, 25, 26, 27, 28, 7, 12, 29, 30, 31, 32, 11, 33, 34, 35, 36, 37, 38, 39, 40, 13, 41, 42, 43, 44, 45, 46, 47, 48, 49, 50, 51, 52, 53, 54, 55, 56, 57, 58, 59, 60, 61, 62, 63, 10, 64, 65, 66, 67, 68, 69, 70, 71, 72, 73, 74, 75, 76, 77, 78, 79, 89, 90, 91, 92, 93, 94, 95] rfl (by decide +kernel)
set_option maxRecDepth 20000 in
theorem gX5_then_X2_passHours_n155 : GoodIn wsX5_then (wsX2_passHours) := ggX5_then_X2_passHours
set_option maxRecDepth 20000 in
theorem ggX5_then_X2_stopped : GoodIn wsX5_then wsX2_stopped := goodIn_r _ [59, 7, 29, 30, 31, 4, 32, 11, 89, 90, 91, 92, 93, 94, 95] rfl (by decide +kernel)
set_option maxRecDepth 20000 in
theorem gX5_then_X2_stopped_n85 : GoodIn wsX5_then (wsX2_stopped) := ggX5_then_X2_stopped
theorem kX5_then_0 : (((((decode cX5_then 0 = .ok (.iload_n 1, 1)) ∧ (decode cX5_then 1 = .ok (.ifCond .lt 9, 3))) ∧ ((decode cX5_then 4 = .ok (.iload_n 1, 1)) ∧ (decode cX5_then 5 = .ok (.bipush 80, 2)))) ∧ (((decode cX5_then 7 = .ok (.if_icmp .le 5, 3)) ∧ (decode cX5_then 10 = .ok (.iconst (-1), 1))) ∧ ((decode cX5_then 11 = .ok (.ireturn, 1)) ∧ (decode cX5_then 12 = .ok (.aload_n 0, 1))))) ∧ ((((decode cX5_then 13 = .ok (.getfield 33, 3)) ∧ (decode cX5_then 16 = .ok (.aload_n 0, 1))) ∧ ((decode cX5_then 17 = .ok (.getfield 10, 3)) ∧ (decode cX5_then 20 = .ok (.invokevirtual 115, 3)))) ∧ (((decode cX5_then 23 = .ok (.aload_n 0, 1)) ∧ (decode cX5_then 24 = .ok (.getfield 33, 3))) ∧ ((decode cX5_then 27 = .ok (.iload_n 1, 1)) ∧ (decode cX5_then 28 = .ok (.invokevirtual 155, 3)))))) := by decide +kernel
theorem dX5_then_0 : decode cX5_then 0 = .ok (.iload_n 1, 1) := kX5_then_0.1.1.1.1
theorem dX5_then_1 : decode cX5_then 1 = .ok (.ifCond .lt 9, 3) := kX5_then_0.1.1.1.2
theorem dX5_then_4 : decode cX5_then 4 = .ok (.iload_n 1, 1) := kX5_then_0.1.1.2.1
theorem dX5_then_5 : decode cX5_then 5 = .ok (.bipush 80, 2) := kX5_then_0.1.1.2.2
theorem dX5_then_7 : decode cX5_then 7 = .ok (.if_icmp .le 5, 3) := kX5_then_0.1.2.1.1
theorem dX5_then_10 : decode cX5_then 10 = .ok (.iconst (-1), 1) := kX5_then_0.1.2.1.2
theorem dX5_then_11 : decode cX5_then 11 = .ok (.ireturn, 1) := kX5_then_0.1.2.2.1
theorem dX5_then_12 : decode cX5_then 12 = .ok (.aload_n 0, 1) := kX5_then_0.1.2.2.2
theorem dX5_then_13 : decode cX5_then 13 = .ok (.getfield 33, 3) := kX5_then_0.2.1.1.1
theorem dX5_then_16 : decode cX5_then 16 = .ok (.aload_n 0, 1) := kX5_then_0.2.1.1.2
theorem dX5_then_17 : decode cX5_then 17 = .ok (.getfield 10, 3) := kX5_then_0.2.1.2.1
theorem dX5_then_20 : decode cX5_then 20 = .ok (.invokevirtual 115, 3) := kX5_then_0.2.1.2.2
theorem dX5_then_23 : decode cX5_then 23 = .ok (.aload_n 0, 1) := kX5_then_0.2.2.1.1
theorem dX5_then_24 : decode cX5_then 24 = .ok (.getfield 33, 3) := kX5_then_0.2.2.1.2
theorem dX5_then_27 : decode cX5_then 27 = .ok (.iload_n 1, 1) := kX5_then_0.2.2.2.1
theorem dX5_then_28 : decode cX5_then 28 = .ok (.invokevirtual 155, 3) := kX5_then_0.2.2.2.2
theorem kX5_then_31 : (((decode cX5_then 31 = .ok (.aload_n 0, 1)) ∧ (decode cX5_then 32 = .ok (.getfield 33, 3))) ∧ ((decode cX5_then 35 = .ok (.invokevirtual 85, 3)) ∧ (decode cX5_then 38 = .ok (.ireturn, 1)))) := by decide +kernel
theorem dX5_then_31 : decode cX5_then 31 = .ok (.aload_n 0, 1) := kX5_then_31.1.1
theorem dX5_then_32 : decode cX5_then 32 = .ok (.getfield 33, 3) := kX5_then_31.1.2
theorem dX5_then_35 : decode cX5_then 35 = .ok (.invokevirtual 85, 3) := kX5_then_31.2.1
theorem dX5_then_38 : decode cX5_then 38 = .ok (.ireturn, 1) := kX5_then_31.2.2
set_option maxRecDepth 20000 in
theorem ggX5_stops_X2_has : GoodIn wsX5_stops wsX2_has := goodIn_r _ [6, 7, 89, 90, 91, 92, 93, 94, 95] rfl (by decide +kernel)
set_option maxRecDepth 20000 in
theorem gX5_stops_X2_has_n68 : GoodIn wsX5_stops (wsX2_has) := ggX5_stops_X2_has
set_option maxRecDepth 20000 in
theorem ggX5_stops_X2_become : GoodIn wsX5_stops wsX2_become := goodIn_r _ [10, 7, 11, 12, 13, 14, 15, 16, 89, 90, 91, 92, 93, 94, 95] rfl (by decide +kernel)
set_option maxRecDepth 20000 in
theorem gX5_stops_X2_become_n115 : GoodIn wsX5_stops (wsX2_become) := ggX5_stops_X2_become
set_option maxRecDepth 20000 in
theorem ggX5_stops_X2_passUntilStopped : GoodIn wsX5_stops wsX2_passUntilStopped := goodIn_r _ [19, 20, 21, 22, 4, 23, 7, 24, 25, 26, 27, 14, 28, 29, 30, 31, 32, 33, 34, 35, 11, 36, 37, 38, 39, 15, 40, 3, 5, 6, 41, 42, 43, 44, 16, 45, 46, 47, 48, 49, 50, 51, 52, 53, 54, 55, 56, 57, 58, 59, 60, 61, 62, 63, 13, 64, 65, 66, 67, 68, 69, 70, 71, 72, 73, 74, 75, 76, 77, 78, 79, 89, 90, 91, 92, 93, 94, 95] rfl (by decide +kernel)
set_option maxRecDepth 20000 in
theorem gX5_stops_X2_passUntilStopped_n159 : GoodIn wsX5_stops (wsX2_passUntilStopped) := ggX5_stops_X2_passUntilStopped
theorem kX5_stops_0 : (((((decode cX5_stops 0 = .ok (.aload_n 0, 1)) ∧ (decode cX5_stops 1 = .ok (.getfield 10, 3))) ∧ ((decode cX5_stops 4 = .ok (.iload_n 1, 1)) ∧ (decode cX5_stops 5 = .ok (.invokevirtual 68, 3)))) ∧ (((decode cX5_stops 8 = .ok (.ifCond .ne 5, 3)) ∧ (decode cX5_stops 11 = .ok (.iconst (-1), 1))) ∧ ((decode cX5_stops 12 = .ok (.ireturn, 1)) ∧ (decode cX5_stops 13 = .ok (.aload_n 0, 1))))) ∧ ((((decode cX5_stops 14 = .ok (.getfield 33, 3)) ∧ (decode cX5_stops 17 = .ok (.aload_n 0, 1))) ∧ ((decode cX5_stops 18 = .ok (.getfield 10, 3)) ∧ (decode cX5_stops 21 = .ok (.invokevirtual 115, 3)))) ∧ (((decode cX5_stops 24 = .ok (.aload_n 0, 1)) ∧ (decode cX5_stops 25 = .ok (.getfield 33, 3))) ∧ ((decode cX5_stops 28 = .ok (.iconst 1, 1)) ∧ (decode cX5_stops 29 = .ok (.iload_n 1, 1)))))) := by decide +kernel
theorem dX5_stops_0 : decode cX5_stops 0 = .ok (.aload_n 0, 1) := kX5_stops_0.1.1.1.1
theorem dX5_stops_1 : decode cX5_stops 1 = .ok (.getfield 10, 3) := kX5_stops_0.1.1.1.2
theorem dX5_stops_4 : decode cX5_stops 4 = .ok (.iload_n 1, 1) := kX5_stops_0.1.1.2.1
theorem dX5_stops_5 : decode cX5_stops 5 = .ok (.invokevirtual 68, 3) := kX5_stops_0.1.1.2.2
theorem dX5_stops_8 : decode cX5_stops 8 = .ok (.ifCond .ne 5, 3) := kX5_stops_0.1.2.1.1
theorem dX5_stops_11 : decode cX5_stops 11 = .ok (.iconst (-1), 1) := kX5_stops_0.1.2.1.2
theorem dX5_stops_12 : decode cX5_stops 12 = .ok (.ireturn, 1) := kX5_stops_0.1.2.2.1
theorem dX5_stops_13 : decode cX5_stops 13 = .ok (.aload_n 0, 1) := kX5_stops_0.1.2.2.2
theorem dX5_stops_14 : decode cX5_stops 14 = .ok (.getfield 33, 3) := kX5_stops_0.2.1.1.1
theorem dX5_stops_17 : decode cX5_stops 17 = .ok (.aload_n 0, 1) := kX5_stops_0.2.1.1.2
theorem dX5_stops_18 : decode cX5_stops 18 = .ok (.getfield 10, 3) := kX5_stops_0.2.1.2.1
theorem dX5_stops_21 : decode cX5_stops 21 = .ok (.invokevirtual 115, 3) := kX5_stops_0.2.1.2.2
theorem dX5_stops_24 : decode cX5_stops 24 = .ok (.aload_n 0, 1) := kX5_stops_0.2.2.1.1
theorem dX5_stops_25 : decode cX5_stops 25 = .ok (.getfield 33, 3) := kX5_stops_0.2.2.1.2
theorem dX5_stops_28 : decode cX5_stops 28 = .ok (.iconst 1, 1) := kX5_stops_0.2.2.2.1
theorem dX5_stops_29 : decode cX5_stops 29 = .ok (.iload_n 1, 1) := kX5_stops_0.2.2.2.2
theorem kX5_stops_30 : (((decode cX5_stops 30 = .ok (.ishl, 1)) ∧ (decode cX5_stops 31 = .ok (.bipush 80, 2))) ∧ ((decode cX5_stops 33 = .ok (.invokevirtual 159, 3)) ∧ (decode cX5_stops 36 = .ok (.ireturn, 1)))) := by decide +kernel
theorem dX5_stops_30 : decode cX5_stops 30 = .ok (.ishl, 1) := kX5_stops_30.1.1
theorem dX5_stops_31 : decode cX5_stops 31 = .ok (.bipush 80, 2) := kX5_stops_30.1.2
theorem dX5_stops_33 : decode cX5_stops 33 = .ok (.invokevirtual 159, 3) := kX5_stops_30.2.1
theorem dX5_stops_36 : decode cX5_stops 36 = .ok (.ireturn, 1) := kX5_stops_30.2.2
set_option maxRecDepth 20000 in
theorem ggX5_all_X2_become : GoodIn wsX5_all wsX2_become := goodIn_r _ [6, 7, 8, 9, 10, 11, 12, 13, 92, 93, 94, 95, 96, 97, 98] rfl (by decide +kernel)
set_option maxRecDepth 20000 in
theorem gX5_all_X2_become_n115 : GoodIn wsX5_all (wsX2_become) := ggX5_all_X2_become
set_option maxRecDepth 20000 in
theorem ggX5_all_X2_everybody : GoodIn wsX5_all wsX2_everybody := goodIn_r _ [16, 7, 92, 93, 94, 95, 96, 97, 98] rfl (by decide +kernel)
set_option maxRecDepth 20000 in
theorem gX5_all_X2_everybody_n162 : GoodIn wsX5_all (wsX2_everybody) := ggX5_all_X2_everybody
set_option maxRecDepth 20000 in
theorem ggX5_all_X2_passUntilStopped : GoodIn wsX5_all wsX2_passUntilStopped := goodIn_r _ [19, 20, 21, 22, 4, 23, 7, 24, 25, 26, 27, 11, 28, 29, 30, 31, 32, 33, 34, 35, 8, 36, 37, 38, 39, 12, 40, 41, 42, 43, 44, 45, 46, 47, 13, 48, 49, 50, 51, 52, 53, 54, 55, 56, 57, 58, 59, 60, 61, 62, 63, 64, 65, 66, 10, 67, 68, 69, 70, 71, 72, 73, 74, 75, 76, 77, 78, 79, 80, 81, 82, 92, 93, 94, 95, 96, 97, 98] rfl (by decide +kernel)
set_option maxRecDepth 20000 in
theorem gX5_all_X2_passUntilStopped_n159 : GoodIn wsX5_all (wsX2_passUntilStopped) := ggX5_all_X2_passUntilStopped
theorem kX5_all_0 : (((((decode cX5_all 0 = .ok (.aload_n 0, 1)) ∧ (decode cX5_all 1 = .ok (.getfield 33, 3))) ∧ ((decode cX5_all 4 = .ok (.aload_n 0, 1)) ∧ (decode cX5_all 5 = .ok (.getfield 10, 3)))) ∧ (((decode cX5_all 8 = .ok (.invokevirtual 115, 3)) ∧ (decode cX5_all 11 = .ok (.aload_n 0, 1))) ∧ (decode cX5_all 12 = .ok (.getfield 33, 3)))) ∧ ((((decode cX5_all 15 = .ok (.aload_n 0, 1)) ∧ (decode cX5_all 16 = .ok (.getfield 10, 3))) ∧ (decode cX5_all 19 = .ok (.invokevirtual 162, 3))) ∧ (((decode cX5_all 22 = .ok (.bipush 80, 2)) ∧ (decode cX5_all 24 = .ok (.invokevirtual 159, 3))) ∧ (decode cX5_all 27 = .ok (.ireturn, 1))))) := by decide +kernel
theorem dX5_all_0 : decode cX5_all 0 = .ok (.aload_n 0, 1) := kX5_all_0.1.1.1.1
theorem dX5_all_1 : decode cX5_all 1 = .ok (.getfield 33, 3) := kX5_all_0.1.1.1.2
theorem dX5_all_4 : decode cX5_all 4 = .ok (.aload_n 0, 1) := kX5_all_0.1.1.2.1
theorem dX5_all_5 : decode cX5_all 5 = .ok (.getfield 10, 3) := kX5_all_0.1.1.2.2
theorem dX5_all_8 : decode cX5_all 8 = .ok (.invokevirtual 115, 3) := kX5_all_0.1.2.1.1
theorem dX5_all_11 : decode cX5_all 11 = .ok (.aload_n 0, 1) := kX5_all_0.1.2.1.2
theorem dX5_all_12 : decode cX5_all 12 = .ok (.getfield 33, 3) := kX5_all_0.1.2.2
theorem dX5_all_15 : decode cX5_all 15 = .ok (.aload_n 0, 1) := kX5_all_0.2.1.1.1
theorem dX5_all_16 : decode cX5_all 16 = .ok (.getfield 10, 3) := kX5_all_0.2.1.1.2
theorem dX5_all_19 : decode cX5_all 19 = .ok (.invokevirtual 162, 3) := kX5_all_0.2.1.2
theorem dX5_all_22 : decode cX5_all 22 = .ok (.bipush 80, 2) := kX5_all_0.2.2.1.1
theorem dX5_all_24 : decode cX5_all 24 = .ok (.invokevirtual 159, 3) := kX5_all_0.2.2.1.2
theorem dX5_all_27 : decode cX5_all 27 = .ok (.ireturn, 1) := kX5_all_0.2.2.2
set_option maxRecDepth 20000 in
theorem ggX5_ever_X2_become : GoodIn wsX5_ever wsX2_become := goodIn_r _ [6, 7, 8, 9, 10, 11, 12, 13, 85, 86, 87, 88, 89, 90, 91] rfl (by decide +kernel)
set_option maxRecDepth 20000 in
theorem gX5_ever_X2_become_n115 : GoodIn wsX5_ever (wsX2_become) := ggX5_ever_X2_become
set_option maxRecDepth 20000 in
theorem ggX5_ever_X2_stopped : GoodIn wsX5_ever wsX2_stopped := goodIn_r _ [16, 7, 17, 18, 19, 4, 20, 11, 85, 86, 87, 88, 89, 90, 91] rfl (by decide +kernel)
set_option maxRecDepth 20000 in
theorem gX5_ever_X2_stopped_n85 : GoodIn wsX5_ever (wsX2_stopped) := ggX5_ever_X2_stopped
set_option maxRecDepth 20000 in
theorem ggX5_ever_X2_passHour : GoodIn wsX5_ever wsX2_passHour := goodIn_r _ [23, 24, 25, 26, 4, 27, 8, 28, 29, 30, 31, 7, 12, 17, 18, 19, 20, 11, 32, 33, 34, 35, 36, 37, 38, 39, 13, 40, 41, 42, 43, 44, 45, 46, 47, 48, 49, 50, 51, 52, 53, 54, 55, 14, 15, 16, 56, 57, 58, 59, 10, 60, 61, 62, 63, 64, 65, 66, 67, 68, 69, 70, 71, 72, 73, 74, 75, 85, 86, 87, 88, 89, 90, 91] rfl (by decide +kernel)
set_option maxRecDepth 20000 in
theorem gX5_ever_X2_passHour_n152 : GoodIn wsX5_ever (wsX2_passHour) := ggX5_ever_X2_passHour
theorem kX5_ever_0 : (((((decode cX5_ever 0 = .ok (.aload_n 0, 1)) ∧ (decode cX5_ever 1 = .ok (.getfield 33, 3))) ∧ ((decode cX5_ever 4 = .ok (.aload_n 0, 1)) ∧ (decode cX5_ever 5 = .ok (.getfield 10, 3)))) ∧ (((decode cX5_ever 8 = .ok (.invokevirtual 115, 3)) ∧ (decode cX5_ever 11 = .ok (.aload_n 0, 1))) ∧ ((decode cX5_ever 12 = .ok (.getfield 33, 3)) ∧ (decode cX5_ever 15 = .ok (.invokevirtual 85, 3))))) ∧ ((((decode cX5_ever 18 = .ok (.istore_n 1, 1)) ∧ (decode cX5_ever 19 = .ok (.iconst 0, 1))) ∧ ((decode cX5_ever 20 = .ok (.istore_n 2, 1)) ∧ (decode cX5_ever 21 = .ok (.iload_n 2, 1)))) ∧ (((decode cX5_ever 22 = .ok (.bipush 80, 2)) ∧ (decode cX5_ever 24 = .ok (.if_icmp .ge 26, 3))) ∧ ((decode cX5_ever 27 = .ok (.aload_n 0, 1)) ∧ (decode cX5_ever 28 = .ok (.getfield 33, 3)))))) := by decide +kernel
theorem dX5_ever_0 : decode cX5_ever 0 = .ok (.aload_n 0, 1) := kX5_ever_0.1.1.1.1
theorem dX5_ever_1 : decode cX5_ever 1 = .ok (.getfield 33, 3) := kX5_ever_0.1.1.1.2
theorem dX5_ever_4 : decode cX5_ever 4 = .ok (.aload_n 0, 1) := kX5_ever_0.1.1.2.1
theorem dX5_ever_5 : decode cX5_ever 5 = .ok (.getfield 10, 3) := kX5_ever_0.1.1.2.2
theorem dX5_ever_8 : decode cX5_ever 8 = .ok (.invokevirtual 115, 3) := kX5_ever_0.1.2.1.1
theorem dX5_ever_11 : decode cX5_ever 11 = .ok (.aload_n 0, 1) := kX5_ever_0.1.2.1.2
theorem dX5_ever_12 : decode cX5_ever 12 = .ok (.getfield 33, 3) := kX5_ever_0.1.2.2.1
theorem dX5_ever_15 : decode cX5_ever 15 = .ok (.invokevirtual 85, 3) := kX5_ever_0.1.2.2.2
theorem dX5_ever_18 : decode cX5_ever 18 = .ok (.istore_n 1, 1) := kX5_ever_0.2.1.1.1
theorem dX5_ever_19 : decode cX5_ever 19 = .ok (.iconst 0, 1) := kX5_ever_0.2.1.1.2
theorem dX5_ever_20 : decode cX5_ever 20 = .ok (.istore_n 2, 1) := kX5_ever_0.2.1.2.1
theorem dX5_ever_21 : decode cX5_ever 21 = .ok (.iload_n 2, 1) := kX5_ever_0.2.1.2.2
theorem dX5_ever_22 : decode cX5_ever 22 = .ok (.bipush 80, 2) := kX5_ever_0.2.2.1.1
theorem dX5_ever_24 : decode cX5_ever 24 = .ok (.if_icmp .ge 26, 3) := kX5_ever_0.2.2.1.2
theorem dX5_ever_27 : decode cX5_ever 27 = .ok (.aload_n 0, 1) := kX5_ever_0.2.2.2.1
theorem dX5_ever_28 : decode cX5_ever 28 = .ok (.getfield 33, 3) := kX5_ever_0.2.2.2.2
theorem kX5_ever_31 : (((((decode cX5_ever 31 = .ok (.invokevirtual 152, 3)) ∧ (decode cX5_ever 34 = .ok (.iload_n 1, 1))) ∧ (decode cX5_ever 35 = .ok (.aload_n 0, 1))) ∧ (((decode cX5_ever 36 = .ok (.getfield 33, 3)) ∧ (decode cX5_ever 39 = .ok (.invokevirtual 85, 3))) ∧ (decode cX5_ever 42 = .ok (.ior, 1)))) ∧ ((((decode cX5_ever 43 = .ok (.istore_n 1, 1)) ∧ (decode cX5_ever 44 = .ok (.iinc 2 1, 3))) ∧ (decode cX5_ever 47 = .ok (.goto (-26), 3))) ∧ ((decode cX5_ever 50 = .ok (.iload_n 1, 1)) ∧ (decode cX5_ever 51 = .ok (.ireturn, 1))))) := by decide +kernel
theorem dX5_ever_31 : decode cX5_ever 31 = .ok (.invokevirtual 152, 3) := kX5_ever_31.1.1.1.1
theorem dX5_ever_34 : decode cX5_ever 34 = .ok (.iload_n 1, 1) := kX5_ever_31.1.1.1.2
theorem dX5_ever_35 : decode cX5_ever 35 = .ok (.aload_n 0, 1) := kX5_ever_31.1.1.2
theorem dX5_ever_36 : decode cX5_ever 36 = .ok (.getfield 33, 3) := kX5_ever_31.1.2.1.1
theorem dX5_ever_39 : decode cX5_ever 39 = .ok (.invokevirtual 85, 3) := kX5_ever_31.1.2.1.2
theorem dX5_ever_42 : decode cX5_ever 42 = .ok (.ior, 1) := kX5_ever_31.1.2.2
theorem dX5_ever_43 : decode cX5_ever 43 = .ok (.istore_n 1, 1) := kX5_ever_31.2.1.1.1
theorem dX5_ever_44 : decode cX5_ever 44 = .ok (.iinc 2 1, 3) := kX5_ever_31.2.1.1.2
theorem dX5_ever_47 : decode cX5_ever 47 = .ok (.goto (-26), 3) := kX5_ever_31.2.1.2
theorem dX5_ever_50 : decode cX5_ever 50 = .ok (.iload_n 1, 1) := kX5_ever_31.2.2.1
theorem dX5_ever_51 : decode cX5_ever 51 = .ok (.ireturn, 1) := kX5_ever_31.2.2.2
set_option maxRecDepth 20000 in
theorem ggX5_chain_X2_has : GoodIn wsX5_chain wsX2_has := goodIn_r _ [5, 6, 29, 30, 31, 32, 33, 34, 35] rfl (by decide +kernel)
set_option maxRecDepth 20000 in
theorem gX5_chain_X2_has_n68 : GoodIn wsX5_chain (wsX2_has) := ggX5_chain_X2_has
set_option maxRecDepth 20000 in
theorem ggX5_chain_X2_behind : GoodIn wsX5_chain wsX2_behind := goodIn_r _ [9, 6, 10, 11, 2, 4, 3, 5, 29, 30, 31, 32, 33, 34, 35] rfl (by decide +kernel)
set_option maxRecDepth 20000 in
theorem gX5_chain_X2_behind_n165 : GoodIn wsX5_chain (wsX2_behind) := ggX5_chain_X2_behind
set_option maxRecDepth 20000 in
theorem ggX5_chain_X2_heads : GoodIn wsX5_chain wsX2_heads := goodIn_r _ [14, 6, 15, 7, 8, 3, 9, 10, 11, 2, 4, 5, 16, 17, 18, 19, 29, 30, 31, 32, 33, 34, 35] rfl (by decide +kernel)
set_option maxRecDepth 20000 in
theorem gX5_chain_X2_heads_n168 : GoodIn wsX5_chain (wsX2_heads) := ggX5_chain_X2_heads
theorem kX5_chain_0 : (((((decode cX5_chain 0 = .ok (.aload_n 0, 1)) ∧ (decode cX5_chain 1 = .ok (.getfield 10, 3))) ∧ ((decode cX5_chain 4 = .ok (.iload_n 1, 1)) ∧ (decode cX5_chain 5 = .ok (.invokevirtual 68, 3)))) ∧ (((decode cX5_chain 8 = .ok (.ifCond .eq 12, 3)) ∧ (decode cX5_chain 11 = .ok (.iload_n 2, 1))) ∧ ((decode cX5_chain 12 = .ok (.ifCond .lt 8, 3)) ∧ (decode cX5_chain 15 = .ok (.iload_n 2, 1))))) ∧ ((((decode cX5_chain 16 = .ok (.iconst 1, 1)) ∧ (decode cX5_chain 17 = .ok (.if_icmp .le 5, 3))) ∧ ((decode cX5_chain 20 = .ok (.iconst (-1), 1)) ∧ (decode cX5_chain 21 = .ok (.ireturn, 1)))) ∧ (((decode cX5_chain 22 = .ok (.iload_n 2, 1)) ∧ (decode cX5_chain 23 = .ok (.ifCond .ne 14, 3))) ∧ ((decode cX5_chain 26 = .ok (.aload_n 0, 1)) ∧ (decode cX5_chain 27 = .ok (.getfield 10, 3)))))) := by decide +kernel
theorem dX5_chain_0 : decode cX5_chain 0 = .ok (.aload_n 0, 1) := kX5_chain_0.1.1.1.1
theorem dX5_chain_1 : decode cX5_chain 1 = .ok (.getfield 10, 3) := kX5_chain_0.1.1.1.2
theorem dX5_chain_4 : decode cX5_chain 4 = .ok (.iload_n 1, 1) := kX5_chain_0.1.1.2.1
theorem dX5_chain_5 : decode cX5_chain 5 = .ok (.invokevirtual 68, 3) := kX5_chain_0.1.1.2.2
theorem dX5_chain_8 : decode cX5_chain 8 = .ok (.ifCond .eq 12, 3) := kX5_chain_0.1.2.1.1
theorem dX5_chain_11 : decode cX5_chain 11 = .ok (.iload_n 2, 1) := kX5_chain_0.1.2.1.2
theorem dX5_chain_12 : decode cX5_chain 12 = .ok (.ifCond .lt 8, 3) := kX5_chain_0.1.2.2.1
theorem dX5_chain_15 : decode cX5_chain 15 = .ok (.iload_n 2, 1) := kX5_chain_0.1.2.2.2
theorem dX5_chain_16 : decode cX5_chain 16 = .ok (.iconst 1, 1) := kX5_chain_0.2.1.1.1
theorem dX5_chain_17 : decode cX5_chain 17 = .ok (.if_icmp .le 5, 3) := kX5_chain_0.2.1.1.2
theorem dX5_chain_20 : decode cX5_chain 20 = .ok (.iconst (-1), 1) := kX5_chain_0.2.1.2.1
theorem dX5_chain_21 : decode cX5_chain 21 = .ok (.ireturn, 1) := kX5_chain_0.2.1.2.2
theorem dX5_chain_22 : decode cX5_chain 22 = .ok (.iload_n 2, 1) := kX5_chain_0.2.2.1.1
theorem dX5_chain_23 : decode cX5_chain 23 = .ok (.ifCond .ne 14, 3) := kX5_chain_0.2.2.1.2
theorem dX5_chain_26 : decode cX5_chain 26 = .ok (.aload_n 0, 1) := kX5_chain_0.2.2.2.1
theorem dX5_chain_27 : decode cX5_chain 27 = .ok (.getfield 10, 3) := kX5_chain_0.2.2.2.2
theorem kX5_chain_30 : ((((decode cX5_chain 30 = .ok (.iload_n 1, 1)) ∧ (decode cX5_chain 31 = .ok (.invokevirtual 165, 3))) ∧ ((decode cX5_chain 34 = .ok (.goto 11, 3)) ∧ (decode cX5_chain 37 = .ok (.aload_n 0, 1)))) ∧ (((decode cX5_chain 38 = .ok (.getfield 10, 3)) ∧ (decode cX5_chain 41 = .ok (.iload_n 1, 1))) ∧ ((decode cX5_chain 42 = .ok (.invokevirtual 168, 3)) ∧ (decode cX5_chain 45 = .ok (.ireturn, 1))))) := by decide +kernel
theorem dX5_chain_30 : decode cX5_chain 30 = .ok (.iload_n 1, 1) := kX5_chain_30.1.1.1
theorem dX5_chain_31 : decode cX5_chain 31 = .ok (.invokevirtual 165, 3) := kX5_chain_30.1.1.2
theorem dX5_chain_34 : decode cX5_chain 34 = .ok (.goto 11, 3) := kX5_chain_30.1.2.1
theorem dX5_chain_37 : decode cX5_chain 37 = .ok (.aload_n 0, 1) := kX5_chain_30.1.2.2
theorem dX5_chain_38 : decode cX5_chain 38 = .ok (.getfield 10, 3) := kX5_chain_30.2.1.1
theorem dX5_chain_41 : decode cX5_chain 41 = .ok (.iload_n 1, 1) := kX5_chain_30.2.1.2
theorem dX5_chain_42 : decode cX5_chain 42 = .ok (.invokevirtual 168, 3) := kX5_chain_30.2.2.1
theorem dX5_chain_45 : decode cX5_chain 45 = .ok (.ireturn, 1) := kX5_chain_30.2.2.2
set_option maxRecDepth 20000 in
theorem ggX5_lends_X5_isAdvised : GoodIn wsX5_lends wsX5_isAdvised := goodIn_r _ [6] rfl (by decide +kernel)
set_option maxRecDepth 20000 in
theorem gX5_lends_X5_isAdvised : GoodIn wsX5_lends (va_wsS RX5 171 yX5_isAdvised wsX5_isAdvised) := goodIn_app (goodIn_of _ (by decide +kernel)) ggX5_lends_X5_isAdvised
set_option maxRecDepth 20000 in
theorem ggX5_lends_X2_become : GoodIn wsX5_lends wsX2_become := goodIn_r _ [10, 11, 12, 13, 14, 15, 16, 17, 100, 101, 102, 103, 104, 105, 106] rfl (by decide +kernel)
set_option maxRecDepth 20000 in
theorem gX5_lends_X2_become_n115 : GoodIn wsX5_lends (wsX2_become) := ggX5_lends_X2_become
set_option maxRecDepth 20000 in
theorem ggX5_lends_X2_addTurns : GoodIn wsX5_lends wsX2_addTurns := goodIn_r _ [20, 15, 21, 22, 23, 24, 100, 101, 102, 103, 104, 105, 106] rfl (by decide +kernel)
set_option maxRecDepth 20000 in
theorem gX5_lends_X2_addTurns_n142 : GoodIn wsX5_lends (wsX2_addTurns) := ggX5_lends_X2_addTurns
set_option maxRecDepth 20000 in
theorem ggX5_lends_X2_passHours : GoodIn wsX5_lends wsX2_passHours := goodIn_r _ [27, 28, 29, 30, 8, 31, 32, 33, 34, 35, 12, 36, 37, 38, 39, 11, 16, 40, 41, 42, 43, 15, 44, 45, 46, 47, 48, 49, 50, 51, 17, 52, 18, 19, 20, 21, 22, 23, 24, 53, 54, 55, 56, 57, 58, 59, 60, 61, 62, 63, 64, 65, 66, 67, 14, 68, 69, 70, 71, 72, 73, 74, 75, 76, 77, 78, 79, 80, 81, 82, 83, 100, 101, 102, 103, 104, 105, 106] rfl (by decide +kernel)
set_option maxRecDepth 20000 in
theorem gX5_lends_X2_passHours_n155 : GoodIn wsX5_lends (wsX2_passHours) := ggX5_lends_X2_passHours
set_option maxRecDepth 20000 in
theorem ggX5_lends_X2_stopped : GoodIn wsX5_lends wsX2_stopped := goodIn_r _ [63, 11, 40, 41, 42, 8, 43, 15, 100, 101, 102, 103, 104, 105, 106] rfl (by decide +kernel)
set_option maxRecDepth 20000 in
theorem gX5_lends_X2_stopped_n85 : GoodIn wsX5_lends (wsX2_stopped) := ggX5_lends_X2_stopped
set_option maxRecDepth 20000 in
theorem ggX5_lends_J6_bitCount_0f7a4 : GoodIn wsX5_lends wsJ6_bitCount_0f7a4 := goodIn_r _ [87, 88, 89, 90] rfl (by decide +kernel)
set_option maxRecDepth 20000 in
theorem gX5_lends_J6_bitCount_0f7a4 : GoodIn wsX5_lends (va_wsS RX5 174 yJ6_bitCount_0f7a4 wsJ6_bitCount_0f7a4) := goodIn_app (goodIn_of _ (by decide +kernel)) ggX5_lends_J6_bitCount_0f7a4
theorem kX5_lends_0 : (((((decode cX5_lends 0 = .ok (.iload_n 1, 1)) ∧ (decode cX5_lends 1 = .ok (.invokestatic 171, 3))) ∧ ((decode cX5_lends 4 = .ok (.ifCond .eq 23, 3)) ∧ (decode cX5_lends 7 = .ok (.iload_n 2, 1)))) ∧ (((decode cX5_lends 8 = .ok (.iconst 1, 1)) ∧ (decode cX5_lends 9 = .ok (.if_icmp .lt 18, 3))) ∧ ((decode cX5_lends 12 = .ok (.iload_n 2, 1)) ∧ (decode cX5_lends 13 = .ok (.bipush 30, 2))))) ∧ ((((decode cX5_lends 15 = .ok (.if_icmp .gt 12, 3)) ∧ (decode cX5_lends 18 = .ok (.iload_n 3, 1))) ∧ ((decode cX5_lends 19 = .ok (.ifCond .lt 8, 3)) ∧ (decode cX5_lends 22 = .ok (.iload_n 3, 1)))) ∧ (((decode cX5_lends 23 = .ok (.iconst 1, 1)) ∧ (decode cX5_lends 24 = .ok (.if_icmp .le 5, 3))) ∧ ((decode cX5_lends 27 = .ok (.iconst (-1), 1)) ∧ (decode cX5_lends 28 = .ok (.ireturn, 1)))))) := by decide +kernel
theorem dX5_lends_0 : decode cX5_lends 0 = .ok (.iload_n 1, 1) := kX5_lends_0.1.1.1.1
theorem dX5_lends_1 : decode cX5_lends 1 = .ok (.invokestatic 171, 3) := kX5_lends_0.1.1.1.2
theorem dX5_lends_4 : decode cX5_lends 4 = .ok (.ifCond .eq 23, 3) := kX5_lends_0.1.1.2.1
theorem dX5_lends_7 : decode cX5_lends 7 = .ok (.iload_n 2, 1) := kX5_lends_0.1.1.2.2
theorem dX5_lends_8 : decode cX5_lends 8 = .ok (.iconst 1, 1) := kX5_lends_0.1.2.1.1
theorem dX5_lends_9 : decode cX5_lends 9 = .ok (.if_icmp .lt 18, 3) := kX5_lends_0.1.2.1.2
theorem dX5_lends_12 : decode cX5_lends 12 = .ok (.iload_n 2, 1) := kX5_lends_0.1.2.2.1
theorem dX5_lends_13 : decode cX5_lends 13 = .ok (.bipush 30, 2) := kX5_lends_0.1.2.2.2
theorem dX5_lends_15 : decode cX5_lends 15 = .ok (.if_icmp .gt 12, 3) := kX5_lends_0.2.1.1.1
theorem dX5_lends_18 : decode cX5_lends 18 = .ok (.iload_n 3, 1) := kX5_lends_0.2.1.1.2
theorem dX5_lends_19 : decode cX5_lends 19 = .ok (.ifCond .lt 8, 3) := kX5_lends_0.2.1.2.1
theorem dX5_lends_22 : decode cX5_lends 22 = .ok (.iload_n 3, 1) := kX5_lends_0.2.1.2.2
theorem dX5_lends_23 : decode cX5_lends 23 = .ok (.iconst 1, 1) := kX5_lends_0.2.2.1.1
theorem dX5_lends_24 : decode cX5_lends 24 = .ok (.if_icmp .le 5, 3) := kX5_lends_0.2.2.1.2
theorem dX5_lends_27 : decode cX5_lends 27 = .ok (.iconst (-1), 1) := kX5_lends_0.2.2.2.1
theorem dX5_lends_28 : decode cX5_lends 28 = .ok (.ireturn, 1) := kX5_lends_0.2.2.2.2
theorem kX5_lends_29 : (((((decode cX5_lends 29 = .ok (.bipush (-4), 2)) ∧ (decode cX5_lends 31 = .ok (.istore 4, 2))) ∧ ((decode cX5_lends 33 = .ok (.bipush 7, 2)) ∧ (decode cX5_lends 35 = .ok (.istore 5, 2)))) ∧ (((decode cX5_lends 37 = .ok (.iconst 0, 1)) ∧ (decode cX5_lends 38 = .ok (.istore 6, 2))) ∧ ((decode cX5_lends 40 = .ok (.iload 6, 2)) ∧ (decode cX5_lends 42 = .ok (.aload_n 0, 1))))) ∧ ((((decode cX5_lends 43 = .ok (.getfield 10, 3)) ∧ (decode cX5_lends 46 = .ok (.getfield 57, 3))) ∧ ((decode cX5_lends 49 = .ok (.if_icmp .ge 65, 3)) ∧ (decode cX5_lends 52 = .ok (.aload_n 0, 1)))) ∧ (((decode cX5_lends 53 = .ok (.getfield 33, 3)) ∧ (decode cX5_lends 56 = .ok (.aload_n 0, 1))) ∧ ((decode cX5_lends 57 = .ok (.getfield 10, 3)) ∧ (decode cX5_lends 60 = .ok (.invokevirtual 115, 3)))))) := by decide +kernel
theorem dX5_lends_29 : decode cX5_lends 29 = .ok (.bipush (-4), 2) := kX5_lends_29.1.1.1.1
theorem dX5_lends_31 : decode cX5_lends 31 = .ok (.istore 4, 2) := kX5_lends_29.1.1.1.2
theorem dX5_lends_33 : decode cX5_lends 33 = .ok (.bipush 7, 2) := kX5_lends_29.1.1.2.1
theorem dX5_lends_35 : decode cX5_lends 35 = .ok (.istore 5, 2) := kX5_lends_29.1.1.2.2
theorem dX5_lends_37 : decode cX5_lends 37 = .ok (.iconst 0, 1) := kX5_lends_29.1.2.1.1
theorem dX5_lends_38 : decode cX5_lends 38 = .ok (.istore 6, 2) := kX5_lends_29.1.2.1.2
theorem dX5_lends_40 : decode cX5_lends 40 = .ok (.iload 6, 2) := kX5_lends_29.1.2.2.1
theorem dX5_lends_42 : decode cX5_lends 42 = .ok (.aload_n 0, 1) := kX5_lends_29.1.2.2.2
theorem dX5_lends_43 : decode cX5_lends 43 = .ok (.getfield 10, 3) := kX5_lends_29.2.1.1.1
theorem dX5_lends_46 : decode cX5_lends 46 = .ok (.getfield 57, 3) := kX5_lends_29.2.1.1.2
theorem dX5_lends_49 : decode cX5_lends 49 = .ok (.if_icmp .ge 65, 3) := kX5_lends_29.2.1.2.1
theorem dX5_lends_52 : decode cX5_lends 52 = .ok (.aload_n 0, 1) := kX5_lends_29.2.1.2.2
theorem dX5_lends_53 : decode cX5_lends 53 = .ok (.getfield 33, 3) := kX5_lends_29.2.2.1.1
theorem dX5_lends_56 : decode cX5_lends 56 = .ok (.aload_n 0, 1) := kX5_lends_29.2.2.1.2
theorem dX5_lends_57 : decode cX5_lends 57 = .ok (.getfield 10, 3) := kX5_lends_29.2.2.2.1
theorem dX5_lends_60 : decode cX5_lends 60 = .ok (.invokevirtual 115, 3) := kX5_lends_29.2.2.2.2
theorem kX5_lends_63 : (((((decode cX5_lends 63 = .ok (.aload_n 0, 1)) ∧ (decode cX5_lends 64 = .ok (.getfield 33, 3))) ∧ ((decode cX5_lends 67 = .ok (.iload 6, 2)) ∧ (decode cX5_lends 69 = .ok (.iload_n 2, 1)))) ∧ (((decode cX5_lends 70 = .ok (.invokevirtual 142, 3)) ∧ (decode cX5_lends 73 = .ok (.aload_n 0, 1))) ∧ ((decode cX5_lends 74 = .ok (.getfield 33, 3)) ∧ (decode cX5_lends 77 = .ok (.iload_n 1, 1))))) ∧ ((((decode cX5_lends 78 = .ok (.invokevirtual 155, 3)) ∧ (decode cX5_lends 81 = .ok (.aload_n 0, 1))) ∧ ((decode cX5_lends 82 = .ok (.getfield 33, 3)) ∧ (decode cX5_lends 85 = .ok (.invokevirtual 85, 3)))) ∧ (((decode cX5_lends 88 = .ok (.invokestatic 174, 3)) ∧ (decode cX5_lends 91 = .ok (.istore 7, 2))) ∧ ((decode cX5_lends 93 = .ok (.iload 7, 2)) ∧ (decode cX5_lends 95 = .ok (.iload 5, 2)))))) := by decide +kernel
theorem dX5_lends_63 : decode cX5_lends 63 = .ok (.aload_n 0, 1) := kX5_lends_63.1.1.1.1
theorem dX5_lends_64 : decode cX5_lends 64 = .ok (.getfield 33, 3) := kX5_lends_63.1.1.1.2
theorem dX5_lends_67 : decode cX5_lends 67 = .ok (.iload 6, 2) := kX5_lends_63.1.1.2.1
theorem dX5_lends_69 : decode cX5_lends 69 = .ok (.iload_n 2, 1) := kX5_lends_63.1.1.2.2
theorem dX5_lends_70 : decode cX5_lends 70 = .ok (.invokevirtual 142, 3) := kX5_lends_63.1.2.1.1
theorem dX5_lends_73 : decode cX5_lends 73 = .ok (.aload_n 0, 1) := kX5_lends_63.1.2.1.2
theorem dX5_lends_74 : decode cX5_lends 74 = .ok (.getfield 33, 3) := kX5_lends_63.1.2.2.1
theorem dX5_lends_77 : decode cX5_lends 77 = .ok (.iload_n 1, 1) := kX5_lends_63.1.2.2.2
theorem dX5_lends_78 : decode cX5_lends 78 = .ok (.invokevirtual 155, 3) := kX5_lends_63.2.1.1.1
theorem dX5_lends_81 : decode cX5_lends 81 = .ok (.aload_n 0, 1) := kX5_lends_63.2.1.1.2
theorem dX5_lends_82 : decode cX5_lends 82 = .ok (.getfield 33, 3) := kX5_lends_63.2.1.2.1
theorem dX5_lends_85 : decode cX5_lends 85 = .ok (.invokevirtual 85, 3) := kX5_lends_63.2.1.2.2
theorem dX5_lends_88 : decode cX5_lends 88 = .ok (.invokestatic 174, 3) := kX5_lends_63.2.2.1.1
theorem dX5_lends_91 : decode cX5_lends 91 = .ok (.istore 7, 2) := kX5_lends_63.2.2.1.2
theorem dX5_lends_93 : decode cX5_lends 93 = .ok (.iload 7, 2) := kX5_lends_63.2.2.2.1
theorem dX5_lends_95 : decode cX5_lends 95 = .ok (.iload 5, 2) := kX5_lends_63.2.2.2.2
theorem kX5_lends_97 : (((((decode cX5_lends 97 = .ok (.if_icmp .ge 11, 3)) ∧ (decode cX5_lends 100 = .ok (.iload 7, 2))) ∧ ((decode cX5_lends 102 = .ok (.istore 5, 2)) ∧ (decode cX5_lends 104 = .ok (.iload 6, 2)))) ∧ (((decode cX5_lends 106 = .ok (.istore 4, 2)) ∧ (decode cX5_lends 108 = .ok (.iinc 6 1, 3))) ∧ ((decode cX5_lends 111 = .ok (.goto (-71), 3)) ∧ (decode cX5_lends 114 = .ok (.iload_n 3, 1))))) ∧ ((((decode cX5_lends 115 = .ok (.ifCond .eq 10, 3)) ∧ (decode cX5_lends 118 = .ok (.iload 4, 2))) ∧ ((decode cX5_lends 120 = .ok (.bipush (-4), 2)) ∧ (decode cX5_lends 122 = .ok (.if_icmp .ne 8, 3)))) ∧ (((decode cX5_lends 125 = .ok (.iload 4, 2)) ∧ (decode cX5_lends 127 = .ok (.goto 5, 3))) ∧ ((decode cX5_lends 130 = .ok (.iload 5, 2)) ∧ (decode cX5_lends 132 = .ok (.ireturn, 1)))))) := by decide +kernel
theorem dX5_lends_97 : decode cX5_lends 97 = .ok (.if_icmp .ge 11, 3) := kX5_lends_97.1.1.1.1
theorem dX5_lends_100 : decode cX5_lends 100 = .ok (.iload 7, 2) := kX5_lends_97.1.1.1.2
theorem dX5_lends_102 : decode cX5_lends 102 = .ok (.istore 5, 2) := kX5_lends_97.1.1.2.1
theorem dX5_lends_104 : decode cX5_lends 104 = .ok (.iload 6, 2) := kX5_lends_97.1.1.2.2
theorem dX5_lends_106 : decode cX5_lends 106 = .ok (.istore 4, 2) := kX5_lends_97.1.2.1.1
theorem dX5_lends_108 : decode cX5_lends 108 = .ok (.iinc 6 1, 3) := kX5_lends_97.1.2.1.2
theorem dX5_lends_111 : decode cX5_lends 111 = .ok (.goto (-71), 3) := kX5_lends_97.1.2.2.1
theorem dX5_lends_114 : decode cX5_lends 114 = .ok (.iload_n 3, 1) := kX5_lends_97.1.2.2.2
theorem dX5_lends_115 : decode cX5_lends 115 = .ok (.ifCond .eq 10, 3) := kX5_lends_97.2.1.1.1
theorem dX5_lends_118 : decode cX5_lends 118 = .ok (.iload 4, 2) := kX5_lends_97.2.1.1.2
theorem dX5_lends_120 : decode cX5_lends 120 = .ok (.bipush (-4), 2) := kX5_lends_97.2.1.2.1
theorem dX5_lends_122 : decode cX5_lends 122 = .ok (.if_icmp .ne 8, 3) := kX5_lends_97.2.1.2.2
theorem dX5_lends_125 : decode cX5_lends 125 = .ok (.iload 4, 2) := kX5_lends_97.2.2.1.1
theorem dX5_lends_127 : decode cX5_lends 127 = .ok (.goto 5, 3) := kX5_lends_97.2.2.1.2
theorem dX5_lends_130 : decode cX5_lends 130 = .ok (.iload 5, 2) := kX5_lends_97.2.2.2.1
theorem dX5_lends_132 : decode cX5_lends 132 = .ok (.ireturn, 1) := kX5_lends_97.2.2.2.2
set_option maxRecDepth 20000 in
theorem ggX5_instead_X2_has : GoodIn wsX5_instead wsX2_has := goodIn_r _ [5, 6, 104, 105, 106, 107, 108, 109, 110] rfl (by decide +kernel)
set_option maxRecDepth 20000 in
theorem gX5_instead_X2_has_n68 : GoodIn wsX5_instead (wsX2_has) := ggX5_instead_X2_has
set_option maxRecDepth 20000 in
theorem ggX5_instead_X5_isAdvised : GoodIn wsX5_instead wsX5_isAdvised := goodIn_r _ [10] rfl (by decide +kernel)
set_option maxRecDepth 20000 in
theorem gX5_instead_X5_isAdvised : GoodIn wsX5_instead (va_wsS RX5 171 yX5_isAdvised wsX5_isAdvised) := goodIn_app (goodIn_of _ (by decide +kernel)) ggX5_instead_X5_isAdvised
set_option maxRecDepth 20000 in
theorem ggX5_instead_X5_stoppedIfTold : GoodIn wsX5_instead wsX5_stoppedIfTold := goodIn_r _ [14, 15, 1, 16, 3, 17, 18, 6, 19, 20, 21, 22, 23, 24, 25, 26, 27, 28, 29, 30, 31, 32, 33, 34, 35, 36, 37, 38, 39, 40, 41, 42, 43, 44, 2, 4, 5, 45, 46, 47, 48, 49, 50, 51, 52, 53, 54, 55, 56, 57, 58, 59, 60, 61, 62, 63, 64, 65, 66, 67, 68, 69, 70, 71, 72, 73, 74, 75, 76, 77, 78, 79, 80, 81, 82, 83, 84, 85, 86, 87, 88, 89, 90, 91, 92, 93, 94, 95, 96, 97, 98, 99, 100, 101, 102, 103, 104, 105, 106, 107, 108, 109, 110] rfl (by decide +kernel)
set_option maxRecDepth 20000 in
theorem gX5_instead_X5_stoppedIfTold : GoodIn wsX5_instead (wsV RX5 179 RX5 yX5_stoppedIfTold wsX5_stoppedIfTold) := goodIn_app (goodIn_of _ (by decide +kernel)) ggX5_instead_X5_stoppedIfTold
theorem kX5_instead_0 : (((((decode cX5_instead 0 = .ok (.aload_n 0, 1)) ∧ (decode cX5_instead 1 = .ok (.getfield 10, 3))) ∧ ((decode cX5_instead 4 = .ok (.iload_n 1, 1)) ∧ (decode cX5_instead 5 = .ok (.invokevirtual 68, 3)))) ∧ (((decode cX5_instead 8 = .ok (.ifCond .eq 19, 3)) ∧ (decode cX5_instead 11 = .ok (.iload_n 2, 1))) ∧ ((decode cX5_instead 12 = .ok (.invokestatic 171, 3)) ∧ (decode cX5_instead 15 = .ok (.ifCond .eq 12, 3))))) ∧ ((((decode cX5_instead 18 = .ok (.iload_n 3, 1)) ∧ (decode cX5_instead 19 = .ok (.ifCond .lt 8, 3))) ∧ ((decode cX5_instead 22 = .ok (.iload_n 3, 1)) ∧ (decode cX5_instead 23 = .ok (.iconst 1, 1)))) ∧ (((decode cX5_instead 24 = .ok (.if_icmp .le 5, 3)) ∧ (decode cX5_instead 27 = .ok (.iconst (-1), 1))) ∧ ((decode cX5_instead 28 = .ok (.ireturn, 1)) ∧ (decode cX5_instead 29 = .ok (.bipush (-4), 2)))))) := by decide +kernel
theorem dX5_instead_0 : decode cX5_instead 0 = .ok (.aload_n 0, 1) := kX5_instead_0.1.1.1.1
theorem dX5_instead_1 : decode cX5_instead 1 = .ok (.getfield 10, 3) := kX5_instead_0.1.1.1.2
theorem dX5_instead_4 : decode cX5_instead 4 = .ok (.iload_n 1, 1) := kX5_instead_0.1.1.2.1
theorem dX5_instead_5 : decode cX5_instead 5 = .ok (.invokevirtual 68, 3) := kX5_instead_0.1.1.2.2
theorem dX5_instead_8 : decode cX5_instead 8 = .ok (.ifCond .eq 19, 3) := kX5_instead_0.1.2.1.1
theorem dX5_instead_11 : decode cX5_instead 11 = .ok (.iload_n 2, 1) := kX5_instead_0.1.2.1.2
theorem dX5_instead_12 : decode cX5_instead 12 = .ok (.invokestatic 171, 3) := kX5_instead_0.1.2.2.1
theorem dX5_instead_15 : decode cX5_instead 15 = .ok (.ifCond .eq 12, 3) := kX5_instead_0.1.2.2.2
theorem dX5_instead_18 : decode cX5_instead 18 = .ok (.iload_n 3, 1) := kX5_instead_0.2.1.1.1
theorem dX5_instead_19 : decode cX5_instead 19 = .ok (.ifCond .lt 8, 3) := kX5_instead_0.2.1.1.2
theorem dX5_instead_22 : decode cX5_instead 22 = .ok (.iload_n 3, 1) := kX5_instead_0.2.1.2.1
theorem dX5_instead_23 : decode cX5_instead 23 = .ok (.iconst 1, 1) := kX5_instead_0.2.1.2.2
theorem dX5_instead_24 : decode cX5_instead 24 = .ok (.if_icmp .le 5, 3) := kX5_instead_0.2.2.1.1
theorem dX5_instead_27 : decode cX5_instead 27 = .ok (.iconst (-1), 1) := kX5_instead_0.2.2.1.2
theorem dX5_instead_28 : decode cX5_instead 28 = .ok (.ireturn, 1) := kX5_instead_0.2.2.2.1
theorem dX5_instead_29 : decode cX5_instead 29 = .ok (.bipush (-4), 2) := kX5_instead_0.2.2.2.2
theorem kX5_instead_31 : (((((decode cX5_instead 31 = .ok (.istore 4, 2)) ∧ (decode cX5_instead 33 = .ok (.aload_n 0, 1))) ∧ ((decode cX5_instead 34 = .ok (.iload_n 1, 1)) ∧ (decode cX5_instead 35 = .ok (.bipush (-4), 2)))) ∧ (((decode cX5_instead 37 = .ok (.iload_n 2, 1)) ∧ (decode cX5_instead 38 = .ok (.invokevirtual 179, 3))) ∧ ((decode cX5_instead 41 = .ok (.istore 5, 2)) ∧ (decode cX5_instead 43 = .ok (.iconst 0, 1))))) ∧ ((((decode cX5_instead 44 = .ok (.istore 6, 2)) ∧ (decode cX5_instead 46 = .ok (.iload 6, 2))) ∧ ((decode cX5_instead 48 = .ok (.aload_n 0, 1)) ∧ (decode cX5_instead 49 = .ok (.getfield 10, 3)))) ∧ (((decode cX5_instead 52 = .ok (.getfield 57, 3)) ∧ (decode cX5_instead 55 = .ok (.if_icmp .ge 45, 3))) ∧ ((decode cX5_instead 58 = .ok (.iload 6, 2)) ∧ (decode cX5_instead 60 = .ok (.iload_n 1, 1)))))) := by decide +kernel
theorem dX5_instead_31 : decode cX5_instead 31 = .ok (.istore 4, 2) := kX5_instead_31.1.1.1.1
theorem dX5_instead_33 : decode cX5_instead 33 = .ok (.aload_n 0, 1) := kX5_instead_31.1.1.1.2
theorem dX5_instead_34 : decode cX5_instead 34 = .ok (.iload_n 1, 1) := kX5_instead_31.1.1.2.1
theorem dX5_instead_35 : decode cX5_instead 35 = .ok (.bipush (-4), 2) := kX5_instead_31.1.1.2.2
theorem dX5_instead_37 : decode cX5_instead 37 = .ok (.iload_n 2, 1) := kX5_instead_31.1.2.1.1
theorem dX5_instead_38 : decode cX5_instead 38 = .ok (.invokevirtual 179, 3) := kX5_instead_31.1.2.1.2
theorem dX5_instead_41 : decode cX5_instead 41 = .ok (.istore 5, 2) := kX5_instead_31.1.2.2.1
theorem dX5_instead_43 : decode cX5_instead 43 = .ok (.iconst 0, 1) := kX5_instead_31.1.2.2.2
theorem dX5_instead_44 : decode cX5_instead 44 = .ok (.istore 6, 2) := kX5_instead_31.2.1.1.1
theorem dX5_instead_46 : decode cX5_instead 46 = .ok (.iload 6, 2) := kX5_instead_31.2.1.1.2
theorem dX5_instead_48 : decode cX5_instead 48 = .ok (.aload_n 0, 1) := kX5_instead_31.2.1.2.1
theorem dX5_instead_49 : decode cX5_instead 49 = .ok (.getfield 10, 3) := kX5_instead_31.2.1.2.2
theorem dX5_instead_52 : decode cX5_instead 52 = .ok (.getfield 57, 3) := kX5_instead_31.2.2.1.1
theorem dX5_instead_55 : decode cX5_instead 55 = .ok (.if_icmp .ge 45, 3) := kX5_instead_31.2.2.1.2
theorem dX5_instead_58 : decode cX5_instead 58 = .ok (.iload 6, 2) := kX5_instead_31.2.2.2.1
theorem dX5_instead_60 : decode cX5_instead 60 = .ok (.iload_n 1, 1) := kX5_instead_31.2.2.2.2
theorem kX5_instead_61 : (((((decode cX5_instead 61 = .ok (.if_icmp .ne 8, 3)) ∧ (decode cX5_instead 64 = .ok (.iload 5, 2))) ∧ ((decode cX5_instead 66 = .ok (.goto 11, 3)) ∧ (decode cX5_instead 69 = .ok (.aload_n 0, 1)))) ∧ (((decode cX5_instead 70 = .ok (.iload_n 1, 1)) ∧ (decode cX5_instead 71 = .ok (.iload 6, 2))) ∧ ((decode cX5_instead 73 = .ok (.iload_n 2, 1)) ∧ (decode cX5_instead 74 = .ok (.invokevirtual 179, 3))))) ∧ ((((decode cX5_instead 77 = .ok (.istore 7, 2)) ∧ (decode cX5_instead 79 = .ok (.iload 7, 2))) ∧ ((decode cX5_instead 81 = .ok (.iload 5, 2)) ∧ (decode cX5_instead 83 = .ok (.if_icmp .ge 11, 3)))) ∧ (((decode cX5_instead 86 = .ok (.iload 7, 2)) ∧ (decode cX5_instead 88 = .ok (.istore 5, 2))) ∧ ((decode cX5_instead 90 = .ok (.iload 6, 2)) ∧ (decode cX5_instead 92 = .ok (.istore 4, 2)))))) := by decide +kernel
theorem dX5_instead_61 : decode cX5_instead 61 = .ok (.if_icmp .ne 8, 3) := kX5_instead_61.1.1.1.1
theorem dX5_instead_64 : decode cX5_instead 64 = .ok (.iload 5, 2) := kX5_instead_61.1.1.1.2
theorem dX5_instead_66 : decode cX5_instead 66 = .ok (.goto 11, 3) := kX5_instead_61.1.1.2.1
theorem dX5_instead_69 : decode cX5_instead 69 = .ok (.aload_n 0, 1) := kX5_instead_61.1.1.2.2
theorem dX5_instead_70 : decode cX5_instead 70 = .ok (.iload_n 1, 1) := kX5_instead_61.1.2.1.1
theorem dX5_instead_71 : decode cX5_instead 71 = .ok (.iload 6, 2) := kX5_instead_61.1.2.1.2
theorem dX5_instead_73 : decode cX5_instead 73 = .ok (.iload_n 2, 1) := kX5_instead_61.1.2.2.1
theorem dX5_instead_74 : decode cX5_instead 74 = .ok (.invokevirtual 179, 3) := kX5_instead_61.1.2.2.2
theorem dX5_instead_77 : decode cX5_instead 77 = .ok (.istore 7, 2) := kX5_instead_61.2.1.1.1
theorem dX5_instead_79 : decode cX5_instead 79 = .ok (.iload 7, 2) := kX5_instead_61.2.1.1.2
theorem dX5_instead_81 : decode cX5_instead 81 = .ok (.iload 5, 2) := kX5_instead_61.2.1.2.1
theorem dX5_instead_83 : decode cX5_instead 83 = .ok (.if_icmp .ge 11, 3) := kX5_instead_61.2.1.2.2
theorem dX5_instead_86 : decode cX5_instead 86 = .ok (.iload 7, 2) := kX5_instead_61.2.2.1.1
theorem dX5_instead_88 : decode cX5_instead 88 = .ok (.istore 5, 2) := kX5_instead_61.2.2.1.2
theorem dX5_instead_90 : decode cX5_instead 90 = .ok (.iload 6, 2) := kX5_instead_61.2.2.2.1
theorem dX5_instead_92 : decode cX5_instead 92 = .ok (.istore 4, 2) := kX5_instead_61.2.2.2.2
theorem kX5_instead_94 : ((((decode cX5_instead 94 = .ok (.iinc 6 1, 3)) ∧ (decode cX5_instead 97 = .ok (.goto (-51), 3))) ∧ ((decode cX5_instead 100 = .ok (.iload_n 3, 1)) ∧ (decode cX5_instead 101 = .ok (.ifCond .ne 8, 3)))) ∧ (((decode cX5_instead 104 = .ok (.iload 4, 2)) ∧ (decode cX5_instead 106 = .ok (.goto 5, 3))) ∧ ((decode cX5_instead 109 = .ok (.iload 5, 2)) ∧ (decode cX5_instead 111 = .ok (.ireturn, 1))))) := by decide +kernel
theorem dX5_instead_94 : decode cX5_instead 94 = .ok (.iinc 6 1, 3) := kX5_instead_94.1.1.1
theorem dX5_instead_97 : decode cX5_instead 97 = .ok (.goto (-51), 3) := kX5_instead_94.1.1.2
theorem dX5_instead_100 : decode cX5_instead 100 = .ok (.iload_n 3, 1) := kX5_instead_94.1.2.1
theorem dX5_instead_101 : decode cX5_instead 101 = .ok (.ifCond .ne 8, 3) := kX5_instead_94.1.2.2
theorem dX5_instead_104 : decode cX5_instead 104 = .ok (.iload 4, 2) := kX5_instead_94.2.1.1
theorem dX5_instead_106 : decode cX5_instead 106 = .ok (.goto 5, 3) := kX5_instead_94.2.1.2
theorem dX5_instead_109 : decode cX5_instead 109 = .ok (.iload 5, 2) := kX5_instead_94.2.2.1
theorem dX5_instead_111 : decode cX5_instead 111 = .ok (.ireturn, 1) := kX5_instead_94.2.2.2
set_option maxRecDepth 20000 in
theorem ggX5_needs_X2_has : GoodIn wsX5_needs wsX2_has := goodIn_r _ [6, 7, 93, 94, 95, 96, 97, 98, 99] rfl (by decide +kernel)
set_option maxRecDepth 20000 in
theorem gX5_needs_X2_has_n68 : GoodIn wsX5_needs (wsX2_has) := ggX5_needs_X2_has
set_option maxRecDepth 20000 in
theorem ggX5_needs_X5_isAdvised : GoodIn wsX5_needs wsX5_isAdvised := goodIn_r _ [11] rfl (by decide +kernel)
set_option maxRecDepth 20000 in
theorem gX5_needs_X5_isAdvised : GoodIn wsX5_needs (va_wsS RX5 171 yX5_isAdvised wsX5_isAdvised) := goodIn_app (goodIn_of _ (by decide +kernel)) ggX5_needs_X5_isAdvised
set_option maxRecDepth 20000 in
theorem ggX5_needs_X2_become : GoodIn wsX5_needs wsX2_become := goodIn_r _ [14, 7, 15, 16, 17, 18, 19, 20, 93, 94, 95, 96, 97, 98, 99] rfl (by decide +kernel)
set_option maxRecDepth 20000 in
theorem gX5_needs_X2_become_n115 : GoodIn wsX5_needs (wsX2_become) := ggX5_needs_X2_become
set_option maxRecDepth 20000 in
theorem ggX5_needs_X2_passUntilStopped : GoodIn wsX5_needs wsX2_passUntilStopped := goodIn_r _ [23, 24, 25, 26, 4, 27, 7, 28, 29, 30, 31, 18, 32, 33, 34, 35, 36, 37, 38, 39, 15, 40, 41, 42, 43, 19, 44, 3, 5, 6, 45, 46, 47, 48, 20, 49, 50, 51, 52, 53, 54, 55, 56, 57, 58, 59, 60, 61, 62, 63, 64, 65, 66, 67, 17, 68, 69, 70, 71, 72, 73, 74, 75, 76, 77, 78, 79, 80, 81, 82, 83, 93, 94, 95, 96, 97, 98, 99] rfl (by decide +kernel)
set_option maxRecDepth 20000 in
theorem gX5_needs_X2_passUntilStopped_n159 : GoodIn wsX5_needs (wsX2_passUntilStopped) := ggX5_needs_X2_passUntilStopped
theorem kX5_needs_0 : (((((decode cX5_needs 0 = .ok (.aload_n 0, 1)) ∧ (decode cX5_needs 1 = .ok (.getfield 10, 3))) ∧ ((decode cX5_needs 4 = .ok (.iload_n 1, 1)) ∧ (decode cX5_needs 5 = .ok (.invokevirtual 68, 3)))) ∧ (((decode cX5_needs 8 = .ok (.ifCond .eq 10, 3)) ∧ (decode cX5_needs 11 = .ok (.iload_n 2, 1))) ∧ ((decode cX5_needs 12 = .ok (.invokestatic 171, 3)) ∧ (decode cX5_needs 15 = .ok (.ifCond .ne 5, 3))))) ∧ ((((decode cX5_needs 18 = .ok (.iconst (-1), 1)) ∧ (decode cX5_needs 19 = .ok (.ireturn, 1))) ∧ ((decode cX5_needs 20 = .ok (.iconst 0, 1)) ∧ (decode cX5_needs 21 = .ok (.istore_n 3, 1)))) ∧ (((decode cX5_needs 22 = .ok (.iload_n 3, 1)) ∧ (decode cX5_needs 23 = .ok (.bipush 30, 2))) ∧ ((decode cX5_needs 25 = .ok (.if_icmp .gt 48, 3)) ∧ (decode cX5_needs 28 = .ok (.aload_n 0, 1)))))) := by decide +kernel
theorem dX5_needs_0 : decode cX5_needs 0 = .ok (.aload_n 0, 1) := kX5_needs_0.1.1.1.1
theorem dX5_needs_1 : decode cX5_needs 1 = .ok (.getfield 10, 3) := kX5_needs_0.1.1.1.2
theorem dX5_needs_4 : decode cX5_needs 4 = .ok (.iload_n 1, 1) := kX5_needs_0.1.1.2.1
theorem dX5_needs_5 : decode cX5_needs 5 = .ok (.invokevirtual 68, 3) := kX5_needs_0.1.1.2.2
theorem dX5_needs_8 : decode cX5_needs 8 = .ok (.ifCond .eq 10, 3) := kX5_needs_0.1.2.1.1
theorem dX5_needs_11 : decode cX5_needs 11 = .ok (.iload_n 2, 1) := kX5_needs_0.1.2.1.2
theorem dX5_needs_12 : decode cX5_needs 12 = .ok (.invokestatic 171, 3) := kX5_needs_0.1.2.2.1
theorem dX5_needs_15 : decode cX5_needs 15 = .ok (.ifCond .ne 5, 3) := kX5_needs_0.1.2.2.2
theorem dX5_needs_18 : decode cX5_needs 18 = .ok (.iconst (-1), 1) := kX5_needs_0.2.1.1.1
theorem dX5_needs_19 : decode cX5_needs 19 = .ok (.ireturn, 1) := kX5_needs_0.2.1.1.2
theorem dX5_needs_20 : decode cX5_needs 20 = .ok (.iconst 0, 1) := kX5_needs_0.2.1.2.1
theorem dX5_needs_21 : decode cX5_needs 21 = .ok (.istore_n 3, 1) := kX5_needs_0.2.1.2.2
theorem dX5_needs_22 : decode cX5_needs 22 = .ok (.iload_n 3, 1) := kX5_needs_0.2.2.1.1
theorem dX5_needs_23 : decode cX5_needs 23 = .ok (.bipush 30, 2) := kX5_needs_0.2.2.1.2
theorem dX5_needs_25 : decode cX5_needs 25 = .ok (.if_icmp .gt 48, 3) := kX5_needs_0.2.2.2.1
theorem dX5_needs_28 : decode cX5_needs 28 = .ok (.aload_n 0, 1) := kX5_needs_0.2.2.2.2
theorem kX5_needs_29 : (((((decode cX5_needs 29 = .ok (.getfield 33, 3)) ∧ (decode cX5_needs 32 = .ok (.aload_n 0, 1))) ∧ ((decode cX5_needs 33 = .ok (.getfield 10, 3)) ∧ (decode cX5_needs 36 = .ok (.invokevirtual 115, 3)))) ∧ (((decode cX5_needs 39 = .ok (.aload_n 0, 1)) ∧ (decode cX5_needs 40 = .ok (.getfield 33, 3))) ∧ ((decode cX5_needs 43 = .ok (.getfield 76, 3)) ∧ (decode cX5_needs 46 = .ok (.iload_n 1, 1))))) ∧ ((((decode cX5_needs 47 = .ok (.iload_n 3, 1)) ∧ (decode cX5_needs 48 = .ok (.iastore, 1))) ∧ ((decode cX5_needs 49 = .ok (.aload_n 0, 1)) ∧ (decode cX5_needs 50 = .ok (.getfield 33, 3)))) ∧ (((decode cX5_needs 53 = .ok (.iconst 1, 1)) ∧ (decode cX5_needs 54 = .ok (.iload_n 1, 1))) ∧ ((decode cX5_needs 55 = .ok (.ishl, 1)) ∧ (decode cX5_needs 56 = .ok (.iload_n 2, 1)))))) := by decide +kernel
theorem dX5_needs_29 : decode cX5_needs 29 = .ok (.getfield 33, 3) := kX5_needs_29.1.1.1.1
theorem dX5_needs_32 : decode cX5_needs 32 = .ok (.aload_n 0, 1) := kX5_needs_29.1.1.1.2
theorem dX5_needs_33 : decode cX5_needs 33 = .ok (.getfield 10, 3) := kX5_needs_29.1.1.2.1
theorem dX5_needs_36 : decode cX5_needs 36 = .ok (.invokevirtual 115, 3) := kX5_needs_29.1.1.2.2
theorem dX5_needs_39 : decode cX5_needs 39 = .ok (.aload_n 0, 1) := kX5_needs_29.1.2.1.1
theorem dX5_needs_40 : decode cX5_needs 40 = .ok (.getfield 33, 3) := kX5_needs_29.1.2.1.2
theorem dX5_needs_43 : decode cX5_needs 43 = .ok (.getfield 76, 3) := kX5_needs_29.1.2.2.1
theorem dX5_needs_46 : decode cX5_needs 46 = .ok (.iload_n 1, 1) := kX5_needs_29.1.2.2.2
theorem dX5_needs_47 : decode cX5_needs 47 = .ok (.iload_n 3, 1) := kX5_needs_29.2.1.1.1
theorem dX5_needs_48 : decode cX5_needs 48 = .ok (.iastore, 1) := kX5_needs_29.2.1.1.2
theorem dX5_needs_49 : decode cX5_needs 49 = .ok (.aload_n 0, 1) := kX5_needs_29.2.1.2.1
theorem dX5_needs_50 : decode cX5_needs 50 = .ok (.getfield 33, 3) := kX5_needs_29.2.1.2.2
theorem dX5_needs_53 : decode cX5_needs 53 = .ok (.iconst 1, 1) := kX5_needs_29.2.2.1.1
theorem dX5_needs_54 : decode cX5_needs 54 = .ok (.iload_n 1, 1) := kX5_needs_29.2.2.1.2
theorem dX5_needs_55 : decode cX5_needs 55 = .ok (.ishl, 1) := kX5_needs_29.2.2.2.1
theorem dX5_needs_56 : decode cX5_needs 56 = .ok (.iload_n 2, 1) := kX5_needs_29.2.2.2.2
theorem kX5_needs_57 : (((((decode cX5_needs 57 = .ok (.invokevirtual 159, 3)) ∧ (decode cX5_needs 60 = .ok (.bipush (-4), 2))) ∧ (decode cX5_needs 62 = .ok (.if_icmp .ne 5, 3))) ∧ ((decode cX5_needs 65 = .ok (.iload_n 3, 1)) ∧ (decode cX5_needs 66 = .ok (.ireturn, 1)))) ∧ (((decode cX5_needs 67 = .ok (.iinc 3 1, 3)) ∧ (decode cX5_needs 70 = .ok (.goto (-48), 3))) ∧ ((decode cX5_needs 73 = .ok (.bipush (-4), 2)) ∧ (decode cX5_needs 75 = .ok (.ireturn, 1))))) := by decide +kernel
theorem dX5_needs_57 : decode cX5_needs 57 = .ok (.invokevirtual 159, 3) := kX5_needs_57.1.1.1.1
theorem dX5_needs_60 : decode cX5_needs 60 = .ok (.bipush (-4), 2) := kX5_needs_57.1.1.1.2
theorem dX5_needs_62 : decode cX5_needs 62 = .ok (.if_icmp .ne 5, 3) := kX5_needs_57.1.1.2
theorem dX5_needs_65 : decode cX5_needs 65 = .ok (.iload_n 3, 1) := kX5_needs_57.1.2.1
theorem dX5_needs_66 : decode cX5_needs 66 = .ok (.ireturn, 1) := kX5_needs_57.1.2.2
theorem dX5_needs_67 : decode cX5_needs 67 = .ok (.iinc 3 1, 3) := kX5_needs_57.2.1.1
theorem dX5_needs_70 : decode cX5_needs 70 = .ok (.goto (-48), 3) := kX5_needs_57.2.1.2
theorem dX5_needs_73 : decode cX5_needs 73 = .ok (.bipush (-4), 2) := kX5_needs_57.2.2.1
theorem dX5_needs_75 : decode cX5_needs 75 = .ok (.ireturn, 1) := kX5_needs_57.2.2.2
set_option maxRecDepth 20000 in
theorem ggX5_match_X2_has : GoodIn wsX5_match wsX2_has := goodIn_r _ [6, 7, 31, 32, 33, 34, 35, 36, 37] rfl (by decide +kernel)
set_option maxRecDepth 20000 in
theorem gX5_match_X2_has_n68 : GoodIn wsX5_match (wsX2_has) := ggX5_match_X2_has
set_option maxRecDepth 20000 in
theorem ggX5_match_X0_find : GoodIn wsX5_match wsX0_find := goodIn_r _ [11, 12, 13, 14, 9, 15, 16, 17, 18, 19, 20, 21, 38, 39, 40, 31, 32, 33, 34, 35, 36, 37] rfl (by decide +kernel)
set_option maxRecDepth 20000 in
theorem gX5_match_X0_find_n183 : GoodIn wsX5_match (wsX0_find) := ggX5_match_X0_find
theorem kX5_match_0 : (((((decode cX5_match 0 = .ok (.aload_n 0, 1)) ∧ (decode cX5_match 1 = .ok (.getfield 10, 3))) ∧ ((decode cX5_match 4 = .ok (.getfield 57, 3)) ∧ (decode cX5_match 7 = .ok (.iconst 2, 1)))) ∧ (((decode cX5_match 8 = .ok (.if_icmp .ge 6, 3)) ∧ (decode cX5_match 11 = .ok (.bipush (-4), 2))) ∧ ((decode cX5_match 13 = .ok (.ireturn, 1)) ∧ (decode cX5_match 14 = .ok (.iload_n 1, 1))))) ∧ ((((decode cX5_match 15 = .ok (.iconst (-1), 1)) ∧ (decode cX5_match 16 = .ok (.if_icmp .eq 16, 3))) ∧ ((decode cX5_match 19 = .ok (.aload_n 0, 1)) ∧ (decode cX5_match 20 = .ok (.getfield 10, 3)))) ∧ (((decode cX5_match 23 = .ok (.iload_n 1, 1)) ∧ (decode cX5_match 24 = .ok (.invokevirtual 68, 3))) ∧ ((decode cX5_match 27 = .ok (.ifCond .ne 5, 3)) ∧ (decode cX5_match 30 = .ok (.iconst (-1), 1)))))) := by decide +kernel
theorem dX5_match_0 : decode cX5_match 0 = .ok (.aload_n 0, 1) := kX5_match_0.1.1.1.1
theorem dX5_match_1 : decode cX5_match 1 = .ok (.getfield 10, 3) := kX5_match_0.1.1.1.2
theorem dX5_match_4 : decode cX5_match 4 = .ok (.getfield 57, 3) := kX5_match_0.1.1.2.1
theorem dX5_match_7 : decode cX5_match 7 = .ok (.iconst 2, 1) := kX5_match_0.1.1.2.2
theorem dX5_match_8 : decode cX5_match 8 = .ok (.if_icmp .ge 6, 3) := kX5_match_0.1.2.1.1
theorem dX5_match_11 : decode cX5_match 11 = .ok (.bipush (-4), 2) := kX5_match_0.1.2.1.2
theorem dX5_match_13 : decode cX5_match 13 = .ok (.ireturn, 1) := kX5_match_0.1.2.2.1
theorem dX5_match_14 : decode cX5_match 14 = .ok (.iload_n 1, 1) := kX5_match_0.1.2.2.2
theorem dX5_match_15 : decode cX5_match 15 = .ok (.iconst (-1), 1) := kX5_match_0.2.1.1.1
theorem dX5_match_16 : decode cX5_match 16 = .ok (.if_icmp .eq 16, 3) := kX5_match_0.2.1.1.2
theorem dX5_match_19 : decode cX5_match 19 = .ok (.aload_n 0, 1) := kX5_match_0.2.1.2.1
theorem dX5_match_20 : decode cX5_match 20 = .ok (.getfield 10, 3) := kX5_match_0.2.1.2.2
theorem dX5_match_23 : decode cX5_match 23 = .ok (.iload_n 1, 1) := kX5_match_0.2.2.1.1
theorem dX5_match_24 : decode cX5_match 24 = .ok (.invokevirtual 68, 3) := kX5_match_0.2.2.1.2
theorem dX5_match_27 : decode cX5_match 27 = .ok (.ifCond .ne 5, 3) := kX5_match_0.2.2.2.1
theorem dX5_match_30 : decode cX5_match 30 = .ok (.iconst (-1), 1) := kX5_match_0.2.2.2.2
theorem kX5_match_31 : (((((decode cX5_match 31 = .ok (.ireturn, 1)) ∧ (decode cX5_match 32 = .ok (.aload_n 0, 1))) ∧ ((decode cX5_match 33 = .ok (.getfield 46, 3)) ∧ (decode cX5_match 36 = .ok (.aload_n 0, 1)))) ∧ (((decode cX5_match 37 = .ok (.getfield 10, 3)) ∧ (decode cX5_match 40 = .ok (.invokevirtual 183, 3))) ∧ ((decode cX5_match 43 = .ok (.iload_n 1, 1)) ∧ (decode cX5_match 44 = .ok (.iconst (-1), 1))))) ∧ ((((decode cX5_match 45 = .ok (.if_icmp .ne 13, 3)) ∧ (decode cX5_match 48 = .ok (.aload_n 0, 1))) ∧ ((decode cX5_match 49 = .ok (.getfield 46, 3)) ∧ (decode cX5_match 52 = .ok (.getfield 186, 3)))) ∧ (((decode cX5_match 55 = .ok (.goto 12, 3)) ∧ (decode cX5_match 58 = .ok (.aload_n 0, 1))) ∧ ((decode cX5_match 59 = .ok (.getfield 46, 3)) ∧ (decode cX5_match 62 = .ok (.getfield 189, 3)))))) := by decide +kernel
theorem dX5_match_31 : decode cX5_match 31 = .ok (.ireturn, 1) := kX5_match_31.1.1.1.1
theorem dX5_match_32 : decode cX5_match 32 = .ok (.aload_n 0, 1) := kX5_match_31.1.1.1.2
theorem dX5_match_33 : decode cX5_match 33 = .ok (.getfield 46, 3) := kX5_match_31.1.1.2.1
theorem dX5_match_36 : decode cX5_match 36 = .ok (.aload_n 0, 1) := kX5_match_31.1.1.2.2
theorem dX5_match_37 : decode cX5_match 37 = .ok (.getfield 10, 3) := kX5_match_31.1.2.1.1
theorem dX5_match_40 : decode cX5_match 40 = .ok (.invokevirtual 183, 3) := kX5_match_31.1.2.1.2
theorem dX5_match_43 : decode cX5_match 43 = .ok (.iload_n 1, 1) := kX5_match_31.1.2.2.1
theorem dX5_match_44 : decode cX5_match 44 = .ok (.iconst (-1), 1) := kX5_match_31.1.2.2.2
theorem dX5_match_45 : decode cX5_match 45 = .ok (.if_icmp .ne 13, 3) := kX5_match_31.2.1.1.1
theorem dX5_match_48 : decode cX5_match 48 = .ok (.aload_n 0, 1) := kX5_match_31.2.1.1.2
theorem dX5_match_49 : decode cX5_match 49 = .ok (.getfield 46, 3) := kX5_match_31.2.1.2.1
theorem dX5_match_52 : decode cX5_match 52 = .ok (.getfield 186, 3) := kX5_match_31.2.1.2.2
theorem dX5_match_55 : decode cX5_match 55 = .ok (.goto 12, 3) := kX5_match_31.2.2.1.1
theorem dX5_match_58 : decode cX5_match 58 = .ok (.aload_n 0, 1) := kX5_match_31.2.2.1.2
theorem dX5_match_59 : decode cX5_match 59 = .ok (.getfield 46, 3) := kX5_match_31.2.2.2.1
theorem dX5_match_62 : decode cX5_match 62 = .ok (.getfield 189, 3) := kX5_match_31.2.2.2.2
theorem kX5_match_65 : (((decode cX5_match 65 = .ok (.iload_n 1, 1)) ∧ (decode cX5_match 66 = .ok (.iaload, 1))) ∧ (decode cX5_match 67 = .ok (.ireturn, 1))) := by decide +kernel
theorem dX5_match_65 : decode cX5_match 65 = .ok (.iload_n 1, 1) := kX5_match_65.1.1
theorem dX5_match_66 : decode cX5_match 66 = .ok (.iaload, 1) := kX5_match_65.1.2
theorem dX5_match_67 : decode cX5_match 67 = .ok (.ireturn, 1) := kX5_match_65.2
set_option maxRecDepth 20000 in
theorem ggX5_again_X2_become : GoodIn wsX5_again wsX2_become := goodIn_r _ [6, 7, 8, 9, 10, 11, 12, 13, 92, 93, 94, 95, 96, 97, 98] rfl (by decide +kernel)
set_option maxRecDepth 20000 in
theorem gX5_again_X2_become_n115 : GoodIn wsX5_again (wsX2_become) := ggX5_again_X2_become
set_option maxRecDepth 20000 in
theorem ggX5_again_X2_passHours : GoodIn wsX5_again wsX2_passHours := goodIn_r _ [16, 17, 18, 19, 4, 20, 21, 22, 23, 24, 8, 25, 26, 27, 28, 7, 12, 29, 30, 31, 32, 11, 33, 34, 35, 36, 37, 38, 39, 40, 13, 41, 42, 43, 44, 45, 46, 47, 48, 49, 50, 51, 52, 53, 54, 55, 56, 57, 58, 59, 60, 61, 62, 63, 10, 64, 65, 66, 67, 68, 69, 70, 71, 72, 73, 74, 75, 76, 77, 78, 79, 92, 93, 94, 95, 96, 97, 98] rfl (by decide +kernel)
set_option maxRecDepth 20000 in
theorem gX5_again_X2_passHours_n155 : GoodIn wsX5_again (wsX2_passHours) := ggX5_again_X2_passHours
set_option maxRecDepth 20000 in
theorem ggX5_again_X2_hasTurnsOf : GoodIn wsX5_again wsX2_hasTurnsOf := goodIn_r _ [82, 7, 11, 92, 93, 94, 95, 96, 97, 98] rfl (by decide +kernel)
set_option maxRecDepth 20000 in
theorem gX5_again_X2_hasTurnsOf_n192 : GoodIn wsX5_again (wsX2_hasTurnsOf) := ggX5_again_X2_hasTurnsOf
theorem kX5_again_0 : (((((decode cX5_again 0 = .ok (.aload_n 0, 1)) ∧ (decode cX5_again 1 = .ok (.getfield 33, 3))) ∧ ((decode cX5_again 4 = .ok (.aload_n 0, 1)) ∧ (decode cX5_again 5 = .ok (.getfield 10, 3)))) ∧ (((decode cX5_again 8 = .ok (.invokevirtual 115, 3)) ∧ (decode cX5_again 11 = .ok (.iconst 1, 1))) ∧ ((decode cX5_again 12 = .ok (.istore_n 1, 1)) ∧ (decode cX5_again 13 = .ok (.iload_n 1, 1))))) ∧ ((((decode cX5_again 14 = .ok (.bipush 10, 2)) ∧ (decode cX5_again 16 = .ok (.if_icmp .gt 37, 3))) ∧ ((decode cX5_again 19 = .ok (.aload_n 0, 1)) ∧ (decode cX5_again 20 = .ok (.getfield 33, 3)))) ∧ (((decode cX5_again 23 = .ok (.bipush 24, 2)) ∧ (decode cX5_again 25 = .ok (.invokevirtual 155, 3))) ∧ ((decode cX5_again 28 = .ok (.aload_n 0, 1)) ∧ (decode cX5_again 29 = .ok (.getfield 33, 3)))))) := by decide +kernel
theorem dX5_again_0 : decode cX5_again 0 = .ok (.aload_n 0, 1) := kX5_again_0.1.1.1.1
theorem dX5_again_1 : decode cX5_again 1 = .ok (.getfield 33, 3) := kX5_again_0.1.1.1.2
theorem dX5_again_4 : decode cX5_again 4 = .ok (.aload_n 0, 1) := kX5_again_0.1.1.2.1
theorem dX5_again_5 : decode cX5_again 5 = .ok (.getfield 10, 3) := kX5_again_0.1.1.2.2
theorem dX5_again_8 : decode cX5_again 8 = .ok (.invokevirtual 115, 3) := kX5_again_0.1.2.1.1
theorem dX5_again_11 : decode cX5_again 11 = .ok (.iconst 1, 1) := kX5_again_0.1.2.1.2
theorem dX5_again_12 : decode cX5_again 12 = .ok (.istore_n 1, 1) := kX5_again_0.1.2.2.1
theorem dX5_again_13 : decode cX5_again 13 = .ok (.iload_n 1, 1) := kX5_again_0.1.2.2.2
theorem dX5_again_14 : decode cX5_again 14 = .ok (.bipush 10, 2) := kX5_again_0.2.1.1.1
theorem dX5_again_16 : decode cX5_again 16 = .ok (.if_icmp .gt 37, 3) := kX5_again_0.2.1.1.2
theorem dX5_again_19 : decode cX5_again 19 = .ok (.aload_n 0, 1) := kX5_again_0.2.1.2.1
theorem dX5_again_20 : decode cX5_again 20 = .ok (.getfield 33, 3) := kX5_again_0.2.1.2.2
theorem dX5_again_23 : decode cX5_again 23 = .ok (.bipush 24, 2) := kX5_again_0.2.2.1.1
theorem dX5_again_25 : decode cX5_again 25 = .ok (.invokevirtual 155, 3) := kX5_again_0.2.2.1.2
theorem dX5_again_28 : decode cX5_again 28 = .ok (.aload_n 0, 1) := kX5_again_0.2.2.2.1
theorem dX5_again_29 : decode cX5_again 29 = .ok (.getfield 33, 3) := kX5_again_0.2.2.2.2
theorem kX5_again_32 : (((((decode cX5_again 32 = .ok (.aload_n 0, 1)) ∧ (decode cX5_again 33 = .ok (.getfield 10, 3))) ∧ (decode cX5_again 36 = .ok (.invokevirtual 192, 3))) ∧ (((decode cX5_again 39 = .ok (.ifCond .eq 8, 3)) ∧ (decode cX5_again 42 = .ok (.iload_n 1, 1))) ∧ (decode cX5_again 43 = .ok (.bipush 24, 2)))) ∧ ((((decode cX5_again 45 = .ok (.imul, 1)) ∧ (decode cX5_again 46 = .ok (.ireturn, 1))) ∧ (decode cX5_again 47 = .ok (.iinc 1 1, 3))) ∧ (((decode cX5_again 50 = .ok (.goto (-37), 3)) ∧ (decode cX5_again 53 = .ok (.bipush (-4), 2))) ∧ (decode cX5_again 55 = .ok (.ireturn, 1))))) := by decide +kernel
theorem dX5_again_32 : decode cX5_again 32 = .ok (.aload_n 0, 1) := kX5_again_32.1.1.1.1
theorem dX5_again_33 : decode cX5_again 33 = .ok (.getfield 10, 3) := kX5_again_32.1.1.1.2
theorem dX5_again_36 : decode cX5_again 36 = .ok (.invokevirtual 192, 3) := kX5_again_32.1.1.2
theorem dX5_again_39 : decode cX5_again 39 = .ok (.ifCond .eq 8, 3) := kX5_again_32.1.2.1.1
theorem dX5_again_42 : decode cX5_again 42 = .ok (.iload_n 1, 1) := kX5_again_32.1.2.1.2
theorem dX5_again_43 : decode cX5_again 43 = .ok (.bipush 24, 2) := kX5_again_32.1.2.2
theorem dX5_again_45 : decode cX5_again 45 = .ok (.imul, 1) := kX5_again_32.2.1.1.1
theorem dX5_again_46 : decode cX5_again 46 = .ok (.ireturn, 1) := kX5_again_32.2.1.1.2
theorem dX5_again_47 : decode cX5_again 47 = .ok (.iinc 1 1, 3) := kX5_again_32.2.1.2
theorem dX5_again_50 : decode cX5_again 50 = .ok (.goto (-37), 3) := kX5_again_32.2.2.1.1
theorem dX5_again_53 : decode cX5_again 53 = .ok (.bipush (-4), 2) := kX5_again_32.2.2.1.2
theorem dX5_again_55 : decode cX5_again 55 = .ok (.ireturn, 1) := kX5_again_32.2.2.2
set_option maxRecDepth 20000 in
theorem ggX5_forget_X2_has : GoodIn wsX5_forget wsX2_has := goodIn_r _ [10, 11, 96, 97, 98, 99, 100, 101, 102] rfl (by decide +kernel)
set_option maxRecDepth 20000 in
theorem gX5_forget_X2_has_n68 : GoodIn wsX5_forget (wsX2_has) := ggX5_forget_X2_has
set_option maxRecDepth 20000 in
theorem ggX5_forget_X2_isWindingHour : GoodIn wsX5_forget wsX2_isWindingHour := goodIn_r _ [14, 15, 96, 97, 98, 99, 100, 101, 102] rfl (by decide +kernel)
set_option maxRecDepth 20000 in
theorem gX5_forget_X2_isWindingHour_n131 : GoodIn wsX5_forget (wsX2_isWindingHour) := ggX5_forget_X2_isWindingHour
set_option maxRecDepth 20000 in
theorem ggX5_forget_X2_winders : GoodIn wsX5_forget wsX2_winders := goodIn_r _ [18, 11, 19, 20, 21, 22, 8, 23, 24, 25, 7, 9, 10, 96, 97, 98, 99, 100, 101, 102] rfl (by decide +kernel)
set_option maxRecDepth 20000 in
theorem gX5_forget_X2_winders_n195 : GoodIn wsX5_forget (wsX2_winders) := ggX5_forget_X2_winders
set_option maxRecDepth 20000 in
theorem ggX5_forget_X2_become : GoodIn wsX5_forget wsX2_become := goodIn_r _ [28, 11, 15, 29, 30, 24, 19, 31, 96, 97, 98, 99, 100, 101, 102] rfl (by decide +kernel)
set_option maxRecDepth 20000 in
theorem gX5_forget_X2_become_n115 : GoodIn wsX5_forget (wsX2_become) := ggX5_forget_X2_become
set_option maxRecDepth 20000 in
theorem ggX5_forget_X2_wind : GoodIn wsX5_forget wsX2_wind := goodIn_r _ [34, 11, 19, 31, 25, 7, 9, 8, 10, 35, 36, 37, 38, 24, 39, 40, 5, 41, 96, 97, 98, 99, 100, 101, 102] rfl (by decide +kernel)
set_option maxRecDepth 20000 in
theorem gX5_forget_X2_wind_n198 : GoodIn wsX5_forget (wsX2_wind) := ggX5_forget_X2_wind
set_option maxRecDepth 20000 in
theorem ggX5_forget_X2_run : GoodIn wsX5_forget wsX2_run := goodIn_r _ [44, 11, 24, 45, 4, 5, 6, 15, 46, 47, 48, 8, 49, 20, 21, 22, 23, 50, 51, 52, 53, 30, 54, 55, 56, 57, 58, 59, 60, 61, 62, 63, 64, 65, 19, 66, 67, 68, 69, 96, 97, 98, 99, 100, 101, 102] rfl (by decide +kernel)
set_option maxRecDepth 20000 in
theorem gX5_forget_X2_run_n201 : GoodIn wsX5_forget (wsX2_run) := ggX5_forget_X2_run
set_option maxRecDepth 20000 in
theorem ggX5_forget_X2_isStopped : GoodIn wsX5_forget wsX2_isStopped := goodIn_r _ [23, 24, 96, 97, 98, 99, 100, 101, 102] rfl (by decide +kernel)
set_option maxRecDepth 20000 in
theorem gX5_forget_X2_isStopped_n204 : GoodIn wsX5_forget (wsX2_isStopped) := ggX5_forget_X2_isStopped
set_option maxRecDepth 20000 in
theorem ggX5_forget_X5_waysToForget : GoodIn wsX5_forget wsX5_waysToForget := goodIn_r _ [73, 74, 75, 76, 77, 78, 79, 80, 81, 82, 72, 83] rfl (by decide +kernel)
set_option maxRecDepth 20000 in
theorem gX5_forget_X5_waysToForget : GoodIn wsX5_forget (va_wsS RX5 207 yX5_waysToForget wsX5_waysToForget) := goodIn_app (goodIn_of _ (by decide +kernel)) ggX5_forget_X5_waysToForget
set_option maxRecDepth 20000 in
theorem ggX5_forget_J6_bitCount_0f7a4 : GoodIn wsX5_forget wsJ6_bitCount_0f7a4 := goodIn_r _ [77, 78, 79, 80] rfl (by decide +kernel)
set_option maxRecDepth 20000 in
theorem gX5_forget_J6_bitCount_0f7a4 : GoodIn wsX5_forget (va_wsS RX5 174 yJ6_bitCount_0f7a4 wsJ6_bitCount_0f7a4) := goodIn_app (goodIn_of _ (by decide +kernel)) ggX5_forget_J6_bitCount_0f7a4
set_option maxRecDepth 20000 in
theorem ggX5_forget_X5_power : GoodIn wsX5_forget wsX5_power := goodIn_r _ [83] rfl (by decide +kernel)
set_option maxRecDepth 20000 in
theorem gX5_forget_X5_power : GoodIn wsX5_forget (va_wsS RX5 210 yX5_power wsX5_power) := goodIn_app (goodIn_of _ (by decide +kernel)) ggX5_forget_X5_power
set_option maxRecDepth 20000 in
theorem ggX5_forget_X5_greatestDivisor : GoodIn wsX5_forget wsX5_greatestDivisor := goodIn_r _ [86] rfl (by decide +kernel)
set_option maxRecDepth 20000 in
theorem gX5_forget_X5_greatestDivisor : GoodIn wsX5_forget (va_wsS RX5 213 yX5_greatestDivisor wsX5_greatestDivisor) := goodIn_app (goodIn_of _ (by decide +kernel)) ggX5_forget_X5_greatestDivisor
theorem kX5_forget_0 : (((((decode cX5_forget 0 = .ok (.aload_n 0, 1)) ∧ (decode cX5_forget 1 = .ok (.getfield 10, 3))) ∧ ((decode cX5_forget 4 = .ok (.iload_n 1, 1)) ∧ (decode cX5_forget 5 = .ok (.invokevirtual 68, 3)))) ∧ (((decode cX5_forget 8 = .ok (.ifCond .eq 22, 3)) ∧ (decode cX5_forget 11 = .ok (.iload_n 2, 1))) ∧ ((decode cX5_forget 12 = .ok (.ifCond .lt 18, 3)) ∧ (decode cX5_forget 15 = .ok (.iload_n 2, 1))))) ∧ ((((decode cX5_forget 16 = .ok (.bipush 10, 2)) ∧ (decode cX5_forget 18 = .ok (.if_icmp .gt 12, 3))) ∧ ((decode cX5_forget 21 = .ok (.iload_n 3, 1)) ∧ (decode cX5_forget 22 = .ok (.ifCond .lt 8, 3)))) ∧ (((decode cX5_forget 25 = .ok (.iload_n 3, 1)) ∧ (decode cX5_forget 26 = .ok (.iconst 1, 1))) ∧ ((decode cX5_forget 27 = .ok (.if_icmp .le 5, 3)) ∧ (decode cX5_forget 30 = .ok (.iconst (-1), 1)))))) := by decide +kernel
theorem dX5_forget_0 : decode cX5_forget 0 = .ok (.aload_n 0, 1) := kX5_forget_0.1.1.1.1
theorem dX5_forget_1 : decode cX5_forget 1 = .ok (.getfield 10, 3) := kX5_forget_0.1.1.1.2
theorem dX5_forget_4 : decode cX5_forget 4 = .ok (.iload_n 1, 1) := kX5_forget_0.1.1.2.1
theorem dX5_forget_5 : decode cX5_forget 5 = .ok (.invokevirtual 68, 3) := kX5_forget_0.1.1.2.2
theorem dX5_forget_8 : decode cX5_forget 8 = .ok (.ifCond .eq 22, 3) := kX5_forget_0.1.2.1.1
theorem dX5_forget_11 : decode cX5_forget 11 = .ok (.iload_n 2, 1) := kX5_forget_0.1.2.1.2
theorem dX5_forget_12 : decode cX5_forget 12 = .ok (.ifCond .lt 18, 3) := kX5_forget_0.1.2.2.1
theorem dX5_forget_15 : decode cX5_forget 15 = .ok (.iload_n 2, 1) := kX5_forget_0.1.2.2.2
theorem dX5_forget_16 : decode cX5_forget 16 = .ok (.bipush 10, 2) := kX5_forget_0.2.1.1.1
theorem dX5_forget_18 : decode cX5_forget 18 = .ok (.if_icmp .gt 12, 3) := kX5_forget_0.2.1.1.2
theorem dX5_forget_21 : decode cX5_forget 21 = .ok (.iload_n 3, 1) := kX5_forget_0.2.1.2.1
theorem dX5_forget_22 : decode cX5_forget 22 = .ok (.ifCond .lt 8, 3) := kX5_forget_0.2.1.2.2
theorem dX5_forget_25 : decode cX5_forget 25 = .ok (.iload_n 3, 1) := kX5_forget_0.2.2.1.1
theorem dX5_forget_26 : decode cX5_forget 26 = .ok (.iconst 1, 1) := kX5_forget_0.2.2.1.2
theorem dX5_forget_27 : decode cX5_forget 27 = .ok (.if_icmp .le 5, 3) := kX5_forget_0.2.2.2.1
theorem dX5_forget_30 : decode cX5_forget 30 = .ok (.iconst (-1), 1) := kX5_forget_0.2.2.2.2
theorem kX5_forget_31 : (((((decode cX5_forget 31 = .ok (.ireturn, 1)) ∧ (decode cX5_forget 32 = .ok (.aload_n 0, 1))) ∧ ((decode cX5_forget 33 = .ok (.getfield 10, 3)) ∧ (decode cX5_forget 36 = .ok (.invokevirtual 131, 3)))) ∧ (((decode cX5_forget 39 = .ok (.ifCond .eq 13, 3)) ∧ (decode cX5_forget 42 = .ok (.aload_n 0, 1))) ∧ ((decode cX5_forget 43 = .ok (.getfield 10, 3)) ∧ (decode cX5_forget 46 = .ok (.invokevirtual 195, 3))))) ∧ ((((decode cX5_forget 49 = .ok (.goto 4, 3)) ∧ (decode cX5_forget 52 = .ok (.iconst 0, 1))) ∧ ((decode cX5_forget 53 = .ok (.istore 4, 2)) ∧ (decode cX5_forget 55 = .ok (.iconst 0, 1)))) ∧ (((decode cX5_forget 56 = .ok (.istore 5, 2)) ∧ (decode cX5_forget 58 = .ok (.iconst 0, 1))) ∧ ((decode cX5_forget 59 = .ok (.istore 6, 2)) ∧ (decode cX5_forget 61 = .ok (.iload 6, 2)))))) := by decide +kernel
theorem dX5_forget_31 : decode cX5_forget 31 = .ok (.ireturn, 1) := kX5_forget_31.1.1.1.1
theorem dX5_forget_32 : decode cX5_forget 32 = .ok (.aload_n 0, 1) := kX5_forget_31.1.1.1.2
theorem dX5_forget_33 : decode cX5_forget 33 = .ok (.getfield 10, 3) := kX5_forget_31.1.1.2.1
theorem dX5_forget_36 : decode cX5_forget 36 = .ok (.invokevirtual 131, 3) := kX5_forget_31.1.1.2.2
theorem dX5_forget_39 : decode cX5_forget 39 = .ok (.ifCond .eq 13, 3) := kX5_forget_31.1.2.1.1
theorem dX5_forget_42 : decode cX5_forget 42 = .ok (.aload_n 0, 1) := kX5_forget_31.1.2.1.2
theorem dX5_forget_43 : decode cX5_forget 43 = .ok (.getfield 10, 3) := kX5_forget_31.1.2.2.1
theorem dX5_forget_46 : decode cX5_forget 46 = .ok (.invokevirtual 195, 3) := kX5_forget_31.1.2.2.2
theorem dX5_forget_49 : decode cX5_forget 49 = .ok (.goto 4, 3) := kX5_forget_31.2.1.1.1
theorem dX5_forget_52 : decode cX5_forget 52 = .ok (.iconst 0, 1) := kX5_forget_31.2.1.1.2
theorem dX5_forget_53 : decode cX5_forget 53 = .ok (.istore 4, 2) := kX5_forget_31.2.1.2.1
theorem dX5_forget_55 : decode cX5_forget 55 = .ok (.iconst 0, 1) := kX5_forget_31.2.1.2.2
theorem dX5_forget_56 : decode cX5_forget 56 = .ok (.istore 5, 2) := kX5_forget_31.2.2.1.1
theorem dX5_forget_58 : decode cX5_forget 58 = .ok (.iconst 0, 1) := kX5_forget_31.2.2.1.2
theorem dX5_forget_59 : decode cX5_forget 59 = .ok (.istore 6, 2) := kX5_forget_31.2.2.2.1
theorem dX5_forget_61 : decode cX5_forget 61 = .ok (.iload 6, 2) := kX5_forget_31.2.2.2.2
theorem kX5_forget_63 : (((((decode cX5_forget 63 = .ok (.iload 4, 2)) ∧ (decode cX5_forget 65 = .ok (.if_icmp .gt 79, 3))) ∧ ((decode cX5_forget 68 = .ok (.iload 6, 2)) ∧ (decode cX5_forget 70 = .ok (.iload 4, 2)))) ∧ (((decode cX5_forget 72 = .ok (.iand, 1)) ∧ (decode cX5_forget 73 = .ok (.iload 6, 2))) ∧ ((decode cX5_forget 75 = .ok (.if_icmp .ne 63, 3)) ∧ (decode cX5_forget 78 = .ok (.aload_n 0, 1))))) ∧ ((((decode cX5_forget 79 = .ok (.getfield 33, 3)) ∧ (decode cX5_forget 82 = .ok (.aload_n 0, 1))) ∧ ((decode cX5_forget 83 = .ok (.getfield 10, 3)) ∧ (decode cX5_forget 86 = .ok (.invokevirtual 115, 3)))) ∧ (((decode cX5_forget 89 = .ok (.aload_n 0, 1)) ∧ (decode cX5_forget 90 = .ok (.getfield 33, 3))) ∧ ((decode cX5_forget 93 = .ok (.iload 4, 2)) ∧ (decode cX5_forget 95 = .ok (.iload 6, 2)))))) := by decide +kernel
theorem dX5_forget_63 : decode cX5_forget 63 = .ok (.iload 4, 2) := kX5_forget_63.1.1.1.1
theorem dX5_forget_65 : decode cX5_forget 65 = .ok (.if_icmp .gt 79, 3) := kX5_forget_63.1.1.1.2
theorem dX5_forget_68 : decode cX5_forget 68 = .ok (.iload 6, 2) := kX5_forget_63.1.1.2.1
theorem dX5_forget_70 : decode cX5_forget 70 = .ok (.iload 4, 2) := kX5_forget_63.1.1.2.2
theorem dX5_forget_72 : decode cX5_forget 72 = .ok (.iand, 1) := kX5_forget_63.1.2.1.1
theorem dX5_forget_73 : decode cX5_forget 73 = .ok (.iload 6, 2) := kX5_forget_63.1.2.1.2
theorem dX5_forget_75 : decode cX5_forget 75 = .ok (.if_icmp .ne 63, 3) := kX5_forget_63.1.2.2.1
theorem dX5_forget_78 : decode cX5_forget 78 = .ok (.aload_n 0, 1) := kX5_forget_63.1.2.2.2
theorem dX5_forget_79 : decode cX5_forget 79 = .ok (.getfield 33, 3) := kX5_forget_63.2.1.1.1
theorem dX5_forget_82 : decode cX5_forget 82 = .ok (.aload_n 0, 1) := kX5_forget_63.2.1.1.2
theorem dX5_forget_83 : decode cX5_forget 83 = .ok (.getfield 10, 3) := kX5_forget_63.2.1.2.1
theorem dX5_forget_86 : decode cX5_forget 86 = .ok (.invokevirtual 115, 3) := kX5_forget_63.2.1.2.2
theorem dX5_forget_89 : decode cX5_forget 89 = .ok (.aload_n 0, 1) := kX5_forget_63.2.2.1.1
theorem dX5_forget_90 : decode cX5_forget 90 = .ok (.getfield 33, 3) := kX5_forget_63.2.2.1.2
theorem dX5_forget_93 : decode cX5_forget 93 = .ok (.iload 4, 2) := kX5_forget_63.2.2.2.1
theorem dX5_forget_95 : decode cX5_forget 95 = .ok (.iload 6, 2) := kX5_forget_63.2.2.2.2
theorem kX5_forget_97 : (((((decode cX5_forget 97 = .ok (.iconst (-1), 1)) ∧ (decode cX5_forget 98 = .ok (.ixor, 1))) ∧ ((decode cX5_forget 99 = .ok (.iand, 1)) ∧ (decode cX5_forget 100 = .ok (.invokevirtual 198, 3)))) ∧ (((decode cX5_forget 103 = .ok (.aload_n 0, 1)) ∧ (decode cX5_forget 104 = .ok (.getfield 33, 3))) ∧ ((decode cX5_forget 107 = .ok (.invokevirtual 201, 3)) ∧ (decode cX5_forget 110 = .ok (.iload 5, 2))))) ∧ ((((decode cX5_forget 112 = .ok (.aload_n 0, 1)) ∧ (decode cX5_forget 113 = .ok (.getfield 33, 3))) ∧ ((decode cX5_forget 116 = .ok (.iload_n 1, 1)) ∧ (decode cX5_forget 117 = .ok (.invokevirtual 204, 3)))) ∧ (((decode cX5_forget 120 = .ok (.ifCond .eq 14, 3)) ∧ (decode cX5_forget 123 = .ok (.iload 4, 2))) ∧ ((decode cX5_forget 125 = .ok (.iload 6, 2)) ∧ (decode cX5_forget 127 = .ok (.iload_n 2, 1)))))) := by decide +kernel
theorem dX5_forget_97 : decode cX5_forget 97 = .ok (.iconst (-1), 1) := kX5_forget_97.1.1.1.1
theorem dX5_forget_98 : decode cX5_forget 98 = .ok (.ixor, 1) := kX5_forget_97.1.1.1.2
theorem dX5_forget_99 : decode cX5_forget 99 = .ok (.iand, 1) := kX5_forget_97.1.1.2.1
theorem dX5_forget_100 : decode cX5_forget 100 = .ok (.invokevirtual 198, 3) := kX5_forget_97.1.1.2.2
theorem dX5_forget_103 : decode cX5_forget 103 = .ok (.aload_n 0, 1) := kX5_forget_97.1.2.1.1
theorem dX5_forget_104 : decode cX5_forget 104 = .ok (.getfield 33, 3) := kX5_forget_97.1.2.1.2
theorem dX5_forget_107 : decode cX5_forget 107 = .ok (.invokevirtual 201, 3) := kX5_forget_97.1.2.2.1
theorem dX5_forget_110 : decode cX5_forget 110 = .ok (.iload 5, 2) := kX5_forget_97.1.2.2.2
theorem dX5_forget_112 : decode cX5_forget 112 = .ok (.aload_n 0, 1) := kX5_forget_97.2.1.1.1
theorem dX5_forget_113 : decode cX5_forget 113 = .ok (.getfield 33, 3) := kX5_forget_97.2.1.1.2
theorem dX5_forget_116 : decode cX5_forget 116 = .ok (.iload_n 1, 1) := kX5_forget_97.2.1.2.1
theorem dX5_forget_117 : decode cX5_forget 117 = .ok (.invokevirtual 204, 3) := kX5_forget_97.2.1.2.2
theorem dX5_forget_120 : decode cX5_forget 120 = .ok (.ifCond .eq 14, 3) := kX5_forget_97.2.2.1.1
theorem dX5_forget_123 : decode cX5_forget 123 = .ok (.iload 4, 2) := kX5_forget_97.2.2.1.2
theorem dX5_forget_125 : decode cX5_forget 125 = .ok (.iload 6, 2) := kX5_forget_97.2.2.2.1
theorem dX5_forget_127 : decode cX5_forget 127 = .ok (.iload_n 2, 1) := kX5_forget_97.2.2.2.2
theorem kX5_forget_128 : (((((decode cX5_forget 128 = .ok (.invokestatic 207, 3)) ∧ (decode cX5_forget 131 = .ok (.goto 4, 3))) ∧ ((decode cX5_forget 134 = .ok (.iconst 0, 1)) ∧ (decode cX5_forget 135 = .ok (.iadd, 1)))) ∧ (((decode cX5_forget 136 = .ok (.istore 5, 2)) ∧ (decode cX5_forget 138 = .ok (.iinc 6 1, 3))) ∧ ((decode cX5_forget 141 = .ok (.goto (-80), 3)) ∧ (decode cX5_forget 144 = .ok (.bipush 10, 2))))) ∧ ((((decode cX5_forget 146 = .ok (.iload 4, 2)) ∧ (decode cX5_forget 148 = .ok (.invokestatic 174, 3))) ∧ ((decode cX5_forget 151 = .ok (.invokestatic 210, 3)) ∧ (decode cX5_forget 154 = .ok (.istore 6, 2)))) ∧ (((decode cX5_forget 156 = .ok (.iload 5, 2)) ∧ (decode cX5_forget 158 = .ok (.iload 6, 2))) ∧ ((decode cX5_forget 160 = .ok (.invokestatic 213, 3)) ∧ (decode cX5_forget 163 = .ok (.istore 7, 2)))))) := by decide +kernel
theorem dX5_forget_128 : decode cX5_forget 128 = .ok (.invokestatic 207, 3) := kX5_forget_128.1.1.1.1
theorem dX5_forget_131 : decode cX5_forget 131 = .ok (.goto 4, 3) := kX5_forget_128.1.1.1.2
theorem dX5_forget_134 : decode cX5_forget 134 = .ok (.iconst 0, 1) := kX5_forget_128.1.1.2.1
theorem dX5_forget_135 : decode cX5_forget 135 = .ok (.iadd, 1) := kX5_forget_128.1.1.2.2
theorem dX5_forget_136 : decode cX5_forget 136 = .ok (.istore 5, 2) := kX5_forget_128.1.2.1.1
theorem dX5_forget_138 : decode cX5_forget 138 = .ok (.iinc 6 1, 3) := kX5_forget_128.1.2.1.2
theorem dX5_forget_141 : decode cX5_forget 141 = .ok (.goto (-80), 3) := kX5_forget_128.1.2.2.1
theorem dX5_forget_144 : decode cX5_forget 144 = .ok (.bipush 10, 2) := kX5_forget_128.1.2.2.2
theorem dX5_forget_146 : decode cX5_forget 146 = .ok (.iload 4, 2) := kX5_forget_128.2.1.1.1
theorem dX5_forget_148 : decode cX5_forget 148 = .ok (.invokestatic 174, 3) := kX5_forget_128.2.1.1.2
theorem dX5_forget_151 : decode cX5_forget 151 = .ok (.invokestatic 210, 3) := kX5_forget_128.2.1.2.1
theorem dX5_forget_154 : decode cX5_forget 154 = .ok (.istore 6, 2) := kX5_forget_128.2.1.2.2
theorem dX5_forget_156 : decode cX5_forget 156 = .ok (.iload 5, 2) := kX5_forget_128.2.2.1.1
theorem dX5_forget_158 : decode cX5_forget 158 = .ok (.iload 6, 2) := kX5_forget_128.2.2.1.2
theorem dX5_forget_160 : decode cX5_forget 160 = .ok (.invokestatic 213, 3) := kX5_forget_128.2.2.2.1
theorem dX5_forget_163 : decode cX5_forget 163 = .ok (.istore 7, 2) := kX5_forget_128.2.2.2.2
theorem kX5_forget_165 : (((((decode cX5_forget 165 = .ok (.iload_n 3, 1)) ∧ (decode cX5_forget 166 = .ok (.ifCond .ne 8, 3))) ∧ (decode cX5_forget 169 = .ok (.iload 5, 2))) ∧ ((decode cX5_forget 171 = .ok (.goto 5, 3)) ∧ (decode cX5_forget 174 = .ok (.iload 6, 2)))) ∧ ((((decode cX5_forget 176 = .ok (.iload 7, 2)) ∧ (decode cX5_forget 178 = .ok (.iconst 1, 1))) ∧ (decode cX5_forget 179 = .ok (.invokestatic 216, 3))) ∧ ((decode cX5_forget 182 = .ok (.idiv, 1)) ∧ (decode cX5_forget 183 = .ok (.ireturn, 1))))) := by decide +kernel
theorem dX5_forget_165 : decode cX5_forget 165 = .ok (.iload_n 3, 1) := kX5_forget_165.1.1.1.1
theorem dX5_forget_166 : decode cX5_forget 166 = .ok (.ifCond .ne 8, 3) := kX5_forget_165.1.1.1.2
theorem dX5_forget_169 : decode cX5_forget 169 = .ok (.iload 5, 2) := kX5_forget_165.1.1.2
theorem dX5_forget_171 : decode cX5_forget 171 = .ok (.goto 5, 3) := kX5_forget_165.1.2.1
theorem dX5_forget_174 : decode cX5_forget 174 = .ok (.iload 6, 2) := kX5_forget_165.1.2.2
theorem dX5_forget_176 : decode cX5_forget 176 = .ok (.iload 7, 2) := kX5_forget_165.2.1.1.1
theorem dX5_forget_178 : decode cX5_forget 178 = .ok (.iconst 1, 1) := kX5_forget_165.2.1.1.2
theorem dX5_forget_179 : decode cX5_forget 179 = .ok (.invokestatic 216, 3) := kX5_forget_165.2.1.2
theorem dX5_forget_182 : decode cX5_forget 182 = .ok (.idiv, 1) := kX5_forget_165.2.2.1
theorem dX5_forget_183 : decode cX5_forget 183 = .ok (.ireturn, 1) := kX5_forget_165.2.2.2
set_option maxRecDepth 20000 in
theorem ggX5_image_X2_become : GoodIn wsX5_image wsX2_become := goodIn_r _ [9, 10, 11, 12, 13, 14, 15, 16, 33, 34, 35, 36, 37, 38, 39] rfl (by decide +kernel)
set_option maxRecDepth 20000 in
theorem gX5_image_X2_become_n115 : GoodIn wsX5_image (wsX2_become) := ggX5_image_X2_become
set_option maxRecDepth 20000 in
theorem ggX5_image_X1_become : GoodIn wsX5_image wsX1_become := goodIn_r _ [20, 21, 22, 23, 6, 7, 8, 9, 10, 11, 12, 13, 14, 15, 16, 40, 41, 42, 33, 34, 35, 36, 37, 38, 39] rfl (by decide +kernel)
set_option maxRecDepth 20000 in
theorem gX5_image_X1_become_n221 : GoodIn wsX5_image (wsX1_become) := ggX5_image_X1_become
theorem kX5_image_0 : (((((decode cX5_image 0 = .ok (.aload_n 0, 1)) ∧ (decode cX5_image 1 = .ok (.getfield 23, 3))) ∧ ((decode cX5_image 4 = .ok (.aload_n 0, 1)) ∧ (decode cX5_image 5 = .ok (.getfield 10, 3)))) ∧ (((decode cX5_image 8 = .ok (.invokevirtual 115, 3)) ∧ (decode cX5_image 11 = .ok (.aload_n 0, 1))) ∧ ((decode cX5_image 12 = .ok (.getfield 26, 3)) ∧ (decode cX5_image 15 = .ok (.aload_n 0, 1))))) ∧ ((((decode cX5_image 16 = .ok (.getfield 19, 3)) ∧ (decode cX5_image 19 = .ok (.invokevirtual 221, 3))) ∧ ((decode cX5_image 22 = .ok (.aload_n 0, 1)) ∧ (decode cX5_image 23 = .ok (.iconst 1, 1)))) ∧ (((decode cX5_image 24 = .ok (.putfield 29, 3)) ∧ (decode cX5_image 27 = .ok (.iconst 1, 1))) ∧ (decode cX5_image 28 = .ok (.ireturn, 1))))) := by decide +kernel
theorem dX5_image_0 : decode cX5_image 0 = .ok (.aload_n 0, 1) := kX5_image_0.1.1.1.1
theorem dX5_image_1 : decode cX5_image 1 = .ok (.getfield 23, 3) := kX5_image_0.1.1.1.2
theorem dX5_image_4 : decode cX5_image 4 = .ok (.aload_n 0, 1) := kX5_image_0.1.1.2.1
theorem dX5_image_5 : decode cX5_image 5 = .ok (.getfield 10, 3) := kX5_image_0.1.1.2.2
theorem dX5_image_8 : decode cX5_image 8 = .ok (.invokevirtual 115, 3) := kX5_image_0.1.2.1.1
theorem dX5_image_11 : decode cX5_image 11 = .ok (.aload_n 0, 1) := kX5_image_0.1.2.1.2
theorem dX5_image_12 : decode cX5_image 12 = .ok (.getfield 26, 3) := kX5_image_0.1.2.2.1
theorem dX5_image_15 : decode cX5_image 15 = .ok (.aload_n 0, 1) := kX5_image_0.1.2.2.2
theorem dX5_image_16 : decode cX5_image 16 = .ok (.getfield 19, 3) := kX5_image_0.2.1.1.1
theorem dX5_image_19 : decode cX5_image 19 = .ok (.invokevirtual 221, 3) := kX5_image_0.2.1.1.2
theorem dX5_image_22 : decode cX5_image 22 = .ok (.aload_n 0, 1) := kX5_image_0.2.1.2.1
theorem dX5_image_23 : decode cX5_image 23 = .ok (.iconst 1, 1) := kX5_image_0.2.1.2.2
theorem dX5_image_24 : decode cX5_image 24 = .ok (.putfield 29, 3) := kX5_image_0.2.2.1.1
theorem dX5_image_27 : decode cX5_image 27 = .ok (.iconst 1, 1) := kX5_image_0.2.2.1.2
theorem dX5_image_28 : decode cX5_image 28 = .ok (.ireturn, 1) := kX5_image_0.2.2.2
set_option maxRecDepth 20000 in
theorem ggX5_restore_X2_become : GoodIn wsX5_restore wsX2_become := goodIn_r _ [9, 10, 11, 12, 13, 14, 15, 16, 33, 34, 35, 36, 37, 38, 39] rfl (by decide +kernel)
set_option maxRecDepth 20000 in
theorem gX5_restore_X2_become_n115 : GoodIn wsX5_restore (wsX2_become) := ggX5_restore_X2_become
set_option maxRecDepth 20000 in
theorem ggX5_restore_X1_become : GoodIn wsX5_restore wsX1_become := goodIn_r _ [20, 21, 22, 23, 6, 7, 8, 9, 10, 11, 12, 13, 14, 15, 16, 40, 41, 42, 33, 34, 35, 36, 37, 38, 39] rfl (by decide +kernel)
set_option maxRecDepth 20000 in
theorem gX5_restore_X1_become_n221 : GoodIn wsX5_restore (wsX1_become) := ggX5_restore_X1_become
theorem kX5_restore_0 : (((((decode cX5_restore 0 = .ok (.aload_n 0, 1)) ∧ (decode cX5_restore 1 = .ok (.getfield 29, 3))) ∧ ((decode cX5_restore 4 = .ok (.ifCond .ne 6, 3)) ∧ (decode cX5_restore 7 = .ok (.bipush (-4), 2)))) ∧ (((decode cX5_restore 9 = .ok (.ireturn, 1)) ∧ (decode cX5_restore 10 = .ok (.aload_n 0, 1))) ∧ ((decode cX5_restore 11 = .ok (.getfield 10, 3)) ∧ (decode cX5_restore 14 = .ok (.aload_n 0, 1))))) ∧ ((((decode cX5_restore 15 = .ok (.getfield 23, 3)) ∧ (decode cX5_restore 18 = .ok (.invokevirtual 115, 3))) ∧ ((decode cX5_restore 21 = .ok (.aload_n 0, 1)) ∧ (decode cX5_restore 22 = .ok (.getfield 19, 3)))) ∧ (((decode cX5_restore 25 = .ok (.aload_n 0, 1)) ∧ (decode cX5_restore 26 = .ok (.getfield 26, 3))) ∧ ((decode cX5_restore 29 = .ok (.invokevirtual 221, 3)) ∧ (decode cX5_restore 32 = .ok (.iconst 1, 1)))))) := by decide +kernel
theorem dX5_restore_0 : decode cX5_restore 0 = .ok (.aload_n 0, 1) := kX5_restore_0.1.1.1.1
theorem dX5_restore_1 : decode cX5_restore 1 = .ok (.getfield 29, 3) := kX5_restore_0.1.1.1.2
theorem dX5_restore_4 : decode cX5_restore 4 = .ok (.ifCond .ne 6, 3) := kX5_restore_0.1.1.2.1
theorem dX5_restore_7 : decode cX5_restore 7 = .ok (.bipush (-4), 2) := kX5_restore_0.1.1.2.2
theorem dX5_restore_9 : decode cX5_restore 9 = .ok (.ireturn, 1) := kX5_restore_0.1.2.1.1
theorem dX5_restore_10 : decode cX5_restore 10 = .ok (.aload_n 0, 1) := kX5_restore_0.1.2.1.2
theorem dX5_restore_11 : decode cX5_restore 11 = .ok (.getfield 10, 3) := kX5_restore_0.1.2.2.1
theorem dX5_restore_14 : decode cX5_restore 14 = .ok (.aload_n 0, 1) := kX5_restore_0.1.2.2.2
theorem dX5_restore_15 : decode cX5_restore 15 = .ok (.getfield 23, 3) := kX5_restore_0.2.1.1.1
theorem dX5_restore_18 : decode cX5_restore 18 = .ok (.invokevirtual 115, 3) := kX5_restore_0.2.1.1.2
theorem dX5_restore_21 : decode cX5_restore 21 = .ok (.aload_n 0, 1) := kX5_restore_0.2.1.2.1
theorem dX5_restore_22 : decode cX5_restore 22 = .ok (.getfield 19, 3) := kX5_restore_0.2.1.2.2
theorem dX5_restore_25 : decode cX5_restore 25 = .ok (.aload_n 0, 1) := kX5_restore_0.2.2.1.1
theorem dX5_restore_26 : decode cX5_restore 26 = .ok (.getfield 26, 3) := kX5_restore_0.2.2.1.2
theorem dX5_restore_29 : decode cX5_restore 29 = .ok (.invokevirtual 221, 3) := kX5_restore_0.2.2.2.1
theorem dX5_restore_32 : decode cX5_restore 32 = .ok (.iconst 1, 1) := kX5_restore_0.2.2.2.2
theorem dX5_restore_33 : decode cX5_restore 33 = .ok (.ireturn, 1) := by decide +kernel
theorem kX5_isAdvised_0 : (((((decode cX5_isAdvised 0 = .ok (.iload_n 0, 1)) ∧ (decode cX5_isAdvised 1 = .ok (.iconst 1, 1))) ∧ (decode cX5_isAdvised 2 = .ok (.if_icmp .lt 13, 3))) ∧ ((decode cX5_isAdvised 5 = .ok (.iload_n 0, 1)) ∧ (decode cX5_isAdvised 6 = .ok (.bipush 40, 2)))) ∧ ((((decode cX5_isAdvised 8 = .ok (.if_icmp .gt 7, 3)) ∧ (decode cX5_isAdvised 11 = .ok (.iconst 1, 1))) ∧ (decode cX5_isAdvised 12 = .ok (.goto 4, 3))) ∧ ((decode cX5_isAdvised 15 = .ok (.iconst 0, 1)) ∧ (decode cX5_isAdvised 16 = .ok (.ireturn, 1))))) := by decide +kernel
theorem dX5_isAdvised_0 : decode cX5_isAdvised 0 = .ok (.iload_n 0, 1) := kX5_isAdvised_0.1.1.1.1
theorem dX5_isAdvised_1 : decode cX5_isAdvised 1 = .ok (.iconst 1, 1) := kX5_isAdvised_0.1.1.1.2
theorem dX5_isAdvised_2 : decode cX5_isAdvised 2 = .ok (.if_icmp .lt 13, 3) := kX5_isAdvised_0.1.1.2
theorem dX5_isAdvised_5 : decode cX5_isAdvised 5 = .ok (.iload_n 0, 1) := kX5_isAdvised_0.1.2.1
theorem dX5_isAdvised_6 : decode cX5_isAdvised 6 = .ok (.bipush 40, 2) := kX5_isAdvised_0.1.2.2
theorem dX5_isAdvised_8 : decode cX5_isAdvised 8 = .ok (.if_icmp .gt 7, 3) := kX5_isAdvised_0.2.1.1.1
theorem dX5_isAdvised_11 : decode cX5_isAdvised 11 = .ok (.iconst 1, 1) := kX5_isAdvised_0.2.1.1.2
theorem dX5_isAdvised_12 : decode cX5_isAdvised 12 = .ok (.goto 4, 3) := kX5_isAdvised_0.2.1.2
theorem dX5_isAdvised_15 : decode cX5_isAdvised 15 = .ok (.iconst 0, 1) := kX5_isAdvised_0.2.2.1
theorem dX5_isAdvised_16 : decode cX5_isAdvised 16 = .ok (.ireturn, 1) := kX5_isAdvised_0.2.2.2
set_option maxRecDepth 20000 in
theorem ggX5_stoppedIfTold_X2_become : GoodIn wsX5_stoppedIfTold wsX2_become := goodIn_r _ [6, 7, 8, 9, 10, 11, 12, 13, 96, 97, 98, 99, 100, 101, 102] rfl (by decide +kernel)
set_option maxRecDepth 20000 in
theorem gX5_stoppedIfTold_X2_become_n115 : GoodIn wsX5_stoppedIfTold (wsX2_become) := ggX5_stoppedIfTold_X2_become
set_option maxRecDepth 20000 in
theorem ggX5_stoppedIfTold_X2_passHours : GoodIn wsX5_stoppedIfTold wsX2_passHours := goodIn_r _ [16, 17, 18, 19, 4, 20, 21, 22, 23, 24, 8, 25, 26, 27, 28, 7, 12, 29, 30, 31, 32, 11, 33, 34, 35, 36, 37, 38, 39, 40, 13, 41, 42, 43, 44, 45, 46, 47, 48, 49, 50, 51, 52, 53, 54, 55, 56, 57, 58, 59, 60, 61, 62, 63, 10, 64, 65, 66, 67, 68, 69, 70, 71, 72, 73, 74, 75, 76, 77, 78, 79, 96, 97, 98, 99, 100, 101, 102] rfl (by decide +kernel)
set_option maxRecDepth 20000 in
theorem gX5_stoppedIfTold_X2_passHours_n155 : GoodIn wsX5_stoppedIfTold (wsX2_passHours) := ggX5_stoppedIfTold_X2_passHours
set_option maxRecDepth 20000 in
theorem ggX5_stoppedIfTold_X2_stopped : GoodIn wsX5_stoppedIfTold wsX2_stopped := goodIn_r _ [59, 7, 29, 30, 31, 4, 32, 11, 96, 97, 98, 99, 100, 101, 102] rfl (by decide +kernel)
set_option maxRecDepth 20000 in
theorem gX5_stoppedIfTold_X2_stopped_n85 : GoodIn wsX5_stoppedIfTold (wsX2_stopped) := ggX5_stoppedIfTold_X2_stopped
set_option maxRecDepth 20000 in
theorem ggX5_stoppedIfTold_J6_bitCount_0f7a4 : GoodIn wsX5_stoppedIfTold wsJ6_bitCount_0f7a4 := goodIn_r _ [83, 84, 85, 86] rfl (by decide +kernel)
set_option maxRecDepth 20000 in
theorem gX5_stoppedIfTold_J6_bitCount_0f7a4 : GoodIn wsX5_stoppedIfTold (va_wsS RX5 174 yJ6_bitCount_0f7a4 wsJ6_bitCount_0f7a4) := goodIn_app (goodIn_of _ (by decide +kernel)) ggX5_stoppedIfTold_J6_bitCount_0f7a4
theorem kX5_stoppedIfTold_0 : (((((decode cX5_stoppedIfTold 0 = .ok (.aload_n 0, 1)) ∧ (decode cX5_stoppedIfTold 1 = .ok (.getfield 33, 3))) ∧ ((decode cX5_stoppedIfTold 4 = .ok (.aload_n 0, 1)) ∧ (decode cX5_stoppedIfTold 5 = .ok (.getfield 10, 3)))) ∧ (((decode cX5_stoppedIfTold 8 = .ok (.invokevirtual 115, 3)) ∧ (decode cX5_stoppedIfTold 11 = .ok (.aload_n 0, 1))) ∧ ((decode cX5_stoppedIfTold 12 = .ok (.getfield 33, 3)) ∧ (decode cX5_stoppedIfTold 15 = .ok (.getfield 79, 3))))) ∧ ((((decode cX5_stoppedIfTold 18 = .ok (.iload_n 1, 1)) ∧ (decode cX5_stoppedIfTold 19 = .ok (.iload_n 2, 1))) ∧ ((decode cX5_stoppedIfTold 20 = .ok (.iastore, 1)) ∧ (decode cX5_stoppedIfTold 21 = .ok (.aload_n 0, 1)))) ∧ (((decode cX5_stoppedIfTold 22 = .ok (.getfield 33, 3)) ∧ (decode cX5_stoppedIfTold 25 = .ok (.iload_n 3, 1))) ∧ ((decode cX5_stoppedIfTold 26 = .ok (.invokevirtual 155, 3)) ∧ (decode cX5_stoppedIfTold 29 = .ok (.aload_n 0, 1)))))) := by decide +kernel
theorem dX5_stoppedIfTold_0 : decode cX5_stoppedIfTold 0 = .ok (.aload_n 0, 1) := kX5_stoppedIfTold_0.1.1.1.1
theorem dX5_stoppedIfTold_1 : decode cX5_stoppedIfTold 1 = .ok (.getfield 33, 3) := kX5_stoppedIfTold_0.1.1.1.2
theorem dX5_stoppedIfTold_4 : decode cX5_stoppedIfTold 4 = .ok (.aload_n 0, 1) := kX5_stoppedIfTold_0.1.1.2.1
theorem dX5_stoppedIfTold_5 : decode cX5_stoppedIfTold 5 = .ok (.getfield 10, 3) := kX5_stoppedIfTold_0.1.1.2.2
theorem dX5_stoppedIfTold_8 : decode cX5_stoppedIfTold 8 = .ok (.invokevirtual 115, 3) := kX5_stoppedIfTold_0.1.2.1.1
theorem dX5_stoppedIfTold_11 : decode cX5_stoppedIfTold 11 = .ok (.aload_n 0, 1) := kX5_stoppedIfTold_0.1.2.1.2
theorem dX5_stoppedIfTold_12 : decode cX5_stoppedIfTold 12 = .ok (.getfield 33, 3) := kX5_stoppedIfTold_0.1.2.2.1
theorem dX5_stoppedIfTold_15 : decode cX5_stoppedIfTold 15 = .ok (.getfield 79, 3) := kX5_stoppedIfTold_0.1.2.2.2
theorem dX5_stoppedIfTold_18 : decode cX5_stoppedIfTold 18 = .ok (.iload_n 1, 1) := kX5_stoppedIfTold_0.2.1.1.1
theorem dX5_stoppedIfTold_19 : decode cX5_stoppedIfTold 19 = .ok (.iload_n 2, 1) := kX5_stoppedIfTold_0.2.1.1.2
theorem dX5_stoppedIfTold_20 : decode cX5_stoppedIfTold 20 = .ok (.iastore, 1) := kX5_stoppedIfTold_0.2.1.2.1
theorem dX5_stoppedIfTold_21 : decode cX5_stoppedIfTold 21 = .ok (.aload_n 0, 1) := kX5_stoppedIfTold_0.2.1.2.2
theorem dX5_stoppedIfTold_22 : decode cX5_stoppedIfTold 22 = .ok (.getfield 33, 3) := kX5_stoppedIfTold_0.2.2.1.1
theorem dX5_stoppedIfTold_25 : decode cX5_stoppedIfTold 25 = .ok (.iload_n 3, 1) := kX5_stoppedIfTold_0.2.2.1.2
theorem dX5_stoppedIfTold_26 : decode cX5_stoppedIfTold 26 = .ok (.invokevirtual 155, 3) := kX5_stoppedIfTold_0.2.2.2.1
theorem dX5_stoppedIfTold_29 : decode cX5_stoppedIfTold 29 = .ok (.aload_n 0, 1) := kX5_stoppedIfTold_0.2.2.2.2
theorem kX5_stoppedIfTold_30 : (((decode cX5_stoppedIfTold 30 = .ok (.getfield 33, 3)) ∧ (decode cX5_stoppedIfTold 33 = .ok (.invokevirtual 85, 3))) ∧ ((decode cX5_stoppedIfTold 36 = .ok (.invokestatic 174, 3)) ∧ (decode cX5_stoppedIfTold 39 = .ok (.ireturn, 1)))) := by decide +kernel
theorem dX5_stoppedIfTold_30 : decode cX5_stoppedIfTold 30 = .ok (.getfield 33, 3) := kX5_stoppedIfTold_30.1.1
theorem dX5_stoppedIfTold_33 : decode cX5_stoppedIfTold 33 = .ok (.invokevirtual 85, 3) := kX5_stoppedIfTold_30.1.2
theorem dX5_stoppedIfTold_36 : decode cX5_stoppedIfTold 36 = .ok (.invokestatic 174, 3) := kX5_stoppedIfTold_30.2.1
theorem dX5_stoppedIfTold_39 : decode cX5_stoppedIfTold 39 = .ok (.ireturn, 1) := kX5_stoppedIfTold_30.2.2
set_option maxRecDepth 20000 in
theorem ggX5_waysToForget_J6_bitCount_0f7a4 : GoodIn wsX5_waysToForget wsJ6_bitCount_0f7a4 := goodIn_r _ [4, 5, 6, 7] rfl (by decide +kernel)
set_option maxRecDepth 20000 in
theorem gX5_waysToForget_J6_bitCount_0f7a4 : GoodIn wsX5_waysToForget (va_wsS RX5 174 yJ6_bitCount_0f7a4 wsJ6_bitCount_0f7a4) := goodIn_app (goodIn_of _ (by decide +kernel)) ggX5_waysToForget_J6_bitCount_0f7a4
set_option maxRecDepth 20000 in
theorem ggX5_waysToForget_X5_power : GoodIn wsX5_waysToForget wsX5_power := goodIn_r _ [11] rfl (by decide +kernel)
set_option maxRecDepth 20000 in
theorem gX5_waysToForget_X5_power : GoodIn wsX5_waysToForget (va_wsS RX5 210 yX5_power wsX5_power) := goodIn_app (goodIn_of _ (by decide +kernel)) ggX5_waysToForget_X5_power
theorem kX5_waysToForget_0 : (((((decode cX5_waysToForget 0 = .ok (.iload_n 1, 1)) ∧ (decode cX5_waysToForget 1 = .ok (.invokestatic 174, 3))) ∧ ((decode cX5_waysToForget 4 = .ok (.istore_n 3, 1)) ∧ (decode cX5_waysToForget 5 = .ok (.iload_n 2, 1)))) ∧ (((decode cX5_waysToForget 6 = .ok (.iload_n 3, 1)) ∧ (decode cX5_waysToForget 7 = .ok (.invokestatic 210, 3))) ∧ ((decode cX5_waysToForget 10 = .ok (.bipush 10, 2)) ∧ (decode cX5_waysToForget 12 = .ok (.iload_n 2, 1))))) ∧ ((((decode cX5_waysToForget 13 = .ok (.isub, 1)) ∧ (decode cX5_waysToForget 14 = .ok (.iload_n 0, 1))) ∧ ((decode cX5_waysToForget 15 = .ok (.invokestatic 174, 3)) ∧ (decode cX5_waysToForget 18 = .ok (.iload_n 3, 1)))) ∧ (((decode cX5_waysToForget 19 = .ok (.isub, 1)) ∧ (decode cX5_waysToForget 20 = .ok (.invokestatic 210, 3))) ∧ ((decode cX5_waysToForget 23 = .ok (.imul, 1)) ∧ (decode cX5_waysToForget 24 = .ok (.ireturn, 1)))))) := by decide +kernel
theorem dX5_waysToForget_0 : decode cX5_waysToForget 0 = .ok (.iload_n 1, 1) := kX5_waysToForget_0.1.1.1.1
theorem dX5_waysToForget_1 : decode cX5_waysToForget 1 = .ok (.invokestatic 174, 3) := kX5_waysToForget_0.1.1.1.2
theorem dX5_waysToForget_4 : decode cX5_waysToForget 4 = .ok (.istore_n 3, 1) := kX5_waysToForget_0.1.1.2.1
theorem dX5_waysToForget_5 : decode cX5_waysToForget 5 = .ok (.iload_n 2, 1) := kX5_waysToForget_0.1.1.2.2
theorem dX5_waysToForget_6 : decode cX5_waysToForget 6 = .ok (.iload_n 3, 1) := kX5_waysToForget_0.1.2.1.1
theorem dX5_waysToForget_7 : decode cX5_waysToForget 7 = .ok (.invokestatic 210, 3) := kX5_waysToForget_0.1.2.1.2
theorem dX5_waysToForget_10 : decode cX5_waysToForget 10 = .ok (.bipush 10, 2) := kX5_waysToForget_0.1.2.2.1
theorem dX5_waysToForget_12 : decode cX5_waysToForget 12 = .ok (.iload_n 2, 1) := kX5_waysToForget_0.1.2.2.2
theorem dX5_waysToForget_13 : decode cX5_waysToForget 13 = .ok (.isub, 1) := kX5_waysToForget_0.2.1.1.1
theorem dX5_waysToForget_14 : decode cX5_waysToForget 14 = .ok (.iload_n 0, 1) := kX5_waysToForget_0.2.1.1.2
theorem dX5_waysToForget_15 : decode cX5_waysToForget 15 = .ok (.invokestatic 174, 3) := kX5_waysToForget_0.2.1.2.1
theorem dX5_waysToForget_18 : decode cX5_waysToForget 18 = .ok (.iload_n 3, 1) := kX5_waysToForget_0.2.1.2.2
theorem dX5_waysToForget_19 : decode cX5_waysToForget 19 = .ok (.isub, 1) := kX5_waysToForget_0.2.2.1.1
theorem dX5_waysToForget_20 : decode cX5_waysToForget 20 = .ok (.invokestatic 210, 3) := kX5_waysToForget_0.2.2.1.2
theorem dX5_waysToForget_23 : decode cX5_waysToForget 23 = .ok (.imul, 1) := kX5_waysToForget_0.2.2.2.1
theorem dX5_waysToForget_24 : decode cX5_waysToForget 24 = .ok (.ireturn, 1) := kX5_waysToForget_0.2.2.2.2
theorem kX5_power_0 : (((((decode cX5_power 0 = .ok (.iconst 1, 1)) ∧ (decode cX5_power 1 = .ok (.istore_n 2, 1))) ∧ ((decode cX5_power 2 = .ok (.iconst 0, 1)) ∧ (decode cX5_power 3 = .ok (.istore_n 3, 1)))) ∧ (((decode cX5_power 4 = .ok (.iload_n 3, 1)) ∧ (decode cX5_power 5 = .ok (.iload_n 1, 1))) ∧ ((decode cX5_power 6 = .ok (.if_icmp .ge 13, 3)) ∧ (decode cX5_power 9 = .ok (.iload_n 2, 1))))) ∧ ((((decode cX5_power 10 = .ok (.iload_n 0, 1)) ∧ (decode cX5_power 11 = .ok (.imul, 1))) ∧ ((decode cX5_power 12 = .ok (.istore_n 2, 1)) ∧ (decode cX5_power 13 = .ok (.iinc 3 1, 3)))) ∧ (((decode cX5_power 16 = .ok (.goto (-12), 3)) ∧ (decode cX5_power 19 = .ok (.iload_n 2, 1))) ∧ (decode cX5_power 20 = .ok (.ireturn, 1))))) := by decide +kernel
theorem dX5_power_0 : decode cX5_power 0 = .ok (.iconst 1, 1) := kX5_power_0.1.1.1.1
theorem dX5_power_1 : decode cX5_power 1 = .ok (.istore_n 2, 1) := kX5_power_0.1.1.1.2
theorem dX5_power_2 : decode cX5_power 2 = .ok (.iconst 0, 1) := kX5_power_0.1.1.2.1
theorem dX5_power_3 : decode cX5_power 3 = .ok (.istore_n 3, 1) := kX5_power_0.1.1.2.2
theorem dX5_power_4 : decode cX5_power 4 = .ok (.iload_n 3, 1) := kX5_power_0.1.2.1.1
theorem dX5_power_5 : decode cX5_power 5 = .ok (.iload_n 1, 1) := kX5_power_0.1.2.1.2
theorem dX5_power_6 : decode cX5_power 6 = .ok (.if_icmp .ge 13, 3) := kX5_power_0.1.2.2.1
theorem dX5_power_9 : decode cX5_power 9 = .ok (.iload_n 2, 1) := kX5_power_0.1.2.2.2
theorem dX5_power_10 : decode cX5_power 10 = .ok (.iload_n 0, 1) := kX5_power_0.2.1.1.1
theorem dX5_power_11 : decode cX5_power 11 = .ok (.imul, 1) := kX5_power_0.2.1.1.2
theorem dX5_power_12 : decode cX5_power 12 = .ok (.istore_n 2, 1) := kX5_power_0.2.1.2.1
theorem dX5_power_13 : decode cX5_power 13 = .ok (.iinc 3 1, 3) := kX5_power_0.2.1.2.2
theorem dX5_power_16 : decode cX5_power 16 = .ok (.goto (-12), 3) := kX5_power_0.2.2.1.1
theorem dX5_power_19 : decode cX5_power 19 = .ok (.iload_n 2, 1) := kX5_power_0.2.2.1.2
theorem dX5_power_20 : decode cX5_power 20 = .ok (.ireturn, 1) := kX5_power_0.2.2.2
theorem kX5_greatestDivisor_0 : (((((decode cX5_greatestDivisor 0 = .ok (.iload_n 0, 1)) ∧ (decode cX5_greatestDivisor 1 = .ok (.istore_n 2, 1))) ∧ ((decode cX5_greatestDivisor 2 = .ok (.iload_n 1, 1)) ∧ (decode cX5_greatestDivisor 3 = .ok (.istore_n 3, 1)))) ∧ (((decode cX5_greatestDivisor 4 = .ok (.iconst 0, 1)) ∧ (decode cX5_greatestDivisor 5 = .ok (.istore 4, 2))) ∧ ((decode cX5_greatestDivisor 7 = .ok (.iload 4, 2)) ∧ (decode cX5_greatestDivisor 9 = .ok (.bipush 100, 2))))) ∧ ((((decode cX5_greatestDivisor 11 = .ok (.if_icmp .ge 23, 3)) ∧ (decode cX5_greatestDivisor 14 = .ok (.iload_n 3, 1))) ∧ ((decode cX5_greatestDivisor 15 = .ok (.ifCond .le 19, 3)) ∧ (decode cX5_greatestDivisor 18 = .ok (.iload_n 2, 1)))) ∧ (((decode cX5_greatestDivisor 19 = .ok (.iload_n 3, 1)) ∧ (decode cX5_greatestDivisor 20 = .ok (.irem, 1))) ∧ ((decode cX5_greatestDivisor 21 = .ok (.istore 5, 2)) ∧ (decode cX5_greatestDivisor 23 = .ok (.iload_n 3, 1)))))) := by decide +kernel
theorem dX5_greatestDivisor_0 : decode cX5_greatestDivisor 0 = .ok (.iload_n 0, 1) := kX5_greatestDivisor_0.1.1.1.1
theorem dX5_greatestDivisor_1 : decode cX5_greatestDivisor 1 = .ok (.istore_n 2, 1) := kX5_greatestDivisor_0.1.1.1.2
theorem dX5_greatestDivisor_2 : decode cX5_greatestDivisor 2 = .ok (.iload_n 1, 1) := kX5_greatestDivisor_0.1.1.2.1
theorem dX5_greatestDivisor_3 : decode cX5_greatestDivisor 3 = .ok (.istore_n 3, 1) := kX5_greatestDivisor_0.1.1.2.2
theorem dX5_greatestDivisor_4 : decode cX5_greatestDivisor 4 = .ok (.iconst 0, 1) := kX5_greatestDivisor_0.1.2.1.1
theorem dX5_greatestDivisor_5 : decode cX5_greatestDivisor 5 = .ok (.istore 4, 2) := kX5_greatestDivisor_0.1.2.1.2
theorem dX5_greatestDivisor_7 : decode cX5_greatestDivisor 7 = .ok (.iload 4, 2) := kX5_greatestDivisor_0.1.2.2.1
theorem dX5_greatestDivisor_9 : decode cX5_greatestDivisor 9 = .ok (.bipush 100, 2) := kX5_greatestDivisor_0.1.2.2.2
theorem dX5_greatestDivisor_11 : decode cX5_greatestDivisor 11 = .ok (.if_icmp .ge 23, 3) := kX5_greatestDivisor_0.2.1.1.1
theorem dX5_greatestDivisor_14 : decode cX5_greatestDivisor 14 = .ok (.iload_n 3, 1) := kX5_greatestDivisor_0.2.1.1.2
theorem dX5_greatestDivisor_15 : decode cX5_greatestDivisor 15 = .ok (.ifCond .le 19, 3) := kX5_greatestDivisor_0.2.1.2.1
theorem dX5_greatestDivisor_18 : decode cX5_greatestDivisor 18 = .ok (.iload_n 2, 1) := kX5_greatestDivisor_0.2.1.2.2
theorem dX5_greatestDivisor_19 : decode cX5_greatestDivisor 19 = .ok (.iload_n 3, 1) := kX5_greatestDivisor_0.2.2.1.1
theorem dX5_greatestDivisor_20 : decode cX5_greatestDivisor 20 = .ok (.irem, 1) := kX5_greatestDivisor_0.2.2.1.2
theorem dX5_greatestDivisor_21 : decode cX5_greatestDivisor 21 = .ok (.istore 5, 2) := kX5_greatestDivisor_0.2.2.2.1
theorem dX5_greatestDivisor_23 : decode cX5_greatestDivisor 23 = .ok (.iload_n 3, 1) := kX5_greatestDivisor_0.2.2.2.2
theorem kX5_greatestDivisor_24 : ((((decode cX5_greatestDivisor 24 = .ok (.istore_n 2, 1)) ∧ (decode cX5_greatestDivisor 25 = .ok (.iload 5, 2))) ∧ ((decode cX5_greatestDivisor 27 = .ok (.istore_n 3, 1)) ∧ (decode cX5_greatestDivisor 28 = .ok (.iinc 4 1, 3)))) ∧ (((decode cX5_greatestDivisor 31 = .ok (.goto (-24), 3)) ∧ (decode cX5_greatestDivisor 34 = .ok (.iload_n 2, 1))) ∧ (decode cX5_greatestDivisor 35 = .ok (.ireturn, 1)))) := by decide +kernel
theorem dX5_greatestDivisor_24 : decode cX5_greatestDivisor 24 = .ok (.istore_n 2, 1) := kX5_greatestDivisor_24.1.1.1
theorem dX5_greatestDivisor_25 : decode cX5_greatestDivisor 25 = .ok (.iload 5, 2) := kX5_greatestDivisor_24.1.1.2
theorem dX5_greatestDivisor_27 : decode cX5_greatestDivisor 27 = .ok (.istore_n 3, 1) := kX5_greatestDivisor_24.1.2.1
theorem dX5_greatestDivisor_28 : decode cX5_greatestDivisor 28 = .ok (.iinc 4 1, 3) := kX5_greatestDivisor_24.1.2.2
theorem dX5_greatestDivisor_31 : decode cX5_greatestDivisor 31 = .ok (.goto (-24), 3) := kX5_greatestDivisor_24.2.1.1
theorem dX5_greatestDivisor_34 : decode cX5_greatestDivisor 34 = .ok (.iload_n 2, 1) := kX5_greatestDivisor_24.2.1.2
theorem dX5_greatestDivisor_35 : decode cX5_greatestDivisor 35 = .ok (.ireturn, 1) := kX5_greatestDivisor_24.2.2
set_option maxRecDepth 20000 in
theorem ggX5_heard_X2_has : GoodIn wsX5_heard wsX2_has := goodIn_r _ [6, 7, 119, 120, 121, 122, 123, 124, 125] rfl (by decide +kernel)
set_option maxRecDepth 20000 in
theorem gX5_heard_X2_has_n68 : GoodIn wsX5_heard (wsX2_has) := ggX5_heard_X2_has
set_option maxRecDepth 20000 in
theorem ggX5_heard_X5_isSheet : GoodIn wsX5_heard wsX5_isSheet := goodIn_r _ [11] rfl (by decide +kernel)
set_option maxRecDepth 20000 in
theorem gX5_heard_X5_isSheet : GoodIn wsX5_heard (va_wsS RX5 224 yX5_isSheet wsX5_isSheet) := goodIn_app (goodIn_of _ (by decide +kernel)) ggX5_heard_X5_isSheet
set_option maxRecDepth 20000 in
theorem ggX5_heard_X5_isLane : GoodIn wsX5_heard wsX5_isLane := goodIn_r _ [14] rfl (by decide +kernel)
set_option maxRecDepth 20000 in
theorem gX5_heard_X5_isLane : GoodIn wsX5_heard (va_wsS RX5 227 yX5_isLane wsX5_isLane) := goodIn_app (goodIn_of _ (by decide +kernel)) ggX5_heard_X5_isLane
set_option maxRecDepth 20000 in
theorem ggX5_heard_X3_refusal : GoodIn wsX5_heard wsX3_refusal := goodIn_r _ [18, 19, 20, 21, 22, 16, 23, 24, 25, 26, 27, 28, 126, 127, 128] rfl (by decide +kernel)
set_option maxRecDepth 20000 in
theorem gX5_heard_X3_refusal_n230 : GoodIn wsX5_heard (wsX3_refusal) := ggX5_heard_X3_refusal
set_option maxRecDepth 20000 in
theorem ggX5_heard_X5_guessesHeard : GoodIn wsX5_heard wsX5_guessesHeard := goodIn_r _ [32, 33, 1, 34, 4, 35, 36, 7, 37, 38, 39, 40, 41, 42, 43, 44, 45, 10, 46, 3, 5, 6, 47, 48, 49, 50, 51, 52, 53, 54, 55, 56, 57, 58, 59, 60, 61, 62, 63, 64, 65, 66, 67, 68, 69, 70, 71, 72, 73, 74, 75, 76, 77, 78, 79, 80, 81, 82, 83, 84, 85, 86, 87, 88, 89, 90, 91, 92, 93, 94, 95, 96, 97, 98, 99, 100, 101, 102, 103, 104, 105, 106, 107, 108, 109, 110, 111, 112, 113, 114, 115, 116, 117, 118, 119, 120, 121, 122, 123, 124, 125, 126, 127, 128] rfl (by decide +kernel)
set_option maxRecDepth 20000 in
theorem gX5_heard_X5_guessesHeard : GoodIn wsX5_heard (wsV RX5 233 RX5 yX5_guessesHeard wsX5_guessesHeard) := goodIn_app (goodIn_of _ (by decide +kernel)) ggX5_heard_X5_guessesHeard
theorem kX5_heard_0 : (((((decode cX5_heard 0 = .ok (.aload_n 0, 1)) ∧ (decode cX5_heard 1 = .ok (.getfield 10, 3))) ∧ ((decode cX5_heard 4 = .ok (.iload_n 1, 1)) ∧ (decode cX5_heard 5 = .ok (.invokevirtual 68, 3)))) ∧ (((decode cX5_heard 8 = .ok (.ifCond .eq 30, 3)) ∧ (decode cX5_heard 11 = .ok (.iload_n 2, 1))) ∧ ((decode cX5_heard 12 = .ok (.invokestatic 224, 3)) ∧ (decode cX5_heard 15 = .ok (.ifCond .eq 23, 3))))) ∧ ((((decode cX5_heard 18 = .ok (.iload_n 3, 1)) ∧ (decode cX5_heard 19 = .ok (.invokestatic 227, 3))) ∧ ((decode cX5_heard 22 = .ok (.ifCond .eq 16, 3)) ∧ (decode cX5_heard 25 = .ok (.iload 5, 2)))) ∧ (((decode cX5_heard 27 = .ok (.iconst 1, 1)) ∧ (decode cX5_heard 28 = .ok (.if_icmp .lt 10, 3))) ∧ ((decode cX5_heard 31 = .ok (.iload 5, 2)) ∧ (decode cX5_heard 33 = .ok (.bipush 8, 2)))))) := by decide +kernel
theorem dX5_heard_0 : decode cX5_heard 0 = .ok (.aload_n 0, 1) := kX5_heard_0.1.1.1.1
theorem dX5_heard_1 : decode cX5_heard 1 = .ok (.getfield 10, 3) := kX5_heard_0.1.1.1.2
theorem dX5_heard_4 : decode cX5_heard 4 = .ok (.iload_n 1, 1) := kX5_heard_0.1.1.2.1
theorem dX5_heard_5 : decode cX5_heard 5 = .ok (.invokevirtual 68, 3) := kX5_heard_0.1.1.2.2
theorem dX5_heard_8 : decode cX5_heard 8 = .ok (.ifCond .eq 30, 3) := kX5_heard_0.1.2.1.1
theorem dX5_heard_11 : decode cX5_heard 11 = .ok (.iload_n 2, 1) := kX5_heard_0.1.2.1.2
theorem dX5_heard_12 : decode cX5_heard 12 = .ok (.invokestatic 224, 3) := kX5_heard_0.1.2.2.1
theorem dX5_heard_15 : decode cX5_heard 15 = .ok (.ifCond .eq 23, 3) := kX5_heard_0.1.2.2.2
theorem dX5_heard_18 : decode cX5_heard 18 = .ok (.iload_n 3, 1) := kX5_heard_0.2.1.1.1
theorem dX5_heard_19 : decode cX5_heard 19 = .ok (.invokestatic 227, 3) := kX5_heard_0.2.1.1.2
theorem dX5_heard_22 : decode cX5_heard 22 = .ok (.ifCond .eq 16, 3) := kX5_heard_0.2.1.2.1
theorem dX5_heard_25 : decode cX5_heard 25 = .ok (.iload 5, 2) := kX5_heard_0.2.1.2.2
theorem dX5_heard_27 : decode cX5_heard 27 = .ok (.iconst 1, 1) := kX5_heard_0.2.2.1.1
theorem dX5_heard_28 : decode cX5_heard 28 = .ok (.if_icmp .lt 10, 3) := kX5_heard_0.2.2.1.2
theorem dX5_heard_31 : decode cX5_heard 31 = .ok (.iload 5, 2) := kX5_heard_0.2.2.2.1
theorem dX5_heard_33 : decode cX5_heard 33 = .ok (.bipush 8, 2) := kX5_heard_0.2.2.2.2
theorem kX5_heard_35 : (((((decode cX5_heard 35 = .ok (.if_icmp .le 5, 3)) ∧ (decode cX5_heard 38 = .ok (.iconst (-1), 1))) ∧ ((decode cX5_heard 39 = .ok (.ireturn, 1)) ∧ (decode cX5_heard 40 = .ok (.iload 6, 2)))) ∧ (((decode cX5_heard 42 = .ok (.ifCond .lt 17, 3)) ∧ (decode cX5_heard 45 = .ok (.iload 6, 2))) ∧ ((decode cX5_heard 47 = .ok (.iconst 2, 1)) ∧ (decode cX5_heard 48 = .ok (.aload_n 0, 1))))) ∧ ((((decode cX5_heard 49 = .ok (.getfield 10, 3)) ∧ (decode cX5_heard 52 = .ok (.getfield 57, 3))) ∧ ((decode cX5_heard 55 = .ok (.iadd, 1)) ∧ (decode cX5_heard 56 = .ok (.if_icmp .lt 5, 3)))) ∧ (((decode cX5_heard 59 = .ok (.iconst (-1), 1)) ∧ (decode cX5_heard 60 = .ok (.ireturn, 1))) ∧ ((decode cX5_heard 61 = .ok (.aload_n 0, 1)) ∧ (decode cX5_heard 62 = .ok (.getfield 52, 3)))))) := by decide +kernel
theorem dX5_heard_35 : decode cX5_heard 35 = .ok (.if_icmp .le 5, 3) := kX5_heard_35.1.1.1.1
theorem dX5_heard_38 : decode cX5_heard 38 = .ok (.iconst (-1), 1) := kX5_heard_35.1.1.1.2
theorem dX5_heard_39 : decode cX5_heard 39 = .ok (.ireturn, 1) := kX5_heard_35.1.1.2.1
theorem dX5_heard_40 : decode cX5_heard 40 = .ok (.iload 6, 2) := kX5_heard_35.1.1.2.2
theorem dX5_heard_42 : decode cX5_heard 42 = .ok (.ifCond .lt 17, 3) := kX5_heard_35.1.2.1.1
theorem dX5_heard_45 : decode cX5_heard 45 = .ok (.iload 6, 2) := kX5_heard_35.1.2.1.2
theorem dX5_heard_47 : decode cX5_heard 47 = .ok (.iconst 2, 1) := kX5_heard_35.1.2.2.1
theorem dX5_heard_48 : decode cX5_heard 48 = .ok (.aload_n 0, 1) := kX5_heard_35.1.2.2.2
theorem dX5_heard_49 : decode cX5_heard 49 = .ok (.getfield 10, 3) := kX5_heard_35.2.1.1.1
theorem dX5_heard_52 : decode cX5_heard 52 = .ok (.getfield 57, 3) := kX5_heard_35.2.1.1.2
theorem dX5_heard_55 : decode cX5_heard 55 = .ok (.iadd, 1) := kX5_heard_35.2.1.2.1
theorem dX5_heard_56 : decode cX5_heard 56 = .ok (.if_icmp .lt 5, 3) := kX5_heard_35.2.1.2.2
theorem dX5_heard_59 : decode cX5_heard 59 = .ok (.iconst (-1), 1) := kX5_heard_35.2.2.1.1
theorem dX5_heard_60 : decode cX5_heard 60 = .ok (.ireturn, 1) := kX5_heard_35.2.2.1.2
theorem dX5_heard_61 : decode cX5_heard 61 = .ok (.aload_n 0, 1) := kX5_heard_35.2.2.2.1
theorem dX5_heard_62 : decode cX5_heard 62 = .ok (.getfield 52, 3) := kX5_heard_35.2.2.2.2
theorem kX5_heard_65 : (((((decode cX5_heard 65 = .ok (.iload_n 2, 1)) ∧ (decode cX5_heard 66 = .ok (.aaload, 1))) ∧ ((decode cX5_heard 67 = .ok (.iload_n 3, 1)) ∧ (decode cX5_heard 68 = .ok (.iload 4, 2)))) ∧ (((decode cX5_heard 70 = .ok (.iload 5, 2)) ∧ (decode cX5_heard 72 = .ok (.invokevirtual 230, 3))) ∧ ((decode cX5_heard 75 = .ok (.istore 7, 2)) ∧ (decode cX5_heard 77 = .ok (.iload 7, 2))))) ∧ ((((decode cX5_heard 79 = .ok (.ifCond .eq 8, 3)) ∧ (decode cX5_heard 82 = .ok (.iload 7, 2))) ∧ ((decode cX5_heard 84 = .ok (.goto 20, 3)) ∧ (decode cX5_heard 87 = .ok (.aload_n 0, 1)))) ∧ (((decode cX5_heard 88 = .ok (.iload_n 1, 1)) ∧ (decode cX5_heard 89 = .ok (.iload 6, 2))) ∧ ((decode cX5_heard 91 = .ok (.aload_n 0, 1)) ∧ (decode cX5_heard 92 = .ok (.getfield 52, 3)))))) := by decide +kernel
theorem dX5_heard_65 : decode cX5_heard 65 = .ok (.iload_n 2, 1) := kX5_heard_65.1.1.1.1
theorem dX5_heard_66 : decode cX5_heard 66 = .ok (.aaload, 1) := kX5_heard_65.1.1.1.2
theorem dX5_heard_67 : decode cX5_heard 67 = .ok (.iload_n 3, 1) := kX5_heard_65.1.1.2.1
theorem dX5_heard_68 : decode cX5_heard 68 = .ok (.iload 4, 2) := kX5_heard_65.1.1.2.2
theorem dX5_heard_70 : decode cX5_heard 70 = .ok (.iload 5, 2) := kX5_heard_65.1.2.1.1
theorem dX5_heard_72 : decode cX5_heard 72 = .ok (.invokevirtual 230, 3) := kX5_heard_65.1.2.1.2
theorem dX5_heard_75 : decode cX5_heard 75 = .ok (.istore 7, 2) := kX5_heard_65.1.2.2.1
theorem dX5_heard_77 : decode cX5_heard 77 = .ok (.iload 7, 2) := kX5_heard_65.1.2.2.2
theorem dX5_heard_79 : decode cX5_heard 79 = .ok (.ifCond .eq 8, 3) := kX5_heard_65.2.1.1.1
theorem dX5_heard_82 : decode cX5_heard 82 = .ok (.iload 7, 2) := kX5_heard_65.2.1.1.2
theorem dX5_heard_84 : decode cX5_heard 84 = .ok (.goto 20, 3) := kX5_heard_65.2.1.2.1
theorem dX5_heard_87 : decode cX5_heard 87 = .ok (.aload_n 0, 1) := kX5_heard_65.2.1.2.2
theorem dX5_heard_88 : decode cX5_heard 88 = .ok (.iload_n 1, 1) := kX5_heard_65.2.2.1.1
theorem dX5_heard_89 : decode cX5_heard 89 = .ok (.iload 6, 2) := kX5_heard_65.2.2.1.2
theorem dX5_heard_91 : decode cX5_heard 91 = .ok (.aload_n 0, 1) := kX5_heard_65.2.2.2.1
theorem dX5_heard_92 : decode cX5_heard 92 = .ok (.getfield 52, 3) := kX5_heard_65.2.2.2.2
theorem kX5_heard_95 : ((((decode cX5_heard 95 = .ok (.iload_n 2, 1)) ∧ (decode cX5_heard 96 = .ok (.aaload, 1))) ∧ (decode cX5_heard 97 = .ok (.iload 4, 2))) ∧ (((decode cX5_heard 99 = .ok (.iload 5, 2)) ∧ (decode cX5_heard 101 = .ok (.invokevirtual 233, 3))) ∧ (decode cX5_heard 104 = .ok (.ireturn, 1)))) := by decide +kernel
theorem dX5_heard_95 : decode cX5_heard 95 = .ok (.iload_n 2, 1) := kX5_heard_95.1.1.1
theorem dX5_heard_96 : decode cX5_heard 96 = .ok (.aaload, 1) := kX5_heard_95.1.1.2
theorem dX5_heard_97 : decode cX5_heard 97 = .ok (.iload 4, 2) := kX5_heard_95.1.2
theorem dX5_heard_99 : decode cX5_heard 99 = .ok (.iload 5, 2) := kX5_heard_95.2.1.1
theorem dX5_heard_101 : decode cX5_heard 101 = .ok (.invokevirtual 233, 3) := kX5_heard_95.2.1.2
theorem dX5_heard_104 : decode cX5_heard 104 = .ok (.ireturn, 1) := kX5_heard_95.2.2
set_option maxRecDepth 20000 in
theorem ggX5_film_X2_has : GoodIn wsX5_film wsX2_has := goodIn_r _ [7, 8, 111, 112, 113, 114, 115, 116, 117] rfl (by decide +kernel)
set_option maxRecDepth 20000 in
theorem gX5_film_X2_has_n68 : GoodIn wsX5_film (wsX2_has) := ggX5_film_X2_has
set_option maxRecDepth 20000 in
theorem ggX5_film_X5_isSheet : GoodIn wsX5_film wsX5_isSheet := goodIn_r _ [12] rfl (by decide +kernel)
set_option maxRecDepth 20000 in
theorem gX5_film_X5_isSheet : GoodIn wsX5_film (va_wsS RX5 224 yX5_isSheet wsX5_isSheet) := goodIn_app (goodIn_of _ (by decide +kernel)) ggX5_film_X5_isSheet
set_option maxRecDepth 20000 in
theorem ggX5_film_X5_isLane : GoodIn wsX5_film wsX5_isLane := goodIn_r _ [15] rfl (by decide +kernel)
set_option maxRecDepth 20000 in
theorem gX5_film_X5_isLane : GoodIn wsX5_film (va_wsS RX5 227 yX5_isLane wsX5_isLane) := goodIn_app (goodIn_of _ (by decide +kernel)) ggX5_film_X5_isLane
set_option maxRecDepth 20000 in
theorem ggX5_film_X3_refusal : GoodIn wsX5_film wsX3_refusal := goodIn_r _ [19, 20, 21, 22, 23, 17, 24, 25, 26, 27, 28, 29, 118, 119, 120] rfl (by decide +kernel)
set_option maxRecDepth 20000 in
theorem gX5_film_X3_refusal_n230 : GoodIn wsX5_film (wsX3_refusal) := ggX5_film_X3_refusal
set_option maxRecDepth 20000 in
theorem ggX5_film_X2_become : GoodIn wsX5_film wsX2_become := goodIn_r _ [32, 8, 33, 34, 35, 36, 37, 38, 111, 112, 113, 114, 115, 116, 117] rfl (by decide +kernel)
set_option maxRecDepth 20000 in
theorem gX5_film_X2_become_n115 : GoodIn wsX5_film (wsX2_become) := ggX5_film_X2_become
set_option maxRecDepth 20000 in
theorem ggX5_film_X2_passHour : GoodIn wsX5_film wsX2_passHour := goodIn_r _ [41, 42, 43, 44, 5, 45, 33, 46, 47, 48, 49, 8, 37, 50, 51, 52, 53, 36, 54, 4, 6, 7, 55, 56, 57, 58, 38, 59, 60, 61, 62, 63, 64, 65, 66, 67, 68, 69, 70, 71, 72, 73, 74, 75, 76, 77, 78, 79, 80, 81, 35, 82, 83, 84, 85, 86, 87, 88, 89, 90, 91, 92, 93, 94, 95, 96, 97, 111, 112, 113, 114, 115, 116, 117] rfl (by decide +kernel)
set_option maxRecDepth 20000 in
theorem gX5_film_X2_passHour_n152 : GoodIn wsX5_film (wsX2_passHour) := ggX5_film_X2_passHour
set_option maxRecDepth 20000 in
theorem ggX5_film_X3_put : GoodIn wsX5_film wsX3_put := goodIn_r _ [100, 20, 101, 118, 119, 120] rfl (by decide +kernel)
set_option maxRecDepth 20000 in
theorem gX5_film_X3_put_n237 : GoodIn wsX5_film (wsX3_put) := ggX5_film_X3_put
theorem kX5_film_0 : (((((decode cX5_film 0 = .ok (.aload_n 0, 1)) ∧ (decode cX5_film 1 = .ok (.getfield 10, 3))) ∧ ((decode cX5_film 4 = .ok (.iload_n 1, 1)) ∧ (decode cX5_film 5 = .ok (.invokevirtual 68, 3)))) ∧ (((decode cX5_film 8 = .ok (.ifCond .eq 29, 3)) ∧ (decode cX5_film 11 = .ok (.iload_n 2, 1))) ∧ ((decode cX5_film 12 = .ok (.iconst 1, 1)) ∧ (decode cX5_film 13 = .ok (.if_icmp .lt 24, 3))))) ∧ ((((decode cX5_film 16 = .ok (.iload_n 2, 1)) ∧ (decode cX5_film 17 = .ok (.bipush 24, 2))) ∧ ((decode cX5_film 19 = .ok (.if_icmp .gt 18, 3)) ∧ (decode cX5_film 22 = .ok (.iload_n 3, 1)))) ∧ (((decode cX5_film 23 = .ok (.invokestatic 224, 3)) ∧ (decode cX5_film 26 = .ok (.ifCond .eq 11, 3))) ∧ ((decode cX5_film 29 = .ok (.iload 4, 2)) ∧ (decode cX5_film 31 = .ok (.invokestatic 227, 3)))))) := by decide +kernel
theorem dX5_film_0 : decode cX5_film 0 = .ok (.aload_n 0, 1) := kX5_film_0.1.1.1.1
theorem dX5_film_1 : decode cX5_film 1 = .ok (.getfield 10, 3) := kX5_film_0.1.1.1.2
theorem dX5_film_4 : decode cX5_film 4 = .ok (.iload_n 1, 1) := kX5_film_0.1.1.2.1
theorem dX5_film_5 : decode cX5_film 5 = .ok (.invokevirtual 68, 3) := kX5_film_0.1.1.2.2
theorem dX5_film_8 : decode cX5_film 8 = .ok (.ifCond .eq 29, 3) := kX5_film_0.1.2.1.1
theorem dX5_film_11 : decode cX5_film 11 = .ok (.iload_n 2, 1) := kX5_film_0.1.2.1.2
theorem dX5_film_12 : decode cX5_film 12 = .ok (.iconst 1, 1) := kX5_film_0.1.2.2.1
theorem dX5_film_13 : decode cX5_film 13 = .ok (.if_icmp .lt 24, 3) := kX5_film_0.1.2.2.2
theorem dX5_film_16 : decode cX5_film 16 = .ok (.iload_n 2, 1) := kX5_film_0.2.1.1.1
theorem dX5_film_17 : decode cX5_film 17 = .ok (.bipush 24, 2) := kX5_film_0.2.1.1.2
theorem dX5_film_19 : decode cX5_film 19 = .ok (.if_icmp .gt 18, 3) := kX5_film_0.2.1.2.1
theorem dX5_film_22 : decode cX5_film 22 = .ok (.iload_n 3, 1) := kX5_film_0.2.1.2.2
theorem dX5_film_23 : decode cX5_film 23 = .ok (.invokestatic 224, 3) := kX5_film_0.2.2.1.1
theorem dX5_film_26 : decode cX5_film 26 = .ok (.ifCond .eq 11, 3) := kX5_film_0.2.2.1.2
theorem dX5_film_29 : decode cX5_film 29 = .ok (.iload 4, 2) := kX5_film_0.2.2.2.1
theorem dX5_film_31 : decode cX5_film 31 = .ok (.invokestatic 227, 3) := kX5_film_0.2.2.2.2
theorem kX5_film_34 : (((((decode cX5_film 34 = .ok (.ifCond .ne 5, 3)) ∧ (decode cX5_film 37 = .ok (.iconst (-1), 1))) ∧ ((decode cX5_film 38 = .ok (.ireturn, 1)) ∧ (decode cX5_film 39 = .ok (.aload_n 0, 1)))) ∧ (((decode cX5_film 40 = .ok (.getfield 52, 3)) ∧ (decode cX5_film 43 = .ok (.iload_n 3, 1))) ∧ ((decode cX5_film 44 = .ok (.aaload, 1)) ∧ (decode cX5_film 45 = .ok (.iload 4, 2))))) ∧ ((((decode cX5_film 47 = .ok (.iload 5, 2)) ∧ (decode cX5_film 49 = .ok (.iload_n 2, 1))) ∧ ((decode cX5_film 50 = .ok (.invokevirtual 230, 3)) ∧ (decode cX5_film 53 = .ok (.istore 6, 2)))) ∧ (((decode cX5_film 55 = .ok (.iload 6, 2)) ∧ (decode cX5_film 57 = .ok (.ifCond .eq 6, 3))) ∧ ((decode cX5_film 60 = .ok (.iload 6, 2)) ∧ (decode cX5_film 62 = .ok (.ireturn, 1)))))) := by decide +kernel
theorem dX5_film_34 : decode cX5_film 34 = .ok (.ifCond .ne 5, 3) := kX5_film_34.1.1.1.1
theorem dX5_film_37 : decode cX5_film 37 = .ok (.iconst (-1), 1) := kX5_film_34.1.1.1.2
theorem dX5_film_38 : decode cX5_film 38 = .ok (.ireturn, 1) := kX5_film_34.1.1.2.1
theorem dX5_film_39 : decode cX5_film 39 = .ok (.aload_n 0, 1) := kX5_film_34.1.1.2.2
theorem dX5_film_40 : decode cX5_film 40 = .ok (.getfield 52, 3) := kX5_film_34.1.2.1.1
theorem dX5_film_43 : decode cX5_film 43 = .ok (.iload_n 3, 1) := kX5_film_34.1.2.1.2
theorem dX5_film_44 : decode cX5_film 44 = .ok (.aaload, 1) := kX5_film_34.1.2.2.1
theorem dX5_film_45 : decode cX5_film 45 = .ok (.iload 4, 2) := kX5_film_34.1.2.2.2
theorem dX5_film_47 : decode cX5_film 47 = .ok (.iload 5, 2) := kX5_film_34.2.1.1.1
theorem dX5_film_49 : decode cX5_film 49 = .ok (.iload_n 2, 1) := kX5_film_34.2.1.1.2
theorem dX5_film_50 : decode cX5_film 50 = .ok (.invokevirtual 230, 3) := kX5_film_34.2.1.2.1
theorem dX5_film_53 : decode cX5_film 53 = .ok (.istore 6, 2) := kX5_film_34.2.1.2.2
theorem dX5_film_55 : decode cX5_film 55 = .ok (.iload 6, 2) := kX5_film_34.2.2.1.1
theorem dX5_film_57 : decode cX5_film 57 = .ok (.ifCond .eq 6, 3) := kX5_film_34.2.2.1.2
theorem dX5_film_60 : decode cX5_film 60 = .ok (.iload 6, 2) := kX5_film_34.2.2.2.1
theorem dX5_film_62 : decode cX5_film 62 = .ok (.ireturn, 1) := kX5_film_34.2.2.2.2
theorem kX5_film_63 : (((((decode cX5_film 63 = .ok (.aload_n 0, 1)) ∧ (decode cX5_film 64 = .ok (.getfield 33, 3))) ∧ ((decode cX5_film 67 = .ok (.aload_n 0, 1)) ∧ (decode cX5_film 68 = .ok (.getfield 10, 3)))) ∧ (((decode cX5_film 71 = .ok (.invokevirtual 115, 3)) ∧ (decode cX5_film 74 = .ok (.iconst 0, 1))) ∧ ((decode cX5_film 75 = .ok (.istore 7, 2)) ∧ (decode cX5_film 77 = .ok (.iload 7, 2))))) ∧ ((((decode cX5_film 79 = .ok (.iload_n 2, 1)) ∧ (decode cX5_film 80 = .ok (.if_icmp .ge 40, 3))) ∧ ((decode cX5_film 83 = .ok (.aload_n 0, 1)) ∧ (decode cX5_film 84 = .ok (.getfield 33, 3)))) ∧ (((decode cX5_film 87 = .ok (.invokevirtual 152, 3)) ∧ (decode cX5_film 90 = .ok (.aload_n 0, 1))) ∧ ((decode cX5_film 91 = .ok (.getfield 52, 3)) ∧ (decode cX5_film 94 = .ok (.iload_n 3, 1)))))) := by decide +kernel
theorem dX5_film_63 : decode cX5_film 63 = .ok (.aload_n 0, 1) := kX5_film_63.1.1.1.1
theorem dX5_film_64 : decode cX5_film 64 = .ok (.getfield 33, 3) := kX5_film_63.1.1.1.2
theorem dX5_film_67 : decode cX5_film 67 = .ok (.aload_n 0, 1) := kX5_film_63.1.1.2.1
theorem dX5_film_68 : decode cX5_film 68 = .ok (.getfield 10, 3) := kX5_film_63.1.1.2.2
theorem dX5_film_71 : decode cX5_film 71 = .ok (.invokevirtual 115, 3) := kX5_film_63.1.2.1.1
theorem dX5_film_74 : decode cX5_film 74 = .ok (.iconst 0, 1) := kX5_film_63.1.2.1.2
theorem dX5_film_75 : decode cX5_film 75 = .ok (.istore 7, 2) := kX5_film_63.1.2.2.1
theorem dX5_film_77 : decode cX5_film 77 = .ok (.iload 7, 2) := kX5_film_63.1.2.2.2
theorem dX5_film_79 : decode cX5_film 79 = .ok (.iload_n 2, 1) := kX5_film_63.2.1.1.1
theorem dX5_film_80 : decode cX5_film 80 = .ok (.if_icmp .ge 40, 3) := kX5_film_63.2.1.1.2
theorem dX5_film_83 : decode cX5_film 83 = .ok (.aload_n 0, 1) := kX5_film_63.2.1.2.1
theorem dX5_film_84 : decode cX5_film 84 = .ok (.getfield 33, 3) := kX5_film_63.2.1.2.2
theorem dX5_film_87 : decode cX5_film 87 = .ok (.invokevirtual 152, 3) := kX5_film_63.2.2.1.1
theorem dX5_film_90 : decode cX5_film 90 = .ok (.aload_n 0, 1) := kX5_film_63.2.2.1.2
theorem dX5_film_91 : decode cX5_film 91 = .ok (.getfield 52, 3) := kX5_film_63.2.2.2.1
theorem dX5_film_94 : decode cX5_film 94 = .ok (.iload_n 3, 1) := kX5_film_63.2.2.2.2
theorem kX5_film_95 : (((((decode cX5_film 95 = .ok (.aaload, 1)) ∧ (decode cX5_film 96 = .ok (.iload 5, 2))) ∧ ((decode cX5_film 98 = .ok (.iload 7, 2)) ∧ (decode cX5_film 100 = .ok (.iadd, 1)))) ∧ (((decode cX5_film 101 = .ok (.aload_n 0, 1)) ∧ (decode cX5_film 102 = .ok (.getfield 33, 3))) ∧ ((decode cX5_film 105 = .ok (.getfield 76, 3)) ∧ (decode cX5_film 108 = .ok (.iload_n 1, 1))))) ∧ ((((decode cX5_film 109 = .ok (.iaload, 1)) ∧ (decode cX5_film 110 = .ok (.i2l, 1))) ∧ ((decode cX5_film 111 = .ok (.invokevirtual 237, 3)) ∧ (decode cX5_film 114 = .ok (.iinc 7 1, 3)))) ∧ (((decode cX5_film 117 = .ok (.goto (-40), 3)) ∧ (decode cX5_film 120 = .ok (.iload_n 2, 1))) ∧ (decode cX5_film 121 = .ok (.ireturn, 1))))) := by decide +kernel
theorem dX5_film_95 : decode cX5_film 95 = .ok (.aaload, 1) := kX5_film_95.1.1.1.1
theorem dX5_film_96 : decode cX5_film 96 = .ok (.iload 5, 2) := kX5_film_95.1.1.1.2
theorem dX5_film_98 : decode cX5_film 98 = .ok (.iload 7, 2) := kX5_film_95.1.1.2.1
theorem dX5_film_100 : decode cX5_film 100 = .ok (.iadd, 1) := kX5_film_95.1.1.2.2
theorem dX5_film_101 : decode cX5_film 101 = .ok (.aload_n 0, 1) := kX5_film_95.1.2.1.1
theorem dX5_film_102 : decode cX5_film 102 = .ok (.getfield 33, 3) := kX5_film_95.1.2.1.2
theorem dX5_film_105 : decode cX5_film 105 = .ok (.getfield 76, 3) := kX5_film_95.1.2.2.1
theorem dX5_film_108 : decode cX5_film 108 = .ok (.iload_n 1, 1) := kX5_film_95.1.2.2.2
theorem dX5_film_109 : decode cX5_film 109 = .ok (.iaload, 1) := kX5_film_95.2.1.1.1
theorem dX5_film_110 : decode cX5_film 110 = .ok (.i2l, 1) := kX5_film_95.2.1.1.2
theorem dX5_film_111 : decode cX5_film 111 = .ok (.invokevirtual 237, 3) := kX5_film_95.2.1.2.1
theorem dX5_film_114 : decode cX5_film 114 = .ok (.iinc 7 1, 3) := kX5_film_95.2.1.2.2
theorem dX5_film_117 : decode cX5_film 117 = .ok (.goto (-40), 3) := kX5_film_95.2.2.1.1
theorem dX5_film_120 : decode cX5_film 120 = .ok (.iload_n 2, 1) := kX5_film_95.2.2.1.2
theorem dX5_film_121 : decode cX5_film 121 = .ok (.ireturn, 1) := kX5_film_95.2.2.2
set_option maxRecDepth 20000 in
theorem ggX5_sheet_X5_isSheet : GoodIn wsX5_sheet wsX5_isSheet := goodIn_r _ [5] rfl (by decide +kernel)
set_option maxRecDepth 20000 in
theorem gX5_sheet_X5_isSheet : GoodIn wsX5_sheet (va_wsS RX5 224 yX5_isSheet wsX5_isSheet) := goodIn_app (goodIn_of _ (by decide +kernel)) ggX5_sheet_X5_isSheet
set_option maxRecDepth 20000 in
theorem ggX5_sheet_X5_isLane : GoodIn wsX5_sheet wsX5_isLane := goodIn_r _ [8] rfl (by decide +kernel)
set_option maxRecDepth 20000 in
theorem gX5_sheet_X5_isLane : GoodIn wsX5_sheet (va_wsS RX5 227 yX5_isLane wsX5_isLane) := goodIn_app (goodIn_of _ (by decide +kernel)) ggX5_sheet_X5_isLane
set_option maxRecDepth 20000 in
theorem ggX5_sheet_X3_begin : GoodIn wsX5_sheet wsX3_begin := goodIn_r _ [12, 13, 14, 15, 16, 17, 18, 19, 29, 30, 31] rfl (by decide +kernel)
set_option maxRecDepth 20000 in
theorem gX5_sheet_X3_begin_n241 : GoodIn wsX5_sheet (wsX3_begin) := ggX5_sheet_X3_begin
theorem kX5_sheet_0 : (((((decode cX5_sheet 0 = .ok (.iload_n 1, 1)) ∧ (decode cX5_sheet 1 = .ok (.invokestatic 224, 3))) ∧ ((decode cX5_sheet 4 = .ok (.ifCond .eq 16, 3)) ∧ (decode cX5_sheet 7 = .ok (.iload_n 2, 1)))) ∧ (((decode cX5_sheet 8 = .ok (.invokestatic 227, 3)) ∧ (decode cX5_sheet 11 = .ok (.ifCond .eq 9, 3))) ∧ ((decode cX5_sheet 14 = .ok (.iload_n 3, 1)) ∧ (decode cX5_sheet 15 = .ok (.bipush 24, 2))))) ∧ ((((decode cX5_sheet 17 = .ok (.if_icmp .le 5, 3)) ∧ (decode cX5_sheet 20 = .ok (.iconst (-1), 1))) ∧ ((decode cX5_sheet 21 = .ok (.ireturn, 1)) ∧ (decode cX5_sheet 22 = .ok (.iload_n 3, 1)))) ∧ (((decode cX5_sheet 23 = .ok (.ifCond .ge 6, 3)) ∧ (decode cX5_sheet 26 = .ok (.bipush (-14), 2))) ∧ ((decode cX5_sheet 28 = .ok (.ireturn, 1)) ∧ (decode cX5_sheet 29 = .ok (.aload_n 0, 1)))))) := by decide +kernel
theorem dX5_sheet_0 : decode cX5_sheet 0 = .ok (.iload_n 1, 1) := kX5_sheet_0.1.1.1.1
theorem dX5_sheet_1 : decode cX5_sheet 1 = .ok (.invokestatic 224, 3) := kX5_sheet_0.1.1.1.2
theorem dX5_sheet_4 : decode cX5_sheet 4 = .ok (.ifCond .eq 16, 3) := kX5_sheet_0.1.1.2.1
theorem dX5_sheet_7 : decode cX5_sheet 7 = .ok (.iload_n 2, 1) := kX5_sheet_0.1.1.2.2
theorem dX5_sheet_8 : decode cX5_sheet 8 = .ok (.invokestatic 227, 3) := kX5_sheet_0.1.2.1.1
theorem dX5_sheet_11 : decode cX5_sheet 11 = .ok (.ifCond .eq 9, 3) := kX5_sheet_0.1.2.1.2
theorem dX5_sheet_14 : decode cX5_sheet 14 = .ok (.iload_n 3, 1) := kX5_sheet_0.1.2.2.1
theorem dX5_sheet_15 : decode cX5_sheet 15 = .ok (.bipush 24, 2) := kX5_sheet_0.1.2.2.2
theorem dX5_sheet_17 : decode cX5_sheet 17 = .ok (.if_icmp .le 5, 3) := kX5_sheet_0.2.1.1.1
theorem dX5_sheet_20 : decode cX5_sheet 20 = .ok (.iconst (-1), 1) := kX5_sheet_0.2.1.1.2
theorem dX5_sheet_21 : decode cX5_sheet 21 = .ok (.ireturn, 1) := kX5_sheet_0.2.1.2.1
theorem dX5_sheet_22 : decode cX5_sheet 22 = .ok (.iload_n 3, 1) := kX5_sheet_0.2.1.2.2
theorem dX5_sheet_23 : decode cX5_sheet 23 = .ok (.ifCond .ge 6, 3) := kX5_sheet_0.2.2.1.1
theorem dX5_sheet_26 : decode cX5_sheet 26 = .ok (.bipush (-14), 2) := kX5_sheet_0.2.2.1.2
theorem dX5_sheet_28 : decode cX5_sheet 28 = .ok (.ireturn, 1) := kX5_sheet_0.2.2.2.1
theorem dX5_sheet_29 : decode cX5_sheet 29 = .ok (.aload_n 0, 1) := kX5_sheet_0.2.2.2.2
theorem kX5_sheet_30 : ((((decode cX5_sheet 30 = .ok (.getfield 52, 3)) ∧ (decode cX5_sheet 33 = .ok (.iload_n 1, 1))) ∧ ((decode cX5_sheet 34 = .ok (.aaload, 1)) ∧ (decode cX5_sheet 35 = .ok (.iload_n 2, 1)))) ∧ (((decode cX5_sheet 36 = .ok (.iload_n 3, 1)) ∧ (decode cX5_sheet 37 = .ok (.invokevirtual 241, 3))) ∧ ((decode cX5_sheet 40 = .ok (.iload_n 3, 1)) ∧ (decode cX5_sheet 41 = .ok (.ireturn, 1))))) := by decide +kernel
theorem dX5_sheet_30 : decode cX5_sheet 30 = .ok (.getfield 52, 3) := kX5_sheet_30.1.1.1
theorem dX5_sheet_33 : decode cX5_sheet 33 = .ok (.iload_n 1, 1) := kX5_sheet_30.1.1.2
theorem dX5_sheet_34 : decode cX5_sheet 34 = .ok (.aaload, 1) := kX5_sheet_30.1.2.1
theorem dX5_sheet_35 : decode cX5_sheet 35 = .ok (.iload_n 2, 1) := kX5_sheet_30.1.2.2
theorem dX5_sheet_36 : decode cX5_sheet 36 = .ok (.iload_n 3, 1) := kX5_sheet_30.2.1.1
theorem dX5_sheet_37 : decode cX5_sheet 37 = .ok (.invokevirtual 241, 3) := kX5_sheet_30.2.1.2
theorem dX5_sheet_40 : decode cX5_sheet 40 = .ok (.iload_n 3, 1) := kX5_sheet_30.2.2.1
theorem dX5_sheet_41 : decode cX5_sheet 41 = .ok (.ireturn, 1) := kX5_sheet_30.2.2.2
set_option maxRecDepth 20000 in
theorem ggX5_drop_X5_isSheet : GoodIn wsX5_drop wsX5_isSheet := goodIn_r _ [5] rfl (by decide +kernel)
set_option maxRecDepth 20000 in
theorem gX5_drop_X5_isSheet : GoodIn wsX5_drop (va_wsS RX5 224 yX5_isSheet wsX5_isSheet) := goodIn_app (goodIn_of _ (by decide +kernel)) ggX5_drop_X5_isSheet
set_option maxRecDepth 20000 in
theorem ggX5_drop_X3_isMissing : GoodIn wsX5_drop wsX3_isMissing := goodIn_r _ [9, 10, 23, 24, 25] rfl (by decide +kernel)
set_option maxRecDepth 20000 in
theorem gX5_drop_X3_isMissing_n244 : GoodIn wsX5_drop (wsX3_isMissing) := ggX5_drop_X3_isMissing
set_option maxRecDepth 20000 in
theorem ggX5_drop_X3_lose : GoodIn wsX5_drop wsX3_lose := goodIn_r _ [13, 10, 23, 24, 25] rfl (by decide +kernel)
set_option maxRecDepth 20000 in
theorem gX5_drop_X3_lose_n248 : GoodIn wsX5_drop (wsX3_lose) := ggX5_drop_X3_lose
theorem kX5_drop_0 : (((((decode cX5_drop 0 = .ok (.iload_n 1, 1)) ∧ (decode cX5_drop 1 = .ok (.invokestatic 224, 3))) ∧ ((decode cX5_drop 4 = .ok (.ifCond .ne 5, 3)) ∧ (decode cX5_drop 7 = .ok (.iconst (-1), 1)))) ∧ (((decode cX5_drop 8 = .ok (.ireturn, 1)) ∧ (decode cX5_drop 9 = .ok (.aload_n 0, 1))) ∧ ((decode cX5_drop 10 = .ok (.getfield 52, 3)) ∧ (decode cX5_drop 13 = .ok (.iload_n 1, 1))))) ∧ ((((decode cX5_drop 14 = .ok (.aaload, 1)) ∧ (decode cX5_drop 15 = .ok (.invokevirtual 244, 3))) ∧ ((decode cX5_drop 18 = .ok (.ifCond .eq 6, 3)) ∧ (decode cX5_drop 21 = .ok (.bipush (-11), 2)))) ∧ (((decode cX5_drop 23 = .ok (.ireturn, 1)) ∧ (decode cX5_drop 24 = .ok (.aload_n 0, 1))) ∧ ((decode cX5_drop 25 = .ok (.getfield 52, 3)) ∧ (decode cX5_drop 28 = .ok (.iload_n 1, 1)))))) := by decide +kernel
theorem dX5_drop_0 : decode cX5_drop 0 = .ok (.iload_n 1, 1) := kX5_drop_0.1.1.1.1
theorem dX5_drop_1 : decode cX5_drop 1 = .ok (.invokestatic 224, 3) := kX5_drop_0.1.1.1.2
theorem dX5_drop_4 : decode cX5_drop 4 = .ok (.ifCond .ne 5, 3) := kX5_drop_0.1.1.2.1
theorem dX5_drop_7 : decode cX5_drop 7 = .ok (.iconst (-1), 1) := kX5_drop_0.1.1.2.2
theorem dX5_drop_8 : decode cX5_drop 8 = .ok (.ireturn, 1) := kX5_drop_0.1.2.1.1
theorem dX5_drop_9 : decode cX5_drop 9 = .ok (.aload_n 0, 1) := kX5_drop_0.1.2.1.2
theorem dX5_drop_10 : decode cX5_drop 10 = .ok (.getfield 52, 3) := kX5_drop_0.1.2.2.1
theorem dX5_drop_13 : decode cX5_drop 13 = .ok (.iload_n 1, 1) := kX5_drop_0.1.2.2.2
theorem dX5_drop_14 : decode cX5_drop 14 = .ok (.aaload, 1) := kX5_drop_0.2.1.1.1
theorem dX5_drop_15 : decode cX5_drop 15 = .ok (.invokevirtual 244, 3) := kX5_drop_0.2.1.1.2
theorem dX5_drop_18 : decode cX5_drop 18 = .ok (.ifCond .eq 6, 3) := kX5_drop_0.2.1.2.1
theorem dX5_drop_21 : decode cX5_drop 21 = .ok (.bipush (-11), 2) := kX5_drop_0.2.1.2.2
theorem dX5_drop_23 : decode cX5_drop 23 = .ok (.ireturn, 1) := kX5_drop_0.2.2.1.1
theorem dX5_drop_24 : decode cX5_drop 24 = .ok (.aload_n 0, 1) := kX5_drop_0.2.2.1.2
theorem dX5_drop_25 : decode cX5_drop 25 = .ok (.getfield 52, 3) := kX5_drop_0.2.2.2.1
theorem dX5_drop_28 : decode cX5_drop 28 = .ok (.iload_n 1, 1) := kX5_drop_0.2.2.2.2
theorem kX5_drop_29 : (((((decode cX5_drop 29 = .ok (.aaload, 1)) ∧ (decode cX5_drop 30 = .ok (.getfield 247, 3))) ∧ (decode cX5_drop 33 = .ok (.istore_n 2, 1))) ∧ ((decode cX5_drop 34 = .ok (.aload_n 0, 1)) ∧ (decode cX5_drop 35 = .ok (.getfield 52, 3)))) ∧ ((((decode cX5_drop 38 = .ok (.iload_n 1, 1)) ∧ (decode cX5_drop 39 = .ok (.aaload, 1))) ∧ (decode cX5_drop 40 = .ok (.invokevirtual 248, 3))) ∧ ((decode cX5_drop 43 = .ok (.iload_n 2, 1)) ∧ (decode cX5_drop 44 = .ok (.ireturn, 1))))) := by decide +kernel
theorem dX5_drop_29 : decode cX5_drop 29 = .ok (.aaload, 1) := kX5_drop_29.1.1.1.1
theorem dX5_drop_30 : decode cX5_drop 30 = .ok (.getfield 247, 3) := kX5_drop_29.1.1.1.2
theorem dX5_drop_33 : decode cX5_drop 33 = .ok (.istore_n 2, 1) := kX5_drop_29.1.1.2
theorem dX5_drop_34 : decode cX5_drop 34 = .ok (.aload_n 0, 1) := kX5_drop_29.1.2.1
theorem dX5_drop_35 : decode cX5_drop 35 = .ok (.getfield 52, 3) := kX5_drop_29.1.2.2
theorem dX5_drop_38 : decode cX5_drop 38 = .ok (.iload_n 1, 1) := kX5_drop_29.2.1.1.1
theorem dX5_drop_39 : decode cX5_drop 39 = .ok (.aaload, 1) := kX5_drop_29.2.1.1.2
theorem dX5_drop_40 : decode cX5_drop 40 = .ok (.invokevirtual 248, 3) := kX5_drop_29.2.1.2
theorem dX5_drop_43 : decode cX5_drop 43 = .ok (.iload_n 2, 1) := kX5_drop_29.2.2.1
theorem dX5_drop_44 : decode cX5_drop 44 = .ok (.ireturn, 1) := kX5_drop_29.2.2.2
set_option maxRecDepth 20000 in
theorem ggX5_item_X5_isSheet : GoodIn wsX5_item wsX5_isSheet := goodIn_r _ [5] rfl (by decide +kernel)
set_option maxRecDepth 20000 in
theorem gX5_item_X5_isSheet : GoodIn wsX5_item (va_wsS RX5 224 yX5_isSheet wsX5_isSheet) := goodIn_app (goodIn_of _ (by decide +kernel)) ggX5_item_X5_isSheet
set_option maxRecDepth 20000 in
theorem ggX5_item_X5_isLane : GoodIn wsX5_item wsX5_isLane := goodIn_r _ [8] rfl (by decide +kernel)
set_option maxRecDepth 20000 in
theorem gX5_item_X5_isLane : GoodIn wsX5_item (va_wsS RX5 227 yX5_isLane wsX5_isLane) := goodIn_app (goodIn_of _ (by decide +kernel)) ggX5_item_X5_isLane
set_option maxRecDepth 20000 in
theorem ggX5_item_X3_refusal : GoodIn wsX5_item wsX3_refusal := goodIn_r _ [12, 13, 14, 15, 16, 10, 17, 18, 19, 20, 21, 22, 36, 37, 38] rfl (by decide +kernel)
set_option maxRecDepth 20000 in
theorem gX5_item_X3_refusal_n230 : GoodIn wsX5_item (wsX3_refusal) := ggX5_item_X3_refusal
set_option maxRecDepth 20000 in
theorem ggX5_item_X3_put : GoodIn wsX5_item wsX3_put := goodIn_r _ [25, 13, 26, 36, 37, 38] rfl (by decide +kernel)
set_option maxRecDepth 20000 in
theorem gX5_item_X3_put_n237 : GoodIn wsX5_item (wsX3_put) := ggX5_item_X3_put
theorem kX5_item_0 : (((((decode cX5_item 0 = .ok (.iload_n 1, 1)) ∧ (decode cX5_item 1 = .ok (.invokestatic 224, 3))) ∧ ((decode cX5_item 4 = .ok (.ifCond .eq 10, 3)) ∧ (decode cX5_item 7 = .ok (.iload_n 2, 1)))) ∧ (((decode cX5_item 8 = .ok (.invokestatic 227, 3)) ∧ (decode cX5_item 11 = .ok (.ifCond .ne 5, 3))) ∧ ((decode cX5_item 14 = .ok (.iconst (-1), 1)) ∧ (decode cX5_item 15 = .ok (.ireturn, 1))))) ∧ ((((decode cX5_item 16 = .ok (.aload_n 0, 1)) ∧ (decode cX5_item 17 = .ok (.getfield 52, 3))) ∧ ((decode cX5_item 20 = .ok (.iload_n 1, 1)) ∧ (decode cX5_item 21 = .ok (.aaload, 1)))) ∧ (((decode cX5_item 22 = .ok (.iload_n 2, 1)) ∧ (decode cX5_item 23 = .ok (.iload_n 3, 1))) ∧ ((decode cX5_item 24 = .ok (.iconst 1, 1)) ∧ (decode cX5_item 25 = .ok (.invokevirtual 230, 3)))))) := by decide +kernel
theorem dX5_item_0 : decode cX5_item 0 = .ok (.iload_n 1, 1) := kX5_item_0.1.1.1.1
theorem dX5_item_1 : decode cX5_item 1 = .ok (.invokestatic 224, 3) := kX5_item_0.1.1.1.2
theorem dX5_item_4 : decode cX5_item 4 = .ok (.ifCond .eq 10, 3) := kX5_item_0.1.1.2.1
theorem dX5_item_7 : decode cX5_item 7 = .ok (.iload_n 2, 1) := kX5_item_0.1.1.2.2
theorem dX5_item_8 : decode cX5_item 8 = .ok (.invokestatic 227, 3) := kX5_item_0.1.2.1.1
theorem dX5_item_11 : decode cX5_item 11 = .ok (.ifCond .ne 5, 3) := kX5_item_0.1.2.1.2
theorem dX5_item_14 : decode cX5_item 14 = .ok (.iconst (-1), 1) := kX5_item_0.1.2.2.1
theorem dX5_item_15 : decode cX5_item 15 = .ok (.ireturn, 1) := kX5_item_0.1.2.2.2
theorem dX5_item_16 : decode cX5_item 16 = .ok (.aload_n 0, 1) := kX5_item_0.2.1.1.1
theorem dX5_item_17 : decode cX5_item 17 = .ok (.getfield 52, 3) := kX5_item_0.2.1.1.2
theorem dX5_item_20 : decode cX5_item 20 = .ok (.iload_n 1, 1) := kX5_item_0.2.1.2.1
theorem dX5_item_21 : decode cX5_item 21 = .ok (.aaload, 1) := kX5_item_0.2.1.2.2
theorem dX5_item_22 : decode cX5_item 22 = .ok (.iload_n 2, 1) := kX5_item_0.2.2.1.1
theorem dX5_item_23 : decode cX5_item 23 = .ok (.iload_n 3, 1) := kX5_item_0.2.2.1.2
theorem dX5_item_24 : decode cX5_item 24 = .ok (.iconst 1, 1) := kX5_item_0.2.2.2.1
theorem dX5_item_25 : decode cX5_item 25 = .ok (.invokevirtual 230, 3) := kX5_item_0.2.2.2.2
theorem kX5_item_28 : (((((decode cX5_item 28 = .ok (.istore 6, 2)) ∧ (decode cX5_item 30 = .ok (.iload 6, 2))) ∧ ((decode cX5_item 32 = .ok (.ifCond .eq 6, 3)) ∧ (decode cX5_item 35 = .ok (.iload 6, 2)))) ∧ (((decode cX5_item 37 = .ok (.ireturn, 1)) ∧ (decode cX5_item 38 = .ok (.aload_n 0, 1))) ∧ (decode cX5_item 39 = .ok (.getfield 52, 3)))) ∧ ((((decode cX5_item 42 = .ok (.iload_n 1, 1)) ∧ (decode cX5_item 43 = .ok (.aaload, 1))) ∧ ((decode cX5_item 44 = .ok (.iload_n 3, 1)) ∧ (decode cX5_item 45 = .ok (.lload 4, 2)))) ∧ (((decode cX5_item 47 = .ok (.invokevirtual 237, 3)) ∧ (decode cX5_item 50 = .ok (.iconst 1, 1))) ∧ (decode cX5_item 51 = .ok (.ireturn, 1))))) := by decide +kernel
theorem dX5_item_28 : decode cX5_item 28 = .ok (.istore 6, 2) := kX5_item_28.1.1.1.1
theorem dX5_item_30 : decode cX5_item 30 = .ok (.iload 6, 2) := kX5_item_28.1.1.1.2
theorem dX5_item_32 : decode cX5_item 32 = .ok (.ifCond .eq 6, 3) := kX5_item_28.1.1.2.1
theorem dX5_item_35 : decode cX5_item 35 = .ok (.iload 6, 2) := kX5_item_28.1.1.2.2
theorem dX5_item_37 : decode cX5_item 37 = .ok (.ireturn, 1) := kX5_item_28.1.2.1.1
theorem dX5_item_38 : decode cX5_item 38 = .ok (.aload_n 0, 1) := kX5_item_28.1.2.1.2
theorem dX5_item_39 : decode cX5_item 39 = .ok (.getfield 52, 3) := kX5_item_28.1.2.2
theorem dX5_item_42 : decode cX5_item 42 = .ok (.iload_n 1, 1) := kX5_item_28.2.1.1.1
theorem dX5_item_43 : decode cX5_item 43 = .ok (.aaload, 1) := kX5_item_28.2.1.1.2
theorem dX5_item_44 : decode cX5_item 44 = .ok (.iload_n 3, 1) := kX5_item_28.2.1.2.1
theorem dX5_item_45 : decode cX5_item 45 = .ok (.lload 4, 2) := kX5_item_28.2.1.2.2
theorem dX5_item_47 : decode cX5_item 47 = .ok (.invokevirtual 237, 3) := kX5_item_28.2.2.1.1
theorem dX5_item_50 : decode cX5_item 50 = .ok (.iconst 1, 1) := kX5_item_28.2.2.1.2
theorem dX5_item_51 : decode cX5_item 51 = .ok (.ireturn, 1) := kX5_item_28.2.2.2
set_option maxRecDepth 20000 in
theorem ggX5_copy_X5_isSheet : GoodIn wsX5_copy wsX5_isSheet := goodIn_r _ [9] rfl (by decide +kernel)
set_option maxRecDepth 20000 in
theorem gX5_copy_X5_isSheet : GoodIn wsX5_copy (va_wsS RX5 224 yX5_isSheet wsX5_isSheet) := goodIn_app (goodIn_of _ (by decide +kernel)) ggX5_copy_X5_isSheet
set_option maxRecDepth 20000 in
theorem ggX5_copy_X3_isMissing : GoodIn wsX5_copy wsX3_isMissing := goodIn_r _ [13, 14, 27, 28, 29] rfl (by decide +kernel)
set_option maxRecDepth 20000 in
theorem gX5_copy_X3_isMissing_n244 : GoodIn wsX5_copy (wsX3_isMissing) := ggX5_copy_X3_isMissing
set_option maxRecDepth 20000 in
theorem ggX5_copy_X3_holds : GoodIn wsX5_copy wsX3_holds := goodIn_r _ [17, 14, 27, 28, 29] rfl (by decide +kernel)
set_option maxRecDepth 20000 in
theorem gX5_copy_X3_holds_n254 : GoodIn wsX5_copy (wsX3_holds) := ggX5_copy_X3_holds
theorem kX5_copy_0 : (((((decode cX5_copy 0 = .ok (.iload_n 1, 1)) ∧ (decode cX5_copy 1 = .ok (.invokestatic 224, 3))) ∧ ((decode cX5_copy 4 = .ok (.ifCond .eq 10, 3)) ∧ (decode cX5_copy 7 = .ok (.iload_n 3, 1)))) ∧ (((decode cX5_copy 8 = .ok (.invokestatic 224, 3)) ∧ (decode cX5_copy 11 = .ok (.ifCond .ne 5, 3))) ∧ ((decode cX5_copy 14 = .ok (.iconst (-1), 1)) ∧ (decode cX5_copy 15 = .ok (.ireturn, 1))))) ∧ ((((decode cX5_copy 16 = .ok (.aload_n 0, 1)) ∧ (decode cX5_copy 17 = .ok (.getfield 52, 3))) ∧ ((decode cX5_copy 20 = .ok (.iload_n 1, 1)) ∧ (decode cX5_copy 21 = .ok (.aaload, 1)))) ∧ (((decode cX5_copy 22 = .ok (.astore 6, 2)) ∧ (decode cX5_copy 24 = .ok (.aload_n 0, 1))) ∧ ((decode cX5_copy 25 = .ok (.getfield 52, 3)) ∧ (decode cX5_copy 28 = .ok (.iload_n 3, 1)))))) := by decide +kernel
theorem dX5_copy_0 : decode cX5_copy 0 = .ok (.iload_n 1, 1) := kX5_copy_0.1.1.1.1
theorem dX5_copy_1 : decode cX5_copy 1 = .ok (.invokestatic 224, 3) := kX5_copy_0.1.1.1.2
theorem dX5_copy_4 : decode cX5_copy 4 = .ok (.ifCond .eq 10, 3) := kX5_copy_0.1.1.2.1
theorem dX5_copy_7 : decode cX5_copy 7 = .ok (.iload_n 3, 1) := kX5_copy_0.1.1.2.2
theorem dX5_copy_8 : decode cX5_copy 8 = .ok (.invokestatic 224, 3) := kX5_copy_0.1.2.1.1
theorem dX5_copy_11 : decode cX5_copy 11 = .ok (.ifCond .ne 5, 3) := kX5_copy_0.1.2.1.2
theorem dX5_copy_14 : decode cX5_copy 14 = .ok (.iconst (-1), 1) := kX5_copy_0.1.2.2.1
theorem dX5_copy_15 : decode cX5_copy 15 = .ok (.ireturn, 1) := kX5_copy_0.1.2.2.2
theorem dX5_copy_16 : decode cX5_copy 16 = .ok (.aload_n 0, 1) := kX5_copy_0.2.1.1.1
theorem dX5_copy_17 : decode cX5_copy 17 = .ok (.getfield 52, 3) := kX5_copy_0.2.1.1.2
theorem dX5_copy_20 : decode cX5_copy 20 = .ok (.iload_n 1, 1) := kX5_copy_0.2.1.2.1
theorem dX5_copy_21 : decode cX5_copy 21 = .ok (.aaload, 1) := kX5_copy_0.2.1.2.2
theorem dX5_copy_22 : decode cX5_copy 22 = .ok (.astore 6, 2) := kX5_copy_0.2.2.1.1
theorem dX5_copy_24 : decode cX5_copy 24 = .ok (.aload_n 0, 1) := kX5_copy_0.2.2.1.2
theorem dX5_copy_25 : decode cX5_copy 25 = .ok (.getfield 52, 3) := kX5_copy_0.2.2.2.1
theorem dX5_copy_28 : decode cX5_copy 28 = .ok (.iload_n 3, 1) := kX5_copy_0.2.2.2.2
theorem kX5_copy_29 : (((((decode cX5_copy 29 = .ok (.aaload, 1)) ∧ (decode cX5_copy 30 = .ok (.astore 7, 2))) ∧ ((decode cX5_copy 32 = .ok (.aload 6, 2)) ∧ (decode cX5_copy 34 = .ok (.invokevirtual 244, 3)))) ∧ (((decode cX5_copy 37 = .ok (.ifCond .ne 11, 3)) ∧ (decode cX5_copy 40 = .ok (.aload 7, 2))) ∧ ((decode cX5_copy 42 = .ok (.invokevirtual 244, 3)) ∧ (decode cX5_copy 45 = .ok (.ifCond .eq 6, 3))))) ∧ ((((decode cX5_copy 48 = .ok (.bipush (-11), 2)) ∧ (decode cX5_copy 50 = .ok (.ireturn, 1))) ∧ ((decode cX5_copy 51 = .ok (.aload 6, 2)) ∧ (decode cX5_copy 53 = .ok (.getfield 251, 3)))) ∧ (((decode cX5_copy 56 = .ok (.aload 7, 2)) ∧ (decode cX5_copy 58 = .ok (.getfield 251, 3))) ∧ ((decode cX5_copy 61 = .ok (.if_icmp .eq 6, 3)) ∧ (decode cX5_copy 64 = .ok (.bipush (-12), 2)))))) := by decide +kernel
theorem dX5_copy_29 : decode cX5_copy 29 = .ok (.aaload, 1) := kX5_copy_29.1.1.1.1
theorem dX5_copy_30 : decode cX5_copy 30 = .ok (.astore 7, 2) := kX5_copy_29.1.1.1.2
theorem dX5_copy_32 : decode cX5_copy 32 = .ok (.aload 6, 2) := kX5_copy_29.1.1.2.1
theorem dX5_copy_34 : decode cX5_copy 34 = .ok (.invokevirtual 244, 3) := kX5_copy_29.1.1.2.2
theorem dX5_copy_37 : decode cX5_copy 37 = .ok (.ifCond .ne 11, 3) := kX5_copy_29.1.2.1.1
theorem dX5_copy_40 : decode cX5_copy 40 = .ok (.aload 7, 2) := kX5_copy_29.1.2.1.2
theorem dX5_copy_42 : decode cX5_copy 42 = .ok (.invokevirtual 244, 3) := kX5_copy_29.1.2.2.1
theorem dX5_copy_45 : decode cX5_copy 45 = .ok (.ifCond .eq 6, 3) := kX5_copy_29.1.2.2.2
theorem dX5_copy_48 : decode cX5_copy 48 = .ok (.bipush (-11), 2) := kX5_copy_29.2.1.1.1
theorem dX5_copy_50 : decode cX5_copy 50 = .ok (.ireturn, 1) := kX5_copy_29.2.1.1.2
theorem dX5_copy_51 : decode cX5_copy 51 = .ok (.aload 6, 2) := kX5_copy_29.2.1.2.1
theorem dX5_copy_53 : decode cX5_copy 53 = .ok (.getfield 251, 3) := kX5_copy_29.2.1.2.2
theorem dX5_copy_56 : decode cX5_copy 56 = .ok (.aload 7, 2) := kX5_copy_29.2.2.1.1
theorem dX5_copy_58 : decode cX5_copy 58 = .ok (.getfield 251, 3) := kX5_copy_29.2.2.1.2
theorem dX5_copy_61 : decode cX5_copy 61 = .ok (.if_icmp .eq 6, 3) := kX5_copy_29.2.2.2.1
theorem dX5_copy_64 : decode cX5_copy 64 = .ok (.bipush (-12), 2) := kX5_copy_29.2.2.2.2
theorem kX5_copy_66 : (((((decode cX5_copy 66 = .ok (.ireturn, 1)) ∧ (decode cX5_copy 67 = .ok (.aload 6, 2))) ∧ ((decode cX5_copy 69 = .ok (.iload_n 2, 1)) ∧ (decode cX5_copy 70 = .ok (.iload 5, 2)))) ∧ (((decode cX5_copy 72 = .ok (.invokevirtual 254, 3)) ∧ (decode cX5_copy 75 = .ok (.ifCond .eq 15, 3))) ∧ ((decode cX5_copy 78 = .ok (.aload 7, 2)) ∧ (decode cX5_copy 80 = .ok (.iload 4, 2))))) ∧ ((((decode cX5_copy 82 = .ok (.iload 5, 2)) ∧ (decode cX5_copy 84 = .ok (.invokevirtual 254, 3))) ∧ ((decode cX5_copy 87 = .ok (.ifCond .ne 6, 3)) ∧ (decode cX5_copy 90 = .ok (.bipush (-13), 2)))) ∧ (((decode cX5_copy 92 = .ok (.ireturn, 1)) ∧ (decode cX5_copy 93 = .ok (.aload 6, 2))) ∧ ((decode cX5_copy 95 = .ok (.getfield 258, 3)) ∧ (decode cX5_copy 98 = .ok (.iload_n 2, 1)))))) := by decide +kernel
theorem dX5_copy_66 : decode cX5_copy 66 = .ok (.ireturn, 1) := kX5_copy_66.1.1.1.1
theorem dX5_copy_67 : decode cX5_copy 67 = .ok (.aload 6, 2) := kX5_copy_66.1.1.1.2
theorem dX5_copy_69 : decode cX5_copy 69 = .ok (.iload_n 2, 1) := kX5_copy_66.1.1.2.1
theorem dX5_copy_70 : decode cX5_copy 70 = .ok (.iload 5, 2) := kX5_copy_66.1.1.2.2
theorem dX5_copy_72 : decode cX5_copy 72 = .ok (.invokevirtual 254, 3) := kX5_copy_66.1.2.1.1
theorem dX5_copy_75 : decode cX5_copy 75 = .ok (.ifCond .eq 15, 3) := kX5_copy_66.1.2.1.2
theorem dX5_copy_78 : decode cX5_copy 78 = .ok (.aload 7, 2) := kX5_copy_66.1.2.2.1
theorem dX5_copy_80 : decode cX5_copy 80 = .ok (.iload 4, 2) := kX5_copy_66.1.2.2.2
theorem dX5_copy_82 : decode cX5_copy 82 = .ok (.iload 5, 2) := kX5_copy_66.2.1.1.1
theorem dX5_copy_84 : decode cX5_copy 84 = .ok (.invokevirtual 254, 3) := kX5_copy_66.2.1.1.2
theorem dX5_copy_87 : decode cX5_copy 87 = .ok (.ifCond .ne 6, 3) := kX5_copy_66.2.1.2.1
theorem dX5_copy_90 : decode cX5_copy 90 = .ok (.bipush (-13), 2) := kX5_copy_66.2.1.2.2
theorem dX5_copy_92 : decode cX5_copy 92 = .ok (.ireturn, 1) := kX5_copy_66.2.2.1.1
theorem dX5_copy_93 : decode cX5_copy 93 = .ok (.aload 6, 2) := kX5_copy_66.2.2.1.2
theorem dX5_copy_95 : decode cX5_copy 95 = .ok (.getfield 258, 3) := kX5_copy_66.2.2.2.1
theorem dX5_copy_98 : decode cX5_copy 98 = .ok (.iload_n 2, 1) := kX5_copy_66.2.2.2.2
theorem kX5_copy_99 : ((((decode cX5_copy 99 = .ok (.aload 7, 2)) ∧ (decode cX5_copy 101 = .ok (.getfield 258, 3))) ∧ ((decode cX5_copy 104 = .ok (.iload 4, 2)) ∧ (decode cX5_copy 106 = .ok (.iload 5, 2)))) ∧ (((decode cX5_copy 108 = .ok (.invokestatic 262, 3)) ∧ (decode cX5_copy 111 = .ok (.iload 5, 2))) ∧ (decode cX5_copy 113 = .ok (.ireturn, 1)))) := by decide +kernel
theorem dX5_copy_99 : decode cX5_copy 99 = .ok (.aload 7, 2) := kX5_copy_99.1.1.1
theorem dX5_copy_101 : decode cX5_copy 101 = .ok (.getfield 258, 3) := kX5_copy_99.1.1.2
theorem dX5_copy_104 : decode cX5_copy 104 = .ok (.iload 4, 2) := kX5_copy_99.1.2.1
theorem dX5_copy_106 : decode cX5_copy 106 = .ok (.iload 5, 2) := kX5_copy_99.1.2.2
theorem dX5_copy_108 : decode cX5_copy 108 = .ok (.invokestatic 262, 3) := kX5_copy_99.2.1.1
theorem dX5_copy_111 : decode cX5_copy 111 = .ok (.iload 5, 2) := kX5_copy_99.2.1.2
theorem dX5_copy_113 : decode cX5_copy 113 = .ok (.ireturn, 1) := kX5_copy_99.2.2
theorem kX5_isSheet_0 : (((((decode cX5_isSheet 0 = .ok (.iload_n 0, 1)) ∧ (decode cX5_isSheet 1 = .ok (.ifCond .lt 12, 3))) ∧ (decode cX5_isSheet 4 = .ok (.iload_n 0, 1))) ∧ ((decode cX5_isSheet 5 = .ok (.iconst 4, 1)) ∧ (decode cX5_isSheet 6 = .ok (.if_icmp .ge 7, 3)))) ∧ (((decode cX5_isSheet 9 = .ok (.iconst 1, 1)) ∧ (decode cX5_isSheet 10 = .ok (.goto 4, 3))) ∧ ((decode cX5_isSheet 13 = .ok (.iconst 0, 1)) ∧ (decode cX5_isSheet 14 = .ok (.ireturn, 1))))) := by decide +kernel
theorem dX5_isSheet_0 : decode cX5_isSheet 0 = .ok (.iload_n 0, 1) := kX5_isSheet_0.1.1.1.1
theorem dX5_isSheet_1 : decode cX5_isSheet 1 = .ok (.ifCond .lt 12, 3) := kX5_isSheet_0.1.1.1.2
theorem dX5_isSheet_4 : decode cX5_isSheet 4 = .ok (.iload_n 0, 1) := kX5_isSheet_0.1.1.2
theorem dX5_isSheet_5 : decode cX5_isSheet 5 = .ok (.iconst 4, 1) := kX5_isSheet_0.1.2.1
theorem dX5_isSheet_6 : decode cX5_isSheet 6 = .ok (.if_icmp .ge 7, 3) := kX5_isSheet_0.1.2.2
theorem dX5_isSheet_9 : decode cX5_isSheet 9 = .ok (.iconst 1, 1) := kX5_isSheet_0.2.1.1
theorem dX5_isSheet_10 : decode cX5_isSheet 10 = .ok (.goto 4, 3) := kX5_isSheet_0.2.1.2
theorem dX5_isSheet_13 : decode cX5_isSheet 13 = .ok (.iconst 0, 1) := kX5_isSheet_0.2.2.1
theorem dX5_isSheet_14 : decode cX5_isSheet 14 = .ok (.ireturn, 1) := kX5_isSheet_0.2.2.2
theorem kX5_isLane_0 : (((((decode cX5_isLane 0 = .ok (.iload_n 0, 1)) ∧ (decode cX5_isLane 1 = .ok (.ifCond .lt 12, 3))) ∧ (decode cX5_isLane 4 = .ok (.iload_n 0, 1))) ∧ ((decode cX5_isLane 5 = .ok (.iconst 4, 1)) ∧ (decode cX5_isLane 6 = .ok (.if_icmp .ge 7, 3)))) ∧ (((decode cX5_isLane 9 = .ok (.iconst 1, 1)) ∧ (decode cX5_isLane 10 = .ok (.goto 4, 3))) ∧ ((decode cX5_isLane 13 = .ok (.iconst 0, 1)) ∧ (decode cX5_isLane 14 = .ok (.ireturn, 1))))) := by decide +kernel
theorem dX5_isLane_0 : decode cX5_isLane 0 = .ok (.iload_n 0, 1) := kX5_isLane_0.1.1.1.1
theorem dX5_isLane_1 : decode cX5_isLane 1 = .ok (.ifCond .lt 12, 3) := kX5_isLane_0.1.1.1.2
theorem dX5_isLane_4 : decode cX5_isLane 4 = .ok (.iload_n 0, 1) := kX5_isLane_0.1.1.2
theorem dX5_isLane_5 : decode cX5_isLane 5 = .ok (.iconst 4, 1) := kX5_isLane_0.1.2.1
theorem dX5_isLane_6 : decode cX5_isLane 6 = .ok (.if_icmp .ge 7, 3) := kX5_isLane_0.1.2.2
theorem dX5_isLane_9 : decode cX5_isLane 9 = .ok (.iconst 1, 1) := kX5_isLane_0.2.1.1
theorem dX5_isLane_10 : decode cX5_isLane 10 = .ok (.goto 4, 3) := kX5_isLane_0.2.1.2
theorem dX5_isLane_13 : decode cX5_isLane 13 = .ok (.iconst 0, 1) := kX5_isLane_0.2.2.1
theorem dX5_isLane_14 : decode cX5_isLane 14 = .ok (.ireturn, 1) := kX5_isLane_0.2.2.2
set_option maxRecDepth 20000 in
theorem ggX5_guessesHeard_X2_become : GoodIn wsX5_guessesHeard wsX2_become := goodIn_r _ [6, 7, 8, 9, 10, 11, 12, 13, 94, 95, 96, 97, 98, 99, 100] rfl (by decide +kernel)
set_option maxRecDepth 20000 in
theorem gX5_guessesHeard_X2_become_n115 : GoodIn wsX5_guessesHeard (wsX2_become) := ggX5_guessesHeard_X2_become
set_option maxRecDepth 20000 in
theorem ggX5_guessesHeard_X5_suppose : GoodIn wsX5_guessesHeard wsX5_suppose := goodIn_r _ [18, 1, 19, 4, 20, 21, 7, 85, 86, 87, 88, 89, 90, 91, 92, 93, 94, 95, 96, 97, 98, 99, 100] rfl (by decide +kernel)
set_option maxRecDepth 20000 in
theorem gX5_guessesHeard_X5_suppose : GoodIn wsX5_guessesHeard (wsV RX5 268 RX5 yX5_suppose wsX5_suppose) := goodIn_app (goodIn_of _ (by decide +kernel)) ggX5_guessesHeard_X5_suppose
set_option maxRecDepth 20000 in
theorem ggX5_guessesHeard_X5_trialRunsAs : GoodIn wsX5_guessesHeard wsX5_trialRunsAs := goodIn_r _ [25, 1, 26, 4, 27, 28, 29, 30, 31, 32, 8, 33, 34, 35, 36, 7, 12, 37, 38, 39, 40, 11, 41, 19, 20, 21, 42, 43, 44, 45, 13, 46, 47, 48, 49, 50, 51, 52, 53, 54, 55, 56, 57, 58, 59, 60, 61, 62, 63, 64, 65, 66, 67, 68, 10, 69, 70, 71, 72, 73, 74, 75, 76, 77, 78, 79, 80, 81, 82, 83, 84, 85, 86, 87, 88, 89, 90, 91, 92, 93, 101, 102, 103, 94, 95, 96, 97, 98, 99, 100] rfl (by decide +kernel)
set_option maxRecDepth 20000 in
theorem gX5_guessesHeard_X5_trialRunsAs : GoodIn wsX5_guessesHeard (wsV RX5 272 RX5 yX5_trialRunsAs wsX5_trialRunsAs) := goodIn_app (goodIn_of _ (by decide +kernel)) ggX5_guessesHeard_X5_trialRunsAs
theorem kX5_guessesHeard_0 : (((((decode cX5_guessesHeard 0 = .ok (.iload_n 2, 1)) ∧ (decode cX5_guessesHeard 1 = .ok (.iconst 2, 1))) ∧ ((decode cX5_guessesHeard 2 = .ok (.if_icmp .lt 7, 3)) ∧ (decode cX5_guessesHeard 5 = .ok (.iconst 1, 1)))) ∧ (((decode cX5_guessesHeard 6 = .ok (.goto 4, 3)) ∧ (decode cX5_guessesHeard 9 = .ok (.iconst 0, 1))) ∧ ((decode cX5_guessesHeard 10 = .ok (.istore 6, 2)) ∧ (decode cX5_guessesHeard 12 = .ok (.iload_n 2, 1))))) ∧ ((((decode cX5_guessesHeard 13 = .ok (.ifCond .ne 7, 3)) ∧ (decode cX5_guessesHeard 16 = .ok (.iconst 4, 1))) ∧ ((decode cX5_guessesHeard 17 = .ok (.goto 15, 3)) ∧ (decode cX5_guessesHeard 20 = .ok (.iload_n 2, 1)))) ∧ (((decode cX5_guessesHeard 21 = .ok (.iconst 1, 1)) ∧ (decode cX5_guessesHeard 22 = .ok (.if_icmp .ne 8, 3))) ∧ ((decode cX5_guessesHeard 25 = .ok (.bipush 30, 2)) ∧ (decode cX5_guessesHeard 27 = .ok (.goto 5, 3)))))) := by decide +kernel
theorem dX5_guessesHeard_0 : decode cX5_guessesHeard 0 = .ok (.iload_n 2, 1) := kX5_guessesHeard_0.1.1.1.1
theorem dX5_guessesHeard_1 : decode cX5_guessesHeard 1 = .ok (.iconst 2, 1) := kX5_guessesHeard_0.1.1.1.2
theorem dX5_guessesHeard_2 : decode cX5_guessesHeard 2 = .ok (.if_icmp .lt 7, 3) := kX5_guessesHeard_0.1.1.2.1
theorem dX5_guessesHeard_5 : decode cX5_guessesHeard 5 = .ok (.iconst 1, 1) := kX5_guessesHeard_0.1.1.2.2
theorem dX5_guessesHeard_6 : decode cX5_guessesHeard 6 = .ok (.goto 4, 3) := kX5_guessesHeard_0.1.2.1.1
theorem dX5_guessesHeard_9 : decode cX5_guessesHeard 9 = .ok (.iconst 0, 1) := kX5_guessesHeard_0.1.2.1.2
theorem dX5_guessesHeard_10 : decode cX5_guessesHeard 10 = .ok (.istore 6, 2) := kX5_guessesHeard_0.1.2.2.1
theorem dX5_guessesHeard_12 : decode cX5_guessesHeard 12 = .ok (.iload_n 2, 1) := kX5_guessesHeard_0.1.2.2.2
theorem dX5_guessesHeard_13 : decode cX5_guessesHeard 13 = .ok (.ifCond .ne 7, 3) := kX5_guessesHeard_0.2.1.1.1
theorem dX5_guessesHeard_16 : decode cX5_guessesHeard 16 = .ok (.iconst 4, 1) := kX5_guessesHeard_0.2.1.1.2
theorem dX5_guessesHeard_17 : decode cX5_guessesHeard 17 = .ok (.goto 15, 3) := kX5_guessesHeard_0.2.1.2.1
theorem dX5_guessesHeard_20 : decode cX5_guessesHeard 20 = .ok (.iload_n 2, 1) := kX5_guessesHeard_0.2.1.2.2
theorem dX5_guessesHeard_21 : decode cX5_guessesHeard 21 = .ok (.iconst 1, 1) := kX5_guessesHeard_0.2.2.1.1
theorem dX5_guessesHeard_22 : decode cX5_guessesHeard 22 = .ok (.if_icmp .ne 8, 3) := kX5_guessesHeard_0.2.2.1.2
theorem dX5_guessesHeard_25 : decode cX5_guessesHeard 25 = .ok (.bipush 30, 2) := kX5_guessesHeard_0.2.2.2.1
theorem dX5_guessesHeard_27 : decode cX5_guessesHeard 27 = .ok (.goto 5, 3) := kX5_guessesHeard_0.2.2.2.2
theorem kX5_guessesHeard_30 : (((((decode cX5_guessesHeard 30 = .ok (.bipush 12, 2)) ∧ (decode cX5_guessesHeard 32 = .ok (.istore 7, 2))) ∧ ((decode cX5_guessesHeard 34 = .ok (.iconst 0, 1)) ∧ (decode cX5_guessesHeard 35 = .ok (.istore 8, 2)))) ∧ (((decode cX5_guessesHeard 37 = .ok (.iload 6, 2)) ∧ (decode cX5_guessesHeard 39 = .ok (.istore 9, 2))) ∧ ((decode cX5_guessesHeard 41 = .ok (.iload 9, 2)) ∧ (decode cX5_guessesHeard 43 = .ok (.iload 7, 2))))) ∧ ((((decode cX5_guessesHeard 45 = .ok (.if_icmp .gt 50, 3)) ∧ (decode cX5_guessesHeard 48 = .ok (.aload_n 0, 1))) ∧ ((decode cX5_guessesHeard 49 = .ok (.getfield 33, 3)) ∧ (decode cX5_guessesHeard 52 = .ok (.aload_n 0, 1)))) ∧ (((decode cX5_guessesHeard 53 = .ok (.getfield 10, 3)) ∧ (decode cX5_guessesHeard 56 = .ok (.invokevirtual 115, 3))) ∧ ((decode cX5_guessesHeard 59 = .ok (.aload_n 0, 1)) ∧ (decode cX5_guessesHeard 60 = .ok (.iload_n 1, 1)))))) := by decide +kernel
theorem dX5_guessesHeard_30 : decode cX5_guessesHeard 30 = .ok (.bipush 12, 2) := kX5_guessesHeard_30.1.1.1.1
theorem dX5_guessesHeard_32 : decode cX5_guessesHeard 32 = .ok (.istore 7, 2) := kX5_guessesHeard_30.1.1.1.2
theorem dX5_guessesHeard_34 : decode cX5_guessesHeard 34 = .ok (.iconst 0, 1) := kX5_guessesHeard_30.1.1.2.1
theorem dX5_guessesHeard_35 : decode cX5_guessesHeard 35 = .ok (.istore 8, 2) := kX5_guessesHeard_30.1.1.2.2
theorem dX5_guessesHeard_37 : decode cX5_guessesHeard 37 = .ok (.iload 6, 2) := kX5_guessesHeard_30.1.2.1.1
theorem dX5_guessesHeard_39 : decode cX5_guessesHeard 39 = .ok (.istore 9, 2) := kX5_guessesHeard_30.1.2.1.2
theorem dX5_guessesHeard_41 : decode cX5_guessesHeard 41 = .ok (.iload 9, 2) := kX5_guessesHeard_30.1.2.2.1
theorem dX5_guessesHeard_43 : decode cX5_guessesHeard 43 = .ok (.iload 7, 2) := kX5_guessesHeard_30.1.2.2.2
theorem dX5_guessesHeard_45 : decode cX5_guessesHeard 45 = .ok (.if_icmp .gt 50, 3) := kX5_guessesHeard_30.2.1.1.1
theorem dX5_guessesHeard_48 : decode cX5_guessesHeard 48 = .ok (.aload_n 0, 1) := kX5_guessesHeard_30.2.1.1.2
theorem dX5_guessesHeard_49 : decode cX5_guessesHeard 49 = .ok (.getfield 33, 3) := kX5_guessesHeard_30.2.1.2.1
theorem dX5_guessesHeard_52 : decode cX5_guessesHeard 52 = .ok (.aload_n 0, 1) := kX5_guessesHeard_30.2.1.2.2
theorem dX5_guessesHeard_53 : decode cX5_guessesHeard 53 = .ok (.getfield 10, 3) := kX5_guessesHeard_30.2.2.1.1
theorem dX5_guessesHeard_56 : decode cX5_guessesHeard 56 = .ok (.invokevirtual 115, 3) := kX5_guessesHeard_30.2.2.1.2
theorem dX5_guessesHeard_59 : decode cX5_guessesHeard 59 = .ok (.aload_n 0, 1) := kX5_guessesHeard_30.2.2.2.1
theorem dX5_guessesHeard_60 : decode cX5_guessesHeard 60 = .ok (.iload_n 1, 1) := kX5_guessesHeard_30.2.2.2.2
theorem kX5_guessesHeard_61 : (((((decode cX5_guessesHeard 61 = .ok (.iload_n 2, 1)) ∧ (decode cX5_guessesHeard 62 = .ok (.iload 9, 2))) ∧ ((decode cX5_guessesHeard 64 = .ok (.invokevirtual 268, 3)) ∧ (decode cX5_guessesHeard 67 = .ok (.aload_n 0, 1)))) ∧ (((decode cX5_guessesHeard 68 = .ok (.iload_n 1, 1)) ∧ (decode cX5_guessesHeard 69 = .ok (.aload_n 3, 1))) ∧ ((decode cX5_guessesHeard 70 = .ok (.iload 4, 2)) ∧ (decode cX5_guessesHeard 72 = .ok (.iload 5, 2))))) ∧ ((((decode cX5_guessesHeard 74 = .ok (.invokevirtual 272, 3)) ∧ (decode cX5_guessesHeard 77 = .ok (.ifCond .eq 12, 3))) ∧ ((decode cX5_guessesHeard 80 = .ok (.iload 8, 2)) ∧ (decode cX5_guessesHeard 82 = .ok (.iconst 1, 1)))) ∧ (((decode cX5_guessesHeard 83 = .ok (.iload 9, 2)) ∧ (decode cX5_guessesHeard 85 = .ok (.ishl, 1))) ∧ ((decode cX5_guessesHeard 86 = .ok (.ior, 1)) ∧ (decode cX5_guessesHeard 87 = .ok (.istore 8, 2)))))) := by decide +kernel
theorem dX5_guessesHeard_61 : decode cX5_guessesHeard 61 = .ok (.iload_n 2, 1) := kX5_guessesHeard_61.1.1.1.1
theorem dX5_guessesHeard_62 : decode cX5_guessesHeard 62 = .ok (.iload 9, 2) := kX5_guessesHeard_61.1.1.1.2
theorem dX5_guessesHeard_64 : decode cX5_guessesHeard 64 = .ok (.invokevirtual 268, 3) := kX5_guessesHeard_61.1.1.2.1
theorem dX5_guessesHeard_67 : decode cX5_guessesHeard 67 = .ok (.aload_n 0, 1) := kX5_guessesHeard_61.1.1.2.2
theorem dX5_guessesHeard_68 : decode cX5_guessesHeard 68 = .ok (.iload_n 1, 1) := kX5_guessesHeard_61.1.2.1.1
theorem dX5_guessesHeard_69 : decode cX5_guessesHeard 69 = .ok (.aload_n 3, 1) := kX5_guessesHeard_61.1.2.1.2
theorem dX5_guessesHeard_70 : decode cX5_guessesHeard 70 = .ok (.iload 4, 2) := kX5_guessesHeard_61.1.2.2.1
theorem dX5_guessesHeard_72 : decode cX5_guessesHeard 72 = .ok (.iload 5, 2) := kX5_guessesHeard_61.1.2.2.2
theorem dX5_guessesHeard_74 : decode cX5_guessesHeard 74 = .ok (.invokevirtual 272, 3) := kX5_guessesHeard_61.2.1.1.1
theorem dX5_guessesHeard_77 : decode cX5_guessesHeard 77 = .ok (.ifCond .eq 12, 3) := kX5_guessesHeard_61.2.1.1.2
theorem dX5_guessesHeard_80 : decode cX5_guessesHeard 80 = .ok (.iload 8, 2) := kX5_guessesHeard_61.2.1.2.1
theorem dX5_guessesHeard_82 : decode cX5_guessesHeard 82 = .ok (.iconst 1, 1) := kX5_guessesHeard_61.2.1.2.2
theorem dX5_guessesHeard_83 : decode cX5_guessesHeard 83 = .ok (.iload 9, 2) := kX5_guessesHeard_61.2.2.1.1
theorem dX5_guessesHeard_85 : decode cX5_guessesHeard 85 = .ok (.ishl, 1) := kX5_guessesHeard_61.2.2.1.2
theorem dX5_guessesHeard_86 : decode cX5_guessesHeard 86 = .ok (.ior, 1) := kX5_guessesHeard_61.2.2.2.1
theorem dX5_guessesHeard_87 : decode cX5_guessesHeard 87 = .ok (.istore 8, 2) := kX5_guessesHeard_61.2.2.2.2
theorem kX5_guessesHeard_89 : (((decode cX5_guessesHeard 89 = .ok (.iinc 9 1, 3)) ∧ (decode cX5_guessesHeard 92 = .ok (.goto (-51), 3))) ∧ ((decode cX5_guessesHeard 95 = .ok (.iload 8, 2)) ∧ (decode cX5_guessesHeard 97 = .ok (.ireturn, 1)))) := by decide +kernel
theorem dX5_guessesHeard_89 : decode cX5_guessesHeard 89 = .ok (.iinc 9 1, 3) := kX5_guessesHeard_89.1.1
theorem dX5_guessesHeard_92 : decode cX5_guessesHeard 92 = .ok (.goto (-51), 3) := kX5_guessesHeard_89.1.2
theorem dX5_guessesHeard_95 : decode cX5_guessesHeard 95 = .ok (.iload 8, 2) := kX5_guessesHeard_89.2.1
theorem dX5_guessesHeard_97 : decode cX5_guessesHeard 97 = .ok (.ireturn, 1) := kX5_guessesHeard_89.2.2
set_option maxRecDepth 20000 in
theorem ggX5_suppose_X2_has : GoodIn wsX5_suppose wsX2_has := goodIn_r _ [5, 6, 16, 17, 18, 19, 20, 21, 22] rfl (by decide +kernel)
set_option maxRecDepth 20000 in
theorem gX5_suppose_X2_has_n68 : GoodIn wsX5_suppose (wsX2_has) := ggX5_suppose_X2_has
theorem kX5_suppose_0 : (((((decode cX5_suppose 0 = .ok (.iload_n 2, 1)) ∧ (decode cX5_suppose 1 = .ok (.ifCond .ne 16, 3))) ∧ ((decode cX5_suppose 4 = .ok (.aload_n 0, 1)) ∧ (decode cX5_suppose 5 = .ok (.getfield 33, 3)))) ∧ (((decode cX5_suppose 8 = .ok (.getfield 72, 3)) ∧ (decode cX5_suppose 11 = .ok (.iload_n 1, 1))) ∧ ((decode cX5_suppose 12 = .ok (.iload_n 3, 1)) ∧ (decode cX5_suppose 13 = .ok (.iastore, 1))))) ∧ ((((decode cX5_suppose 14 = .ok (.goto 46, 3)) ∧ (decode cX5_suppose 17 = .ok (.iload_n 2, 1))) ∧ ((decode cX5_suppose 18 = .ok (.iconst 1, 1)) ∧ (decode cX5_suppose 19 = .ok (.if_icmp .ne 16, 3)))) ∧ (((decode cX5_suppose 22 = .ok (.aload_n 0, 1)) ∧ (decode cX5_suppose 23 = .ok (.getfield 33, 3))) ∧ ((decode cX5_suppose 26 = .ok (.getfield 76, 3)) ∧ (decode cX5_suppose 29 = .ok (.iload_n 1, 1)))))) := by decide +kernel
theorem dX5_suppose_0 : decode cX5_suppose 0 = .ok (.iload_n 2, 1) := kX5_suppose_0.1.1.1.1
theorem dX5_suppose_1 : decode cX5_suppose 1 = .ok (.ifCond .ne 16, 3) := kX5_suppose_0.1.1.1.2
theorem dX5_suppose_4 : decode cX5_suppose 4 = .ok (.aload_n 0, 1) := kX5_suppose_0.1.1.2.1
theorem dX5_suppose_5 : decode cX5_suppose 5 = .ok (.getfield 33, 3) := kX5_suppose_0.1.1.2.2
theorem dX5_suppose_8 : decode cX5_suppose 8 = .ok (.getfield 72, 3) := kX5_suppose_0.1.2.1.1
theorem dX5_suppose_11 : decode cX5_suppose 11 = .ok (.iload_n 1, 1) := kX5_suppose_0.1.2.1.2
theorem dX5_suppose_12 : decode cX5_suppose 12 = .ok (.iload_n 3, 1) := kX5_suppose_0.1.2.2.1
theorem dX5_suppose_13 : decode cX5_suppose 13 = .ok (.iastore, 1) := kX5_suppose_0.1.2.2.2
theorem dX5_suppose_14 : decode cX5_suppose 14 = .ok (.goto 46, 3) := kX5_suppose_0.2.1.1.1
theorem dX5_suppose_17 : decode cX5_suppose 17 = .ok (.iload_n 2, 1) := kX5_suppose_0.2.1.1.2
theorem dX5_suppose_18 : decode cX5_suppose 18 = .ok (.iconst 1, 1) := kX5_suppose_0.2.1.2.1
theorem dX5_suppose_19 : decode cX5_suppose 19 = .ok (.if_icmp .ne 16, 3) := kX5_suppose_0.2.1.2.2
theorem dX5_suppose_22 : decode cX5_suppose 22 = .ok (.aload_n 0, 1) := kX5_suppose_0.2.2.1.1
theorem dX5_suppose_23 : decode cX5_suppose 23 = .ok (.getfield 33, 3) := kX5_suppose_0.2.2.1.2
theorem dX5_suppose_26 : decode cX5_suppose 26 = .ok (.getfield 76, 3) := kX5_suppose_0.2.2.2.1
theorem dX5_suppose_29 : decode cX5_suppose 29 = .ok (.iload_n 1, 1) := kX5_suppose_0.2.2.2.2
theorem kX5_suppose_30 : (((((decode cX5_suppose 30 = .ok (.iload_n 3, 1)) ∧ (decode cX5_suppose 31 = .ok (.iastore, 1))) ∧ ((decode cX5_suppose 32 = .ok (.goto 28, 3)) ∧ (decode cX5_suppose 35 = .ok (.aload_n 0, 1)))) ∧ (((decode cX5_suppose 36 = .ok (.getfield 33, 3)) ∧ (decode cX5_suppose 39 = .ok (.iload_n 2, 1))) ∧ ((decode cX5_suppose 40 = .ok (.iconst 2, 1)) ∧ (decode cX5_suppose 41 = .ok (.isub, 1))))) ∧ ((((decode cX5_suppose 42 = .ok (.invokevirtual 68, 3)) ∧ (decode cX5_suppose 45 = .ok (.ifCond .eq 15, 3))) ∧ ((decode cX5_suppose 48 = .ok (.aload_n 0, 1)) ∧ (decode cX5_suppose 49 = .ok (.getfield 33, 3)))) ∧ (((decode cX5_suppose 52 = .ok (.getfield 82, 3)) ∧ (decode cX5_suppose 55 = .ok (.iload_n 2, 1))) ∧ ((decode cX5_suppose 56 = .ok (.iconst 2, 1)) ∧ (decode cX5_suppose 57 = .ok (.isub, 1)))))) := by decide +kernel
theorem dX5_suppose_30 : decode cX5_suppose 30 = .ok (.iload_n 3, 1) := kX5_suppose_30.1.1.1.1
theorem dX5_suppose_31 : decode cX5_suppose 31 = .ok (.iastore, 1) := kX5_suppose_30.1.1.1.2
theorem dX5_suppose_32 : decode cX5_suppose 32 = .ok (.goto 28, 3) := kX5_suppose_30.1.1.2.1
theorem dX5_suppose_35 : decode cX5_suppose 35 = .ok (.aload_n 0, 1) := kX5_suppose_30.1.1.2.2
theorem dX5_suppose_36 : decode cX5_suppose 36 = .ok (.getfield 33, 3) := kX5_suppose_30.1.2.1.1
theorem dX5_suppose_39 : decode cX5_suppose 39 = .ok (.iload_n 2, 1) := kX5_suppose_30.1.2.1.2
theorem dX5_suppose_40 : decode cX5_suppose 40 = .ok (.iconst 2, 1) := kX5_suppose_30.1.2.2.1
theorem dX5_suppose_41 : decode cX5_suppose 41 = .ok (.isub, 1) := kX5_suppose_30.1.2.2.2
theorem dX5_suppose_42 : decode cX5_suppose 42 = .ok (.invokevirtual 68, 3) := kX5_suppose_30.2.1.1.1
theorem dX5_suppose_45 : decode cX5_suppose 45 = .ok (.ifCond .eq 15, 3) := kX5_suppose_30.2.1.1.2
theorem dX5_suppose_48 : decode cX5_suppose 48 = .ok (.aload_n 0, 1) := kX5_suppose_30.2.1.2.1
theorem dX5_suppose_49 : decode cX5_suppose 49 = .ok (.getfield 33, 3) := kX5_suppose_30.2.1.2.2
theorem dX5_suppose_52 : decode cX5_suppose 52 = .ok (.getfield 82, 3) := kX5_suppose_30.2.2.1.1
theorem dX5_suppose_55 : decode cX5_suppose 55 = .ok (.iload_n 2, 1) := kX5_suppose_30.2.2.1.2
theorem dX5_suppose_56 : decode cX5_suppose 56 = .ok (.iconst 2, 1) := kX5_suppose_30.2.2.2.1
theorem dX5_suppose_57 : decode cX5_suppose 57 = .ok (.isub, 1) := kX5_suppose_30.2.2.2.2
theorem kX5_suppose_58 : (((decode cX5_suppose 58 = .ok (.iload_n 3, 1)) ∧ (decode cX5_suppose 59 = .ok (.iastore, 1))) ∧ (decode cX5_suppose 60 = .ok (.return_, 1))) := by decide +kernel
theorem dX5_suppose_58 : decode cX5_suppose 58 = .ok (.iload_n 3, 1) := kX5_suppose_58.1.1
theorem dX5_suppose_59 : decode cX5_suppose 59 = .ok (.iastore, 1) := kX5_suppose_58.1.2
theorem dX5_suppose_60 : decode cX5_suppose 60 = .ok (.return_, 1) := kX5_suppose_58.2
set_option maxRecDepth 20000 in
theorem ggX5_trialRunsAs_X2_passHour : GoodIn wsX5_trialRunsAs wsX2_passHour := goodIn_r _ [5, 6, 7, 8, 3, 9, 10, 11, 12, 13, 14, 15, 16, 17, 18, 19, 20, 21, 22, 23, 24, 25, 26, 27, 28, 29, 30, 31, 32, 33, 34, 35, 36, 37, 38, 39, 40, 41, 42, 43, 44, 45, 46, 47, 48, 49, 50, 51, 52, 53, 54, 55, 56, 57, 58, 59, 60, 61, 62, 63, 64, 65, 66, 67, 68, 69, 70, 83, 84, 85, 86, 87, 88, 89] rfl (by decide +kernel)
set_option maxRecDepth 20000 in
theorem gX5_trialRunsAs_X2_passHour_n152 : GoodIn wsX5_trialRunsAs (wsX2_passHour) := ggX5_trialRunsAs_X2_passHour
theorem kX5_trialRunsAs_0 : (((((decode cX5_trialRunsAs 0 = .ok (.iconst 0, 1)) ∧ (decode cX5_trialRunsAs 1 = .ok (.istore 5, 2))) ∧ ((decode cX5_trialRunsAs 3 = .ok (.iload 5, 2)) ∧ (decode cX5_trialRunsAs 5 = .ok (.iload 4, 2)))) ∧ (((decode cX5_trialRunsAs 7 = .ok (.if_icmp .ge 41, 3)) ∧ (decode cX5_trialRunsAs 10 = .ok (.aload_n 0, 1))) ∧ ((decode cX5_trialRunsAs 11 = .ok (.getfield 33, 3)) ∧ (decode cX5_trialRunsAs 14 = .ok (.invokevirtual 152, 3))))) ∧ ((((decode cX5_trialRunsAs 17 = .ok (.aload_n 2, 1)) ∧ (decode cX5_trialRunsAs 18 = .ok (.getfield 258, 3))) ∧ ((decode cX5_trialRunsAs 21 = .ok (.iload_n 3, 1)) ∧ (decode cX5_trialRunsAs 22 = .ok (.iload 5, 2)))) ∧ (((decode cX5_trialRunsAs 24 = .ok (.iadd, 1)) ∧ (decode cX5_trialRunsAs 25 = .ok (.laload, 1))) ∧ ((decode cX5_trialRunsAs 26 = .ok (.aload_n 0, 1)) ∧ (decode cX5_trialRunsAs 27 = .ok (.getfield 33, 3)))))) := by decide +kernel
theorem dX5_trialRunsAs_0 : decode cX5_trialRunsAs 0 = .ok (.iconst 0, 1) := kX5_trialRunsAs_0.1.1.1.1
theorem dX5_trialRunsAs_1 : decode cX5_trialRunsAs 1 = .ok (.istore 5, 2) := kX5_trialRunsAs_0.1.1.1.2
theorem dX5_trialRunsAs_3 : decode cX5_trialRunsAs 3 = .ok (.iload 5, 2) := kX5_trialRunsAs_0.1.1.2.1
theorem dX5_trialRunsAs_5 : decode cX5_trialRunsAs 5 = .ok (.iload 4, 2) := kX5_trialRunsAs_0.1.1.2.2
theorem dX5_trialRunsAs_7 : decode cX5_trialRunsAs 7 = .ok (.if_icmp .ge 41, 3) := kX5_trialRunsAs_0.1.2.1.1
theorem dX5_trialRunsAs_10 : decode cX5_trialRunsAs 10 = .ok (.aload_n 0, 1) := kX5_trialRunsAs_0.1.2.1.2
theorem dX5_trialRunsAs_11 : decode cX5_trialRunsAs 11 = .ok (.getfield 33, 3) := kX5_trialRunsAs_0.1.2.2.1
theorem dX5_trialRunsAs_14 : decode cX5_trialRunsAs 14 = .ok (.invokevirtual 152, 3) := kX5_trialRunsAs_0.1.2.2.2
theorem dX5_trialRunsAs_17 : decode cX5_trialRunsAs 17 = .ok (.aload_n 2, 1) := kX5_trialRunsAs_0.2.1.1.1
theorem dX5_trialRunsAs_18 : decode cX5_trialRunsAs 18 = .ok (.getfield 258, 3) := kX5_trialRunsAs_0.2.1.1.2
theorem dX5_trialRunsAs_21 : decode cX5_trialRunsAs 21 = .ok (.iload_n 3, 1) := kX5_trialRunsAs_0.2.1.2.1
theorem dX5_trialRunsAs_22 : decode cX5_trialRunsAs 22 = .ok (.iload 5, 2) := kX5_trialRunsAs_0.2.1.2.2
theorem dX5_trialRunsAs_24 : decode cX5_trialRunsAs 24 = .ok (.iadd, 1) := kX5_trialRunsAs_0.2.2.1.1
theorem dX5_trialRunsAs_25 : decode cX5_trialRunsAs 25 = .ok (.laload, 1) := kX5_trialRunsAs_0.2.2.1.2
theorem dX5_trialRunsAs_26 : decode cX5_trialRunsAs 26 = .ok (.aload_n 0, 1) := kX5_trialRunsAs_0.2.2.2.1
theorem dX5_trialRunsAs_27 : decode cX5_trialRunsAs 27 = .ok (.getfield 33, 3) := kX5_trialRunsAs_0.2.2.2.2
theorem kX5_trialRunsAs_30 : (((((decode cX5_trialRunsAs 30 = .ok (.getfield 76, 3)) ∧ (decode cX5_trialRunsAs 33 = .ok (.iload_n 1, 1))) ∧ (decode cX5_trialRunsAs 34 = .ok (.iaload, 1))) ∧ (((decode cX5_trialRunsAs 35 = .ok (.i2l, 1)) ∧ (decode cX5_trialRunsAs 36 = .ok (.lcmp, 1))) ∧ (decode cX5_trialRunsAs 37 = .ok (.ifCond .eq 5, 3)))) ∧ ((((decode cX5_trialRunsAs 40 = .ok (.iconst 0, 1)) ∧ (decode cX5_trialRunsAs 41 = .ok (.ireturn, 1))) ∧ (decode cX5_trialRunsAs 42 = .ok (.iinc 5 1, 3))) ∧ (((decode cX5_trialRunsAs 45 = .ok (.goto (-42), 3)) ∧ (decode cX5_trialRunsAs 48 = .ok (.iconst 1, 1))) ∧ (decode cX5_trialRunsAs 49 = .ok (.ireturn, 1))))) := by decide +kernel
theorem dX5_trialRunsAs_30 : decode cX5_trialRunsAs 30 = .ok (.getfield 76, 3) := kX5_trialRunsAs_30.1.1.1.1
theorem dX5_trialRunsAs_33 : decode cX5_trialRunsAs 33 = .ok (.iload_n 1, 1) := kX5_trialRunsAs_30.1.1.1.2
theorem dX5_trialRunsAs_34 : decode cX5_trialRunsAs 34 = .ok (.iaload, 1) := kX5_trialRunsAs_30.1.1.2
theorem dX5_trialRunsAs_35 : decode cX5_trialRunsAs 35 = .ok (.i2l, 1) := kX5_trialRunsAs_30.1.2.1.1
theorem dX5_trialRunsAs_36 : decode cX5_trialRunsAs 36 = .ok (.lcmp, 1) := kX5_trialRunsAs_30.1.2.1.2
theorem dX5_trialRunsAs_37 : decode cX5_trialRunsAs 37 = .ok (.ifCond .eq 5, 3) := kX5_trialRunsAs_30.1.2.2
theorem dX5_trialRunsAs_40 : decode cX5_trialRunsAs 40 = .ok (.iconst 0, 1) := kX5_trialRunsAs_30.2.1.1.1
theorem dX5_trialRunsAs_41 : decode cX5_trialRunsAs 41 = .ok (.ireturn, 1) := kX5_trialRunsAs_30.2.1.1.2
theorem dX5_trialRunsAs_42 : decode cX5_trialRunsAs 42 = .ok (.iinc 5 1, 3) := kX5_trialRunsAs_30.2.1.2
theorem dX5_trialRunsAs_45 : decode cX5_trialRunsAs 45 = .ok (.goto (-42), 3) := kX5_trialRunsAs_30.2.2.1.1
theorem dX5_trialRunsAs_48 : decode cX5_trialRunsAs 48 = .ok (.iconst 1, 1) := kX5_trialRunsAs_30.2.2.1.2
theorem dX5_trialRunsAs_49 : decode cX5_trialRunsAs 49 = .ok (.ireturn, 1) := kX5_trialRunsAs_30.2.2.2
