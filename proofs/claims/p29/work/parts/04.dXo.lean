theorem kX0_init_0 : (((((decode cX0_init 0 = .ok (.aload_n 0, 1)) ∧ (decode cX0_init 1 = .ok (.invokespecial 3, 3))) ∧ ((decode cX0_init 4 = .ok (.aload_n 0, 1)) ∧ (decode cX0_init 5 = .ok (.iconst 0, 1)))) ∧ (((decode cX0_init 6 = .ok (.putfield 9, 3)) ∧ (decode cX0_init 9 = .ok (.aload_n 0, 1))) ∧ (decode cX0_init 10 = .ok (.bipush 6, 2)))) ∧ ((((decode cX0_init 12 = .ok (.newarray .int, 2)) ∧ (decode cX0_init 14 = .ok (.putfield 15, 3))) ∧ ((decode cX0_init 17 = .ok (.aload_n 0, 1)) ∧ (decode cX0_init 18 = .ok (.bipush 6, 2)))) ∧ (((decode cX0_init 20 = .ok (.newarray .int, 2)) ∧ (decode cX0_init 22 = .ok (.putfield 19, 3))) ∧ (decode cX0_init 25 = .ok (.return_, 1))))) := by decide +kernel
theorem dX0_init_0 : decode cX0_init 0 = .ok (.aload_n 0, 1) := kX0_init_0.1.1.1.1
theorem dX0_init_1 : decode cX0_init 1 = .ok (.invokespecial 3, 3) := kX0_init_0.1.1.1.2
theorem dX0_init_4 : decode cX0_init 4 = .ok (.aload_n 0, 1) := kX0_init_0.1.1.2.1
theorem dX0_init_5 : decode cX0_init 5 = .ok (.iconst 0, 1) := kX0_init_0.1.1.2.2
theorem dX0_init_6 : decode cX0_init 6 = .ok (.putfield 9, 3) := kX0_init_0.1.2.1.1
theorem dX0_init_9 : decode cX0_init 9 = .ok (.aload_n 0, 1) := kX0_init_0.1.2.1.2
theorem dX0_init_10 : decode cX0_init 10 = .ok (.bipush 6, 2) := kX0_init_0.1.2.2
theorem dX0_init_12 : decode cX0_init 12 = .ok (.newarray .int, 2) := kX0_init_0.2.1.1.1
theorem dX0_init_14 : decode cX0_init 14 = .ok (.putfield 15, 3) := kX0_init_0.2.1.1.2
theorem dX0_init_17 : decode cX0_init 17 = .ok (.aload_n 0, 1) := kX0_init_0.2.1.2.1
theorem dX0_init_18 : decode cX0_init 18 = .ok (.bipush 6, 2) := kX0_init_0.2.1.2.2
theorem dX0_init_20 : decode cX0_init 20 = .ok (.newarray .int, 2) := kX0_init_0.2.2.1.1
theorem dX0_init_22 : decode cX0_init 22 = .ok (.putfield 19, 3) := kX0_init_0.2.2.1.2
theorem dX0_init_25 : decode cX0_init 25 = .ok (.return_, 1) := kX0_init_0.2.2.2
set_option maxRecDepth 20000 in
theorem ggX0_find_X0_choose : GoodIn wsX0_find wsX0_choose := goodIn_r _ [5, 1, 6, 7, 8, 9, 10, 11, 2, 3, 4, 12, 13, 14, 15, 16, 17, 18, 19, 20, 21] rfl (by decide +kernel)
set_option maxRecDepth 20000 in
theorem gX0_find_X0_choose : GoodIn wsX0_find (va_wsS RX0 22 yX0_choose wsX0_choose) := goodIn_app (goodIn_of _ (by decide +kernel)) ggX0_find_X0_choose
theorem kX0_find_0 : (((((decode cX0_find 0 = .ok (.aload_n 0, 1)) ∧ (decode cX0_find 1 = .ok (.bipush 7, 2))) ∧ (decode cX0_find 3 = .ok (.putfield 9, 3))) ∧ ((decode cX0_find 6 = .ok (.aload_n 0, 1)) ∧ (decode cX0_find 7 = .ok (.aload_n 1, 1)))) ∧ ((((decode cX0_find 8 = .ok (.iconst 0, 1)) ∧ (decode cX0_find 9 = .ok (.iconst 0, 1))) ∧ (decode cX0_find 10 = .ok (.iconst 0, 1))) ∧ ((decode cX0_find 11 = .ok (.invokestatic 22, 3)) ∧ (decode cX0_find 14 = .ok (.return_, 1))))) := by decide +kernel
theorem dX0_find_0 : decode cX0_find 0 = .ok (.aload_n 0, 1) := kX0_find_0.1.1.1.1
theorem dX0_find_1 : decode cX0_find 1 = .ok (.bipush 7, 2) := kX0_find_0.1.1.1.2
theorem dX0_find_3 : decode cX0_find 3 = .ok (.putfield 9, 3) := kX0_find_0.1.1.2
theorem dX0_find_6 : decode cX0_find 6 = .ok (.aload_n 0, 1) := kX0_find_0.1.2.1
theorem dX0_find_7 : decode cX0_find 7 = .ok (.aload_n 1, 1) := kX0_find_0.1.2.2
theorem dX0_find_8 : decode cX0_find 8 = .ok (.iconst 0, 1) := kX0_find_0.2.1.1.1
theorem dX0_find_9 : decode cX0_find 9 = .ok (.iconst 0, 1) := kX0_find_0.2.1.1.2
theorem dX0_find_10 : decode cX0_find 10 = .ok (.iconst 0, 1) := kX0_find_0.2.1.2
theorem dX0_find_11 : decode cX0_find 11 = .ok (.invokestatic 22, 3) := kX0_find_0.2.2.1
theorem dX0_find_14 : decode cX0_find 14 = .ok (.return_, 1) := kX0_find_0.2.2.2
set_option maxRecDepth 20000 in
theorem ggX0_choose_X0_choose : GoodIn wsX0_choose wsX0_choose := goodIn_r _ [0, 1, 2, 3, 4, 5, 6, 7, 8, 9, 10, 11, 12, 13, 14, 15, 16, 17, 18, 19, 20] rfl (by decide +kernel)
set_option maxRecDepth 20000 in
theorem gX0_choose_X0_choose : GoodIn wsX0_choose (va_wsS RX0 22 yX0_choose wsX0_choose) := goodIn_app (goodIn_of _ (by decide +kernel)) ggX0_choose_X0_choose
theorem kX0_choose_0 : (((((decode cX0_choose 0 = .ok (.iload 4, 2)) ∧ (decode cX0_choose 2 = .ok (.aload_n 0, 1))) ∧ ((decode cX0_choose 3 = .ok (.getfield 9, 3)) ∧ (decode cX0_choose 6 = .ok (.if_icmp .lt 4, 3)))) ∧ (((decode cX0_choose 9 = .ok (.return_, 1)) ∧ (decode cX0_choose 10 = .ok (.iload_n 2, 1))) ∧ ((decode cX0_choose 11 = .ok (.aload_n 1, 1)) ∧ (decode cX0_choose 12 = .ok (.getfield 26, 3))))) ∧ ((((decode cX0_choose 15 = .ok (.if_icmp .lt 25, 3)) ∧ (decode cX0_choose 18 = .ok (.aload_n 0, 1))) ∧ ((decode cX0_choose 19 = .ok (.iload 4, 2)) ∧ (decode cX0_choose 21 = .ok (.putfield 9, 3)))) ∧ (((decode cX0_choose 24 = .ok (.aload_n 0, 1)) ∧ (decode cX0_choose 25 = .ok (.getfield 19, 3))) ∧ ((decode cX0_choose 28 = .ok (.iconst 0, 1)) ∧ (decode cX0_choose 29 = .ok (.aload_n 0, 1)))))) := by decide +kernel
theorem dX0_choose_0 : decode cX0_choose 0 = .ok (.iload 4, 2) := kX0_choose_0.1.1.1.1
theorem dX0_choose_2 : decode cX0_choose 2 = .ok (.aload_n 0, 1) := kX0_choose_0.1.1.1.2
theorem dX0_choose_3 : decode cX0_choose 3 = .ok (.getfield 9, 3) := kX0_choose_0.1.1.2.1
theorem dX0_choose_6 : decode cX0_choose 6 = .ok (.if_icmp .lt 4, 3) := kX0_choose_0.1.1.2.2
theorem dX0_choose_9 : decode cX0_choose 9 = .ok (.return_, 1) := kX0_choose_0.1.2.1.1
theorem dX0_choose_10 : decode cX0_choose 10 = .ok (.iload_n 2, 1) := kX0_choose_0.1.2.1.2
theorem dX0_choose_11 : decode cX0_choose 11 = .ok (.aload_n 1, 1) := kX0_choose_0.1.2.2.1
theorem dX0_choose_12 : decode cX0_choose 12 = .ok (.getfield 26, 3) := kX0_choose_0.1.2.2.2
theorem dX0_choose_15 : decode cX0_choose 15 = .ok (.if_icmp .lt 25, 3) := kX0_choose_0.2.1.1.1
theorem dX0_choose_18 : decode cX0_choose 18 = .ok (.aload_n 0, 1) := kX0_choose_0.2.1.1.2
theorem dX0_choose_19 : decode cX0_choose 19 = .ok (.iload 4, 2) := kX0_choose_0.2.1.2.1
theorem dX0_choose_21 : decode cX0_choose 21 = .ok (.putfield 9, 3) := kX0_choose_0.2.1.2.2
theorem dX0_choose_24 : decode cX0_choose 24 = .ok (.aload_n 0, 1) := kX0_choose_0.2.2.1.1
theorem dX0_choose_25 : decode cX0_choose 25 = .ok (.getfield 19, 3) := kX0_choose_0.2.2.1.2
theorem dX0_choose_28 : decode cX0_choose 28 = .ok (.iconst 0, 1) := kX0_choose_0.2.2.2.1
theorem dX0_choose_29 : decode cX0_choose 29 = .ok (.aload_n 0, 1) := kX0_choose_0.2.2.2.2
theorem kX0_choose_30 : (((((decode cX0_choose 30 = .ok (.getfield 15, 3)) ∧ (decode cX0_choose 33 = .ok (.iconst 0, 1))) ∧ ((decode cX0_choose 34 = .ok (.bipush 6, 2)) ∧ (decode cX0_choose 36 = .ok (.invokestatic 31, 3)))) ∧ (((decode cX0_choose 39 = .ok (.return_, 1)) ∧ (decode cX0_choose 40 = .ok (.iconst 0, 1))) ∧ ((decode cX0_choose 41 = .ok (.istore 5, 2)) ∧ (decode cX0_choose 43 = .ok (.iload 5, 2))))) ∧ ((((decode cX0_choose 45 = .ok (.aload_n 1, 1)) ∧ (decode cX0_choose 46 = .ok (.getfield 26, 3))) ∧ ((decode cX0_choose 49 = .ok (.if_icmp .ge 69, 3)) ∧ (decode cX0_choose 52 = .ok (.iload 5, 2)))) ∧ (((decode cX0_choose 54 = .ok (.iload_n 2, 1)) ∧ (decode cX0_choose 55 = .ok (.if_icmp .eq 57, 3))) ∧ ((decode cX0_choose 58 = .ok (.iload_n 3, 1)) ∧ (decode cX0_choose 59 = .ok (.iconst 1, 1)))))) := by decide +kernel
theorem dX0_choose_30 : decode cX0_choose 30 = .ok (.getfield 15, 3) := kX0_choose_30.1.1.1.1
theorem dX0_choose_33 : decode cX0_choose 33 = .ok (.iconst 0, 1) := kX0_choose_30.1.1.1.2
theorem dX0_choose_34 : decode cX0_choose 34 = .ok (.bipush 6, 2) := kX0_choose_30.1.1.2.1
theorem dX0_choose_36 : decode cX0_choose 36 = .ok (.invokestatic 31, 3) := kX0_choose_30.1.1.2.2
theorem dX0_choose_39 : decode cX0_choose 39 = .ok (.return_, 1) := kX0_choose_30.1.2.1.1
theorem dX0_choose_40 : decode cX0_choose 40 = .ok (.iconst 0, 1) := kX0_choose_30.1.2.1.2
theorem dX0_choose_41 : decode cX0_choose 41 = .ok (.istore 5, 2) := kX0_choose_30.1.2.2.1
theorem dX0_choose_43 : decode cX0_choose 43 = .ok (.iload 5, 2) := kX0_choose_30.1.2.2.2
theorem dX0_choose_45 : decode cX0_choose 45 = .ok (.aload_n 1, 1) := kX0_choose_30.2.1.1.1
theorem dX0_choose_46 : decode cX0_choose 46 = .ok (.getfield 26, 3) := kX0_choose_30.2.1.1.2
theorem dX0_choose_49 : decode cX0_choose 49 = .ok (.if_icmp .ge 69, 3) := kX0_choose_30.2.1.2.1
theorem dX0_choose_52 : decode cX0_choose 52 = .ok (.iload 5, 2) := kX0_choose_30.2.1.2.2
theorem dX0_choose_54 : decode cX0_choose 54 = .ok (.iload_n 2, 1) := kX0_choose_30.2.2.1.1
theorem dX0_choose_55 : decode cX0_choose 55 = .ok (.if_icmp .eq 57, 3) := kX0_choose_30.2.2.1.2
theorem dX0_choose_58 : decode cX0_choose 58 = .ok (.iload_n 3, 1) := kX0_choose_30.2.2.2.1
theorem dX0_choose_59 : decode cX0_choose 59 = .ok (.iconst 1, 1) := kX0_choose_30.2.2.2.2
theorem kX0_choose_60 : (((((decode cX0_choose 60 = .ok (.iload 5, 2)) ∧ (decode cX0_choose 62 = .ok (.ishl, 1))) ∧ ((decode cX0_choose 63 = .ok (.iand, 1)) ∧ (decode cX0_choose 64 = .ok (.ifCond .ne 48, 3)))) ∧ (((decode cX0_choose 67 = .ok (.aload_n 0, 1)) ∧ (decode cX0_choose 68 = .ok (.getfield 19, 3))) ∧ ((decode cX0_choose 71 = .ok (.iload_n 2, 1)) ∧ (decode cX0_choose 72 = .ok (.iload 5, 2))))) ∧ ((((decode cX0_choose 74 = .ok (.iastore, 1)) ∧ (decode cX0_choose 75 = .ok (.aload_n 1, 1))) ∧ ((decode cX0_choose 76 = .ok (.getfield 37, 3)) ∧ (decode cX0_choose 79 = .ok (.iload_n 2, 1)))) ∧ (((decode cX0_choose 80 = .ok (.iaload, 1)) ∧ (decode cX0_choose 81 = .ok (.iload 5, 2))) ∧ ((decode cX0_choose 83 = .ok (.if_icmp .ne 7, 3)) ∧ (decode cX0_choose 86 = .ok (.iconst 0, 1)))))) := by decide +kernel
theorem dX0_choose_60 : decode cX0_choose 60 = .ok (.iload 5, 2) := kX0_choose_60.1.1.1.1
theorem dX0_choose_62 : decode cX0_choose 62 = .ok (.ishl, 1) := kX0_choose_60.1.1.1.2
theorem dX0_choose_63 : decode cX0_choose 63 = .ok (.iand, 1) := kX0_choose_60.1.1.2.1
theorem dX0_choose_64 : decode cX0_choose 64 = .ok (.ifCond .ne 48, 3) := kX0_choose_60.1.1.2.2
theorem dX0_choose_67 : decode cX0_choose 67 = .ok (.aload_n 0, 1) := kX0_choose_60.1.2.1.1
theorem dX0_choose_68 : decode cX0_choose 68 = .ok (.getfield 19, 3) := kX0_choose_60.1.2.1.2
theorem dX0_choose_71 : decode cX0_choose 71 = .ok (.iload_n 2, 1) := kX0_choose_60.1.2.2.1
theorem dX0_choose_72 : decode cX0_choose 72 = .ok (.iload 5, 2) := kX0_choose_60.1.2.2.2
theorem dX0_choose_74 : decode cX0_choose 74 = .ok (.iastore, 1) := kX0_choose_60.2.1.1.1
theorem dX0_choose_75 : decode cX0_choose 75 = .ok (.aload_n 1, 1) := kX0_choose_60.2.1.1.2
theorem dX0_choose_76 : decode cX0_choose 76 = .ok (.getfield 37, 3) := kX0_choose_60.2.1.2.1
theorem dX0_choose_79 : decode cX0_choose 79 = .ok (.iload_n 2, 1) := kX0_choose_60.2.1.2.2
theorem dX0_choose_80 : decode cX0_choose 80 = .ok (.iaload, 1) := kX0_choose_60.2.2.1.1
theorem dX0_choose_81 : decode cX0_choose 81 = .ok (.iload 5, 2) := kX0_choose_60.2.2.1.2
theorem dX0_choose_83 : decode cX0_choose 83 = .ok (.if_icmp .ne 7, 3) := kX0_choose_60.2.2.2.1
theorem dX0_choose_86 : decode cX0_choose 86 = .ok (.iconst 0, 1) := kX0_choose_60.2.2.2.2
theorem kX0_choose_87 : (((((decode cX0_choose 87 = .ok (.goto 4, 3)) ∧ (decode cX0_choose 90 = .ok (.iconst 1, 1))) ∧ ((decode cX0_choose 91 = .ok (.istore 6, 2)) ∧ (decode cX0_choose 93 = .ok (.aload_n 0, 1)))) ∧ (((decode cX0_choose 94 = .ok (.aload_n 1, 1)) ∧ (decode cX0_choose 95 = .ok (.iload_n 2, 1))) ∧ ((decode cX0_choose 96 = .ok (.iconst 1, 1)) ∧ (decode cX0_choose 97 = .ok (.iadd, 1))))) ∧ ((((decode cX0_choose 98 = .ok (.iload_n 3, 1)) ∧ (decode cX0_choose 99 = .ok (.iconst 1, 1))) ∧ ((decode cX0_choose 100 = .ok (.iload 5, 2)) ∧ (decode cX0_choose 102 = .ok (.ishl, 1)))) ∧ (((decode cX0_choose 103 = .ok (.ior, 1)) ∧ (decode cX0_choose 104 = .ok (.iload 4, 2))) ∧ ((decode cX0_choose 106 = .ok (.iload 6, 2)) ∧ (decode cX0_choose 108 = .ok (.iadd, 1)))))) := by decide +kernel
theorem dX0_choose_87 : decode cX0_choose 87 = .ok (.goto 4, 3) := kX0_choose_87.1.1.1.1
theorem dX0_choose_90 : decode cX0_choose 90 = .ok (.iconst 1, 1) := kX0_choose_87.1.1.1.2
theorem dX0_choose_91 : decode cX0_choose 91 = .ok (.istore 6, 2) := kX0_choose_87.1.1.2.1
theorem dX0_choose_93 : decode cX0_choose 93 = .ok (.aload_n 0, 1) := kX0_choose_87.1.1.2.2
theorem dX0_choose_94 : decode cX0_choose 94 = .ok (.aload_n 1, 1) := kX0_choose_87.1.2.1.1
theorem dX0_choose_95 : decode cX0_choose 95 = .ok (.iload_n 2, 1) := kX0_choose_87.1.2.1.2
theorem dX0_choose_96 : decode cX0_choose 96 = .ok (.iconst 1, 1) := kX0_choose_87.1.2.2.1
theorem dX0_choose_97 : decode cX0_choose 97 = .ok (.iadd, 1) := kX0_choose_87.1.2.2.2
theorem dX0_choose_98 : decode cX0_choose 98 = .ok (.iload_n 3, 1) := kX0_choose_87.2.1.1.1
theorem dX0_choose_99 : decode cX0_choose 99 = .ok (.iconst 1, 1) := kX0_choose_87.2.1.1.2
theorem dX0_choose_100 : decode cX0_choose 100 = .ok (.iload 5, 2) := kX0_choose_87.2.1.2.1
theorem dX0_choose_102 : decode cX0_choose 102 = .ok (.ishl, 1) := kX0_choose_87.2.1.2.2
theorem dX0_choose_103 : decode cX0_choose 103 = .ok (.ior, 1) := kX0_choose_87.2.2.1.1
theorem dX0_choose_104 : decode cX0_choose 104 = .ok (.iload 4, 2) := kX0_choose_87.2.2.1.2
theorem dX0_choose_106 : decode cX0_choose 106 = .ok (.iload 6, 2) := kX0_choose_87.2.2.2.1
theorem dX0_choose_108 : decode cX0_choose 108 = .ok (.iadd, 1) := kX0_choose_87.2.2.2.2
theorem kX0_choose_109 : (((decode cX0_choose 109 = .ok (.invokestatic 22, 3)) ∧ (decode cX0_choose 112 = .ok (.iinc 5 1, 3))) ∧ ((decode cX0_choose 115 = .ok (.goto (-72), 3)) ∧ (decode cX0_choose 118 = .ok (.return_, 1)))) := by decide +kernel
theorem dX0_choose_109 : decode cX0_choose 109 = .ok (.invokestatic 22, 3) := kX0_choose_109.1.1
theorem dX0_choose_112 : decode cX0_choose 112 = .ok (.iinc 5 1, 3) := kX0_choose_109.1.2
theorem dX0_choose_115 : decode cX0_choose 115 = .ok (.goto (-72), 3) := kX0_choose_109.2.1
theorem dX0_choose_118 : decode cX0_choose 118 = .ok (.return_, 1) := kX0_choose_109.2.2
set_option maxRecDepth 20000 in
theorem ggX1_init_X2_init : GoodIn wsX1_init wsX2_init := goodIn_r _ [11, 12, 2, 3, 13, 14, 15, 16, 17, 18, 19, 20, 24, 25, 26, 27, 28, 29, 30] rfl (by decide +kernel)
set_option maxRecDepth 20000 in
theorem gX1_init_X2_init_n22 : GoodIn wsX1_init (wsX2_init) := ggX1_init_X2_init
theorem kX1_init_0 : (((((decode cX1_init 0 = .ok (.aload_n 0, 1)) ∧ (decode cX1_init 1 = .ok (.invokespecial 1, 3))) ∧ ((decode cX1_init 4 = .ok (.aload_n 0, 1)) ∧ (decode cX1_init 5 = .ok (.iconst 0, 1)))) ∧ (((decode cX1_init 6 = .ok (.putfield 7, 3)) ∧ (decode cX1_init 9 = .ok (.aload_n 0, 1))) ∧ ((decode cX1_init 10 = .ok (.iconst 0, 1)) ∧ (decode cX1_init 11 = .ok (.putfield 13, 3))))) ∧ ((((decode cX1_init 14 = .ok (.aload_n 0, 1)) ∧ (decode cX1_init 15 = .ok (.bipush 8, 2))) ∧ ((decode cX1_init 17 = .ok (.anewarray 16, 3)) ∧ (decode cX1_init 20 = .ok (.putfield 18, 3)))) ∧ (((decode cX1_init 23 = .ok (.iconst 0, 1)) ∧ (decode cX1_init 24 = .ok (.istore_n 1, 1))) ∧ ((decode cX1_init 25 = .ok (.iload_n 1, 1)) ∧ (decode cX1_init 26 = .ok (.bipush 8, 2)))))) := by decide +kernel
theorem dX1_init_0 : decode cX1_init 0 = .ok (.aload_n 0, 1) := kX1_init_0.1.1.1.1
theorem dX1_init_1 : decode cX1_init 1 = .ok (.invokespecial 1, 3) := kX1_init_0.1.1.1.2
theorem dX1_init_4 : decode cX1_init 4 = .ok (.aload_n 0, 1) := kX1_init_0.1.1.2.1
theorem dX1_init_5 : decode cX1_init 5 = .ok (.iconst 0, 1) := kX1_init_0.1.1.2.2
theorem dX1_init_6 : decode cX1_init 6 = .ok (.putfield 7, 3) := kX1_init_0.1.2.1.1
theorem dX1_init_9 : decode cX1_init 9 = .ok (.aload_n 0, 1) := kX1_init_0.1.2.1.2
theorem dX1_init_10 : decode cX1_init 10 = .ok (.iconst 0, 1) := kX1_init_0.1.2.2.1
theorem dX1_init_11 : decode cX1_init 11 = .ok (.putfield 13, 3) := kX1_init_0.1.2.2.2
theorem dX1_init_14 : decode cX1_init 14 = .ok (.aload_n 0, 1) := kX1_init_0.2.1.1.1
theorem dX1_init_15 : decode cX1_init 15 = .ok (.bipush 8, 2) := kX1_init_0.2.1.1.2
theorem dX1_init_17 : decode cX1_init 17 = .ok (.anewarray 16, 3) := kX1_init_0.2.1.2.1
theorem dX1_init_20 : decode cX1_init 20 = .ok (.putfield 18, 3) := kX1_init_0.2.1.2.2
theorem dX1_init_23 : decode cX1_init 23 = .ok (.iconst 0, 1) := kX1_init_0.2.2.1.1
theorem dX1_init_24 : decode cX1_init 24 = .ok (.istore_n 1, 1) := kX1_init_0.2.2.1.2
theorem dX1_init_25 : decode cX1_init 25 = .ok (.iload_n 1, 1) := kX1_init_0.2.2.2.1
theorem dX1_init_26 : decode cX1_init 26 = .ok (.bipush 8, 2) := kX1_init_0.2.2.2.2
theorem kX1_init_28 : (((((decode cX1_init 28 = .ok (.if_icmp .ge 22, 3)) ∧ (decode cX1_init 31 = .ok (.aload_n 0, 1))) ∧ (decode cX1_init 32 = .ok (.getfield 18, 3))) ∧ (((decode cX1_init 35 = .ok (.iload_n 1, 1)) ∧ (decode cX1_init 36 = .ok (.new 16, 3))) ∧ (decode cX1_init 39 = .ok (.dup, 1)))) ∧ ((((decode cX1_init 40 = .ok (.invokespecial 22, 3)) ∧ (decode cX1_init 43 = .ok (.aastore, 1))) ∧ (decode cX1_init 44 = .ok (.iinc 1 1, 3))) ∧ ((decode cX1_init 47 = .ok (.goto (-22), 3)) ∧ (decode cX1_init 50 = .ok (.return_, 1))))) := by decide +kernel
theorem dX1_init_28 : decode cX1_init 28 = .ok (.if_icmp .ge 22, 3) := kX1_init_28.1.1.1.1
theorem dX1_init_31 : decode cX1_init 31 = .ok (.aload_n 0, 1) := kX1_init_28.1.1.1.2
theorem dX1_init_32 : decode cX1_init 32 = .ok (.getfield 18, 3) := kX1_init_28.1.1.2
theorem dX1_init_35 : decode cX1_init 35 = .ok (.iload_n 1, 1) := kX1_init_28.1.2.1.1
theorem dX1_init_36 : decode cX1_init 36 = .ok (.new 16, 3) := kX1_init_28.1.2.1.2
theorem dX1_init_39 : decode cX1_init 39 = .ok (.dup, 1) := kX1_init_28.1.2.2
theorem dX1_init_40 : decode cX1_init 40 = .ok (.invokespecial 22, 3) := kX1_init_28.2.1.1.1
theorem dX1_init_43 : decode cX1_init 43 = .ok (.aastore, 1) := kX1_init_28.2.1.1.2
theorem dX1_init_44 : decode cX1_init 44 = .ok (.iinc 1 1, 3) := kX1_init_28.2.1.2
theorem dX1_init_47 : decode cX1_init 47 = .ok (.goto (-22), 3) := kX1_init_28.2.2.1
theorem dX1_init_50 : decode cX1_init 50 = .ok (.return_, 1) := kX1_init_28.2.2.2
theorem kX1_empty_0 : (((decode cX1_empty 0 = .ok (.aload_n 0, 1)) ∧ (decode cX1_empty 1 = .ok (.iconst 0, 1))) ∧ ((decode cX1_empty 2 = .ok (.putfield 7, 3)) ∧ (decode cX1_empty 5 = .ok (.return_, 1)))) := by decide +kernel
theorem dX1_empty_0 : decode cX1_empty 0 = .ok (.aload_n 0, 1) := kX1_empty_0.1.1
theorem dX1_empty_1 : decode cX1_empty 1 = .ok (.iconst 0, 1) := kX1_empty_0.1.2
theorem dX1_empty_2 : decode cX1_empty 2 = .ok (.putfield 7, 3) := kX1_empty_0.2.1
theorem dX1_empty_5 : decode cX1_empty 5 = .ok (.return_, 1) := kX1_empty_0.2.2
set_option maxRecDepth 20000 in
theorem ggX1_become_X2_become : GoodIn wsX1_become wsX2_become := goodIn_r _ [7, 8, 9, 10, 11, 12, 13, 14, 18, 19, 20, 21, 22, 23, 24] rfl (by decide +kernel)
set_option maxRecDepth 20000 in
theorem gX1_become_X2_become_n23 : GoodIn wsX1_become (wsX2_become) := ggX1_become_X2_become
theorem kX1_become_0 : (((((decode cX1_become 0 = .ok (.aload_n 0, 1)) ∧ (decode cX1_become 1 = .ok (.aload_n 1, 1))) ∧ ((decode cX1_become 2 = .ok (.getfield 7, 3)) ∧ (decode cX1_become 5 = .ok (.putfield 7, 3)))) ∧ (((decode cX1_become 8 = .ok (.aload_n 0, 1)) ∧ (decode cX1_become 9 = .ok (.aload_n 1, 1))) ∧ ((decode cX1_become 10 = .ok (.getfield 13, 3)) ∧ (decode cX1_become 13 = .ok (.putfield 13, 3))))) ∧ ((((decode cX1_become 16 = .ok (.iconst 0, 1)) ∧ (decode cX1_become 17 = .ok (.istore_n 2, 1))) ∧ ((decode cX1_become 18 = .ok (.iload_n 2, 1)) ∧ (decode cX1_become 19 = .ok (.bipush 8, 2)))) ∧ (((decode cX1_become 21 = .ok (.if_icmp .ge 24, 3)) ∧ (decode cX1_become 24 = .ok (.aload_n 0, 1))) ∧ ((decode cX1_become 25 = .ok (.getfield 18, 3)) ∧ (decode cX1_become 28 = .ok (.iload_n 2, 1)))))) := by decide +kernel
theorem dX1_become_0 : decode cX1_become 0 = .ok (.aload_n 0, 1) := kX1_become_0.1.1.1.1
theorem dX1_become_1 : decode cX1_become 1 = .ok (.aload_n 1, 1) := kX1_become_0.1.1.1.2
theorem dX1_become_2 : decode cX1_become 2 = .ok (.getfield 7, 3) := kX1_become_0.1.1.2.1
theorem dX1_become_5 : decode cX1_become 5 = .ok (.putfield 7, 3) := kX1_become_0.1.1.2.2
theorem dX1_become_8 : decode cX1_become 8 = .ok (.aload_n 0, 1) := kX1_become_0.1.2.1.1
theorem dX1_become_9 : decode cX1_become 9 = .ok (.aload_n 1, 1) := kX1_become_0.1.2.1.2
theorem dX1_become_10 : decode cX1_become 10 = .ok (.getfield 13, 3) := kX1_become_0.1.2.2.1
theorem dX1_become_13 : decode cX1_become 13 = .ok (.putfield 13, 3) := kX1_become_0.1.2.2.2
theorem dX1_become_16 : decode cX1_become 16 = .ok (.iconst 0, 1) := kX1_become_0.2.1.1.1
theorem dX1_become_17 : decode cX1_become 17 = .ok (.istore_n 2, 1) := kX1_become_0.2.1.1.2
theorem dX1_become_18 : decode cX1_become 18 = .ok (.iload_n 2, 1) := kX1_become_0.2.1.2.1
theorem dX1_become_19 : decode cX1_become 19 = .ok (.bipush 8, 2) := kX1_become_0.2.1.2.2
theorem dX1_become_21 : decode cX1_become 21 = .ok (.if_icmp .ge 24, 3) := kX1_become_0.2.2.1.1
theorem dX1_become_24 : decode cX1_become 24 = .ok (.aload_n 0, 1) := kX1_become_0.2.2.1.2
theorem dX1_become_25 : decode cX1_become 25 = .ok (.getfield 18, 3) := kX1_become_0.2.2.2.1
theorem dX1_become_28 : decode cX1_become 28 = .ok (.iload_n 2, 1) := kX1_become_0.2.2.2.2
theorem kX1_become_29 : (((((decode cX1_become 29 = .ok (.aaload, 1)) ∧ (decode cX1_become 30 = .ok (.aload_n 1, 1))) ∧ (decode cX1_become 31 = .ok (.getfield 18, 3))) ∧ ((decode cX1_become 34 = .ok (.iload_n 2, 1)) ∧ (decode cX1_become 35 = .ok (.aaload, 1)))) ∧ (((decode cX1_become 36 = .ok (.invokevirtual 23, 3)) ∧ (decode cX1_become 39 = .ok (.iinc 2 1, 3))) ∧ ((decode cX1_become 42 = .ok (.goto (-24), 3)) ∧ (decode cX1_become 45 = .ok (.return_, 1))))) := by decide +kernel
theorem dX1_become_29 : decode cX1_become 29 = .ok (.aaload, 1) := kX1_become_29.1.1.1.1
theorem dX1_become_30 : decode cX1_become 30 = .ok (.aload_n 1, 1) := kX1_become_29.1.1.1.2
theorem dX1_become_31 : decode cX1_become 31 = .ok (.getfield 18, 3) := kX1_become_29.1.1.2
theorem dX1_become_34 : decode cX1_become 34 = .ok (.iload_n 2, 1) := kX1_become_29.1.2.1
theorem dX1_become_35 : decode cX1_become 35 = .ok (.aaload, 1) := kX1_become_29.1.2.2
theorem dX1_become_36 : decode cX1_become 36 = .ok (.invokevirtual 23, 3) := kX1_become_29.2.1.1
theorem dX1_become_39 : decode cX1_become 39 = .ok (.iinc 2 1, 3) := kX1_become_29.2.1.2
theorem dX1_become_42 : decode cX1_become 42 = .ok (.goto (-24), 3) := kX1_become_29.2.2.1
theorem dX1_become_45 : decode cX1_become 45 = .ok (.return_, 1) := kX1_become_29.2.2.2
set_option maxRecDepth 20000 in
theorem ggX1_keep_X2_become : GoodIn wsX1_keep wsX2_become := goodIn_r _ [11, 12, 13, 14, 15, 16, 17, 18, 22, 23, 24, 25, 26, 27, 28] rfl (by decide +kernel)
set_option maxRecDepth 20000 in
theorem gX1_keep_X2_become_n23 : GoodIn wsX1_keep (wsX2_become) := ggX1_keep_X2_become
theorem kX1_keep_0 : (((((decode cX1_keep 0 = .ok (.aload_n 0, 1)) ∧ (decode cX1_keep 1 = .ok (.getfield 18, 3))) ∧ ((decode cX1_keep 4 = .ok (.aload_n 0, 1)) ∧ (decode cX1_keep 5 = .ok (.getfield 13, 3)))) ∧ (((decode cX1_keep 8 = .ok (.aaload, 1)) ∧ (decode cX1_keep 9 = .ok (.aload_n 1, 1))) ∧ ((decode cX1_keep 10 = .ok (.invokevirtual 23, 3)) ∧ (decode cX1_keep 13 = .ok (.aload_n 0, 1))))) ∧ ((((decode cX1_keep 14 = .ok (.aload_n 0, 1)) ∧ (decode cX1_keep 15 = .ok (.getfield 13, 3))) ∧ ((decode cX1_keep 18 = .ok (.iconst 1, 1)) ∧ (decode cX1_keep 19 = .ok (.iadd, 1)))) ∧ (((decode cX1_keep 20 = .ok (.bipush 8, 2)) ∧ (decode cX1_keep 22 = .ok (.irem, 1))) ∧ ((decode cX1_keep 23 = .ok (.putfield 13, 3)) ∧ (decode cX1_keep 26 = .ok (.aload_n 0, 1)))))) := by decide +kernel
theorem dX1_keep_0 : decode cX1_keep 0 = .ok (.aload_n 0, 1) := kX1_keep_0.1.1.1.1
theorem dX1_keep_1 : decode cX1_keep 1 = .ok (.getfield 18, 3) := kX1_keep_0.1.1.1.2
theorem dX1_keep_4 : decode cX1_keep 4 = .ok (.aload_n 0, 1) := kX1_keep_0.1.1.2.1
theorem dX1_keep_5 : decode cX1_keep 5 = .ok (.getfield 13, 3) := kX1_keep_0.1.1.2.2
theorem dX1_keep_8 : decode cX1_keep 8 = .ok (.aaload, 1) := kX1_keep_0.1.2.1.1
theorem dX1_keep_9 : decode cX1_keep 9 = .ok (.aload_n 1, 1) := kX1_keep_0.1.2.1.2
theorem dX1_keep_10 : decode cX1_keep 10 = .ok (.invokevirtual 23, 3) := kX1_keep_0.1.2.2.1
theorem dX1_keep_13 : decode cX1_keep 13 = .ok (.aload_n 0, 1) := kX1_keep_0.1.2.2.2
theorem dX1_keep_14 : decode cX1_keep 14 = .ok (.aload_n 0, 1) := kX1_keep_0.2.1.1.1
theorem dX1_keep_15 : decode cX1_keep 15 = .ok (.getfield 13, 3) := kX1_keep_0.2.1.1.2
theorem dX1_keep_18 : decode cX1_keep 18 = .ok (.iconst 1, 1) := kX1_keep_0.2.1.2.1
theorem dX1_keep_19 : decode cX1_keep 19 = .ok (.iadd, 1) := kX1_keep_0.2.1.2.2
theorem dX1_keep_20 : decode cX1_keep 20 = .ok (.bipush 8, 2) := kX1_keep_0.2.2.1.1
theorem dX1_keep_22 : decode cX1_keep 22 = .ok (.irem, 1) := kX1_keep_0.2.2.1.2
theorem dX1_keep_23 : decode cX1_keep 23 = .ok (.putfield 13, 3) := kX1_keep_0.2.2.2.1
theorem dX1_keep_26 : decode cX1_keep 26 = .ok (.aload_n 0, 1) := kX1_keep_0.2.2.2.2
theorem kX1_keep_27 : ((((decode cX1_keep 27 = .ok (.bipush 8, 2)) ∧ (decode cX1_keep 29 = .ok (.aload_n 0, 1))) ∧ ((decode cX1_keep 30 = .ok (.getfield 7, 3)) ∧ (decode cX1_keep 33 = .ok (.iconst 1, 1)))) ∧ (((decode cX1_keep 34 = .ok (.iadd, 1)) ∧ (decode cX1_keep 35 = .ok (.invokestatic 27, 3))) ∧ ((decode cX1_keep 38 = .ok (.putfield 7, 3)) ∧ (decode cX1_keep 41 = .ok (.return_, 1))))) := by decide +kernel
theorem dX1_keep_27 : decode cX1_keep 27 = .ok (.bipush 8, 2) := kX1_keep_27.1.1.1
theorem dX1_keep_29 : decode cX1_keep 29 = .ok (.aload_n 0, 1) := kX1_keep_27.1.1.2
theorem dX1_keep_30 : decode cX1_keep 30 = .ok (.getfield 7, 3) := kX1_keep_27.1.2.1
theorem dX1_keep_33 : decode cX1_keep 33 = .ok (.iconst 1, 1) := kX1_keep_27.1.2.2
theorem dX1_keep_34 : decode cX1_keep 34 = .ok (.iadd, 1) := kX1_keep_27.2.1.1
theorem dX1_keep_35 : decode cX1_keep 35 = .ok (.invokestatic 27, 3) := kX1_keep_27.2.1.2
theorem dX1_keep_38 : decode cX1_keep 38 = .ok (.putfield 7, 3) := kX1_keep_27.2.2.1
theorem dX1_keep_41 : decode cX1_keep 41 = .ok (.return_, 1) := kX1_keep_27.2.2.2
set_option maxRecDepth 20000 in
theorem ggX1_takeBack_X2_become : GoodIn wsX1_takeBack wsX2_become := goodIn_r _ [11, 12, 13, 14, 15, 16, 17, 18, 22, 23, 24, 25, 26, 27, 28] rfl (by decide +kernel)
set_option maxRecDepth 20000 in
theorem gX1_takeBack_X2_become_n23 : GoodIn wsX1_takeBack (wsX2_become) := ggX1_takeBack_X2_become
theorem kX1_takeBack_0 : (((((decode cX1_takeBack 0 = .ok (.aload_n 0, 1)) ∧ (decode cX1_takeBack 1 = .ok (.aload_n 0, 1))) ∧ ((decode cX1_takeBack 2 = .ok (.getfield 13, 3)) ∧ (decode cX1_takeBack 5 = .ok (.bipush 8, 2)))) ∧ (((decode cX1_takeBack 7 = .ok (.iadd, 1)) ∧ (decode cX1_takeBack 8 = .ok (.iconst 1, 1))) ∧ ((decode cX1_takeBack 9 = .ok (.isub, 1)) ∧ (decode cX1_takeBack 10 = .ok (.bipush 8, 2))))) ∧ ((((decode cX1_takeBack 12 = .ok (.irem, 1)) ∧ (decode cX1_takeBack 13 = .ok (.putfield 13, 3))) ∧ ((decode cX1_takeBack 16 = .ok (.aload_n 1, 1)) ∧ (decode cX1_takeBack 17 = .ok (.aload_n 0, 1)))) ∧ (((decode cX1_takeBack 18 = .ok (.getfield 18, 3)) ∧ (decode cX1_takeBack 21 = .ok (.aload_n 0, 1))) ∧ ((decode cX1_takeBack 22 = .ok (.getfield 13, 3)) ∧ (decode cX1_takeBack 25 = .ok (.aaload, 1)))))) := by decide +kernel
theorem dX1_takeBack_0 : decode cX1_takeBack 0 = .ok (.aload_n 0, 1) := kX1_takeBack_0.1.1.1.1
theorem dX1_takeBack_1 : decode cX1_takeBack 1 = .ok (.aload_n 0, 1) := kX1_takeBack_0.1.1.1.2
theorem dX1_takeBack_2 : decode cX1_takeBack 2 = .ok (.getfield 13, 3) := kX1_takeBack_0.1.1.2.1
theorem dX1_takeBack_5 : decode cX1_takeBack 5 = .ok (.bipush 8, 2) := kX1_takeBack_0.1.1.2.2
theorem dX1_takeBack_7 : decode cX1_takeBack 7 = .ok (.iadd, 1) := kX1_takeBack_0.1.2.1.1
theorem dX1_takeBack_8 : decode cX1_takeBack 8 = .ok (.iconst 1, 1) := kX1_takeBack_0.1.2.1.2
theorem dX1_takeBack_9 : decode cX1_takeBack 9 = .ok (.isub, 1) := kX1_takeBack_0.1.2.2.1
theorem dX1_takeBack_10 : decode cX1_takeBack 10 = .ok (.bipush 8, 2) := kX1_takeBack_0.1.2.2.2
theorem dX1_takeBack_12 : decode cX1_takeBack 12 = .ok (.irem, 1) := kX1_takeBack_0.2.1.1.1
theorem dX1_takeBack_13 : decode cX1_takeBack 13 = .ok (.putfield 13, 3) := kX1_takeBack_0.2.1.1.2
theorem dX1_takeBack_16 : decode cX1_takeBack 16 = .ok (.aload_n 1, 1) := kX1_takeBack_0.2.1.2.1
theorem dX1_takeBack_17 : decode cX1_takeBack 17 = .ok (.aload_n 0, 1) := kX1_takeBack_0.2.1.2.2
theorem dX1_takeBack_18 : decode cX1_takeBack 18 = .ok (.getfield 18, 3) := kX1_takeBack_0.2.2.1.1
theorem dX1_takeBack_21 : decode cX1_takeBack 21 = .ok (.aload_n 0, 1) := kX1_takeBack_0.2.2.1.2
theorem dX1_takeBack_22 : decode cX1_takeBack 22 = .ok (.getfield 13, 3) := kX1_takeBack_0.2.2.2.1
theorem dX1_takeBack_25 : decode cX1_takeBack 25 = .ok (.aaload, 1) := kX1_takeBack_0.2.2.2.2
theorem kX1_takeBack_26 : (((((decode cX1_takeBack 26 = .ok (.invokevirtual 23, 3)) ∧ (decode cX1_takeBack 29 = .ok (.aload_n 0, 1))) ∧ (decode cX1_takeBack 30 = .ok (.iconst 0, 1))) ∧ ((decode cX1_takeBack 31 = .ok (.aload_n 0, 1)) ∧ (decode cX1_takeBack 32 = .ok (.getfield 7, 3)))) ∧ ((((decode cX1_takeBack 35 = .ok (.iconst 1, 1)) ∧ (decode cX1_takeBack 36 = .ok (.isub, 1))) ∧ (decode cX1_takeBack 37 = .ok (.invokestatic 33, 3))) ∧ ((decode cX1_takeBack 40 = .ok (.putfield 7, 3)) ∧ (decode cX1_takeBack 43 = .ok (.return_, 1))))) := by decide +kernel
theorem dX1_takeBack_26 : decode cX1_takeBack 26 = .ok (.invokevirtual 23, 3) := kX1_takeBack_26.1.1.1.1
theorem dX1_takeBack_29 : decode cX1_takeBack 29 = .ok (.aload_n 0, 1) := kX1_takeBack_26.1.1.1.2
theorem dX1_takeBack_30 : decode cX1_takeBack 30 = .ok (.iconst 0, 1) := kX1_takeBack_26.1.1.2
theorem dX1_takeBack_31 : decode cX1_takeBack 31 = .ok (.aload_n 0, 1) := kX1_takeBack_26.1.2.1
theorem dX1_takeBack_32 : decode cX1_takeBack 32 = .ok (.getfield 7, 3) := kX1_takeBack_26.1.2.2
theorem dX1_takeBack_35 : decode cX1_takeBack 35 = .ok (.iconst 1, 1) := kX1_takeBack_26.2.1.1.1
theorem dX1_takeBack_36 : decode cX1_takeBack 36 = .ok (.isub, 1) := kX1_takeBack_26.2.1.1.2
theorem dX1_takeBack_37 : decode cX1_takeBack 37 = .ok (.invokestatic 33, 3) := kX1_takeBack_26.2.1.2
theorem dX1_takeBack_40 : decode cX1_takeBack 40 = .ok (.putfield 7, 3) := kX1_takeBack_26.2.2.1
theorem dX1_takeBack_43 : decode cX1_takeBack 43 = .ok (.return_, 1) := kX1_takeBack_26.2.2.2
theorem kX3_init_0 : (((((decode cX3_init 0 = .ok (.aload_n 0, 1)) ∧ (decode cX3_init 1 = .ok (.invokespecial 3, 3))) ∧ ((decode cX3_init 4 = .ok (.aload_n 0, 1)) ∧ (decode cX3_init 5 = .ok (.iconst 0, 1)))) ∧ (((decode cX3_init 6 = .ok (.putfield 9, 3)) ∧ (decode cX3_init 9 = .ok (.aload_n 0, 1))) ∧ (decode cX3_init 10 = .ok (.iconst (-1), 1)))) ∧ ((((decode cX3_init 11 = .ok (.putfield 15, 3)) ∧ (decode cX3_init 14 = .ok (.aload_n 0, 1))) ∧ (decode cX3_init 15 = .ok (.bipush 24, 2))) ∧ (((decode cX3_init 17 = .ok (.newarray .long, 2)) ∧ (decode cX3_init 19 = .ok (.putfield 18, 3))) ∧ (decode cX3_init 22 = .ok (.return_, 1))))) := by decide +kernel
theorem dX3_init_0 : decode cX3_init 0 = .ok (.aload_n 0, 1) := kX3_init_0.1.1.1.1
theorem dX3_init_1 : decode cX3_init 1 = .ok (.invokespecial 3, 3) := kX3_init_0.1.1.1.2
theorem dX3_init_4 : decode cX3_init 4 = .ok (.aload_n 0, 1) := kX3_init_0.1.1.2.1
theorem dX3_init_5 : decode cX3_init 5 = .ok (.iconst 0, 1) := kX3_init_0.1.1.2.2
theorem dX3_init_6 : decode cX3_init 6 = .ok (.putfield 9, 3) := kX3_init_0.1.2.1.1
theorem dX3_init_9 : decode cX3_init 9 = .ok (.aload_n 0, 1) := kX3_init_0.1.2.1.2
theorem dX3_init_10 : decode cX3_init 10 = .ok (.iconst (-1), 1) := kX3_init_0.1.2.2
theorem dX3_init_11 : decode cX3_init 11 = .ok (.putfield 15, 3) := kX3_init_0.2.1.1.1
theorem dX3_init_14 : decode cX3_init 14 = .ok (.aload_n 0, 1) := kX3_init_0.2.1.1.2
theorem dX3_init_15 : decode cX3_init 15 = .ok (.bipush 24, 2) := kX3_init_0.2.1.2
theorem dX3_init_17 : decode cX3_init 17 = .ok (.newarray .long, 2) := kX3_init_0.2.2.1.1
theorem dX3_init_19 : decode cX3_init 19 = .ok (.putfield 18, 3) := kX3_init_0.2.2.1.2
theorem dX3_init_22 : decode cX3_init 22 = .ok (.return_, 1) := kX3_init_0.2.2.2
theorem kX3_isMissing_0 : ((((decode cX3_isMissing 0 = .ok (.aload_n 0, 1)) ∧ (decode cX3_isMissing 1 = .ok (.getfield 15, 3))) ∧ ((decode cX3_isMissing 4 = .ok (.iconst (-1), 1)) ∧ (decode cX3_isMissing 5 = .ok (.if_icmp .ne 7, 3)))) ∧ (((decode cX3_isMissing 8 = .ok (.iconst 1, 1)) ∧ (decode cX3_isMissing 9 = .ok (.goto 4, 3))) ∧ ((decode cX3_isMissing 12 = .ok (.iconst 0, 1)) ∧ (decode cX3_isMissing 13 = .ok (.ireturn, 1))))) := by decide +kernel
theorem dX3_isMissing_0 : decode cX3_isMissing 0 = .ok (.aload_n 0, 1) := kX3_isMissing_0.1.1.1
theorem dX3_isMissing_1 : decode cX3_isMissing 1 = .ok (.getfield 15, 3) := kX3_isMissing_0.1.1.2
theorem dX3_isMissing_4 : decode cX3_isMissing 4 = .ok (.iconst (-1), 1) := kX3_isMissing_0.1.2.1
theorem dX3_isMissing_5 : decode cX3_isMissing 5 = .ok (.if_icmp .ne 7, 3) := kX3_isMissing_0.1.2.2
theorem dX3_isMissing_8 : decode cX3_isMissing 8 = .ok (.iconst 1, 1) := kX3_isMissing_0.2.1.1
theorem dX3_isMissing_9 : decode cX3_isMissing 9 = .ok (.goto 4, 3) := kX3_isMissing_0.2.1.2
theorem dX3_isMissing_12 : decode cX3_isMissing 12 = .ok (.iconst 0, 1) := kX3_isMissing_0.2.2.1
theorem dX3_isMissing_13 : decode cX3_isMissing 13 = .ok (.ireturn, 1) := kX3_isMissing_0.2.2.2
set_option maxRecDepth 20000 in
theorem ggX3_begin_J7_fill_d0a16 : GoodIn wsX3_begin wsJ7_fill_d0a16 := goodIn_r _ [7] rfl (by decide +kernel)
set_option maxRecDepth 20000 in
theorem gX3_begin_J7_fill_d0a16 : GoodIn wsX3_begin (va_wsS RX3 22 yJ7_fill_d0a16 wsJ7_fill_d0a16) := goodIn_app (goodIn_of _ (by decide +kernel)) ggX3_begin_J7_fill_d0a16
theorem kX3_begin_0 : (((((decode cX3_begin 0 = .ok (.aload_n 0, 1)) ∧ (decode cX3_begin 1 = .ok (.iload_n 1, 1))) ∧ (decode cX3_begin 2 = .ok (.putfield 9, 3))) ∧ (((decode cX3_begin 5 = .ok (.aload_n 0, 1)) ∧ (decode cX3_begin 6 = .ok (.iload_n 2, 1))) ∧ (decode cX3_begin 7 = .ok (.putfield 15, 3)))) ∧ ((((decode cX3_begin 10 = .ok (.aload_n 0, 1)) ∧ (decode cX3_begin 11 = .ok (.getfield 18, 3))) ∧ (decode cX3_begin 14 = .ok (.lconst 0, 1))) ∧ ((decode cX3_begin 15 = .ok (.invokestatic 22, 3)) ∧ (decode cX3_begin 18 = .ok (.return_, 1))))) := by decide +kernel
theorem dX3_begin_0 : decode cX3_begin 0 = .ok (.aload_n 0, 1) := kX3_begin_0.1.1.1.1
theorem dX3_begin_1 : decode cX3_begin 1 = .ok (.iload_n 1, 1) := kX3_begin_0.1.1.1.2
theorem dX3_begin_2 : decode cX3_begin 2 = .ok (.putfield 9, 3) := kX3_begin_0.1.1.2
theorem dX3_begin_5 : decode cX3_begin 5 = .ok (.aload_n 0, 1) := kX3_begin_0.1.2.1.1
theorem dX3_begin_6 : decode cX3_begin 6 = .ok (.iload_n 2, 1) := kX3_begin_0.1.2.1.2
theorem dX3_begin_7 : decode cX3_begin 7 = .ok (.putfield 15, 3) := kX3_begin_0.1.2.2
theorem dX3_begin_10 : decode cX3_begin 10 = .ok (.aload_n 0, 1) := kX3_begin_0.2.1.1.1
theorem dX3_begin_11 : decode cX3_begin 11 = .ok (.getfield 18, 3) := kX3_begin_0.2.1.1.2
theorem dX3_begin_14 : decode cX3_begin 14 = .ok (.lconst 0, 1) := kX3_begin_0.2.1.2
theorem dX3_begin_15 : decode cX3_begin 15 = .ok (.invokestatic 22, 3) := kX3_begin_0.2.2.1
theorem dX3_begin_18 : decode cX3_begin 18 = .ok (.return_, 1) := kX3_begin_0.2.2.2
theorem kX3_lose_0 : (((decode cX3_lose 0 = .ok (.aload_n 0, 1)) ∧ (decode cX3_lose 1 = .ok (.iconst (-1), 1))) ∧ ((decode cX3_lose 2 = .ok (.putfield 15, 3)) ∧ (decode cX3_lose 5 = .ok (.return_, 1)))) := by decide +kernel
theorem dX3_lose_0 : decode cX3_lose 0 = .ok (.aload_n 0, 1) := kX3_lose_0.1.1
theorem dX3_lose_1 : decode cX3_lose 1 = .ok (.iconst (-1), 1) := kX3_lose_0.1.2
theorem dX3_lose_2 : decode cX3_lose 2 = .ok (.putfield 15, 3) := kX3_lose_0.2.1
theorem dX3_lose_5 : decode cX3_lose 5 = .ok (.return_, 1) := kX3_lose_0.2.2
theorem kX3_holds_0 : (((((decode cX3_holds 0 = .ok (.iload_n 1, 1)) ∧ (decode cX3_holds 1 = .ok (.ifCond .lt 21, 3))) ∧ ((decode cX3_holds 4 = .ok (.iload_n 2, 1)) ∧ (decode cX3_holds 5 = .ok (.ifCond .lt 17, 3)))) ∧ (((decode cX3_holds 8 = .ok (.iload_n 1, 1)) ∧ (decode cX3_holds 9 = .ok (.aload_n 0, 1))) ∧ (decode cX3_holds 10 = .ok (.getfield 15, 3)))) ∧ ((((decode cX3_holds 13 = .ok (.iload_n 2, 1)) ∧ (decode cX3_holds 14 = .ok (.isub, 1))) ∧ ((decode cX3_holds 15 = .ok (.if_icmp .gt 7, 3)) ∧ (decode cX3_holds 18 = .ok (.iconst 1, 1)))) ∧ (((decode cX3_holds 19 = .ok (.goto 4, 3)) ∧ (decode cX3_holds 22 = .ok (.iconst 0, 1))) ∧ (decode cX3_holds 23 = .ok (.ireturn, 1))))) := by decide +kernel
theorem dX3_holds_0 : decode cX3_holds 0 = .ok (.iload_n 1, 1) := kX3_holds_0.1.1.1.1
theorem dX3_holds_1 : decode cX3_holds 1 = .ok (.ifCond .lt 21, 3) := kX3_holds_0.1.1.1.2
theorem dX3_holds_4 : decode cX3_holds 4 = .ok (.iload_n 2, 1) := kX3_holds_0.1.1.2.1
theorem dX3_holds_5 : decode cX3_holds 5 = .ok (.ifCond .lt 17, 3) := kX3_holds_0.1.1.2.2
theorem dX3_holds_8 : decode cX3_holds 8 = .ok (.iload_n 1, 1) := kX3_holds_0.1.2.1.1
theorem dX3_holds_9 : decode cX3_holds 9 = .ok (.aload_n 0, 1) := kX3_holds_0.1.2.1.2
theorem dX3_holds_10 : decode cX3_holds 10 = .ok (.getfield 15, 3) := kX3_holds_0.1.2.2
theorem dX3_holds_13 : decode cX3_holds 13 = .ok (.iload_n 2, 1) := kX3_holds_0.2.1.1.1
theorem dX3_holds_14 : decode cX3_holds 14 = .ok (.isub, 1) := kX3_holds_0.2.1.1.2
theorem dX3_holds_15 : decode cX3_holds 15 = .ok (.if_icmp .gt 7, 3) := kX3_holds_0.2.1.2.1
theorem dX3_holds_18 : decode cX3_holds 18 = .ok (.iconst 1, 1) := kX3_holds_0.2.1.2.2
theorem dX3_holds_19 : decode cX3_holds 19 = .ok (.goto 4, 3) := kX3_holds_0.2.2.1.1
theorem dX3_holds_22 : decode cX3_holds 22 = .ok (.iconst 0, 1) := kX3_holds_0.2.2.1.2
theorem dX3_holds_23 : decode cX3_holds 23 = .ok (.ireturn, 1) := kX3_holds_0.2.2.2
set_option maxRecDepth 20000 in
theorem ggX3_refusal_X3_isMissing : GoodIn wsX3_refusal wsX3_isMissing := goodIn_r _ [6, 7, 12, 13, 14] rfl (by decide +kernel)
set_option maxRecDepth 20000 in
theorem gX3_refusal_X3_isMissing : GoodIn wsX3_refusal (wsV RX3 28 RX3 yX3_isMissing wsX3_isMissing) := goodIn_app (goodIn_of _ (by decide +kernel)) ggX3_refusal_X3_isMissing
set_option maxRecDepth 20000 in
theorem ggX3_refusal_X3_holds : GoodIn wsX3_refusal wsX3_holds := goodIn_r _ [11, 7, 12, 13, 14] rfl (by decide +kernel)
set_option maxRecDepth 20000 in
theorem gX3_refusal_X3_holds : GoodIn wsX3_refusal (wsV RX3 32 RX3 yX3_holds wsX3_holds) := goodIn_app (goodIn_of _ (by decide +kernel)) ggX3_refusal_X3_holds
theorem kX3_refusal_0 : (((((decode cX3_refusal 0 = .ok (.aload_n 0, 1)) ∧ (decode cX3_refusal 1 = .ok (.invokevirtual 28, 3))) ∧ ((decode cX3_refusal 4 = .ok (.ifCond .eq 6, 3)) ∧ (decode cX3_refusal 7 = .ok (.bipush (-11), 2)))) ∧ (((decode cX3_refusal 9 = .ok (.ireturn, 1)) ∧ (decode cX3_refusal 10 = .ok (.aload_n 0, 1))) ∧ ((decode cX3_refusal 11 = .ok (.getfield 9, 3)) ∧ (decode cX3_refusal 14 = .ok (.iload_n 1, 1))))) ∧ ((((decode cX3_refusal 15 = .ok (.if_icmp .eq 6, 3)) ∧ (decode cX3_refusal 18 = .ok (.bipush (-12), 2))) ∧ ((decode cX3_refusal 20 = .ok (.ireturn, 1)) ∧ (decode cX3_refusal 21 = .ok (.aload_n 0, 1)))) ∧ (((decode cX3_refusal 22 = .ok (.iload_n 2, 1)) ∧ (decode cX3_refusal 23 = .ok (.iload_n 3, 1))) ∧ ((decode cX3_refusal 24 = .ok (.invokevirtual 32, 3)) ∧ (decode cX3_refusal 27 = .ok (.ifCond .eq 7, 3)))))) := by decide +kernel
theorem dX3_refusal_0 : decode cX3_refusal 0 = .ok (.aload_n 0, 1) := kX3_refusal_0.1.1.1.1
theorem dX3_refusal_1 : decode cX3_refusal 1 = .ok (.invokevirtual 28, 3) := kX3_refusal_0.1.1.1.2
theorem dX3_refusal_4 : decode cX3_refusal 4 = .ok (.ifCond .eq 6, 3) := kX3_refusal_0.1.1.2.1
theorem dX3_refusal_7 : decode cX3_refusal 7 = .ok (.bipush (-11), 2) := kX3_refusal_0.1.1.2.2
theorem dX3_refusal_9 : decode cX3_refusal 9 = .ok (.ireturn, 1) := kX3_refusal_0.1.2.1.1
theorem dX3_refusal_10 : decode cX3_refusal 10 = .ok (.aload_n 0, 1) := kX3_refusal_0.1.2.1.2
theorem dX3_refusal_11 : decode cX3_refusal 11 = .ok (.getfield 9, 3) := kX3_refusal_0.1.2.2.1
theorem dX3_refusal_14 : decode cX3_refusal 14 = .ok (.iload_n 1, 1) := kX3_refusal_0.1.2.2.2
theorem dX3_refusal_15 : decode cX3_refusal 15 = .ok (.if_icmp .eq 6, 3) := kX3_refusal_0.2.1.1.1
theorem dX3_refusal_18 : decode cX3_refusal 18 = .ok (.bipush (-12), 2) := kX3_refusal_0.2.1.1.2
theorem dX3_refusal_20 : decode cX3_refusal 20 = .ok (.ireturn, 1) := kX3_refusal_0.2.1.2.1
theorem dX3_refusal_21 : decode cX3_refusal 21 = .ok (.aload_n 0, 1) := kX3_refusal_0.2.1.2.2
theorem dX3_refusal_22 : decode cX3_refusal 22 = .ok (.iload_n 2, 1) := kX3_refusal_0.2.2.1.1
theorem dX3_refusal_23 : decode cX3_refusal 23 = .ok (.iload_n 3, 1) := kX3_refusal_0.2.2.1.2
theorem dX3_refusal_24 : decode cX3_refusal 24 = .ok (.invokevirtual 32, 3) := kX3_refusal_0.2.2.2.1
theorem dX3_refusal_27 : decode cX3_refusal 27 = .ok (.ifCond .eq 7, 3) := kX3_refusal_0.2.2.2.2
theorem kX3_refusal_30 : (((decode cX3_refusal 30 = .ok (.iconst 0, 1)) ∧ (decode cX3_refusal 31 = .ok (.goto 5, 3))) ∧ ((decode cX3_refusal 34 = .ok (.bipush (-13), 2)) ∧ (decode cX3_refusal 36 = .ok (.ireturn, 1)))) := by decide +kernel
theorem dX3_refusal_30 : decode cX3_refusal 30 = .ok (.iconst 0, 1) := kX3_refusal_30.1.1
theorem dX3_refusal_31 : decode cX3_refusal 31 = .ok (.goto 5, 3) := kX3_refusal_30.1.2
theorem dX3_refusal_34 : decode cX3_refusal 34 = .ok (.bipush (-13), 2) := kX3_refusal_30.2.1
theorem dX3_refusal_36 : decode cX3_refusal 36 = .ok (.ireturn, 1) := kX3_refusal_30.2.2
theorem kX3_put_0 : (((((decode cX3_put 0 = .ok (.aload_n 0, 1)) ∧ (decode cX3_put 1 = .ok (.getfield 9, 3))) ∧ ((decode cX3_put 4 = .ok (.tableswitch 66 0 2 #[28, 41, 54], 28)) ∧ (decode cX3_put 32 = .ok (.aload_n 0, 1)))) ∧ (((decode cX3_put 33 = .ok (.getfield 18, 3)) ∧ (decode cX3_put 36 = .ok (.iload_n 1, 1))) ∧ ((decode cX3_put 37 = .ok (.lload_n 2, 1)) ∧ (decode cX3_put 38 = .ok (.l2i, 1))))) ∧ ((((decode cX3_put 39 = .ok (.i2b, 1)) ∧ (decode cX3_put 40 = .ok (.i2l, 1))) ∧ ((decode cX3_put 41 = .ok (.lastore, 1)) ∧ (decode cX3_put 42 = .ok (.goto 35, 3)))) ∧ (((decode cX3_put 45 = .ok (.aload_n 0, 1)) ∧ (decode cX3_put 46 = .ok (.getfield 18, 3))) ∧ ((decode cX3_put 49 = .ok (.iload_n 1, 1)) ∧ (decode cX3_put 50 = .ok (.lload_n 2, 1)))))) := by decide +kernel
theorem dX3_put_0 : decode cX3_put 0 = .ok (.aload_n 0, 1) := kX3_put_0.1.1.1.1
theorem dX3_put_1 : decode cX3_put 1 = .ok (.getfield 9, 3) := kX3_put_0.1.1.1.2
theorem dX3_put_4 : decode cX3_put 4 = .ok (.tableswitch 66 0 2 #[28, 41, 54], 28) := kX3_put_0.1.1.2.1
theorem dX3_put_32 : decode cX3_put 32 = .ok (.aload_n 0, 1) := kX3_put_0.1.1.2.2
theorem dX3_put_33 : decode cX3_put 33 = .ok (.getfield 18, 3) := kX3_put_0.1.2.1.1
theorem dX3_put_36 : decode cX3_put 36 = .ok (.iload_n 1, 1) := kX3_put_0.1.2.1.2
theorem dX3_put_37 : decode cX3_put 37 = .ok (.lload_n 2, 1) := kX3_put_0.1.2.2.1
theorem dX3_put_38 : decode cX3_put 38 = .ok (.l2i, 1) := kX3_put_0.1.2.2.2
theorem dX3_put_39 : decode cX3_put 39 = .ok (.i2b, 1) := kX3_put_0.2.1.1.1
theorem dX3_put_40 : decode cX3_put 40 = .ok (.i2l, 1) := kX3_put_0.2.1.1.2
theorem dX3_put_41 : decode cX3_put 41 = .ok (.lastore, 1) := kX3_put_0.2.1.2.1
theorem dX3_put_42 : decode cX3_put 42 = .ok (.goto 35, 3) := kX3_put_0.2.1.2.2
theorem dX3_put_45 : decode cX3_put 45 = .ok (.aload_n 0, 1) := kX3_put_0.2.2.1.1
theorem dX3_put_46 : decode cX3_put 46 = .ok (.getfield 18, 3) := kX3_put_0.2.2.1.2
theorem dX3_put_49 : decode cX3_put 49 = .ok (.iload_n 1, 1) := kX3_put_0.2.2.2.1
theorem dX3_put_50 : decode cX3_put 50 = .ok (.lload_n 2, 1) := kX3_put_0.2.2.2.2
theorem kX3_put_51 : (((((decode cX3_put 51 = .ok (.l2i, 1)) ∧ (decode cX3_put 52 = .ok (.i2s, 1))) ∧ ((decode cX3_put 53 = .ok (.i2l, 1)) ∧ (decode cX3_put 54 = .ok (.lastore, 1)))) ∧ (((decode cX3_put 55 = .ok (.goto 22, 3)) ∧ (decode cX3_put 58 = .ok (.aload_n 0, 1))) ∧ ((decode cX3_put 59 = .ok (.getfield 18, 3)) ∧ (decode cX3_put 62 = .ok (.iload_n 1, 1))))) ∧ ((((decode cX3_put 63 = .ok (.lload_n 2, 1)) ∧ (decode cX3_put 64 = .ok (.l2i, 1))) ∧ ((decode cX3_put 65 = .ok (.i2l, 1)) ∧ (decode cX3_put 66 = .ok (.lastore, 1)))) ∧ (((decode cX3_put 67 = .ok (.goto 10, 3)) ∧ (decode cX3_put 70 = .ok (.aload_n 0, 1))) ∧ ((decode cX3_put 71 = .ok (.getfield 18, 3)) ∧ (decode cX3_put 74 = .ok (.iload_n 1, 1)))))) := by decide +kernel
theorem dX3_put_51 : decode cX3_put 51 = .ok (.l2i, 1) := kX3_put_51.1.1.1.1
theorem dX3_put_52 : decode cX3_put 52 = .ok (.i2s, 1) := kX3_put_51.1.1.1.2
theorem dX3_put_53 : decode cX3_put 53 = .ok (.i2l, 1) := kX3_put_51.1.1.2.1
theorem dX3_put_54 : decode cX3_put 54 = .ok (.lastore, 1) := kX3_put_51.1.1.2.2
theorem dX3_put_55 : decode cX3_put 55 = .ok (.goto 22, 3) := kX3_put_51.1.2.1.1
theorem dX3_put_58 : decode cX3_put 58 = .ok (.aload_n 0, 1) := kX3_put_51.1.2.1.2
theorem dX3_put_59 : decode cX3_put 59 = .ok (.getfield 18, 3) := kX3_put_51.1.2.2.1
theorem dX3_put_62 : decode cX3_put 62 = .ok (.iload_n 1, 1) := kX3_put_51.1.2.2.2
theorem dX3_put_63 : decode cX3_put 63 = .ok (.lload_n 2, 1) := kX3_put_51.2.1.1.1
theorem dX3_put_64 : decode cX3_put 64 = .ok (.l2i, 1) := kX3_put_51.2.1.1.2
theorem dX3_put_65 : decode cX3_put 65 = .ok (.i2l, 1) := kX3_put_51.2.1.2.1
theorem dX3_put_66 : decode cX3_put 66 = .ok (.lastore, 1) := kX3_put_51.2.1.2.2
theorem dX3_put_67 : decode cX3_put 67 = .ok (.goto 10, 3) := kX3_put_51.2.2.1.1
theorem dX3_put_70 : decode cX3_put 70 = .ok (.aload_n 0, 1) := kX3_put_51.2.2.1.2
theorem dX3_put_71 : decode cX3_put 71 = .ok (.getfield 18, 3) := kX3_put_51.2.2.2.1
theorem dX3_put_74 : decode cX3_put 74 = .ok (.iload_n 1, 1) := kX3_put_51.2.2.2.2
theorem kX3_put_75 : (((decode cX3_put 75 = .ok (.lload_n 2, 1)) ∧ (decode cX3_put 76 = .ok (.lastore, 1))) ∧ (decode cX3_put 77 = .ok (.return_, 1))) := by decide +kernel
theorem dX3_put_75 : decode cX3_put 75 = .ok (.lload_n 2, 1) := kX3_put_75.1.1
theorem dX3_put_76 : decode cX3_put 76 = .ok (.lastore, 1) := kX3_put_75.1.2
theorem dX3_put_77 : decode cX3_put 77 = .ok (.return_, 1) := kX3_put_75.2
theorem kX4_init_0 : (((((decode cX4_init 0 = .ok (.aload_n 0, 1)) ∧ (decode cX4_init 1 = .ok (.invokespecial 3, 3))) ∧ ((decode cX4_init 4 = .ok (.aload_n 0, 1)) ∧ (decode cX4_init 5 = .ok (.bipush 60, 2)))) ∧ (((decode cX4_init 7 = .ok (.newarray .int, 2)) ∧ (decode cX4_init 9 = .ok (.putfield 11, 3))) ∧ (decode cX4_init 12 = .ok (.aload_n 0, 1)))) ∧ ((((decode cX4_init 13 = .ok (.iconst 0, 1)) ∧ (decode cX4_init 14 = .ok (.putfield 15, 3))) ∧ (decode cX4_init 17 = .ok (.aload_n 0, 1))) ∧ (((decode cX4_init 18 = .ok (.iconst 0, 1)) ∧ (decode cX4_init 19 = .ok (.putfield 19, 3))) ∧ (decode cX4_init 22 = .ok (.return_, 1))))) := by decide +kernel
theorem dX4_init_0 : decode cX4_init 0 = .ok (.aload_n 0, 1) := kX4_init_0.1.1.1.1
theorem dX4_init_1 : decode cX4_init 1 = .ok (.invokespecial 3, 3) := kX4_init_0.1.1.1.2
theorem dX4_init_4 : decode cX4_init 4 = .ok (.aload_n 0, 1) := kX4_init_0.1.1.2.1
theorem dX4_init_5 : decode cX4_init 5 = .ok (.bipush 60, 2) := kX4_init_0.1.1.2.2
theorem dX4_init_7 : decode cX4_init 7 = .ok (.newarray .int, 2) := kX4_init_0.1.2.1.1
theorem dX4_init_9 : decode cX4_init 9 = .ok (.putfield 11, 3) := kX4_init_0.1.2.1.2
theorem dX4_init_12 : decode cX4_init 12 = .ok (.aload_n 0, 1) := kX4_init_0.1.2.2
theorem dX4_init_13 : decode cX4_init 13 = .ok (.iconst 0, 1) := kX4_init_0.2.1.1.1
theorem dX4_init_14 : decode cX4_init 14 = .ok (.putfield 15, 3) := kX4_init_0.2.1.1.2
theorem dX4_init_17 : decode cX4_init 17 = .ok (.aload_n 0, 1) := kX4_init_0.2.1.2
theorem dX4_init_18 : decode cX4_init 18 = .ok (.iconst 0, 1) := kX4_init_0.2.2.1.1
theorem dX4_init_19 : decode cX4_init 19 = .ok (.putfield 19, 3) := kX4_init_0.2.2.1.2
theorem dX4_init_22 : decode cX4_init 22 = .ok (.return_, 1) := kX4_init_0.2.2.2
theorem kX4_isFull_0 : ((((decode cX4_isFull 0 = .ok (.aload_n 0, 1)) ∧ (decode cX4_isFull 1 = .ok (.getfield 15, 3))) ∧ ((decode cX4_isFull 4 = .ok (.bipush 60, 2)) ∧ (decode cX4_isFull 6 = .ok (.if_icmp .lt 7, 3)))) ∧ (((decode cX4_isFull 9 = .ok (.iconst 1, 1)) ∧ (decode cX4_isFull 10 = .ok (.goto 4, 3))) ∧ ((decode cX4_isFull 13 = .ok (.iconst 0, 1)) ∧ (decode cX4_isFull 14 = .ok (.ireturn, 1))))) := by decide +kernel
theorem dX4_isFull_0 : decode cX4_isFull 0 = .ok (.aload_n 0, 1) := kX4_isFull_0.1.1.1
theorem dX4_isFull_1 : decode cX4_isFull 1 = .ok (.getfield 15, 3) := kX4_isFull_0.1.1.2
theorem dX4_isFull_4 : decode cX4_isFull 4 = .ok (.bipush 60, 2) := kX4_isFull_0.1.2.1
theorem dX4_isFull_6 : decode cX4_isFull 6 = .ok (.if_icmp .lt 7, 3) := kX4_isFull_0.1.2.2
theorem dX4_isFull_9 : decode cX4_isFull 9 = .ok (.iconst 1, 1) := kX4_isFull_0.2.1.1
theorem dX4_isFull_10 : decode cX4_isFull 10 = .ok (.goto 4, 3) := kX4_isFull_0.2.1.2
theorem dX4_isFull_13 : decode cX4_isFull 13 = .ok (.iconst 0, 1) := kX4_isFull_0.2.2.1
theorem dX4_isFull_14 : decode cX4_isFull 14 = .ok (.ireturn, 1) := kX4_isFull_0.2.2.2
theorem kX4_append_0 : (((((decode cX4_append 0 = .ok (.aload_n 0, 1)) ∧ (decode cX4_append 1 = .ok (.getfield 15, 3))) ∧ ((decode cX4_append 4 = .ok (.bipush 60, 2)) ∧ (decode cX4_append 6 = .ok (.if_icmp .ge 23, 3)))) ∧ (((decode cX4_append 9 = .ok (.aload_n 0, 1)) ∧ (decode cX4_append 10 = .ok (.getfield 11, 3))) ∧ ((decode cX4_append 13 = .ok (.aload_n 0, 1)) ∧ (decode cX4_append 14 = .ok (.getfield 15, 3))))) ∧ ((((decode cX4_append 17 = .ok (.iload_n 1, 1)) ∧ (decode cX4_append 18 = .ok (.iastore, 1))) ∧ ((decode cX4_append 19 = .ok (.aload_n 0, 1)) ∧ (decode cX4_append 20 = .ok (.dup, 1)))) ∧ (((decode cX4_append 21 = .ok (.getfield 15, 3)) ∧ (decode cX4_append 24 = .ok (.iconst 1, 1))) ∧ ((decode cX4_append 25 = .ok (.iadd, 1)) ∧ (decode cX4_append 26 = .ok (.putfield 15, 3)))))) := by decide +kernel
theorem dX4_append_0 : decode cX4_append 0 = .ok (.aload_n 0, 1) := kX4_append_0.1.1.1.1
theorem dX4_append_1 : decode cX4_append 1 = .ok (.getfield 15, 3) := kX4_append_0.1.1.1.2
theorem dX4_append_4 : decode cX4_append 4 = .ok (.bipush 60, 2) := kX4_append_0.1.1.2.1
theorem dX4_append_6 : decode cX4_append 6 = .ok (.if_icmp .ge 23, 3) := kX4_append_0.1.1.2.2
theorem dX4_append_9 : decode cX4_append 9 = .ok (.aload_n 0, 1) := kX4_append_0.1.2.1.1
theorem dX4_append_10 : decode cX4_append 10 = .ok (.getfield 11, 3) := kX4_append_0.1.2.1.2
theorem dX4_append_13 : decode cX4_append 13 = .ok (.aload_n 0, 1) := kX4_append_0.1.2.2.1
theorem dX4_append_14 : decode cX4_append 14 = .ok (.getfield 15, 3) := kX4_append_0.1.2.2.2
theorem dX4_append_17 : decode cX4_append 17 = .ok (.iload_n 1, 1) := kX4_append_0.2.1.1.1
theorem dX4_append_18 : decode cX4_append 18 = .ok (.iastore, 1) := kX4_append_0.2.1.1.2
theorem dX4_append_19 : decode cX4_append 19 = .ok (.aload_n 0, 1) := kX4_append_0.2.1.2.1
theorem dX4_append_20 : decode cX4_append 20 = .ok (.dup, 1) := kX4_append_0.2.1.2.2
theorem dX4_append_21 : decode cX4_append 21 = .ok (.getfield 15, 3) := kX4_append_0.2.2.1.1
theorem dX4_append_24 : decode cX4_append 24 = .ok (.iconst 1, 1) := kX4_append_0.2.2.1.2
theorem dX4_append_25 : decode cX4_append 25 = .ok (.iadd, 1) := kX4_append_0.2.2.2.1
theorem dX4_append_26 : decode cX4_append 26 = .ok (.putfield 15, 3) := kX4_append_0.2.2.2.2
theorem kX4_append_29 : (((decode cX4_append 29 = .ok (.aload_n 0, 1)) ∧ (decode cX4_append 30 = .ok (.getfield 15, 3))) ∧ (decode cX4_append 33 = .ok (.ireturn, 1))) := by decide +kernel
theorem dX4_append_29 : decode cX4_append 29 = .ok (.aload_n 0, 1) := kX4_append_29.1.1
theorem dX4_append_30 : decode cX4_append 30 = .ok (.getfield 15, 3) := kX4_append_29.1.2
theorem dX4_append_33 : decode cX4_append 33 = .ok (.ireturn, 1) := kX4_append_29.2
theorem kX4_empty_0 : (((decode cX4_empty 0 = .ok (.aload_n 0, 1)) ∧ (decode cX4_empty 1 = .ok (.iconst 0, 1))) ∧ ((decode cX4_empty 2 = .ok (.putfield 15, 3)) ∧ (decode cX4_empty 5 = .ok (.return_, 1)))) := by decide +kernel
theorem dX4_empty_0 : decode cX4_empty 0 = .ok (.aload_n 0, 1) := kX4_empty_0.1.1
theorem dX4_empty_1 : decode cX4_empty 1 = .ok (.iconst 0, 1) := kX4_empty_0.1.2
theorem dX4_empty_2 : decode cX4_empty 2 = .ok (.putfield 15, 3) := kX4_empty_0.2.1
theorem dX4_empty_5 : decode cX4_empty 5 = .ok (.return_, 1) := kX4_empty_0.2.2
set_option maxRecDepth 20000 in
theorem ggX4_readClose_X4_take : GoodIn wsX4_readClose wsX4_take := goodIn_r _ [6, 1, 7, 8, 9, 5, 10, 11, 12, 96, 97, 98] rfl (by decide +kernel)
set_option maxRecDepth 20000 in
theorem gX4_readClose_X4_take : GoodIn wsX4_readClose (wsV RX4 22 RX4 yX4_take wsX4_take) := goodIn_app (goodIn_of _ (by decide +kernel)) ggX4_readClose_X4_take
set_option maxRecDepth 20000 in
theorem ggX4_readClose_X4_readPerson : GoodIn wsX4_readClose wsX4_readPerson := goodIn_r _ [16, 1, 7, 8, 9, 5, 10, 11, 12, 17, 18, 19, 20, 21, 22, 23, 24, 25, 26, 27, 28, 29, 30, 31, 32, 33, 34, 35, 36, 37, 38, 39, 40, 41, 42, 43, 44, 45, 46, 47, 48, 49, 50, 51, 52, 53, 54, 55, 56, 57, 58, 59, 60, 61, 62, 63, 64, 65, 66, 67, 68, 69, 70, 71, 72, 73, 74, 75, 76, 77, 78, 79, 80, 81, 82, 83, 84, 85, 2, 3, 4, 6, 86, 87, 88, 89, 96, 97, 98, 99, 100, 101, 102, 103, 104, 105] rfl (by decide +kernel)
set_option maxRecDepth 20000 in
theorem gX4_readClose_X4_readPerson : GoodIn wsX4_readClose (wsV RX4 26 RX4 yX4_readPerson wsX4_readPerson) := goodIn_app (goodIn_of _ (by decide +kernel)) ggX4_readClose_X4_readPerson
set_option maxRecDepth 20000 in
theorem ggX4_readClose_X4_letterHere : GoodIn wsX4_readClose wsX4_letterHere := goodIn_r _ [10, 1, 11, 12, 96, 97, 98] rfl (by decide +kernel)
set_option maxRecDepth 20000 in
theorem gX4_readClose_X4_letterHere : GoodIn wsX4_readClose (wsV RX4 30 RX4 yX4_letterHere wsX4_letterHere) := goodIn_app (goodIn_of _ (by decide +kernel)) ggX4_readClose_X4_letterHere
set_option maxRecDepth 20000 in
theorem ggX4_readClose_X4_allWoundAreThere : GoodIn wsX4_readClose wsX4_allWoundAreThere := goodIn_r _ [92, 93, 78, 94, 95, 81, 99, 100, 101, 102, 103, 104, 105] rfl (by decide +kernel)
set_option maxRecDepth 20000 in
theorem gX4_readClose_X4_allWoundAreThere : GoodIn wsX4_readClose (va_wsS RX4 34 yX4_allWoundAreThere wsX4_allWoundAreThere) := goodIn_app (goodIn_of _ (by decide +kernel)) ggX4_readClose_X4_allWoundAreThere
theorem kX4_readClose_0 : (((((decode cX4_readClose 0 = .ok (.aload_n 0, 1)) ∧ (decode cX4_readClose 1 = .ok (.iconst 0, 1))) ∧ ((decode cX4_readClose 2 = .ok (.putfield 19, 3)) ∧ (decode cX4_readClose 5 = .ok (.iconst 0, 1)))) ∧ (((decode cX4_readClose 6 = .ok (.istore_n 2, 1)) ∧ (decode cX4_readClose 7 = .ok (.iload_n 2, 1))) ∧ ((decode cX4_readClose 8 = .ok (.bipush 6, 2)) ∧ (decode cX4_readClose 10 = .ok (.if_icmp .ge 35, 3))))) ∧ ((((decode cX4_readClose 13 = .ok (.iload_n 2, 1)) ∧ (decode cX4_readClose 14 = .ok (.ifCond .le 15, 3))) ∧ ((decode cX4_readClose 17 = .ok (.aload_n 0, 1)) ∧ (decode cX4_readClose 18 = .ok (.bipush 44, 2)))) ∧ (((decode cX4_readClose 20 = .ok (.invokevirtual 22, 3)) ∧ (decode cX4_readClose 23 = .ok (.ifCond .ne 6, 3))) ∧ ((decode cX4_readClose 26 = .ok (.goto 19, 3)) ∧ (decode cX4_readClose 29 = .ok (.aload_n 0, 1)))))) := by decide +kernel
theorem dX4_readClose_0 : decode cX4_readClose 0 = .ok (.aload_n 0, 1) := kX4_readClose_0.1.1.1.1
theorem dX4_readClose_1 : decode cX4_readClose 1 = .ok (.iconst 0, 1) := kX4_readClose_0.1.1.1.2
theorem dX4_readClose_2 : decode cX4_readClose 2 = .ok (.putfield 19, 3) := kX4_readClose_0.1.1.2.1
theorem dX4_readClose_5 : decode cX4_readClose 5 = .ok (.iconst 0, 1) := kX4_readClose_0.1.1.2.2
theorem dX4_readClose_6 : decode cX4_readClose 6 = .ok (.istore_n 2, 1) := kX4_readClose_0.1.2.1.1
theorem dX4_readClose_7 : decode cX4_readClose 7 = .ok (.iload_n 2, 1) := kX4_readClose_0.1.2.1.2
theorem dX4_readClose_8 : decode cX4_readClose 8 = .ok (.bipush 6, 2) := kX4_readClose_0.1.2.2.1
theorem dX4_readClose_10 : decode cX4_readClose 10 = .ok (.if_icmp .ge 35, 3) := kX4_readClose_0.1.2.2.2
theorem dX4_readClose_13 : decode cX4_readClose 13 = .ok (.iload_n 2, 1) := kX4_readClose_0.2.1.1.1
theorem dX4_readClose_14 : decode cX4_readClose 14 = .ok (.ifCond .le 15, 3) := kX4_readClose_0.2.1.1.2
theorem dX4_readClose_17 : decode cX4_readClose 17 = .ok (.aload_n 0, 1) := kX4_readClose_0.2.1.2.1
theorem dX4_readClose_18 : decode cX4_readClose 18 = .ok (.bipush 44, 2) := kX4_readClose_0.2.1.2.2
theorem dX4_readClose_20 : decode cX4_readClose 20 = .ok (.invokevirtual 22, 3) := kX4_readClose_0.2.2.1.1
theorem dX4_readClose_23 : decode cX4_readClose 23 = .ok (.ifCond .ne 6, 3) := kX4_readClose_0.2.2.1.2
theorem dX4_readClose_26 : decode cX4_readClose 26 = .ok (.goto 19, 3) := kX4_readClose_0.2.2.2.1
theorem dX4_readClose_29 : decode cX4_readClose 29 = .ok (.aload_n 0, 1) := kX4_readClose_0.2.2.2.2
theorem kX4_readClose_30 : (((((decode cX4_readClose 30 = .ok (.aload_n 1, 1)) ∧ (decode cX4_readClose 31 = .ok (.invokevirtual 26, 3))) ∧ ((decode cX4_readClose 34 = .ok (.ifCond .ne 5, 3)) ∧ (decode cX4_readClose 37 = .ok (.iconst 0, 1)))) ∧ (((decode cX4_readClose 38 = .ok (.ireturn, 1)) ∧ (decode cX4_readClose 39 = .ok (.iinc 2 1, 3))) ∧ ((decode cX4_readClose 42 = .ok (.goto (-35), 3)) ∧ (decode cX4_readClose 45 = .ok (.aload_n 0, 1))))) ∧ ((((decode cX4_readClose 46 = .ok (.invokevirtual 30, 3)) ∧ (decode cX4_readClose 49 = .ok (.iconst (-1), 1))) ∧ ((decode cX4_readClose 50 = .ok (.if_icmp .ne 14, 3)) ∧ (decode cX4_readClose 53 = .ok (.aload_n 1, 1)))) ∧ (((decode cX4_readClose 54 = .ok (.invokestatic 34, 3)) ∧ (decode cX4_readClose 57 = .ok (.ifCond .eq 7, 3))) ∧ ((decode cX4_readClose 60 = .ok (.iconst 1, 1)) ∧ (decode cX4_readClose 61 = .ok (.goto 4, 3)))))) := by decide +kernel
theorem dX4_readClose_30 : decode cX4_readClose 30 = .ok (.aload_n 1, 1) := kX4_readClose_30.1.1.1.1
theorem dX4_readClose_31 : decode cX4_readClose 31 = .ok (.invokevirtual 26, 3) := kX4_readClose_30.1.1.1.2
theorem dX4_readClose_34 : decode cX4_readClose 34 = .ok (.ifCond .ne 5, 3) := kX4_readClose_30.1.1.2.1
theorem dX4_readClose_37 : decode cX4_readClose 37 = .ok (.iconst 0, 1) := kX4_readClose_30.1.1.2.2
theorem dX4_readClose_38 : decode cX4_readClose 38 = .ok (.ireturn, 1) := kX4_readClose_30.1.2.1.1
theorem dX4_readClose_39 : decode cX4_readClose 39 = .ok (.iinc 2 1, 3) := kX4_readClose_30.1.2.1.2
theorem dX4_readClose_42 : decode cX4_readClose 42 = .ok (.goto (-35), 3) := kX4_readClose_30.1.2.2.1
theorem dX4_readClose_45 : decode cX4_readClose 45 = .ok (.aload_n 0, 1) := kX4_readClose_30.1.2.2.2
theorem dX4_readClose_46 : decode cX4_readClose 46 = .ok (.invokevirtual 30, 3) := kX4_readClose_30.2.1.1.1
theorem dX4_readClose_49 : decode cX4_readClose 49 = .ok (.iconst (-1), 1) := kX4_readClose_30.2.1.1.2
theorem dX4_readClose_50 : decode cX4_readClose 50 = .ok (.if_icmp .ne 14, 3) := kX4_readClose_30.2.1.2.1
theorem dX4_readClose_53 : decode cX4_readClose 53 = .ok (.aload_n 1, 1) := kX4_readClose_30.2.1.2.2
theorem dX4_readClose_54 : decode cX4_readClose 54 = .ok (.invokestatic 34, 3) := kX4_readClose_30.2.2.1.1
theorem dX4_readClose_57 : decode cX4_readClose 57 = .ok (.ifCond .eq 7, 3) := kX4_readClose_30.2.2.1.2
theorem dX4_readClose_60 : decode cX4_readClose 60 = .ok (.iconst 1, 1) := kX4_readClose_30.2.2.2.1
theorem dX4_readClose_61 : decode cX4_readClose 61 = .ok (.goto 4, 3) := kX4_readClose_30.2.2.2.2
theorem kX4_readClose_64 : ((decode cX4_readClose 64 = .ok (.iconst 0, 1)) ∧ (decode cX4_readClose 65 = .ok (.ireturn, 1))) := by decide +kernel
theorem dX4_readClose_64 : decode cX4_readClose 64 = .ok (.iconst 0, 1) := kX4_readClose_64.1
theorem dX4_readClose_65 : decode cX4_readClose 65 = .ok (.ireturn, 1) := kX4_readClose_64.2
set_option maxRecDepth 20000 in
theorem ggX4_readPerson_X4_letterHere : GoodIn wsX4_readPerson wsX4_letterHere := goodIn_r _ [6, 1, 7, 8, 86, 87, 88] rfl (by decide +kernel)
set_option maxRecDepth 20000 in
theorem gX4_readPerson_X4_letterHere : GoodIn wsX4_readPerson (wsV RX4 30 RX4 yX4_letterHere wsX4_letterHere) := goodIn_app (goodIn_of _ (by decide +kernel)) ggX4_readPerson_X4_letterHere
set_option maxRecDepth 20000 in
theorem ggX4_readPerson_X4_kindOf : GoodIn wsX4_readPerson wsX4_kindOf := goodIn_r _ [11, 12, 13, 14, 15, 16, 17, 18, 19, 20, 21, 22, 23, 24, 25, 26, 27, 28, 29, 30, 31, 32, 33, 34, 35, 36, 37, 38, 39, 40, 41, 42, 43, 44, 45, 46, 47, 48, 49, 50, 51, 52, 53, 54, 55, 56, 57, 58, 59, 60] rfl (by decide +kernel)
set_option maxRecDepth 20000 in
theorem gX4_readPerson_X4_kindOf : GoodIn wsX4_readPerson (va_wsS RX4 37 yX4_kindOf wsX4_kindOf) := goodIn_app (goodIn_of _ (by decide +kernel)) ggX4_readPerson_X4_kindOf
set_option maxRecDepth 20000 in
theorem ggX4_readPerson_X4_takeNumber : GoodIn wsX4_readPerson wsX4_takeNumber := goodIn_r _ [64, 1, 2, 3, 4, 5, 6, 7, 8, 65, 66, 67, 68, 86, 87, 88] rfl (by decide +kernel)
set_option maxRecDepth 20000 in
theorem gX4_readPerson_X4_takeNumber : GoodIn wsX4_readPerson (wsV RX4 41 RX4 yX4_takeNumber wsX4_takeNumber) := goodIn_app (goodIn_of _ (by decide +kernel)) ggX4_readPerson_X4_takeNumber
set_option maxRecDepth 20000 in
theorem ggX4_readPerson_X2_join : GoodIn wsX4_readPerson wsX2_join := goodIn_r _ [72, 73, 74, 75, 76, 77, 89, 90, 91, 92, 93, 94, 95] rfl (by decide +kernel)
set_option maxRecDepth 20000 in
theorem gX4_readPerson_X2_join_n45 : GoodIn wsX4_readPerson (wsX2_join) := ggX4_readPerson_X2_join
set_option maxRecDepth 20000 in
theorem ggX4_readPerson_X4_take : GoodIn wsX4_readPerson wsX4_take := goodIn_r _ [81, 1, 2, 3, 4, 5, 6, 7, 8, 86, 87, 88] rfl (by decide +kernel)
set_option maxRecDepth 20000 in
theorem gX4_readPerson_X4_take : GoodIn wsX4_readPerson (wsV RX4 22 RX4 yX4_take wsX4_take) := goodIn_app (goodIn_of _ (by decide +kernel)) ggX4_readPerson_X4_take
set_option maxRecDepth 20000 in
theorem ggX4_readPerson_X4_readWinding : GoodIn wsX4_readPerson wsX4_readWinding := goodIn_r _ [85, 1, 2, 3, 4, 5, 6, 7, 8, 78, 79, 80, 81, 61, 62, 63, 64, 65, 66, 67, 68, 86, 87, 88, 89, 90, 91, 92, 93, 94, 95] rfl (by decide +kernel)
set_option maxRecDepth 20000 in
theorem gX4_readPerson_X4_readWinding : GoodIn wsX4_readPerson (wsV RX4 50 RX4 yX4_readWinding wsX4_readWinding) := goodIn_app (goodIn_of _ (by decide +kernel)) ggX4_readPerson_X4_readWinding
theorem kX4_readPerson_0 : (((((decode cX4_readPerson 0 = .ok (.aload_n 0, 1)) ∧ (decode cX4_readPerson 1 = .ok (.invokevirtual 30, 3))) ∧ ((decode cX4_readPerson 4 = .ok (.invokestatic 37, 3)) ∧ (decode cX4_readPerson 7 = .ok (.istore_n 2, 1)))) ∧ (((decode cX4_readPerson 8 = .ok (.iload_n 2, 1)) ∧ (decode cX4_readPerson 9 = .ok (.ifCond .ge 5, 3))) ∧ ((decode cX4_readPerson 12 = .ok (.iconst 0, 1)) ∧ (decode cX4_readPerson 13 = .ok (.ireturn, 1))))) ∧ ((((decode cX4_readPerson 14 = .ok (.aload_n 0, 1)) ∧ (decode cX4_readPerson 15 = .ok (.dup, 1))) ∧ ((decode cX4_readPerson 16 = .ok (.getfield 19, 3)) ∧ (decode cX4_readPerson 19 = .ok (.iconst 1, 1)))) ∧ (((decode cX4_readPerson 20 = .ok (.iadd, 1)) ∧ (decode cX4_readPerson 21 = .ok (.putfield 19, 3))) ∧ ((decode cX4_readPerson 24 = .ok (.aload_n 0, 1)) ∧ (decode cX4_readPerson 25 = .ok (.iconst 0, 1)))))) := by decide +kernel
theorem dX4_readPerson_0 : decode cX4_readPerson 0 = .ok (.aload_n 0, 1) := kX4_readPerson_0.1.1.1.1
theorem dX4_readPerson_1 : decode cX4_readPerson 1 = .ok (.invokevirtual 30, 3) := kX4_readPerson_0.1.1.1.2
theorem dX4_readPerson_4 : decode cX4_readPerson 4 = .ok (.invokestatic 37, 3) := kX4_readPerson_0.1.1.2.1
theorem dX4_readPerson_7 : decode cX4_readPerson 7 = .ok (.istore_n 2, 1) := kX4_readPerson_0.1.1.2.2
theorem dX4_readPerson_8 : decode cX4_readPerson 8 = .ok (.iload_n 2, 1) := kX4_readPerson_0.1.2.1.1
theorem dX4_readPerson_9 : decode cX4_readPerson 9 = .ok (.ifCond .ge 5, 3) := kX4_readPerson_0.1.2.1.2
theorem dX4_readPerson_12 : decode cX4_readPerson 12 = .ok (.iconst 0, 1) := kX4_readPerson_0.1.2.2.1
theorem dX4_readPerson_13 : decode cX4_readPerson 13 = .ok (.ireturn, 1) := kX4_readPerson_0.1.2.2.2
theorem dX4_readPerson_14 : decode cX4_readPerson 14 = .ok (.aload_n 0, 1) := kX4_readPerson_0.2.1.1.1
theorem dX4_readPerson_15 : decode cX4_readPerson 15 = .ok (.dup, 1) := kX4_readPerson_0.2.1.1.2
theorem dX4_readPerson_16 : decode cX4_readPerson 16 = .ok (.getfield 19, 3) := kX4_readPerson_0.2.1.2.1
theorem dX4_readPerson_19 : decode cX4_readPerson 19 = .ok (.iconst 1, 1) := kX4_readPerson_0.2.1.2.2
theorem dX4_readPerson_20 : decode cX4_readPerson 20 = .ok (.iadd, 1) := kX4_readPerson_0.2.2.1.1
theorem dX4_readPerson_21 : decode cX4_readPerson 21 = .ok (.putfield 19, 3) := kX4_readPerson_0.2.2.1.2
theorem dX4_readPerson_24 : decode cX4_readPerson 24 = .ok (.aload_n 0, 1) := kX4_readPerson_0.2.2.2.1
theorem dX4_readPerson_25 : decode cX4_readPerson 25 = .ok (.iconst 0, 1) := kX4_readPerson_0.2.2.2.2
theorem kX4_readPerson_26 : (((((decode cX4_readPerson 26 = .ok (.bipush 30, 2)) ∧ (decode cX4_readPerson 28 = .ok (.invokevirtual 41, 3))) ∧ ((decode cX4_readPerson 31 = .ok (.istore_n 3, 1)) ∧ (decode cX4_readPerson 32 = .ok (.iload_n 3, 1)))) ∧ (((decode cX4_readPerson 33 = .ok (.iconst (-1), 1)) ∧ (decode cX4_readPerson 34 = .ok (.if_icmp .ne 5, 3))) ∧ ((decode cX4_readPerson 37 = .ok (.iconst 0, 1)) ∧ (decode cX4_readPerson 38 = .ok (.ireturn, 1))))) ∧ ((((decode cX4_readPerson 39 = .ok (.aload_n 1, 1)) ∧ (decode cX4_readPerson 40 = .ok (.iload_n 2, 1))) ∧ ((decode cX4_readPerson 41 = .ok (.iload_n 3, 1)) ∧ (decode cX4_readPerson 42 = .ok (.invokevirtual 45, 3)))) ∧ (((decode cX4_readPerson 45 = .ok (.istore 4, 2)) ∧ (decode cX4_readPerson 47 = .ok (.aload_n 0, 1))) ∧ ((decode cX4_readPerson 48 = .ok (.bipush 62, 2)) ∧ (decode cX4_readPerson 50 = .ok (.invokevirtual 22, 3)))))) := by decide +kernel
theorem dX4_readPerson_26 : decode cX4_readPerson 26 = .ok (.bipush 30, 2) := kX4_readPerson_26.1.1.1.1
theorem dX4_readPerson_28 : decode cX4_readPerson 28 = .ok (.invokevirtual 41, 3) := kX4_readPerson_26.1.1.1.2
theorem dX4_readPerson_31 : decode cX4_readPerson 31 = .ok (.istore_n 3, 1) := kX4_readPerson_26.1.1.2.1
theorem dX4_readPerson_32 : decode cX4_readPerson 32 = .ok (.iload_n 3, 1) := kX4_readPerson_26.1.1.2.2
theorem dX4_readPerson_33 : decode cX4_readPerson 33 = .ok (.iconst (-1), 1) := kX4_readPerson_26.1.2.1.1
theorem dX4_readPerson_34 : decode cX4_readPerson 34 = .ok (.if_icmp .ne 5, 3) := kX4_readPerson_26.1.2.1.2
theorem dX4_readPerson_37 : decode cX4_readPerson 37 = .ok (.iconst 0, 1) := kX4_readPerson_26.1.2.2.1
theorem dX4_readPerson_38 : decode cX4_readPerson 38 = .ok (.ireturn, 1) := kX4_readPerson_26.1.2.2.2
theorem dX4_readPerson_39 : decode cX4_readPerson 39 = .ok (.aload_n 1, 1) := kX4_readPerson_26.2.1.1.1
theorem dX4_readPerson_40 : decode cX4_readPerson 40 = .ok (.iload_n 2, 1) := kX4_readPerson_26.2.1.1.2
theorem dX4_readPerson_41 : decode cX4_readPerson 41 = .ok (.iload_n 3, 1) := kX4_readPerson_26.2.1.2.1
theorem dX4_readPerson_42 : decode cX4_readPerson 42 = .ok (.invokevirtual 45, 3) := kX4_readPerson_26.2.1.2.2
theorem dX4_readPerson_45 : decode cX4_readPerson 45 = .ok (.istore 4, 2) := kX4_readPerson_26.2.2.1.1
theorem dX4_readPerson_47 : decode cX4_readPerson 47 = .ok (.aload_n 0, 1) := kX4_readPerson_26.2.2.1.2
theorem dX4_readPerson_48 : decode cX4_readPerson 48 = .ok (.bipush 62, 2) := kX4_readPerson_26.2.2.2.1
theorem dX4_readPerson_50 : decode cX4_readPerson 50 = .ok (.invokevirtual 22, 3) := kX4_readPerson_26.2.2.2.2
theorem kX4_readPerson_53 : (((((decode cX4_readPerson 53 = .ok (.ifCond .eq 13, 3)) ∧ (decode cX4_readPerson 56 = .ok (.aload_n 0, 1))) ∧ (decode cX4_readPerson 57 = .ok (.aload_n 1, 1))) ∧ ((decode cX4_readPerson 58 = .ok (.iload 4, 2)) ∧ (decode cX4_readPerson 60 = .ok (.invokevirtual 50, 3)))) ∧ ((((decode cX4_readPerson 63 = .ok (.ifCond .eq 7, 3)) ∧ (decode cX4_readPerson 66 = .ok (.iconst 1, 1))) ∧ (decode cX4_readPerson 67 = .ok (.goto 4, 3))) ∧ ((decode cX4_readPerson 70 = .ok (.iconst 0, 1)) ∧ (decode cX4_readPerson 71 = .ok (.ireturn, 1))))) := by decide +kernel
theorem dX4_readPerson_53 : decode cX4_readPerson 53 = .ok (.ifCond .eq 13, 3) := kX4_readPerson_53.1.1.1.1
theorem dX4_readPerson_56 : decode cX4_readPerson 56 = .ok (.aload_n 0, 1) := kX4_readPerson_53.1.1.1.2
theorem dX4_readPerson_57 : decode cX4_readPerson 57 = .ok (.aload_n 1, 1) := kX4_readPerson_53.1.1.2
theorem dX4_readPerson_58 : decode cX4_readPerson 58 = .ok (.iload 4, 2) := kX4_readPerson_53.1.2.1
theorem dX4_readPerson_60 : decode cX4_readPerson 60 = .ok (.invokevirtual 50, 3) := kX4_readPerson_53.1.2.2
theorem dX4_readPerson_63 : decode cX4_readPerson 63 = .ok (.ifCond .eq 7, 3) := kX4_readPerson_53.2.1.1.1
theorem dX4_readPerson_66 : decode cX4_readPerson 66 = .ok (.iconst 1, 1) := kX4_readPerson_53.2.1.1.2
theorem dX4_readPerson_67 : decode cX4_readPerson 67 = .ok (.goto 4, 3) := kX4_readPerson_53.2.1.2
theorem dX4_readPerson_70 : decode cX4_readPerson 70 = .ok (.iconst 0, 1) := kX4_readPerson_53.2.2.1
theorem dX4_readPerson_71 : decode cX4_readPerson 71 = .ok (.ireturn, 1) := kX4_readPerson_53.2.2.2
set_option maxRecDepth 20000 in
theorem ggX4_readWinding_X4_letterHere : GoodIn wsX4_readWinding wsX4_letterHere := goodIn_r _ [6, 1, 7, 8, 21, 22, 23] rfl (by decide +kernel)
set_option maxRecDepth 20000 in
theorem gX4_readWinding_X4_letterHere : GoodIn wsX4_readWinding (wsV RX4 30 RX4 yX4_letterHere wsX4_letterHere) := goodIn_app (goodIn_of _ (by decide +kernel)) ggX4_readWinding_X4_letterHere
set_option maxRecDepth 20000 in
theorem ggX4_readWinding_X4_take : GoodIn wsX4_readWinding wsX4_take := goodIn_r _ [12, 1, 2, 3, 4, 5, 6, 7, 8, 21, 22, 23] rfl (by decide +kernel)
set_option maxRecDepth 20000 in
theorem gX4_readWinding_X4_take : GoodIn wsX4_readWinding (wsV RX4 22 RX4 yX4_take wsX4_take) := goodIn_app (goodIn_of _ (by decide +kernel)) ggX4_readWinding_X4_take
set_option maxRecDepth 20000 in
theorem ggX4_readWinding_X4_takeNumber : GoodIn wsX4_readWinding wsX4_takeNumber := goodIn_r _ [16, 1, 2, 3, 4, 5, 6, 7, 8, 17, 18, 19, 20, 21, 22, 23] rfl (by decide +kernel)
set_option maxRecDepth 20000 in
theorem gX4_readWinding_X4_takeNumber : GoodIn wsX4_readWinding (wsV RX4 41 RX4 yX4_takeNumber wsX4_takeNumber) := goodIn_app (goodIn_of _ (by decide +kernel)) ggX4_readWinding_X4_takeNumber
theorem kX4_readWinding_0 : (((((decode cX4_readWinding 0 = .ok (.aload_n 0, 1)) ∧ (decode cX4_readWinding 1 = .ok (.invokevirtual 30, 3))) ∧ ((decode cX4_readWinding 4 = .ok (.bipush 48, 2)) ∧ (decode cX4_readWinding 6 = .ok (.isub, 1)))) ∧ (((decode cX4_readWinding 7 = .ok (.istore_n 3, 1)) ∧ (decode cX4_readWinding 8 = .ok (.iload_n 3, 1))) ∧ ((decode cX4_readWinding 9 = .ok (.ifCond .lt 18, 3)) ∧ (decode cX4_readWinding 12 = .ok (.iload_n 3, 1))))) ∧ ((((decode cX4_readWinding 13 = .ok (.bipush 6, 2)) ∧ (decode cX4_readWinding 15 = .ok (.if_icmp .ge 12, 3))) ∧ ((decode cX4_readWinding 18 = .ok (.iload_n 3, 1)) ∧ (decode cX4_readWinding 19 = .ok (.iload_n 2, 1)))) ∧ (((decode cX4_readWinding 20 = .ok (.if_icmp .eq 7, 3)) ∧ (decode cX4_readWinding 23 = .ok (.iload_n 2, 1))) ∧ ((decode cX4_readWinding 24 = .ok (.ifCond .ge 5, 3)) ∧ (decode cX4_readWinding 27 = .ok (.iconst 0, 1)))))) := by decide +kernel
theorem dX4_readWinding_0 : decode cX4_readWinding 0 = .ok (.aload_n 0, 1) := kX4_readWinding_0.1.1.1.1
theorem dX4_readWinding_1 : decode cX4_readWinding 1 = .ok (.invokevirtual 30, 3) := kX4_readWinding_0.1.1.1.2
theorem dX4_readWinding_4 : decode cX4_readWinding 4 = .ok (.bipush 48, 2) := kX4_readWinding_0.1.1.2.1
theorem dX4_readWinding_6 : decode cX4_readWinding 6 = .ok (.isub, 1) := kX4_readWinding_0.1.1.2.2
theorem dX4_readWinding_7 : decode cX4_readWinding 7 = .ok (.istore_n 3, 1) := kX4_readWinding_0.1.2.1.1
theorem dX4_readWinding_8 : decode cX4_readWinding 8 = .ok (.iload_n 3, 1) := kX4_readWinding_0.1.2.1.2
theorem dX4_readWinding_9 : decode cX4_readWinding 9 = .ok (.ifCond .lt 18, 3) := kX4_readWinding_0.1.2.2.1
theorem dX4_readWinding_12 : decode cX4_readWinding 12 = .ok (.iload_n 3, 1) := kX4_readWinding_0.1.2.2.2
theorem dX4_readWinding_13 : decode cX4_readWinding 13 = .ok (.bipush 6, 2) := kX4_readWinding_0.2.1.1.1
theorem dX4_readWinding_15 : decode cX4_readWinding 15 = .ok (.if_icmp .ge 12, 3) := kX4_readWinding_0.2.1.1.2
theorem dX4_readWinding_18 : decode cX4_readWinding 18 = .ok (.iload_n 3, 1) := kX4_readWinding_0.2.1.2.1
theorem dX4_readWinding_19 : decode cX4_readWinding 19 = .ok (.iload_n 2, 1) := kX4_readWinding_0.2.1.2.2
theorem dX4_readWinding_20 : decode cX4_readWinding 20 = .ok (.if_icmp .eq 7, 3) := kX4_readWinding_0.2.2.1.1
theorem dX4_readWinding_23 : decode cX4_readWinding 23 = .ok (.iload_n 2, 1) := kX4_readWinding_0.2.2.1.2
theorem dX4_readWinding_24 : decode cX4_readWinding 24 = .ok (.ifCond .ge 5, 3) := kX4_readWinding_0.2.2.2.1
theorem dX4_readWinding_27 : decode cX4_readWinding 27 = .ok (.iconst 0, 1) := kX4_readWinding_0.2.2.2.2
theorem kX4_readWinding_28 : (((((decode cX4_readWinding 28 = .ok (.ireturn, 1)) ∧ (decode cX4_readWinding 29 = .ok (.aload_n 0, 1))) ∧ ((decode cX4_readWinding 30 = .ok (.dup, 1)) ∧ (decode cX4_readWinding 31 = .ok (.getfield 19, 3)))) ∧ (((decode cX4_readWinding 34 = .ok (.iconst 1, 1)) ∧ (decode cX4_readWinding 35 = .ok (.iadd, 1))) ∧ ((decode cX4_readWinding 36 = .ok (.putfield 19, 3)) ∧ (decode cX4_readWinding 39 = .ok (.aload_n 0, 1))))) ∧ ((((decode cX4_readWinding 40 = .ok (.bipush 58, 2)) ∧ (decode cX4_readWinding 42 = .ok (.invokevirtual 22, 3))) ∧ ((decode cX4_readWinding 45 = .ok (.ifCond .ne 5, 3)) ∧ (decode cX4_readWinding 48 = .ok (.iconst 0, 1)))) ∧ (((decode cX4_readWinding 49 = .ok (.ireturn, 1)) ∧ (decode cX4_readWinding 50 = .ok (.aload_n 0, 1))) ∧ ((decode cX4_readWinding 51 = .ok (.iconst 1, 1)) ∧ (decode cX4_readWinding 52 = .ok (.bipush 12, 2)))))) := by decide +kernel
theorem dX4_readWinding_28 : decode cX4_readWinding 28 = .ok (.ireturn, 1) := kX4_readWinding_28.1.1.1.1
theorem dX4_readWinding_29 : decode cX4_readWinding 29 = .ok (.aload_n 0, 1) := kX4_readWinding_28.1.1.1.2
theorem dX4_readWinding_30 : decode cX4_readWinding 30 = .ok (.dup, 1) := kX4_readWinding_28.1.1.2.1
theorem dX4_readWinding_31 : decode cX4_readWinding 31 = .ok (.getfield 19, 3) := kX4_readWinding_28.1.1.2.2
theorem dX4_readWinding_34 : decode cX4_readWinding 34 = .ok (.iconst 1, 1) := kX4_readWinding_28.1.2.1.1
theorem dX4_readWinding_35 : decode cX4_readWinding 35 = .ok (.iadd, 1) := kX4_readWinding_28.1.2.1.2
theorem dX4_readWinding_36 : decode cX4_readWinding 36 = .ok (.putfield 19, 3) := kX4_readWinding_28.1.2.2.1
theorem dX4_readWinding_39 : decode cX4_readWinding 39 = .ok (.aload_n 0, 1) := kX4_readWinding_28.1.2.2.2
theorem dX4_readWinding_40 : decode cX4_readWinding 40 = .ok (.bipush 58, 2) := kX4_readWinding_28.2.1.1.1
theorem dX4_readWinding_42 : decode cX4_readWinding 42 = .ok (.invokevirtual 22, 3) := kX4_readWinding_28.2.1.1.2
theorem dX4_readWinding_45 : decode cX4_readWinding 45 = .ok (.ifCond .ne 5, 3) := kX4_readWinding_28.2.1.2.1
theorem dX4_readWinding_48 : decode cX4_readWinding 48 = .ok (.iconst 0, 1) := kX4_readWinding_28.2.1.2.2
theorem dX4_readWinding_49 : decode cX4_readWinding 49 = .ok (.ireturn, 1) := kX4_readWinding_28.2.2.1.1
theorem dX4_readWinding_50 : decode cX4_readWinding 50 = .ok (.aload_n 0, 1) := kX4_readWinding_28.2.2.1.2
theorem dX4_readWinding_51 : decode cX4_readWinding 51 = .ok (.iconst 1, 1) := kX4_readWinding_28.2.2.2.1
theorem dX4_readWinding_52 : decode cX4_readWinding 52 = .ok (.bipush 12, 2) := kX4_readWinding_28.2.2.2.2
theorem kX4_readWinding_54 : (((((decode cX4_readWinding 54 = .ok (.invokevirtual 41, 3)) ∧ (decode cX4_readWinding 57 = .ok (.istore 4, 2))) ∧ ((decode cX4_readWinding 59 = .ok (.iload 4, 2)) ∧ (decode cX4_readWinding 61 = .ok (.iconst (-1), 1)))) ∧ (((decode cX4_readWinding 62 = .ok (.if_icmp .ne 5, 3)) ∧ (decode cX4_readWinding 65 = .ok (.iconst 0, 1))) ∧ ((decode cX4_readWinding 66 = .ok (.ireturn, 1)) ∧ (decode cX4_readWinding 67 = .ok (.aload_n 1, 1))))) ∧ ((((decode cX4_readWinding 68 = .ok (.getfield 54, 3)) ∧ (decode cX4_readWinding 71 = .ok (.iload_n 2, 1))) ∧ ((decode cX4_readWinding 72 = .ok (.iload_n 3, 1)) ∧ (decode cX4_readWinding 73 = .ok (.iastore, 1)))) ∧ (((decode cX4_readWinding 74 = .ok (.aload_n 1, 1)) ∧ (decode cX4_readWinding 75 = .ok (.getfield 57, 3))) ∧ ((decode cX4_readWinding 78 = .ok (.iload_n 2, 1)) ∧ (decode cX4_readWinding 79 = .ok (.iload 4, 2)))))) := by decide +kernel
theorem dX4_readWinding_54 : decode cX4_readWinding 54 = .ok (.invokevirtual 41, 3) := kX4_readWinding_54.1.1.1.1
theorem dX4_readWinding_57 : decode cX4_readWinding 57 = .ok (.istore 4, 2) := kX4_readWinding_54.1.1.1.2
theorem dX4_readWinding_59 : decode cX4_readWinding 59 = .ok (.iload 4, 2) := kX4_readWinding_54.1.1.2.1
theorem dX4_readWinding_61 : decode cX4_readWinding 61 = .ok (.iconst (-1), 1) := kX4_readWinding_54.1.1.2.2
theorem dX4_readWinding_62 : decode cX4_readWinding 62 = .ok (.if_icmp .ne 5, 3) := kX4_readWinding_54.1.2.1.1
theorem dX4_readWinding_65 : decode cX4_readWinding 65 = .ok (.iconst 0, 1) := kX4_readWinding_54.1.2.1.2
theorem dX4_readWinding_66 : decode cX4_readWinding 66 = .ok (.ireturn, 1) := kX4_readWinding_54.1.2.2.1
theorem dX4_readWinding_67 : decode cX4_readWinding 67 = .ok (.aload_n 1, 1) := kX4_readWinding_54.1.2.2.2
theorem dX4_readWinding_68 : decode cX4_readWinding 68 = .ok (.getfield 54, 3) := kX4_readWinding_54.2.1.1.1
theorem dX4_readWinding_71 : decode cX4_readWinding 71 = .ok (.iload_n 2, 1) := kX4_readWinding_54.2.1.1.2
theorem dX4_readWinding_72 : decode cX4_readWinding 72 = .ok (.iload_n 3, 1) := kX4_readWinding_54.2.1.2.1
theorem dX4_readWinding_73 : decode cX4_readWinding 73 = .ok (.iastore, 1) := kX4_readWinding_54.2.1.2.2
theorem dX4_readWinding_74 : decode cX4_readWinding 74 = .ok (.aload_n 1, 1) := kX4_readWinding_54.2.2.1.1
theorem dX4_readWinding_75 : decode cX4_readWinding 75 = .ok (.getfield 57, 3) := kX4_readWinding_54.2.2.1.2
theorem dX4_readWinding_78 : decode cX4_readWinding 78 = .ok (.iload_n 2, 1) := kX4_readWinding_54.2.2.2.1
theorem dX4_readWinding_79 : decode cX4_readWinding 79 = .ok (.iload 4, 2) := kX4_readWinding_54.2.2.2.2
theorem kX4_readWinding_81 : (((decode cX4_readWinding 81 = .ok (.iastore, 1)) ∧ (decode cX4_readWinding 82 = .ok (.iconst 1, 1))) ∧ (decode cX4_readWinding 83 = .ok (.ireturn, 1))) := by decide +kernel
theorem dX4_readWinding_81 : decode cX4_readWinding 81 = .ok (.iastore, 1) := kX4_readWinding_81.1.1
theorem dX4_readWinding_82 : decode cX4_readWinding 82 = .ok (.iconst 1, 1) := kX4_readWinding_81.1.2
theorem dX4_readWinding_83 : decode cX4_readWinding 83 = .ok (.ireturn, 1) := kX4_readWinding_81.2
set_option maxRecDepth 20000 in
theorem ggX4_allWoundAreThere_X2_has : GoodIn wsX4_allWoundAreThere wsX2_has := goodIn_r _ [4, 5, 6, 7, 8, 9, 10, 11, 12] rfl (by decide +kernel)
set_option maxRecDepth 20000 in
theorem gX4_allWoundAreThere_X2_has_n61 : GoodIn wsX4_allWoundAreThere (wsX2_has) := ggX4_allWoundAreThere_X2_has
theorem kX4_allWoundAreThere_0 : (((((decode cX4_allWoundAreThere 0 = .ok (.iconst 0, 1)) ∧ (decode cX4_allWoundAreThere 1 = .ok (.istore_n 1, 1))) ∧ ((decode cX4_allWoundAreThere 2 = .ok (.iload_n 1, 1)) ∧ (decode cX4_allWoundAreThere 3 = .ok (.aload_n 0, 1)))) ∧ (((decode cX4_allWoundAreThere 4 = .ok (.getfield 60, 3)) ∧ (decode cX4_allWoundAreThere 7 = .ok (.if_icmp .ge 35, 3))) ∧ ((decode cX4_allWoundAreThere 10 = .ok (.aload_n 0, 1)) ∧ (decode cX4_allWoundAreThere 11 = .ok (.getfield 54, 3))))) ∧ ((((decode cX4_allWoundAreThere 14 = .ok (.iload_n 1, 1)) ∧ (decode cX4_allWoundAreThere 15 = .ok (.iaload, 1))) ∧ ((decode cX4_allWoundAreThere 16 = .ok (.bipush (-4), 2)) ∧ (decode cX4_allWoundAreThere 18 = .ok (.if_icmp .eq 18, 3)))) ∧ (((decode cX4_allWoundAreThere 21 = .ok (.aload_n 0, 1)) ∧ (decode cX4_allWoundAreThere 22 = .ok (.aload_n 0, 1))) ∧ ((decode cX4_allWoundAreThere 23 = .ok (.getfield 54, 3)) ∧ (decode cX4_allWoundAreThere 26 = .ok (.iload_n 1, 1)))))) := by decide +kernel
theorem dX4_allWoundAreThere_0 : decode cX4_allWoundAreThere 0 = .ok (.iconst 0, 1) := kX4_allWoundAreThere_0.1.1.1.1
theorem dX4_allWoundAreThere_1 : decode cX4_allWoundAreThere 1 = .ok (.istore_n 1, 1) := kX4_allWoundAreThere_0.1.1.1.2
theorem dX4_allWoundAreThere_2 : decode cX4_allWoundAreThere 2 = .ok (.iload_n 1, 1) := kX4_allWoundAreThere_0.1.1.2.1
theorem dX4_allWoundAreThere_3 : decode cX4_allWoundAreThere 3 = .ok (.aload_n 0, 1) := kX4_allWoundAreThere_0.1.1.2.2
theorem dX4_allWoundAreThere_4 : decode cX4_allWoundAreThere 4 = .ok (.getfield 60, 3) := kX4_allWoundAreThere_0.1.2.1.1
theorem dX4_allWoundAreThere_7 : decode cX4_allWoundAreThere 7 = .ok (.if_icmp .ge 35, 3) := kX4_allWoundAreThere_0.1.2.1.2
theorem dX4_allWoundAreThere_10 : decode cX4_allWoundAreThere 10 = .ok (.aload_n 0, 1) := kX4_allWoundAreThere_0.1.2.2.1
theorem dX4_allWoundAreThere_11 : decode cX4_allWoundAreThere 11 = .ok (.getfield 54, 3) := kX4_allWoundAreThere_0.1.2.2.2
theorem dX4_allWoundAreThere_14 : decode cX4_allWoundAreThere 14 = .ok (.iload_n 1, 1) := kX4_allWoundAreThere_0.2.1.1.1
theorem dX4_allWoundAreThere_15 : decode cX4_allWoundAreThere 15 = .ok (.iaload, 1) := kX4_allWoundAreThere_0.2.1.1.2
theorem dX4_allWoundAreThere_16 : decode cX4_allWoundAreThere 16 = .ok (.bipush (-4), 2) := kX4_allWoundAreThere_0.2.1.2.1
theorem dX4_allWoundAreThere_18 : decode cX4_allWoundAreThere 18 = .ok (.if_icmp .eq 18, 3) := kX4_allWoundAreThere_0.2.1.2.2
theorem dX4_allWoundAreThere_21 : decode cX4_allWoundAreThere 21 = .ok (.aload_n 0, 1) := kX4_allWoundAreThere_0.2.2.1.1
theorem dX4_allWoundAreThere_22 : decode cX4_allWoundAreThere 22 = .ok (.aload_n 0, 1) := kX4_allWoundAreThere_0.2.2.1.2
theorem dX4_allWoundAreThere_23 : decode cX4_allWoundAreThere 23 = .ok (.getfield 54, 3) := kX4_allWoundAreThere_0.2.2.2.1
theorem dX4_allWoundAreThere_26 : decode cX4_allWoundAreThere 26 = .ok (.iload_n 1, 1) := kX4_allWoundAreThere_0.2.2.2.2
theorem kX4_allWoundAreThere_27 : (((((decode cX4_allWoundAreThere 27 = .ok (.iaload, 1)) ∧ (decode cX4_allWoundAreThere 28 = .ok (.invokevirtual 61, 3))) ∧ (decode cX4_allWoundAreThere 31 = .ok (.ifCond .ne 5, 3))) ∧ ((decode cX4_allWoundAreThere 34 = .ok (.iconst 0, 1)) ∧ (decode cX4_allWoundAreThere 35 = .ok (.ireturn, 1)))) ∧ (((decode cX4_allWoundAreThere 36 = .ok (.iinc 1 1, 3)) ∧ (decode cX4_allWoundAreThere 39 = .ok (.goto (-37), 3))) ∧ ((decode cX4_allWoundAreThere 42 = .ok (.iconst 1, 1)) ∧ (decode cX4_allWoundAreThere 43 = .ok (.ireturn, 1))))) := by decide +kernel
theorem dX4_allWoundAreThere_27 : decode cX4_allWoundAreThere 27 = .ok (.iaload, 1) := kX4_allWoundAreThere_27.1.1.1.1
theorem dX4_allWoundAreThere_28 : decode cX4_allWoundAreThere 28 = .ok (.invokevirtual 61, 3) := kX4_allWoundAreThere_27.1.1.1.2
theorem dX4_allWoundAreThere_31 : decode cX4_allWoundAreThere 31 = .ok (.ifCond .ne 5, 3) := kX4_allWoundAreThere_27.1.1.2
theorem dX4_allWoundAreThere_34 : decode cX4_allWoundAreThere 34 = .ok (.iconst 0, 1) := kX4_allWoundAreThere_27.1.2.1
theorem dX4_allWoundAreThere_35 : decode cX4_allWoundAreThere 35 = .ok (.ireturn, 1) := kX4_allWoundAreThere_27.1.2.2
theorem dX4_allWoundAreThere_36 : decode cX4_allWoundAreThere 36 = .ok (.iinc 1 1, 3) := kX4_allWoundAreThere_27.2.1.1
theorem dX4_allWoundAreThere_39 : decode cX4_allWoundAreThere 39 = .ok (.goto (-37), 3) := kX4_allWoundAreThere_27.2.1.2
theorem dX4_allWoundAreThere_42 : decode cX4_allWoundAreThere 42 = .ok (.iconst 1, 1) := kX4_allWoundAreThere_27.2.2.1
theorem dX4_allWoundAreThere_43 : decode cX4_allWoundAreThere 43 = .ok (.ireturn, 1) := kX4_allWoundAreThere_27.2.2.2
set_option maxRecDepth 20000 in
theorem ggX4_kindOf_J0_length_8abf5 : GoodIn wsX4_kindOf wsJ0_length_8abf5 := goodIn_r _ [5, 6, 7, 8, 9, 4, 10, 11, 12] rfl (by decide +kernel)
set_option maxRecDepth 20000 in
theorem gX4_kindOf_J0_length_8abf5 : GoodIn wsX4_kindOf (wsV RX4 66 RJ0 yJ0_length_8abf5 wsJ0_length_8abf5) := goodIn_app (goodIn_of _ (by decide +kernel)) ggX4_kindOf_J0_length_8abf5
set_option maxRecDepth 20000 in
theorem ggX4_kindOf_J0_charAt_5068e : GoodIn wsX4_kindOf wsJ0_charAt_5068e := goodIn_r _ [16, 6, 17, 18, 19, 4, 20, 11, 12, 21, 22, 23, 24, 25, 26, 27, 28, 29, 30, 31, 32, 33, 34, 35, 36, 37, 38, 39, 40, 41, 42, 43, 44, 45, 46, 47, 48, 49] rfl (by decide +kernel)
set_option maxRecDepth 20000 in
theorem gX4_kindOf_J0_charAt_5068e : GoodIn wsX4_kindOf (wsV RX4 71 RJ0 yJ0_charAt_5068e wsJ0_charAt_5068e) := goodIn_app (goodIn_of _ (by decide +kernel)) ggX4_kindOf_J0_charAt_5068e
theorem kX4_kindOf_0 : (((((decode cX4_kindOf 0 = .ok (.iconst 0, 1)) ∧ (decode cX4_kindOf 1 = .ok (.istore_n 1, 1))) ∧ ((decode cX4_kindOf 2 = .ok (.iload_n 1, 1)) ∧ (decode cX4_kindOf 3 = .ok (.ldc 64, 2)))) ∧ (((decode cX4_kindOf 5 = .ok (.invokevirtual 66, 3)) ∧ (decode cX4_kindOf 8 = .ok (.if_icmp .ge 21, 3))) ∧ ((decode cX4_kindOf 11 = .ok (.ldc 64, 2)) ∧ (decode cX4_kindOf 13 = .ok (.iload_n 1, 1))))) ∧ ((((decode cX4_kindOf 14 = .ok (.invokevirtual 71, 3)) ∧ (decode cX4_kindOf 17 = .ok (.iload_n 0, 1))) ∧ ((decode cX4_kindOf 18 = .ok (.if_icmp .ne 5, 3)) ∧ (decode cX4_kindOf 21 = .ok (.iload_n 1, 1)))) ∧ (((decode cX4_kindOf 22 = .ok (.ireturn, 1)) ∧ (decode cX4_kindOf 23 = .ok (.iinc 1 1, 3))) ∧ ((decode cX4_kindOf 26 = .ok (.goto (-24), 3)) ∧ (decode cX4_kindOf 29 = .ok (.iconst (-1), 1)))))) := by decide +kernel
theorem dX4_kindOf_0 : decode cX4_kindOf 0 = .ok (.iconst 0, 1) := kX4_kindOf_0.1.1.1.1
theorem dX4_kindOf_1 : decode cX4_kindOf 1 = .ok (.istore_n 1, 1) := kX4_kindOf_0.1.1.1.2
theorem dX4_kindOf_2 : decode cX4_kindOf 2 = .ok (.iload_n 1, 1) := kX4_kindOf_0.1.1.2.1
theorem dX4_kindOf_3 : decode cX4_kindOf 3 = .ok (.ldc 64, 2) := kX4_kindOf_0.1.1.2.2
theorem dX4_kindOf_5 : decode cX4_kindOf 5 = .ok (.invokevirtual 66, 3) := kX4_kindOf_0.1.2.1.1
theorem dX4_kindOf_8 : decode cX4_kindOf 8 = .ok (.if_icmp .ge 21, 3) := kX4_kindOf_0.1.2.1.2
theorem dX4_kindOf_11 : decode cX4_kindOf 11 = .ok (.ldc 64, 2) := kX4_kindOf_0.1.2.2.1
theorem dX4_kindOf_13 : decode cX4_kindOf 13 = .ok (.iload_n 1, 1) := kX4_kindOf_0.1.2.2.2
theorem dX4_kindOf_14 : decode cX4_kindOf 14 = .ok (.invokevirtual 71, 3) := kX4_kindOf_0.2.1.1.1
theorem dX4_kindOf_17 : decode cX4_kindOf 17 = .ok (.iload_n 0, 1) := kX4_kindOf_0.2.1.1.2
theorem dX4_kindOf_18 : decode cX4_kindOf 18 = .ok (.if_icmp .ne 5, 3) := kX4_kindOf_0.2.1.2.1
theorem dX4_kindOf_21 : decode cX4_kindOf 21 = .ok (.iload_n 1, 1) := kX4_kindOf_0.2.1.2.2
theorem dX4_kindOf_22 : decode cX4_kindOf 22 = .ok (.ireturn, 1) := kX4_kindOf_0.2.2.1.1
theorem dX4_kindOf_23 : decode cX4_kindOf 23 = .ok (.iinc 1 1, 3) := kX4_kindOf_0.2.2.1.2
theorem dX4_kindOf_26 : decode cX4_kindOf 26 = .ok (.goto (-24), 3) := kX4_kindOf_0.2.2.2.1
theorem dX4_kindOf_29 : decode cX4_kindOf 29 = .ok (.iconst (-1), 1) := kX4_kindOf_0.2.2.2.2
theorem dX4_kindOf_30 : decode cX4_kindOf 30 = .ok (.ireturn, 1) := by decide +kernel
theorem kX4_letterHere_0 : (((((decode cX4_letterHere 0 = .ok (.aload_n 0, 1)) ∧ (decode cX4_letterHere 1 = .ok (.getfield 19, 3))) ∧ ((decode cX4_letterHere 4 = .ok (.aload_n 0, 1)) ∧ (decode cX4_letterHere 5 = .ok (.getfield 15, 3)))) ∧ (((decode cX4_letterHere 8 = .ok (.if_icmp .ge 30, 3)) ∧ (decode cX4_letterHere 11 = .ok (.aload_n 0, 1))) ∧ ((decode cX4_letterHere 12 = .ok (.getfield 11, 3)) ∧ (decode cX4_letterHere 15 = .ok (.aload_n 0, 1))))) ∧ ((((decode cX4_letterHere 16 = .ok (.getfield 19, 3)) ∧ (decode cX4_letterHere 19 = .ok (.iaload, 1))) ∧ ((decode cX4_letterHere 20 = .ok (.bipush 32, 2)) ∧ (decode cX4_letterHere 22 = .ok (.if_icmp .ne 16, 3)))) ∧ (((decode cX4_letterHere 25 = .ok (.aload_n 0, 1)) ∧ (decode cX4_letterHere 26 = .ok (.dup, 1))) ∧ ((decode cX4_letterHere 27 = .ok (.getfield 19, 3)) ∧ (decode cX4_letterHere 30 = .ok (.iconst 1, 1)))))) := by decide +kernel
theorem dX4_letterHere_0 : decode cX4_letterHere 0 = .ok (.aload_n 0, 1) := kX4_letterHere_0.1.1.1.1
theorem dX4_letterHere_1 : decode cX4_letterHere 1 = .ok (.getfield 19, 3) := kX4_letterHere_0.1.1.1.2
theorem dX4_letterHere_4 : decode cX4_letterHere 4 = .ok (.aload_n 0, 1) := kX4_letterHere_0.1.1.2.1
theorem dX4_letterHere_5 : decode cX4_letterHere 5 = .ok (.getfield 15, 3) := kX4_letterHere_0.1.1.2.2
theorem dX4_letterHere_8 : decode cX4_letterHere 8 = .ok (.if_icmp .ge 30, 3) := kX4_letterHere_0.1.2.1.1
theorem dX4_letterHere_11 : decode cX4_letterHere 11 = .ok (.aload_n 0, 1) := kX4_letterHere_0.1.2.1.2
theorem dX4_letterHere_12 : decode cX4_letterHere 12 = .ok (.getfield 11, 3) := kX4_letterHere_0.1.2.2.1
theorem dX4_letterHere_15 : decode cX4_letterHere 15 = .ok (.aload_n 0, 1) := kX4_letterHere_0.1.2.2.2
theorem dX4_letterHere_16 : decode cX4_letterHere 16 = .ok (.getfield 19, 3) := kX4_letterHere_0.2.1.1.1
theorem dX4_letterHere_19 : decode cX4_letterHere 19 = .ok (.iaload, 1) := kX4_letterHere_0.2.1.1.2
theorem dX4_letterHere_20 : decode cX4_letterHere 20 = .ok (.bipush 32, 2) := kX4_letterHere_0.2.1.2.1
theorem dX4_letterHere_22 : decode cX4_letterHere 22 = .ok (.if_icmp .ne 16, 3) := kX4_letterHere_0.2.1.2.2
theorem dX4_letterHere_25 : decode cX4_letterHere 25 = .ok (.aload_n 0, 1) := kX4_letterHere_0.2.2.1.1
theorem dX4_letterHere_26 : decode cX4_letterHere 26 = .ok (.dup, 1) := kX4_letterHere_0.2.2.1.2
theorem dX4_letterHere_27 : decode cX4_letterHere 27 = .ok (.getfield 19, 3) := kX4_letterHere_0.2.2.2.1
theorem dX4_letterHere_30 : decode cX4_letterHere 30 = .ok (.iconst 1, 1) := kX4_letterHere_0.2.2.2.2
theorem kX4_letterHere_31 : (((((decode cX4_letterHere 31 = .ok (.iadd, 1)) ∧ (decode cX4_letterHere 32 = .ok (.putfield 19, 3))) ∧ ((decode cX4_letterHere 35 = .ok (.goto (-35), 3)) ∧ (decode cX4_letterHere 38 = .ok (.aload_n 0, 1)))) ∧ (((decode cX4_letterHere 39 = .ok (.getfield 19, 3)) ∧ (decode cX4_letterHere 42 = .ok (.aload_n 0, 1))) ∧ ((decode cX4_letterHere 43 = .ok (.getfield 15, 3)) ∧ (decode cX4_letterHere 46 = .ok (.if_icmp .ge 15, 3))))) ∧ ((((decode cX4_letterHere 49 = .ok (.aload_n 0, 1)) ∧ (decode cX4_letterHere 50 = .ok (.getfield 11, 3))) ∧ ((decode cX4_letterHere 53 = .ok (.aload_n 0, 1)) ∧ (decode cX4_letterHere 54 = .ok (.getfield 19, 3)))) ∧ (((decode cX4_letterHere 57 = .ok (.iaload, 1)) ∧ (decode cX4_letterHere 58 = .ok (.goto 4, 3))) ∧ ((decode cX4_letterHere 61 = .ok (.iconst (-1), 1)) ∧ (decode cX4_letterHere 62 = .ok (.ireturn, 1)))))) := by decide +kernel
theorem dX4_letterHere_31 : decode cX4_letterHere 31 = .ok (.iadd, 1) := kX4_letterHere_31.1.1.1.1
theorem dX4_letterHere_32 : decode cX4_letterHere 32 = .ok (.putfield 19, 3) := kX4_letterHere_31.1.1.1.2
theorem dX4_letterHere_35 : decode cX4_letterHere 35 = .ok (.goto (-35), 3) := kX4_letterHere_31.1.1.2.1
theorem dX4_letterHere_38 : decode cX4_letterHere 38 = .ok (.aload_n 0, 1) := kX4_letterHere_31.1.1.2.2
theorem dX4_letterHere_39 : decode cX4_letterHere 39 = .ok (.getfield 19, 3) := kX4_letterHere_31.1.2.1.1
theorem dX4_letterHere_42 : decode cX4_letterHere 42 = .ok (.aload_n 0, 1) := kX4_letterHere_31.1.2.1.2
theorem dX4_letterHere_43 : decode cX4_letterHere 43 = .ok (.getfield 15, 3) := kX4_letterHere_31.1.2.2.1
theorem dX4_letterHere_46 : decode cX4_letterHere 46 = .ok (.if_icmp .ge 15, 3) := kX4_letterHere_31.1.2.2.2
theorem dX4_letterHere_49 : decode cX4_letterHere 49 = .ok (.aload_n 0, 1) := kX4_letterHere_31.2.1.1.1
theorem dX4_letterHere_50 : decode cX4_letterHere 50 = .ok (.getfield 11, 3) := kX4_letterHere_31.2.1.1.2
theorem dX4_letterHere_53 : decode cX4_letterHere 53 = .ok (.aload_n 0, 1) := kX4_letterHere_31.2.1.2.1
theorem dX4_letterHere_54 : decode cX4_letterHere 54 = .ok (.getfield 19, 3) := kX4_letterHere_31.2.1.2.2
theorem dX4_letterHere_57 : decode cX4_letterHere 57 = .ok (.iaload, 1) := kX4_letterHere_31.2.2.1.1
theorem dX4_letterHere_58 : decode cX4_letterHere 58 = .ok (.goto 4, 3) := kX4_letterHere_31.2.2.1.2
theorem dX4_letterHere_61 : decode cX4_letterHere 61 = .ok (.iconst (-1), 1) := kX4_letterHere_31.2.2.2.1
theorem dX4_letterHere_62 : decode cX4_letterHere 62 = .ok (.ireturn, 1) := kX4_letterHere_31.2.2.2.2
set_option maxRecDepth 20000 in
theorem ggX4_take_X4_letterHere : GoodIn wsX4_take wsX4_letterHere := goodIn_r _ [6, 1, 7, 8, 9, 10, 11] rfl (by decide +kernel)
set_option maxRecDepth 20000 in
theorem gX4_take_X4_letterHere : GoodIn wsX4_take (wsV RX4 30 RX4 yX4_letterHere wsX4_letterHere) := goodIn_app (goodIn_of _ (by decide +kernel)) ggX4_take_X4_letterHere
theorem kX4_take_0 : (((((decode cX4_take 0 = .ok (.aload_n 0, 1)) ∧ (decode cX4_take 1 = .ok (.invokevirtual 30, 3))) ∧ ((decode cX4_take 4 = .ok (.iload_n 1, 1)) ∧ (decode cX4_take 5 = .ok (.if_icmp .ne 7, 3)))) ∧ (((decode cX4_take 8 = .ok (.iconst 1, 1)) ∧ (decode cX4_take 9 = .ok (.goto 4, 3))) ∧ ((decode cX4_take 12 = .ok (.iconst 0, 1)) ∧ (decode cX4_take 13 = .ok (.istore_n 2, 1))))) ∧ ((((decode cX4_take 14 = .ok (.aload_n 0, 1)) ∧ (decode cX4_take 15 = .ok (.dup, 1))) ∧ ((decode cX4_take 16 = .ok (.getfield 19, 3)) ∧ (decode cX4_take 19 = .ok (.iload_n 2, 1)))) ∧ (((decode cX4_take 20 = .ok (.ifCond .eq 7, 3)) ∧ (decode cX4_take 23 = .ok (.iconst 1, 1))) ∧ ((decode cX4_take 24 = .ok (.goto 4, 3)) ∧ (decode cX4_take 27 = .ok (.iconst 0, 1)))))) := by decide +kernel
theorem dX4_take_0 : decode cX4_take 0 = .ok (.aload_n 0, 1) := kX4_take_0.1.1.1.1
theorem dX4_take_1 : decode cX4_take 1 = .ok (.invokevirtual 30, 3) := kX4_take_0.1.1.1.2
theorem dX4_take_4 : decode cX4_take 4 = .ok (.iload_n 1, 1) := kX4_take_0.1.1.2.1
theorem dX4_take_5 : decode cX4_take 5 = .ok (.if_icmp .ne 7, 3) := kX4_take_0.1.1.2.2
theorem dX4_take_8 : decode cX4_take 8 = .ok (.iconst 1, 1) := kX4_take_0.1.2.1.1
theorem dX4_take_9 : decode cX4_take 9 = .ok (.goto 4, 3) := kX4_take_0.1.2.1.2
theorem dX4_take_12 : decode cX4_take 12 = .ok (.iconst 0, 1) := kX4_take_0.1.2.2.1
theorem dX4_take_13 : decode cX4_take 13 = .ok (.istore_n 2, 1) := kX4_take_0.1.2.2.2
theorem dX4_take_14 : decode cX4_take 14 = .ok (.aload_n 0, 1) := kX4_take_0.2.1.1.1
theorem dX4_take_15 : decode cX4_take 15 = .ok (.dup, 1) := kX4_take_0.2.1.1.2
theorem dX4_take_16 : decode cX4_take 16 = .ok (.getfield 19, 3) := kX4_take_0.2.1.2.1
theorem dX4_take_19 : decode cX4_take 19 = .ok (.iload_n 2, 1) := kX4_take_0.2.1.2.2
theorem dX4_take_20 : decode cX4_take 20 = .ok (.ifCond .eq 7, 3) := kX4_take_0.2.2.1.1
theorem dX4_take_23 : decode cX4_take 23 = .ok (.iconst 1, 1) := kX4_take_0.2.2.1.2
theorem dX4_take_24 : decode cX4_take 24 = .ok (.goto 4, 3) := kX4_take_0.2.2.2.1
theorem dX4_take_27 : decode cX4_take 27 = .ok (.iconst 0, 1) := kX4_take_0.2.2.2.2
theorem kX4_take_28 : (((decode cX4_take 28 = .ok (.iadd, 1)) ∧ (decode cX4_take 29 = .ok (.putfield 19, 3))) ∧ ((decode cX4_take 32 = .ok (.iload_n 2, 1)) ∧ (decode cX4_take 33 = .ok (.ireturn, 1)))) := by decide +kernel
theorem dX4_take_28 : decode cX4_take 28 = .ok (.iadd, 1) := kX4_take_28.1.1
theorem dX4_take_29 : decode cX4_take 29 = .ok (.putfield 19, 3) := kX4_take_28.1.2
theorem dX4_take_32 : decode cX4_take 32 = .ok (.iload_n 2, 1) := kX4_take_28.2.1
theorem dX4_take_33 : decode cX4_take 33 = .ok (.ireturn, 1) := kX4_take_28.2.2
set_option maxRecDepth 20000 in
theorem ggX4_takeNumber_X4_letterHere : GoodIn wsX4_takeNumber wsX4_letterHere := goodIn_r _ [6, 1, 7, 8, 13, 14, 15] rfl (by decide +kernel)
set_option maxRecDepth 20000 in
theorem gX4_takeNumber_X4_letterHere : GoodIn wsX4_takeNumber (wsV RX4 30 RX4 yX4_letterHere wsX4_letterHere) := goodIn_app (goodIn_of _ (by decide +kernel)) ggX4_takeNumber_X4_letterHere
set_option maxRecDepth 20000 in
theorem ggX4_takeNumber_X4_takeDigit : GoodIn wsX4_takeNumber wsX4_takeDigit := goodIn_r _ [12, 1, 7, 8, 13, 14, 15] rfl (by decide +kernel)
set_option maxRecDepth 20000 in
theorem gX4_takeNumber_X4_takeDigit : GoodIn wsX4_takeNumber (wsV RX4 75 RX4 yX4_takeDigit wsX4_takeDigit) := goodIn_app (goodIn_of _ (by decide +kernel)) ggX4_takeNumber_X4_takeDigit
theorem kX4_takeNumber_0 : (((((decode cX4_takeNumber 0 = .ok (.aload_n 0, 1)) ∧ (decode cX4_takeNumber 1 = .ok (.invokevirtual 30, 3))) ∧ ((decode cX4_takeNumber 4 = .ok (.pop, 1)) ∧ (decode cX4_takeNumber 5 = .ok (.aload_n 0, 1)))) ∧ (((decode cX4_takeNumber 6 = .ok (.getfield 19, 3)) ∧ (decode cX4_takeNumber 9 = .ok (.istore_n 3, 1))) ∧ ((decode cX4_takeNumber 10 = .ok (.aload_n 0, 1)) ∧ (decode cX4_takeNumber 11 = .ok (.invokevirtual 75, 3))))) ∧ ((((decode cX4_takeNumber 14 = .ok (.istore 4, 2)) ∧ (decode cX4_takeNumber 16 = .ok (.iload 4, 2))) ∧ ((decode cX4_takeNumber 18 = .ok (.iconst (-1), 1)) ∧ (decode cX4_takeNumber 19 = .ok (.if_icmp .ne 7, 3)))) ∧ (((decode cX4_takeNumber 22 = .ok (.iconst (-1), 1)) ∧ (decode cX4_takeNumber 23 = .ok (.goto 7, 3))) ∧ ((decode cX4_takeNumber 26 = .ok (.aload_n 0, 1)) ∧ (decode cX4_takeNumber 27 = .ok (.invokevirtual 75, 3)))))) := by decide +kernel
theorem dX4_takeNumber_0 : decode cX4_takeNumber 0 = .ok (.aload_n 0, 1) := kX4_takeNumber_0.1.1.1.1
theorem dX4_takeNumber_1 : decode cX4_takeNumber 1 = .ok (.invokevirtual 30, 3) := kX4_takeNumber_0.1.1.1.2
theorem dX4_takeNumber_4 : decode cX4_takeNumber 4 = .ok (.pop, 1) := kX4_takeNumber_0.1.1.2.1
theorem dX4_takeNumber_5 : decode cX4_takeNumber 5 = .ok (.aload_n 0, 1) := kX4_takeNumber_0.1.1.2.2
theorem dX4_takeNumber_6 : decode cX4_takeNumber 6 = .ok (.getfield 19, 3) := kX4_takeNumber_0.1.2.1.1
theorem dX4_takeNumber_9 : decode cX4_takeNumber 9 = .ok (.istore_n 3, 1) := kX4_takeNumber_0.1.2.1.2
theorem dX4_takeNumber_10 : decode cX4_takeNumber 10 = .ok (.aload_n 0, 1) := kX4_takeNumber_0.1.2.2.1
theorem dX4_takeNumber_11 : decode cX4_takeNumber 11 = .ok (.invokevirtual 75, 3) := kX4_takeNumber_0.1.2.2.2
theorem dX4_takeNumber_14 : decode cX4_takeNumber 14 = .ok (.istore 4, 2) := kX4_takeNumber_0.2.1.1.1
theorem dX4_takeNumber_16 : decode cX4_takeNumber 16 = .ok (.iload 4, 2) := kX4_takeNumber_0.2.1.1.2
theorem dX4_takeNumber_18 : decode cX4_takeNumber 18 = .ok (.iconst (-1), 1) := kX4_takeNumber_0.2.1.2.1
theorem dX4_takeNumber_19 : decode cX4_takeNumber 19 = .ok (.if_icmp .ne 7, 3) := kX4_takeNumber_0.2.1.2.2
theorem dX4_takeNumber_22 : decode cX4_takeNumber 22 = .ok (.iconst (-1), 1) := kX4_takeNumber_0.2.2.1.1
theorem dX4_takeNumber_23 : decode cX4_takeNumber 23 = .ok (.goto 7, 3) := kX4_takeNumber_0.2.2.1.2
theorem dX4_takeNumber_26 : decode cX4_takeNumber 26 = .ok (.aload_n 0, 1) := kX4_takeNumber_0.2.2.2.1
theorem dX4_takeNumber_27 : decode cX4_takeNumber 27 = .ok (.invokevirtual 75, 3) := kX4_takeNumber_0.2.2.2.2
theorem kX4_takeNumber_30 : (((((decode cX4_takeNumber 30 = .ok (.istore 5, 2)) ∧ (decode cX4_takeNumber 32 = .ok (.iload 5, 2))) ∧ ((decode cX4_takeNumber 34 = .ok (.iconst (-1), 1)) ∧ (decode cX4_takeNumber 35 = .ok (.if_icmp .eq 13, 3)))) ∧ (((decode cX4_takeNumber 38 = .ok (.iload 4, 2)) ∧ (decode cX4_takeNumber 40 = .ok (.bipush 10, 2))) ∧ ((decode cX4_takeNumber 42 = .ok (.imul, 1)) ∧ (decode cX4_takeNumber 43 = .ok (.iload 5, 2))))) ∧ ((((decode cX4_takeNumber 45 = .ok (.iadd, 1)) ∧ (decode cX4_takeNumber 46 = .ok (.istore 4, 2))) ∧ ((decode cX4_takeNumber 48 = .ok (.iload 4, 2)) ∧ (decode cX4_takeNumber 50 = .ok (.iload_n 1, 1)))) ∧ (((decode cX4_takeNumber 51 = .ok (.if_icmp .lt 9, 3)) ∧ (decode cX4_takeNumber 54 = .ok (.iload 4, 2))) ∧ ((decode cX4_takeNumber 56 = .ok (.iload_n 2, 1)) ∧ (decode cX4_takeNumber 57 = .ok (.if_icmp .le 10, 3)))))) := by decide +kernel
theorem dX4_takeNumber_30 : decode cX4_takeNumber 30 = .ok (.istore 5, 2) := kX4_takeNumber_30.1.1.1.1
theorem dX4_takeNumber_32 : decode cX4_takeNumber 32 = .ok (.iload 5, 2) := kX4_takeNumber_30.1.1.1.2
theorem dX4_takeNumber_34 : decode cX4_takeNumber 34 = .ok (.iconst (-1), 1) := kX4_takeNumber_30.1.1.2.1
theorem dX4_takeNumber_35 : decode cX4_takeNumber 35 = .ok (.if_icmp .eq 13, 3) := kX4_takeNumber_30.1.1.2.2
theorem dX4_takeNumber_38 : decode cX4_takeNumber 38 = .ok (.iload 4, 2) := kX4_takeNumber_30.1.2.1.1
theorem dX4_takeNumber_40 : decode cX4_takeNumber 40 = .ok (.bipush 10, 2) := kX4_takeNumber_30.1.2.1.2
theorem dX4_takeNumber_42 : decode cX4_takeNumber 42 = .ok (.imul, 1) := kX4_takeNumber_30.1.2.2.1
theorem dX4_takeNumber_43 : decode cX4_takeNumber 43 = .ok (.iload 5, 2) := kX4_takeNumber_30.1.2.2.2
theorem dX4_takeNumber_45 : decode cX4_takeNumber 45 = .ok (.iadd, 1) := kX4_takeNumber_30.2.1.1.1
theorem dX4_takeNumber_46 : decode cX4_takeNumber 46 = .ok (.istore 4, 2) := kX4_takeNumber_30.2.1.1.2
theorem dX4_takeNumber_48 : decode cX4_takeNumber 48 = .ok (.iload 4, 2) := kX4_takeNumber_30.2.1.2.1
theorem dX4_takeNumber_50 : decode cX4_takeNumber 50 = .ok (.iload_n 1, 1) := kX4_takeNumber_30.2.1.2.2
theorem dX4_takeNumber_51 : decode cX4_takeNumber 51 = .ok (.if_icmp .lt 9, 3) := kX4_takeNumber_30.2.2.1.1
theorem dX4_takeNumber_54 : decode cX4_takeNumber 54 = .ok (.iload 4, 2) := kX4_takeNumber_30.2.2.1.2
theorem dX4_takeNumber_56 : decode cX4_takeNumber 56 = .ok (.iload_n 2, 1) := kX4_takeNumber_30.2.2.2.1
theorem dX4_takeNumber_57 : decode cX4_takeNumber 57 = .ok (.if_icmp .le 10, 3) := kX4_takeNumber_30.2.2.2.2
theorem kX4_takeNumber_60 : ((((decode cX4_takeNumber 60 = .ok (.aload_n 0, 1)) ∧ (decode cX4_takeNumber 61 = .ok (.iload_n 3, 1))) ∧ ((decode cX4_takeNumber 62 = .ok (.putfield 19, 3)) ∧ (decode cX4_takeNumber 65 = .ok (.iconst (-1), 1)))) ∧ (((decode cX4_takeNumber 66 = .ok (.ireturn, 1)) ∧ (decode cX4_takeNumber 67 = .ok (.iload 4, 2))) ∧ (decode cX4_takeNumber 69 = .ok (.ireturn, 1)))) := by decide +kernel
theorem dX4_takeNumber_60 : decode cX4_takeNumber 60 = .ok (.aload_n 0, 1) := kX4_takeNumber_60.1.1.1
theorem dX4_takeNumber_61 : decode cX4_takeNumber 61 = .ok (.iload_n 3, 1) := kX4_takeNumber_60.1.1.2
theorem dX4_takeNumber_62 : decode cX4_takeNumber 62 = .ok (.putfield 19, 3) := kX4_takeNumber_60.1.2.1
theorem dX4_takeNumber_65 : decode cX4_takeNumber 65 = .ok (.iconst (-1), 1) := kX4_takeNumber_60.1.2.2
theorem dX4_takeNumber_66 : decode cX4_takeNumber 66 = .ok (.ireturn, 1) := kX4_takeNumber_60.2.1.1
theorem dX4_takeNumber_67 : decode cX4_takeNumber 67 = .ok (.iload 4, 2) := kX4_takeNumber_60.2.1.2
theorem dX4_takeNumber_69 : decode cX4_takeNumber 69 = .ok (.ireturn, 1) := kX4_takeNumber_60.2.2
theorem kX4_takeDigit_0 : (((((decode cX4_takeDigit 0 = .ok (.aload_n 0, 1)) ∧ (decode cX4_takeDigit 1 = .ok (.getfield 19, 3))) ∧ ((decode cX4_takeDigit 4 = .ok (.aload_n 0, 1)) ∧ (decode cX4_takeDigit 5 = .ok (.getfield 15, 3)))) ∧ (((decode cX4_takeDigit 8 = .ok (.if_icmp .ge 31, 3)) ∧ (decode cX4_takeDigit 11 = .ok (.aload_n 0, 1))) ∧ ((decode cX4_takeDigit 12 = .ok (.getfield 11, 3)) ∧ (decode cX4_takeDigit 15 = .ok (.aload_n 0, 1))))) ∧ ((((decode cX4_takeDigit 16 = .ok (.getfield 19, 3)) ∧ (decode cX4_takeDigit 19 = .ok (.iaload, 1))) ∧ ((decode cX4_takeDigit 20 = .ok (.bipush 48, 2)) ∧ (decode cX4_takeDigit 22 = .ok (.if_icmp .lt 17, 3)))) ∧ (((decode cX4_takeDigit 25 = .ok (.aload_n 0, 1)) ∧ (decode cX4_takeDigit 26 = .ok (.getfield 11, 3))) ∧ ((decode cX4_takeDigit 29 = .ok (.aload_n 0, 1)) ∧ (decode cX4_takeDigit 30 = .ok (.getfield 19, 3)))))) := by decide +kernel
theorem dX4_takeDigit_0 : decode cX4_takeDigit 0 = .ok (.aload_n 0, 1) := kX4_takeDigit_0.1.1.1.1
theorem dX4_takeDigit_1 : decode cX4_takeDigit 1 = .ok (.getfield 19, 3) := kX4_takeDigit_0.1.1.1.2
theorem dX4_takeDigit_4 : decode cX4_takeDigit 4 = .ok (.aload_n 0, 1) := kX4_takeDigit_0.1.1.2.1
theorem dX4_takeDigit_5 : decode cX4_takeDigit 5 = .ok (.getfield 15, 3) := kX4_takeDigit_0.1.1.2.2
theorem dX4_takeDigit_8 : decode cX4_takeDigit 8 = .ok (.if_icmp .ge 31, 3) := kX4_takeDigit_0.1.2.1.1
theorem dX4_takeDigit_11 : decode cX4_takeDigit 11 = .ok (.aload_n 0, 1) := kX4_takeDigit_0.1.2.1.2
theorem dX4_takeDigit_12 : decode cX4_takeDigit 12 = .ok (.getfield 11, 3) := kX4_takeDigit_0.1.2.2.1
theorem dX4_takeDigit_15 : decode cX4_takeDigit 15 = .ok (.aload_n 0, 1) := kX4_takeDigit_0.1.2.2.2
theorem dX4_takeDigit_16 : decode cX4_takeDigit 16 = .ok (.getfield 19, 3) := kX4_takeDigit_0.2.1.1.1
theorem dX4_takeDigit_19 : decode cX4_takeDigit 19 = .ok (.iaload, 1) := kX4_takeDigit_0.2.1.1.2
theorem dX4_takeDigit_20 : decode cX4_takeDigit 20 = .ok (.bipush 48, 2) := kX4_takeDigit_0.2.1.2.1
theorem dX4_takeDigit_22 : decode cX4_takeDigit 22 = .ok (.if_icmp .lt 17, 3) := kX4_takeDigit_0.2.1.2.2
theorem dX4_takeDigit_25 : decode cX4_takeDigit 25 = .ok (.aload_n 0, 1) := kX4_takeDigit_0.2.2.1.1
theorem dX4_takeDigit_26 : decode cX4_takeDigit 26 = .ok (.getfield 11, 3) := kX4_takeDigit_0.2.2.1.2
theorem dX4_takeDigit_29 : decode cX4_takeDigit 29 = .ok (.aload_n 0, 1) := kX4_takeDigit_0.2.2.2.1
theorem dX4_takeDigit_30 : decode cX4_takeDigit 30 = .ok (.getfield 19, 3) := kX4_takeDigit_0.2.2.2.2
theorem kX4_takeDigit_33 : (((((decode cX4_takeDigit 33 = .ok (.iaload, 1)) ∧ (decode cX4_takeDigit 34 = .ok (.bipush 57, 2))) ∧ ((decode cX4_takeDigit 36 = .ok (.if_icmp .le 5, 3)) ∧ (decode cX4_takeDigit 39 = .ok (.iconst (-1), 1)))) ∧ (((decode cX4_takeDigit 40 = .ok (.ireturn, 1)) ∧ (decode cX4_takeDigit 41 = .ok (.aload_n 0, 1))) ∧ ((decode cX4_takeDigit 42 = .ok (.dup, 1)) ∧ (decode cX4_takeDigit 43 = .ok (.getfield 19, 3))))) ∧ ((((decode cX4_takeDigit 46 = .ok (.iconst 1, 1)) ∧ (decode cX4_takeDigit 47 = .ok (.iadd, 1))) ∧ ((decode cX4_takeDigit 48 = .ok (.putfield 19, 3)) ∧ (decode cX4_takeDigit 51 = .ok (.aload_n 0, 1)))) ∧ (((decode cX4_takeDigit 52 = .ok (.getfield 11, 3)) ∧ (decode cX4_takeDigit 55 = .ok (.aload_n 0, 1))) ∧ ((decode cX4_takeDigit 56 = .ok (.getfield 19, 3)) ∧ (decode cX4_takeDigit 59 = .ok (.iconst 1, 1)))))) := by decide +kernel
theorem dX4_takeDigit_33 : decode cX4_takeDigit 33 = .ok (.iaload, 1) := kX4_takeDigit_33.1.1.1.1
theorem dX4_takeDigit_34 : decode cX4_takeDigit 34 = .ok (.bipush 57, 2) := kX4_takeDigit_33.1.1.1.2
theorem dX4_takeDigit_36 : decode cX4_takeDigit 36 = .ok (.if_icmp .le 5, 3) := kX4_takeDigit_33.1.1.2.1
theorem dX4_takeDigit_39 : decode cX4_takeDigit 39 = .ok (.iconst (-1), 1) := kX4_takeDigit_33.1.1.2.2
theorem dX4_takeDigit_40 : decode cX4_takeDigit 40 = .ok (.ireturn, 1) := kX4_takeDigit_33.1.2.1.1
theorem dX4_takeDigit_41 : decode cX4_takeDigit 41 = .ok (.aload_n 0, 1) := kX4_takeDigit_33.1.2.1.2
theorem dX4_takeDigit_42 : decode cX4_takeDigit 42 = .ok (.dup, 1) := kX4_takeDigit_33.1.2.2.1
theorem dX4_takeDigit_43 : decode cX4_takeDigit 43 = .ok (.getfield 19, 3) := kX4_takeDigit_33.1.2.2.2
theorem dX4_takeDigit_46 : decode cX4_takeDigit 46 = .ok (.iconst 1, 1) := kX4_takeDigit_33.2.1.1.1
theorem dX4_takeDigit_47 : decode cX4_takeDigit 47 = .ok (.iadd, 1) := kX4_takeDigit_33.2.1.1.2
theorem dX4_takeDigit_48 : decode cX4_takeDigit 48 = .ok (.putfield 19, 3) := kX4_takeDigit_33.2.1.2.1
theorem dX4_takeDigit_51 : decode cX4_takeDigit 51 = .ok (.aload_n 0, 1) := kX4_takeDigit_33.2.1.2.2
theorem dX4_takeDigit_52 : decode cX4_takeDigit 52 = .ok (.getfield 11, 3) := kX4_takeDigit_33.2.2.1.1
theorem dX4_takeDigit_55 : decode cX4_takeDigit 55 = .ok (.aload_n 0, 1) := kX4_takeDigit_33.2.2.1.2
theorem dX4_takeDigit_56 : decode cX4_takeDigit 56 = .ok (.getfield 19, 3) := kX4_takeDigit_33.2.2.2.1
theorem dX4_takeDigit_59 : decode cX4_takeDigit 59 = .ok (.iconst 1, 1) := kX4_takeDigit_33.2.2.2.2
theorem kX4_takeDigit_60 : ((((decode cX4_takeDigit 60 = .ok (.isub, 1)) ∧ (decode cX4_takeDigit 61 = .ok (.iaload, 1))) ∧ (decode cX4_takeDigit 62 = .ok (.bipush 48, 2))) ∧ ((decode cX4_takeDigit 64 = .ok (.isub, 1)) ∧ (decode cX4_takeDigit 65 = .ok (.ireturn, 1)))) := by decide +kernel
theorem dX4_takeDigit_60 : decode cX4_takeDigit 60 = .ok (.isub, 1) := kX4_takeDigit_60.1.1.1
theorem dX4_takeDigit_61 : decode cX4_takeDigit 61 = .ok (.iaload, 1) := kX4_takeDigit_60.1.1.2
theorem dX4_takeDigit_62 : decode cX4_takeDigit 62 = .ok (.bipush 48, 2) := kX4_takeDigit_60.1.2
theorem dX4_takeDigit_64 : decode cX4_takeDigit 64 = .ok (.isub, 1) := kX4_takeDigit_60.2.1
theorem dX4_takeDigit_65 : decode cX4_takeDigit 65 = .ok (.ireturn, 1) := kX4_takeDigit_60.2.2
theorem kJ6_bitCount_0f7a4_0 : (((((decode cJ6_bitCount_0f7a4 0 = .ok (.iload_n 0, 1)) ∧ (decode cJ6_bitCount_0f7a4 1 = .ok (.iload_n 0, 1))) ∧ ((decode cJ6_bitCount_0f7a4 2 = .ok (.iconst 1, 1)) ∧ (decode cJ6_bitCount_0f7a4 3 = .ok (.iushr, 1)))) ∧ (((decode cJ6_bitCount_0f7a4 4 = .ok (.ldc_w 265, 3)) ∧ (decode cJ6_bitCount_0f7a4 7 = .ok (.iand, 1))) ∧ ((decode cJ6_bitCount_0f7a4 8 = .ok (.isub, 1)) ∧ (decode cJ6_bitCount_0f7a4 9 = .ok (.istore_n 0, 1))))) ∧ ((((decode cJ6_bitCount_0f7a4 10 = .ok (.iload_n 0, 1)) ∧ (decode cJ6_bitCount_0f7a4 11 = .ok (.ldc_w 266, 3))) ∧ ((decode cJ6_bitCount_0f7a4 14 = .ok (.iand, 1)) ∧ (decode cJ6_bitCount_0f7a4 15 = .ok (.iload_n 0, 1)))) ∧ (((decode cJ6_bitCount_0f7a4 16 = .ok (.iconst 2, 1)) ∧ (decode cJ6_bitCount_0f7a4 17 = .ok (.iushr, 1))) ∧ ((decode cJ6_bitCount_0f7a4 18 = .ok (.ldc_w 266, 3)) ∧ (decode cJ6_bitCount_0f7a4 21 = .ok (.iand, 1)))))) := by decide +kernel
theorem dJ6_bitCount_0f7a4_0 : decode cJ6_bitCount_0f7a4 0 = .ok (.iload_n 0, 1) := kJ6_bitCount_0f7a4_0.1.1.1.1
theorem dJ6_bitCount_0f7a4_1 : decode cJ6_bitCount_0f7a4 1 = .ok (.iload_n 0, 1) := kJ6_bitCount_0f7a4_0.1.1.1.2
theorem dJ6_bitCount_0f7a4_2 : decode cJ6_bitCount_0f7a4 2 = .ok (.iconst 1, 1) := kJ6_bitCount_0f7a4_0.1.1.2.1
theorem dJ6_bitCount_0f7a4_3 : decode cJ6_bitCount_0f7a4 3 = .ok (.iushr, 1) := kJ6_bitCount_0f7a4_0.1.1.2.2
theorem dJ6_bitCount_0f7a4_4 : decode cJ6_bitCount_0f7a4 4 = .ok (.ldc_w 265, 3) := kJ6_bitCount_0f7a4_0.1.2.1.1
theorem dJ6_bitCount_0f7a4_7 : decode cJ6_bitCount_0f7a4 7 = .ok (.iand, 1) := kJ6_bitCount_0f7a4_0.1.2.1.2
theorem dJ6_bitCount_0f7a4_8 : decode cJ6_bitCount_0f7a4 8 = .ok (.isub, 1) := kJ6_bitCount_0f7a4_0.1.2.2.1
theorem dJ6_bitCount_0f7a4_9 : decode cJ6_bitCount_0f7a4 9 = .ok (.istore_n 0, 1) := kJ6_bitCount_0f7a4_0.1.2.2.2
theorem dJ6_bitCount_0f7a4_10 : decode cJ6_bitCount_0f7a4 10 = .ok (.iload_n 0, 1) := kJ6_bitCount_0f7a4_0.2.1.1.1
theorem dJ6_bitCount_0f7a4_11 : decode cJ6_bitCount_0f7a4 11 = .ok (.ldc_w 266, 3) := kJ6_bitCount_0f7a4_0.2.1.1.2
theorem dJ6_bitCount_0f7a4_14 : decode cJ6_bitCount_0f7a4 14 = .ok (.iand, 1) := kJ6_bitCount_0f7a4_0.2.1.2.1
theorem dJ6_bitCount_0f7a4_15 : decode cJ6_bitCount_0f7a4 15 = .ok (.iload_n 0, 1) := kJ6_bitCount_0f7a4_0.2.1.2.2
theorem dJ6_bitCount_0f7a4_16 : decode cJ6_bitCount_0f7a4 16 = .ok (.iconst 2, 1) := kJ6_bitCount_0f7a4_0.2.2.1.1
theorem dJ6_bitCount_0f7a4_17 : decode cJ6_bitCount_0f7a4 17 = .ok (.iushr, 1) := kJ6_bitCount_0f7a4_0.2.2.1.2
theorem dJ6_bitCount_0f7a4_18 : decode cJ6_bitCount_0f7a4 18 = .ok (.ldc_w 266, 3) := kJ6_bitCount_0f7a4_0.2.2.2.1
theorem dJ6_bitCount_0f7a4_21 : decode cJ6_bitCount_0f7a4 21 = .ok (.iand, 1) := kJ6_bitCount_0f7a4_0.2.2.2.2
theorem kJ6_bitCount_0f7a4_22 : (((((decode cJ6_bitCount_0f7a4 22 = .ok (.iadd, 1)) ∧ (decode cJ6_bitCount_0f7a4 23 = .ok (.istore_n 0, 1))) ∧ ((decode cJ6_bitCount_0f7a4 24 = .ok (.iload_n 0, 1)) ∧ (decode cJ6_bitCount_0f7a4 25 = .ok (.iload_n 0, 1)))) ∧ (((decode cJ6_bitCount_0f7a4 26 = .ok (.iconst 4, 1)) ∧ (decode cJ6_bitCount_0f7a4 27 = .ok (.iushr, 1))) ∧ ((decode cJ6_bitCount_0f7a4 28 = .ok (.iadd, 1)) ∧ (decode cJ6_bitCount_0f7a4 29 = .ok (.ldc_w 267, 3))))) ∧ ((((decode cJ6_bitCount_0f7a4 32 = .ok (.iand, 1)) ∧ (decode cJ6_bitCount_0f7a4 33 = .ok (.istore_n 0, 1))) ∧ ((decode cJ6_bitCount_0f7a4 34 = .ok (.iload_n 0, 1)) ∧ (decode cJ6_bitCount_0f7a4 35 = .ok (.iload_n 0, 1)))) ∧ (((decode cJ6_bitCount_0f7a4 36 = .ok (.bipush 8, 2)) ∧ (decode cJ6_bitCount_0f7a4 38 = .ok (.iushr, 1))) ∧ ((decode cJ6_bitCount_0f7a4 39 = .ok (.iadd, 1)) ∧ (decode cJ6_bitCount_0f7a4 40 = .ok (.istore_n 0, 1)))))) := by decide +kernel
theorem dJ6_bitCount_0f7a4_22 : decode cJ6_bitCount_0f7a4 22 = .ok (.iadd, 1) := kJ6_bitCount_0f7a4_22.1.1.1.1
theorem dJ6_bitCount_0f7a4_23 : decode cJ6_bitCount_0f7a4 23 = .ok (.istore_n 0, 1) := kJ6_bitCount_0f7a4_22.1.1.1.2
theorem dJ6_bitCount_0f7a4_24 : decode cJ6_bitCount_0f7a4 24 = .ok (.iload_n 0, 1) := kJ6_bitCount_0f7a4_22.1.1.2.1
theorem dJ6_bitCount_0f7a4_25 : decode cJ6_bitCount_0f7a4 25 = .ok (.iload_n 0, 1) := kJ6_bitCount_0f7a4_22.1.1.2.2
theorem dJ6_bitCount_0f7a4_26 : decode cJ6_bitCount_0f7a4 26 = .ok (.iconst 4, 1) := kJ6_bitCount_0f7a4_22.1.2.1.1
theorem dJ6_bitCount_0f7a4_27 : decode cJ6_bitCount_0f7a4 27 = .ok (.iushr, 1) := kJ6_bitCount_0f7a4_22.1.2.1.2
theorem dJ6_bitCount_0f7a4_28 : decode cJ6_bitCount_0f7a4 28 = .ok (.iadd, 1) := kJ6_bitCount_0f7a4_22.1.2.2.1
theorem dJ6_bitCount_0f7a4_29 : decode cJ6_bitCount_0f7a4 29 = .ok (.ldc_w 267, 3) := kJ6_bitCount_0f7a4_22.1.2.2.2
theorem dJ6_bitCount_0f7a4_32 : decode cJ6_bitCount_0f7a4 32 = .ok (.iand, 1) := kJ6_bitCount_0f7a4_22.2.1.1.1
theorem dJ6_bitCount_0f7a4_33 : decode cJ6_bitCount_0f7a4 33 = .ok (.istore_n 0, 1) := kJ6_bitCount_0f7a4_22.2.1.1.2
theorem dJ6_bitCount_0f7a4_34 : decode cJ6_bitCount_0f7a4 34 = .ok (.iload_n 0, 1) := kJ6_bitCount_0f7a4_22.2.1.2.1
theorem dJ6_bitCount_0f7a4_35 : decode cJ6_bitCount_0f7a4 35 = .ok (.iload_n 0, 1) := kJ6_bitCount_0f7a4_22.2.1.2.2
theorem dJ6_bitCount_0f7a4_36 : decode cJ6_bitCount_0f7a4 36 = .ok (.bipush 8, 2) := kJ6_bitCount_0f7a4_22.2.2.1.1
theorem dJ6_bitCount_0f7a4_38 : decode cJ6_bitCount_0f7a4 38 = .ok (.iushr, 1) := kJ6_bitCount_0f7a4_22.2.2.1.2
theorem dJ6_bitCount_0f7a4_39 : decode cJ6_bitCount_0f7a4 39 = .ok (.iadd, 1) := kJ6_bitCount_0f7a4_22.2.2.2.1
theorem dJ6_bitCount_0f7a4_40 : decode cJ6_bitCount_0f7a4 40 = .ok (.istore_n 0, 1) := kJ6_bitCount_0f7a4_22.2.2.2.2
theorem kJ6_bitCount_0f7a4_41 : (((((decode cJ6_bitCount_0f7a4 41 = .ok (.iload_n 0, 1)) ∧ (decode cJ6_bitCount_0f7a4 42 = .ok (.iload_n 0, 1))) ∧ (decode cJ6_bitCount_0f7a4 43 = .ok (.bipush 16, 2))) ∧ ((decode cJ6_bitCount_0f7a4 45 = .ok (.iushr, 1)) ∧ (decode cJ6_bitCount_0f7a4 46 = .ok (.iadd, 1)))) ∧ ((((decode cJ6_bitCount_0f7a4 47 = .ok (.istore_n 0, 1)) ∧ (decode cJ6_bitCount_0f7a4 48 = .ok (.iload_n 0, 1))) ∧ (decode cJ6_bitCount_0f7a4 49 = .ok (.bipush 63, 2))) ∧ ((decode cJ6_bitCount_0f7a4 51 = .ok (.iand, 1)) ∧ (decode cJ6_bitCount_0f7a4 52 = .ok (.ireturn, 1))))) := by decide +kernel
theorem dJ6_bitCount_0f7a4_41 : decode cJ6_bitCount_0f7a4 41 = .ok (.iload_n 0, 1) := kJ6_bitCount_0f7a4_41.1.1.1.1
theorem dJ6_bitCount_0f7a4_42 : decode cJ6_bitCount_0f7a4 42 = .ok (.iload_n 0, 1) := kJ6_bitCount_0f7a4_41.1.1.1.2
theorem dJ6_bitCount_0f7a4_43 : decode cJ6_bitCount_0f7a4 43 = .ok (.bipush 16, 2) := kJ6_bitCount_0f7a4_41.1.1.2
theorem dJ6_bitCount_0f7a4_45 : decode cJ6_bitCount_0f7a4 45 = .ok (.iushr, 1) := kJ6_bitCount_0f7a4_41.1.2.1
theorem dJ6_bitCount_0f7a4_46 : decode cJ6_bitCount_0f7a4 46 = .ok (.iadd, 1) := kJ6_bitCount_0f7a4_41.1.2.2
theorem dJ6_bitCount_0f7a4_47 : decode cJ6_bitCount_0f7a4 47 = .ok (.istore_n 0, 1) := kJ6_bitCount_0f7a4_41.2.1.1.1
theorem dJ6_bitCount_0f7a4_48 : decode cJ6_bitCount_0f7a4 48 = .ok (.iload_n 0, 1) := kJ6_bitCount_0f7a4_41.2.1.1.2
theorem dJ6_bitCount_0f7a4_49 : decode cJ6_bitCount_0f7a4 49 = .ok (.bipush 63, 2) := kJ6_bitCount_0f7a4_41.2.1.2
theorem dJ6_bitCount_0f7a4_51 : decode cJ6_bitCount_0f7a4 51 = .ok (.iand, 1) := kJ6_bitCount_0f7a4_41.2.2.1
theorem dJ6_bitCount_0f7a4_52 : decode cJ6_bitCount_0f7a4 52 = .ok (.ireturn, 1) := kJ6_bitCount_0f7a4_41.2.2.2
set_option maxRecDepth 20000 in
theorem ggJ0_length_8abf5_J0_coder_7d493 : GoodIn wsJ0_length_8abf5 wsJ0_coder_7d493 := goodIn_r _ [6, 7, 8] rfl (by decide +kernel)
set_option maxRecDepth 20000 in
theorem gJ0_length_8abf5_J0_coder_7d493 : GoodIn wsJ0_length_8abf5 (wsV RJ0 335 RJ0 yJ0_coder_7d493 wsJ0_coder_7d493) := goodIn_app (goodIn_of _ (by decide +kernel)) ggJ0_length_8abf5_J0_coder_7d493
theorem kJ0_length_8abf5_0 : ((((decode cJ0_length_8abf5 0 = .ok (.aload_n 0, 1)) ∧ (decode cJ0_length_8abf5 1 = .ok (.getfield 9, 3))) ∧ ((decode cJ0_length_8abf5 4 = .ok (.arraylength, 1)) ∧ (decode cJ0_length_8abf5 5 = .ok (.aload_n 0, 1)))) ∧ (((decode cJ0_length_8abf5 6 = .ok (.invokevirtual 335, 3)) ∧ (decode cJ0_length_8abf5 9 = .ok (.ishr, 1))) ∧ (decode cJ0_length_8abf5 10 = .ok (.ireturn, 1)))) := by decide +kernel
theorem dJ0_length_8abf5_0 : decode cJ0_length_8abf5 0 = .ok (.aload_n 0, 1) := kJ0_length_8abf5_0.1.1.1
theorem dJ0_length_8abf5_1 : decode cJ0_length_8abf5 1 = .ok (.getfield 9, 3) := kJ0_length_8abf5_0.1.1.2
theorem dJ0_length_8abf5_4 : decode cJ0_length_8abf5 4 = .ok (.arraylength, 1) := kJ0_length_8abf5_0.1.2.1
theorem dJ0_length_8abf5_5 : decode cJ0_length_8abf5 5 = .ok (.aload_n 0, 1) := kJ0_length_8abf5_0.1.2.2
theorem dJ0_length_8abf5_6 : decode cJ0_length_8abf5 6 = .ok (.invokevirtual 335, 3) := kJ0_length_8abf5_0.2.1.1
theorem dJ0_length_8abf5_9 : decode cJ0_length_8abf5 9 = .ok (.ishr, 1) := kJ0_length_8abf5_0.2.1.2
theorem dJ0_length_8abf5_10 : decode cJ0_length_8abf5 10 = .ok (.ireturn, 1) := kJ0_length_8abf5_0.2.2
set_option maxRecDepth 20000 in
theorem ggJ0_charAt_5068e_J0_isLatin1_aae02 : GoodIn wsJ0_charAt_5068e wsJ0_isLatin1_aae02 := goodIn_r _ [6, 7, 8] rfl (by decide +kernel)
set_option maxRecDepth 20000 in
theorem gJ0_charAt_5068e_J0_isLatin1_aae02 : GoodIn wsJ0_charAt_5068e (wsV RJ0 492 RJ0 yJ0_isLatin1_aae02 wsJ0_isLatin1_aae02) := goodIn_app (goodIn_of _ (by decide +kernel)) ggJ0_charAt_5068e_J0_isLatin1_aae02
set_option maxRecDepth 20000 in
theorem ggJ0_charAt_5068e_J1_charAt_3b067 : GoodIn wsJ0_charAt_5068e wsJ1_charAt_3b067 := goodIn_r _ [12, 13, 14, 5, 15, 16, 17, 18, 19, 20] rfl (by decide +kernel)
set_option maxRecDepth 20000 in
theorem gJ0_charAt_5068e_J1_charAt_3b067 : GoodIn wsJ0_charAt_5068e (va_wsS RJ0 495 yJ1_charAt_3b067 wsJ1_charAt_3b067) := goodIn_app (goodIn_of _ (by decide +kernel)) ggJ0_charAt_5068e_J1_charAt_3b067
set_option maxRecDepth 20000 in
theorem ggJ0_charAt_5068e_J2_charAt_3b067 : GoodIn wsJ0_charAt_5068e wsJ2_charAt_3b067 := goodIn_r _ [24, 25, 26, 23, 27, 28, 29, 30, 31, 14, 5, 15, 16, 17, 18, 19, 20, 32, 33, 34, 35, 36, 37] rfl (by decide +kernel)
set_option maxRecDepth 20000 in
theorem gJ0_charAt_5068e_J2_charAt_3b067 : GoodIn wsJ0_charAt_5068e (va_wsS RJ0 498 yJ2_charAt_3b067 wsJ2_charAt_3b067) := goodIn_app (goodIn_of _ (by decide +kernel)) ggJ0_charAt_5068e_J2_charAt_3b067
theorem kJ0_charAt_5068e_0 : (((((decode cJ0_charAt_5068e 0 = .ok (.aload_n 0, 1)) ∧ (decode cJ0_charAt_5068e 1 = .ok (.invokevirtual 492, 3))) ∧ ((decode cJ0_charAt_5068e 4 = .ok (.ifCond .eq 12, 3)) ∧ (decode cJ0_charAt_5068e 7 = .ok (.aload_n 0, 1)))) ∧ (((decode cJ0_charAt_5068e 8 = .ok (.getfield 9, 3)) ∧ (decode cJ0_charAt_5068e 11 = .ok (.iload_n 1, 1))) ∧ (decode cJ0_charAt_5068e 12 = .ok (.invokestatic 495, 3)))) ∧ ((((decode cJ0_charAt_5068e 15 = .ok (.ireturn, 1)) ∧ (decode cJ0_charAt_5068e 16 = .ok (.aload_n 0, 1))) ∧ (decode cJ0_charAt_5068e 17 = .ok (.getfield 9, 3))) ∧ (((decode cJ0_charAt_5068e 20 = .ok (.iload_n 1, 1)) ∧ (decode cJ0_charAt_5068e 21 = .ok (.invokestatic 498, 3))) ∧ (decode cJ0_charAt_5068e 24 = .ok (.ireturn, 1))))) := by decide +kernel
theorem dJ0_charAt_5068e_0 : decode cJ0_charAt_5068e 0 = .ok (.aload_n 0, 1) := kJ0_charAt_5068e_0.1.1.1.1
theorem dJ0_charAt_5068e_1 : decode cJ0_charAt_5068e 1 = .ok (.invokevirtual 492, 3) := kJ0_charAt_5068e_0.1.1.1.2
theorem dJ0_charAt_5068e_4 : decode cJ0_charAt_5068e 4 = .ok (.ifCond .eq 12, 3) := kJ0_charAt_5068e_0.1.1.2.1
theorem dJ0_charAt_5068e_7 : decode cJ0_charAt_5068e 7 = .ok (.aload_n 0, 1) := kJ0_charAt_5068e_0.1.1.2.2
theorem dJ0_charAt_5068e_8 : decode cJ0_charAt_5068e 8 = .ok (.getfield 9, 3) := kJ0_charAt_5068e_0.1.2.1.1
theorem dJ0_charAt_5068e_11 : decode cJ0_charAt_5068e 11 = .ok (.iload_n 1, 1) := kJ0_charAt_5068e_0.1.2.1.2
theorem dJ0_charAt_5068e_12 : decode cJ0_charAt_5068e 12 = .ok (.invokestatic 495, 3) := kJ0_charAt_5068e_0.1.2.2
theorem dJ0_charAt_5068e_15 : decode cJ0_charAt_5068e 15 = .ok (.ireturn, 1) := kJ0_charAt_5068e_0.2.1.1.1
theorem kJ0_coder_7d493_0 : ((((decode cJ0_coder_7d493 0 = .ok (.getstatic 38, 3)) ∧ (decode cJ0_coder_7d493 3 = .ok (.ifCond .eq 10, 3))) ∧ ((decode cJ0_coder_7d493 6 = .ok (.aload_n 0, 1)) ∧ (decode cJ0_coder_7d493 7 = .ok (.getfield 15, 3)))) ∧ (((decode cJ0_coder_7d493 10 = .ok (.goto 4, 3)) ∧ (decode cJ0_coder_7d493 13 = .ok (.iconst 1, 1))) ∧ (decode cJ0_coder_7d493 14 = .ok (.ireturn, 1)))) := by decide +kernel
theorem dJ0_coder_7d493_0 : decode cJ0_coder_7d493 0 = .ok (.getstatic 38, 3) := kJ0_coder_7d493_0.1.1.1
theorem dJ0_coder_7d493_3 : decode cJ0_coder_7d493 3 = .ok (.ifCond .eq 10, 3) := kJ0_coder_7d493_0.1.1.2
theorem dJ0_coder_7d493_6 : decode cJ0_coder_7d493 6 = .ok (.aload_n 0, 1) := kJ0_coder_7d493_0.1.2.1
theorem dJ0_coder_7d493_7 : decode cJ0_coder_7d493 7 = .ok (.getfield 15, 3) := kJ0_coder_7d493_0.1.2.2
theorem dJ0_coder_7d493_10 : decode cJ0_coder_7d493 10 = .ok (.goto 4, 3) := kJ0_coder_7d493_0.2.1.1
theorem dJ0_coder_7d493_14 : decode cJ0_coder_7d493 14 = .ok (.ireturn, 1) := kJ0_coder_7d493_0.2.2
theorem kJ0_isLatin1_aae02_0 : (((((decode cJ0_isLatin1_aae02 0 = .ok (.getstatic 38, 3)) ∧ (decode cJ0_isLatin1_aae02 3 = .ok (.ifCond .eq 14, 3))) ∧ (decode cJ0_isLatin1_aae02 6 = .ok (.aload_n 0, 1))) ∧ ((decode cJ0_isLatin1_aae02 7 = .ok (.getfield 15, 3)) ∧ (decode cJ0_isLatin1_aae02 10 = .ok (.ifCond .ne 7, 3)))) ∧ (((decode cJ0_isLatin1_aae02 13 = .ok (.iconst 1, 1)) ∧ (decode cJ0_isLatin1_aae02 14 = .ok (.goto 4, 3))) ∧ ((decode cJ0_isLatin1_aae02 17 = .ok (.iconst 0, 1)) ∧ (decode cJ0_isLatin1_aae02 18 = .ok (.ireturn, 1))))) := by decide +kernel
theorem dJ0_isLatin1_aae02_0 : decode cJ0_isLatin1_aae02 0 = .ok (.getstatic 38, 3) := kJ0_isLatin1_aae02_0.1.1.1.1
theorem dJ0_isLatin1_aae02_3 : decode cJ0_isLatin1_aae02 3 = .ok (.ifCond .eq 14, 3) := kJ0_isLatin1_aae02_0.1.1.1.2
theorem dJ0_isLatin1_aae02_6 : decode cJ0_isLatin1_aae02 6 = .ok (.aload_n 0, 1) := kJ0_isLatin1_aae02_0.1.1.2
theorem dJ0_isLatin1_aae02_7 : decode cJ0_isLatin1_aae02 7 = .ok (.getfield 15, 3) := kJ0_isLatin1_aae02_0.1.2.1
theorem dJ0_isLatin1_aae02_10 : decode cJ0_isLatin1_aae02 10 = .ok (.ifCond .ne 7, 3) := kJ0_isLatin1_aae02_0.1.2.2
theorem dJ0_isLatin1_aae02_13 : decode cJ0_isLatin1_aae02 13 = .ok (.iconst 1, 1) := kJ0_isLatin1_aae02_0.2.1.1
theorem dJ0_isLatin1_aae02_14 : decode cJ0_isLatin1_aae02 14 = .ok (.goto 4, 3) := kJ0_isLatin1_aae02_0.2.1.2
theorem dJ0_isLatin1_aae02_18 : decode cJ0_isLatin1_aae02 18 = .ok (.ireturn, 1) := kJ0_isLatin1_aae02_0.2.2.2
set_option maxRecDepth 20000 in
theorem ggJ0_checkIndex_df160_J3_checkIndex_8e157 : GoodIn wsJ0_checkIndex_df160 wsJ3_checkIndex_8e157 := goodIn_r _ [5] rfl (by decide +kernel)
set_option maxRecDepth 20000 in
theorem gJ0_checkIndex_df160_J3_checkIndex_8e157 : GoodIn wsJ0_checkIndex_df160 (va_wsS RJ0 1059 yJ3_checkIndex_8e157 wsJ3_checkIndex_8e157) := goodIn_app (goodIn_of _ (by decide +kernel)) ggJ0_checkIndex_df160_J3_checkIndex_8e157
theorem kJ0_checkIndex_df160_0 : ((((decode cJ0_checkIndex_df160 0 = .ok (.iload_n 0, 1)) ∧ (decode cJ0_checkIndex_df160 1 = .ok (.iload_n 1, 1))) ∧ (decode cJ0_checkIndex_df160 2 = .ok (.getstatic 1053, 3))) ∧ (((decode cJ0_checkIndex_df160 5 = .ok (.invokestatic 1059, 3)) ∧ (decode cJ0_checkIndex_df160 8 = .ok (.pop, 1))) ∧ (decode cJ0_checkIndex_df160 9 = .ok (.return_, 1)))) := by decide +kernel
theorem dJ0_checkIndex_df160_0 : decode cJ0_checkIndex_df160 0 = .ok (.iload_n 0, 1) := kJ0_checkIndex_df160_0.1.1.1
theorem dJ0_checkIndex_df160_1 : decode cJ0_checkIndex_df160 1 = .ok (.iload_n 1, 1) := kJ0_checkIndex_df160_0.1.1.2
theorem dJ0_checkIndex_df160_2 : decode cJ0_checkIndex_df160 2 = .ok (.getstatic 1053, 3) := kJ0_checkIndex_df160_0.1.2
theorem dJ0_checkIndex_df160_5 : decode cJ0_checkIndex_df160 5 = .ok (.invokestatic 1059, 3) := kJ0_checkIndex_df160_0.2.1.1
theorem dJ0_checkIndex_df160_8 : decode cJ0_checkIndex_df160 8 = .ok (.pop, 1) := kJ0_checkIndex_df160_0.2.1.2
theorem dJ0_checkIndex_df160_9 : decode cJ0_checkIndex_df160 9 = .ok (.return_, 1) := kJ0_checkIndex_df160_0.2.2
set_option maxRecDepth 20000 in
theorem ggJ1_charAt_3b067_J0_checkIndex_df160 : GoodIn wsJ1_charAt_3b067 wsJ0_checkIndex_df160 := goodIn_r _ [4, 5, 6, 7, 8, 9] rfl (by decide +kernel)
set_option maxRecDepth 20000 in
theorem gJ1_charAt_3b067_J0_checkIndex_df160 : GoodIn wsJ1_charAt_3b067 (va_wsS RJ1 9 yJ0_checkIndex_df160 wsJ0_checkIndex_df160) := goodIn_app (goodIn_of _ (by decide +kernel)) ggJ1_charAt_3b067_J0_checkIndex_df160
theorem kJ1_charAt_3b067_0 : (((((decode cJ1_charAt_3b067 0 = .ok (.iload_n 1, 1)) ∧ (decode cJ1_charAt_3b067 1 = .ok (.aload_n 0, 1))) ∧ (decode cJ1_charAt_3b067 2 = .ok (.arraylength, 1))) ∧ (((decode cJ1_charAt_3b067 3 = .ok (.invokestatic 9, 3)) ∧ (decode cJ1_charAt_3b067 6 = .ok (.aload_n 0, 1))) ∧ (decode cJ1_charAt_3b067 7 = .ok (.iload_n 1, 1)))) ∧ ((((decode cJ1_charAt_3b067 8 = .ok (.baload, 1)) ∧ (decode cJ1_charAt_3b067 9 = .ok (.sipush 255, 3))) ∧ (decode cJ1_charAt_3b067 12 = .ok (.iand, 1))) ∧ ((decode cJ1_charAt_3b067 13 = .ok (.i2c, 1)) ∧ (decode cJ1_charAt_3b067 14 = .ok (.ireturn, 1))))) := by decide +kernel
theorem dJ1_charAt_3b067_0 : decode cJ1_charAt_3b067 0 = .ok (.iload_n 1, 1) := kJ1_charAt_3b067_0.1.1.1.1
theorem dJ1_charAt_3b067_1 : decode cJ1_charAt_3b067 1 = .ok (.aload_n 0, 1) := kJ1_charAt_3b067_0.1.1.1.2
theorem dJ1_charAt_3b067_2 : decode cJ1_charAt_3b067 2 = .ok (.arraylength, 1) := kJ1_charAt_3b067_0.1.1.2
theorem dJ1_charAt_3b067_3 : decode cJ1_charAt_3b067 3 = .ok (.invokestatic 9, 3) := kJ1_charAt_3b067_0.1.2.1.1
theorem dJ1_charAt_3b067_6 : decode cJ1_charAt_3b067 6 = .ok (.aload_n 0, 1) := kJ1_charAt_3b067_0.1.2.1.2
theorem dJ1_charAt_3b067_7 : decode cJ1_charAt_3b067 7 = .ok (.iload_n 1, 1) := kJ1_charAt_3b067_0.1.2.2
theorem dJ1_charAt_3b067_8 : decode cJ1_charAt_3b067 8 = .ok (.baload, 1) := kJ1_charAt_3b067_0.2.1.1.1
theorem dJ1_charAt_3b067_9 : decode cJ1_charAt_3b067 9 = .ok (.sipush 255, 3) := kJ1_charAt_3b067_0.2.1.1.2
theorem dJ1_charAt_3b067_12 : decode cJ1_charAt_3b067 12 = .ok (.iand, 1) := kJ1_charAt_3b067_0.2.1.2
theorem dJ1_charAt_3b067_13 : decode cJ1_charAt_3b067 13 = .ok (.i2c, 1) := kJ1_charAt_3b067_0.2.2.1
theorem dJ1_charAt_3b067_14 : decode cJ1_charAt_3b067 14 = .ok (.ireturn, 1) := kJ1_charAt_3b067_0.2.2.2
set_option maxRecDepth 20000 in
theorem ggJ2_getChar_3b067_J2_length_9d52b : GoodIn wsJ2_getChar_3b067 wsJ2_length_9d52b := goodIn_r _ [7] rfl (by decide +kernel)
set_option maxRecDepth 20000 in
theorem gJ2_getChar_3b067_J2_length_9d52b : GoodIn wsJ2_getChar_3b067 (va_wsS RJ2 48 yJ2_length_9d52b wsJ2_length_9d52b) := goodIn_app (goodIn_of _ (by decide +kernel)) ggJ2_getChar_3b067_J2_length_9d52b
set_option maxRecDepth 20000 in
theorem ggJ2_charAt_3b067_J2_checkIndex_2214a : GoodIn wsJ2_charAt_3b067 wsJ2_checkIndex_2214a := goodIn_r _ [4, 5, 6, 3, 7, 8, 9, 10, 11, 12, 13, 14, 15, 16] rfl (by decide +kernel)
set_option maxRecDepth 20000 in
theorem gJ2_charAt_3b067_J2_checkIndex_2214a : GoodIn wsJ2_charAt_3b067 (va_wsS RJ2 67 yJ2_checkIndex_2214a wsJ2_checkIndex_2214a) := goodIn_app (goodIn_of _ (by decide +kernel)) ggJ2_charAt_3b067_J2_checkIndex_2214a
set_option maxRecDepth 20000 in
theorem ggJ2_charAt_3b067_J2_getChar_3b067 : GoodIn wsJ2_charAt_3b067 wsJ2_getChar_3b067 := goodIn_r _ [19, 20, 21, 22, 5, 6, 3, 7] rfl (by decide +kernel)
set_option maxRecDepth 20000 in
theorem gJ2_charAt_3b067_J2_getChar_3b067 : GoodIn wsJ2_charAt_3b067 (va_wsS RJ2 71 yJ2_getChar_3b067 wsJ2_getChar_3b067) := goodIn_app (goodIn_of _ (by decide +kernel)) ggJ2_charAt_3b067_J2_getChar_3b067
set_option maxRecDepth 20000 in
theorem ggJ2_checkIndex_2214a_J2_length_9d52b : GoodIn wsJ2_checkIndex_2214a wsJ2_length_9d52b := goodIn_r _ [4] rfl (by decide +kernel)
set_option maxRecDepth 20000 in
theorem gJ2_checkIndex_2214a_J2_length_9d52b : GoodIn wsJ2_checkIndex_2214a (va_wsS RJ2 48 yJ2_length_9d52b wsJ2_length_9d52b) := goodIn_app (goodIn_of _ (by decide +kernel)) ggJ2_checkIndex_2214a_J2_length_9d52b
set_option maxRecDepth 20000 in
theorem ggJ2_checkIndex_2214a_J0_checkIndex_df160 : GoodIn wsJ2_checkIndex_2214a wsJ0_checkIndex_df160 := goodIn_r _ [8, 9, 10, 11, 12, 13] rfl (by decide +kernel)
set_option maxRecDepth 20000 in
theorem gJ2_checkIndex_2214a_J0_checkIndex_df160 : GoodIn wsJ2_checkIndex_2214a (va_wsS RJ2 414 yJ0_checkIndex_df160 wsJ0_checkIndex_df160) := goodIn_app (goodIn_of _ (by decide +kernel)) ggJ2_checkIndex_2214a_J0_checkIndex_df160
theorem kJ7_fill_d0a16_0 : (((((decode cJ7_fill_d0a16 0 = .ok (.iconst 0, 1)) ∧ (decode cJ7_fill_d0a16 1 = .ok (.istore_n 3, 1))) ∧ ((decode cJ7_fill_d0a16 2 = .ok (.aload_n 0, 1)) ∧ (decode cJ7_fill_d0a16 3 = .ok (.arraylength, 1)))) ∧ (((decode cJ7_fill_d0a16 4 = .ok (.istore 4, 2)) ∧ (decode cJ7_fill_d0a16 6 = .ok (.iload_n 3, 1))) ∧ ((decode cJ7_fill_d0a16 7 = .ok (.iload 4, 2)) ∧ (decode cJ7_fill_d0a16 9 = .ok (.if_icmp .ge 13, 3))))) ∧ ((((decode cJ7_fill_d0a16 12 = .ok (.aload_n 0, 1)) ∧ (decode cJ7_fill_d0a16 13 = .ok (.iload_n 3, 1))) ∧ ((decode cJ7_fill_d0a16 14 = .ok (.lload_n 1, 1)) ∧ (decode cJ7_fill_d0a16 15 = .ok (.lastore, 1)))) ∧ (((decode cJ7_fill_d0a16 16 = .ok (.iinc 3 1, 3)) ∧ (decode cJ7_fill_d0a16 19 = .ok (.goto (-13), 3))) ∧ (decode cJ7_fill_d0a16 22 = .ok (.return_, 1))))) := by decide +kernel
theorem dJ7_fill_d0a16_0 : decode cJ7_fill_d0a16 0 = .ok (.iconst 0, 1) := kJ7_fill_d0a16_0.1.1.1.1
theorem dJ7_fill_d0a16_1 : decode cJ7_fill_d0a16 1 = .ok (.istore_n 3, 1) := kJ7_fill_d0a16_0.1.1.1.2
theorem dJ7_fill_d0a16_2 : decode cJ7_fill_d0a16 2 = .ok (.aload_n 0, 1) := kJ7_fill_d0a16_0.1.1.2.1
theorem dJ7_fill_d0a16_3 : decode cJ7_fill_d0a16 3 = .ok (.arraylength, 1) := kJ7_fill_d0a16_0.1.1.2.2
theorem dJ7_fill_d0a16_4 : decode cJ7_fill_d0a16 4 = .ok (.istore 4, 2) := kJ7_fill_d0a16_0.1.2.1.1
theorem dJ7_fill_d0a16_6 : decode cJ7_fill_d0a16 6 = .ok (.iload_n 3, 1) := kJ7_fill_d0a16_0.1.2.1.2
theorem dJ7_fill_d0a16_7 : decode cJ7_fill_d0a16 7 = .ok (.iload 4, 2) := kJ7_fill_d0a16_0.1.2.2.1
theorem dJ7_fill_d0a16_9 : decode cJ7_fill_d0a16 9 = .ok (.if_icmp .ge 13, 3) := kJ7_fill_d0a16_0.1.2.2.2
theorem dJ7_fill_d0a16_12 : decode cJ7_fill_d0a16 12 = .ok (.aload_n 0, 1) := kJ7_fill_d0a16_0.2.1.1.1
theorem dJ7_fill_d0a16_13 : decode cJ7_fill_d0a16 13 = .ok (.iload_n 3, 1) := kJ7_fill_d0a16_0.2.1.1.2
theorem dJ7_fill_d0a16_14 : decode cJ7_fill_d0a16 14 = .ok (.lload_n 1, 1) := kJ7_fill_d0a16_0.2.1.2.1
theorem dJ7_fill_d0a16_15 : decode cJ7_fill_d0a16 15 = .ok (.lastore, 1) := kJ7_fill_d0a16_0.2.1.2.2
theorem dJ7_fill_d0a16_16 : decode cJ7_fill_d0a16 16 = .ok (.iinc 3 1, 3) := kJ7_fill_d0a16_0.2.2.1.1
theorem dJ7_fill_d0a16_19 : decode cJ7_fill_d0a16 19 = .ok (.goto (-13), 3) := kJ7_fill_d0a16_0.2.2.1.2
theorem dJ7_fill_d0a16_22 : decode cJ7_fill_d0a16 22 = .ok (.return_, 1) := kJ7_fill_d0a16_0.2.2.2
theorem kJ3_checkIndex_8e157_0 : (((((decode cJ3_checkIndex_8e157 0 = .ok (.iload_n 0, 1)) ∧ (decode cJ3_checkIndex_8e157 1 = .ok (.ifCond .lt 8, 3))) ∧ (decode cJ3_checkIndex_8e157 4 = .ok (.iload_n 0, 1))) ∧ (((decode cJ3_checkIndex_8e157 5 = .ok (.iload_n 1, 1)) ∧ (decode cJ3_checkIndex_8e157 6 = .ok (.if_icmp .lt 10, 3))) ∧ (decode cJ3_checkIndex_8e157 9 = .ok (.aload_n 2, 1)))) ∧ ((((decode cJ3_checkIndex_8e157 10 = .ok (.iload_n 0, 1)) ∧ (decode cJ3_checkIndex_8e157 11 = .ok (.iload_n 1, 1))) ∧ (decode cJ3_checkIndex_8e157 12 = .ok (.invokestatic 95, 3))) ∧ (((decode cJ3_checkIndex_8e157 15 = .ok (.athrow, 1)) ∧ (decode cJ3_checkIndex_8e157 16 = .ok (.iload_n 0, 1))) ∧ (decode cJ3_checkIndex_8e157 17 = .ok (.ireturn, 1))))) := by decide +kernel
theorem dJ3_checkIndex_8e157_0 : decode cJ3_checkIndex_8e157 0 = .ok (.iload_n 0, 1) := kJ3_checkIndex_8e157_0.1.1.1.1
theorem dJ3_checkIndex_8e157_1 : decode cJ3_checkIndex_8e157 1 = .ok (.ifCond .lt 8, 3) := kJ3_checkIndex_8e157_0.1.1.1.2
theorem dJ3_checkIndex_8e157_4 : decode cJ3_checkIndex_8e157 4 = .ok (.iload_n 0, 1) := kJ3_checkIndex_8e157_0.1.1.2
theorem dJ3_checkIndex_8e157_5 : decode cJ3_checkIndex_8e157 5 = .ok (.iload_n 1, 1) := kJ3_checkIndex_8e157_0.1.2.1.1
theorem dJ3_checkIndex_8e157_6 : decode cJ3_checkIndex_8e157 6 = .ok (.if_icmp .lt 10, 3) := kJ3_checkIndex_8e157_0.1.2.1.2
theorem dJ3_checkIndex_8e157_16 : decode cJ3_checkIndex_8e157 16 = .ok (.iload_n 0, 1) := kJ3_checkIndex_8e157_0.2.2.1.2
theorem dJ3_checkIndex_8e157_17 : decode cJ3_checkIndex_8e157 17 = .ok (.ireturn, 1) := kJ3_checkIndex_8e157_0.2.2.2
