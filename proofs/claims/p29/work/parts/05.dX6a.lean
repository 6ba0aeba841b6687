theorem kX6_in_0 : (((((decode cX6_in 0 = .ok (.lload_n 0, 1)) ∧ (decode cX6_in 1 = .ok (.lload_n 2, 1))) ∧ (decode cX6_in 2 = .ok (.lcmp, 1))) ∧ (((decode cX6_in 3 = .ok (.ifCond .lt 14, 3)) ∧ (decode cX6_in 6 = .ok (.lload_n 0, 1))) ∧ (decode cX6_in 7 = .ok (.lload 4, 2)))) ∧ ((((decode cX6_in 9 = .ok (.lcmp, 1)) ∧ (decode cX6_in 10 = .ok (.ifCond .gt 7, 3))) ∧ (decode cX6_in 13 = .ok (.iconst 1, 1))) ∧ (((decode cX6_in 14 = .ok (.goto 4, 3)) ∧ (decode cX6_in 17 = .ok (.iconst 0, 1))) ∧ (decode cX6_in 18 = .ok (.ireturn, 1))))) := by decide +kernel
theorem dX6_in_0 : decode cX6_in 0 = .ok (.lload_n 0, 1) := kX6_in_0.1.1.1.1
theorem dX6_in_1 : decode cX6_in 1 = .ok (.lload_n 2, 1) := kX6_in_0.1.1.1.2
theorem dX6_in_2 : decode cX6_in 2 = .ok (.lcmp, 1) := kX6_in_0.1.1.2
theorem dX6_in_3 : decode cX6_in 3 = .ok (.ifCond .lt 14, 3) := kX6_in_0.1.2.1.1
theorem dX6_in_6 : decode cX6_in 6 = .ok (.lload_n 0, 1) := kX6_in_0.1.2.1.2
theorem dX6_in_7 : decode cX6_in 7 = .ok (.lload 4, 2) := kX6_in_0.1.2.2
theorem dX6_in_9 : decode cX6_in 9 = .ok (.lcmp, 1) := kX6_in_0.2.1.1.1
theorem dX6_in_10 : decode cX6_in 10 = .ok (.ifCond .gt 7, 3) := kX6_in_0.2.1.1.2
theorem dX6_in_13 : decode cX6_in 13 = .ok (.iconst 1, 1) := kX6_in_0.2.1.2
theorem dX6_in_14 : decode cX6_in 14 = .ok (.goto 4, 3) := kX6_in_0.2.2.1.1
theorem dX6_in_17 : decode cX6_in 17 = .ok (.iconst 0, 1) := kX6_in_0.2.2.1.2
theorem dX6_in_18 : decode cX6_in 18 = .ok (.ireturn, 1) := kX6_in_0.2.2.2
theorem kX6_init_0 : (((((decode cX6_init 0 = .ok (.aload_n 0, 1)) ∧ (decode cX6_init 1 = .ok (.invokespecial 1, 3))) ∧ ((decode cX6_init 4 = .ok (.aload_n 0, 1)) ∧ (decode cX6_init 5 = .ok (.bipush 27, 2)))) ∧ (((decode cX6_init 7 = .ok (.newarray .int, 2)) ∧ (decode cX6_init 9 = .ok (.putfield 7, 3))) ∧ ((decode cX6_init 12 = .ok (.aload_n 0, 1)) ∧ (decode cX6_init 13 = .ok (.bipush 6, 2))))) ∧ ((((decode cX6_init 15 = .ok (.newarray .int, 2)) ∧ (decode cX6_init 17 = .ok (.putfield 13, 3))) ∧ ((decode cX6_init 20 = .ok (.aload_n 0, 1)) ∧ (decode cX6_init 21 = .ok (.bipush 60, 2)))) ∧ (((decode cX6_init 23 = .ok (.newarray .int, 2)) ∧ (decode cX6_init 25 = .ok (.putfield 16, 3))) ∧ ((decode cX6_init 28 = .ok (.aload_n 0, 1)) ∧ (decode cX6_init 29 = .ok (.bipush 24, 2)))))) := by decide +kernel
theorem dX6_init_0 : decode cX6_init 0 = .ok (.aload_n 0, 1) := kX6_init_0.1.1.1.1
theorem dX6_init_1 : decode cX6_init 1 = .ok (.invokespecial 1, 3) := kX6_init_0.1.1.1.2
theorem dX6_init_4 : decode cX6_init 4 = .ok (.aload_n 0, 1) := kX6_init_0.1.1.2.1
theorem dX6_init_5 : decode cX6_init 5 = .ok (.bipush 27, 2) := kX6_init_0.1.1.2.2
theorem dX6_init_7 : decode cX6_init 7 = .ok (.newarray .int, 2) := kX6_init_0.1.2.1.1
theorem dX6_init_9 : decode cX6_init 9 = .ok (.putfield 7, 3) := kX6_init_0.1.2.1.2
theorem dX6_init_12 : decode cX6_init 12 = .ok (.aload_n 0, 1) := kX6_init_0.1.2.2.1
theorem dX6_init_13 : decode cX6_init 13 = .ok (.bipush 6, 2) := kX6_init_0.1.2.2.2
theorem dX6_init_15 : decode cX6_init 15 = .ok (.newarray .int, 2) := kX6_init_0.2.1.1.1
theorem dX6_init_17 : decode cX6_init 17 = .ok (.putfield 13, 3) := kX6_init_0.2.1.1.2
theorem dX6_init_20 : decode cX6_init 20 = .ok (.aload_n 0, 1) := kX6_init_0.2.1.2.1
theorem dX6_init_21 : decode cX6_init 21 = .ok (.bipush 60, 2) := kX6_init_0.2.1.2.2
theorem dX6_init_23 : decode cX6_init 23 = .ok (.newarray .int, 2) := kX6_init_0.2.2.1.1
theorem dX6_init_25 : decode cX6_init 25 = .ok (.putfield 16, 3) := kX6_init_0.2.2.1.2
theorem dX6_init_28 : decode cX6_init 28 = .ok (.aload_n 0, 1) := kX6_init_0.2.2.2.1
theorem dX6_init_29 : decode cX6_init 29 = .ok (.bipush 24, 2) := kX6_init_0.2.2.2.2
theorem kX6_init_31 : (((((decode cX6_init 31 = .ok (.newarray .int, 2)) ∧ (decode cX6_init 33 = .ok (.putfield 19, 3))) ∧ ((decode cX6_init 36 = .ok (.aload_n 0, 1)) ∧ (decode cX6_init 37 = .ok (.sipush 216, 3)))) ∧ (((decode cX6_init 40 = .ok (.newarray .int, 2)) ∧ (decode cX6_init 42 = .ok (.putfield 22, 3))) ∧ ((decode cX6_init 45 = .ok (.aload_n 0, 1)) ∧ (decode cX6_init 46 = .ok (.bipush 27, 2))))) ∧ ((((decode cX6_init 48 = .ok (.newarray .int, 2)) ∧ (decode cX6_init 50 = .ok (.putfield 25, 3))) ∧ ((decode cX6_init 53 = .ok (.aload_n 0, 1)) ∧ (decode cX6_init 54 = .ok (.bipush 6, 2)))) ∧ (((decode cX6_init 56 = .ok (.newarray .int, 2)) ∧ (decode cX6_init 58 = .ok (.putfield 28, 3))) ∧ ((decode cX6_init 61 = .ok (.aload_n 0, 1)) ∧ (decode cX6_init 62 = .ok (.bipush 6, 2)))))) := by decide +kernel
theorem dX6_init_31 : decode cX6_init 31 = .ok (.newarray .int, 2) := kX6_init_31.1.1.1.1
theorem dX6_init_33 : decode cX6_init 33 = .ok (.putfield 19, 3) := kX6_init_31.1.1.1.2
theorem dX6_init_36 : decode cX6_init 36 = .ok (.aload_n 0, 1) := kX6_init_31.1.1.2.1
theorem dX6_init_37 : decode cX6_init 37 = .ok (.sipush 216, 3) := kX6_init_31.1.1.2.2
theorem dX6_init_40 : decode cX6_init 40 = .ok (.newarray .int, 2) := kX6_init_31.1.2.1.1
theorem dX6_init_42 : decode cX6_init 42 = .ok (.putfield 22, 3) := kX6_init_31.1.2.1.2
theorem dX6_init_45 : decode cX6_init 45 = .ok (.aload_n 0, 1) := kX6_init_31.1.2.2.1
theorem dX6_init_46 : decode cX6_init 46 = .ok (.bipush 27, 2) := kX6_init_31.1.2.2.2
theorem dX6_init_48 : decode cX6_init 48 = .ok (.newarray .int, 2) := kX6_init_31.2.1.1.1
theorem dX6_init_50 : decode cX6_init 50 = .ok (.putfield 25, 3) := kX6_init_31.2.1.1.2
theorem dX6_init_53 : decode cX6_init 53 = .ok (.aload_n 0, 1) := kX6_init_31.2.1.2.1
theorem dX6_init_54 : decode cX6_init 54 = .ok (.bipush 6, 2) := kX6_init_31.2.1.2.2
theorem dX6_init_56 : decode cX6_init 56 = .ok (.newarray .int, 2) := kX6_init_31.2.2.1.1
theorem dX6_init_58 : decode cX6_init 58 = .ok (.putfield 28, 3) := kX6_init_31.2.2.1.2
theorem dX6_init_61 : decode cX6_init 61 = .ok (.aload_n 0, 1) := kX6_init_31.2.2.2.1
theorem dX6_init_62 : decode cX6_init 62 = .ok (.bipush 6, 2) := kX6_init_31.2.2.2.2
theorem kX6_init_64 : (((((decode cX6_init 64 = .ok (.newarray .int, 2)) ∧ (decode cX6_init 66 = .ok (.putfield 31, 3))) ∧ ((decode cX6_init 69 = .ok (.aload_n 0, 1)) ∧ (decode cX6_init 70 = .ok (.sipush 243, 3)))) ∧ (((decode cX6_init 73 = .ok (.newarray .int, 2)) ∧ (decode cX6_init 75 = .ok (.putfield 34, 3))) ∧ ((decode cX6_init 78 = .ok (.aload_n 0, 1)) ∧ (decode cX6_init 79 = .ok (.iconst 4, 1))))) ∧ ((((decode cX6_init 80 = .ok (.newarray .int, 2)) ∧ (decode cX6_init 82 = .ok (.putfield 37, 3))) ∧ ((decode cX6_init 85 = .ok (.aload_n 0, 1)) ∧ (decode cX6_init 86 = .ok (.iconst 4, 1)))) ∧ (((decode cX6_init 87 = .ok (.newarray .int, 2)) ∧ (decode cX6_init 89 = .ok (.putfield 40, 3))) ∧ ((decode cX6_init 92 = .ok (.aload_n 0, 1)) ∧ (decode cX6_init 93 = .ok (.bipush 96, 2)))))) := by decide +kernel
theorem dX6_init_64 : decode cX6_init 64 = .ok (.newarray .int, 2) := kX6_init_64.1.1.1.1
theorem dX6_init_66 : decode cX6_init 66 = .ok (.putfield 31, 3) := kX6_init_64.1.1.1.2
theorem dX6_init_69 : decode cX6_init 69 = .ok (.aload_n 0, 1) := kX6_init_64.1.1.2.1
theorem dX6_init_70 : decode cX6_init 70 = .ok (.sipush 243, 3) := kX6_init_64.1.1.2.2
theorem dX6_init_73 : decode cX6_init 73 = .ok (.newarray .int, 2) := kX6_init_64.1.2.1.1
theorem dX6_init_75 : decode cX6_init 75 = .ok (.putfield 34, 3) := kX6_init_64.1.2.1.2
theorem dX6_init_78 : decode cX6_init 78 = .ok (.aload_n 0, 1) := kX6_init_64.1.2.2.1
theorem dX6_init_79 : decode cX6_init 79 = .ok (.iconst 4, 1) := kX6_init_64.1.2.2.2
theorem dX6_init_80 : decode cX6_init 80 = .ok (.newarray .int, 2) := kX6_init_64.2.1.1.1
theorem dX6_init_82 : decode cX6_init 82 = .ok (.putfield 37, 3) := kX6_init_64.2.1.1.2
theorem dX6_init_85 : decode cX6_init 85 = .ok (.aload_n 0, 1) := kX6_init_64.2.1.2.1
theorem dX6_init_86 : decode cX6_init 86 = .ok (.iconst 4, 1) := kX6_init_64.2.1.2.2
theorem dX6_init_87 : decode cX6_init 87 = .ok (.newarray .int, 2) := kX6_init_64.2.2.1.1
theorem dX6_init_89 : decode cX6_init 89 = .ok (.putfield 40, 3) := kX6_init_64.2.2.1.2
theorem dX6_init_92 : decode cX6_init 92 = .ok (.aload_n 0, 1) := kX6_init_64.2.2.2.1
theorem dX6_init_93 : decode cX6_init 93 = .ok (.bipush 96, 2) := kX6_init_64.2.2.2.2
theorem kX6_init_95 : (((((decode cX6_init 95 = .ok (.newarray .long, 2)) ∧ (decode cX6_init 97 = .ok (.putfield 43, 3))) ∧ ((decode cX6_init 100 = .ok (.aload_n 0, 1)) ∧ (decode cX6_init 101 = .ok (.bipush 24, 2)))) ∧ (((decode cX6_init 103 = .ok (.newarray .long, 2)) ∧ (decode cX6_init 105 = .ok (.putfield 47, 3))) ∧ ((decode cX6_init 108 = .ok (.aload_n 0, 1)) ∧ (decode cX6_init 109 = .ok (.getfield 7, 3))))) ∧ ((((decode cX6_init 112 = .ok (.iconst 2, 1)) ∧ (decode cX6_init 113 = .ok (.iconst 1, 1))) ∧ ((decode cX6_init 114 = .ok (.iastore, 1)) ∧ (decode cX6_init 115 = .ok (.iconst 0, 1)))) ∧ (((decode cX6_init 116 = .ok (.istore_n 1, 1)) ∧ (decode cX6_init 117 = .ok (.iload_n 1, 1))) ∧ ((decode cX6_init 118 = .ok (.iconst 4, 1)) ∧ (decode cX6_init 119 = .ok (.if_icmp .ge 16, 3)))))) := by decide +kernel
theorem dX6_init_95 : decode cX6_init 95 = .ok (.newarray .long, 2) := kX6_init_95.1.1.1.1
theorem dX6_init_97 : decode cX6_init 97 = .ok (.putfield 43, 3) := kX6_init_95.1.1.1.2
theorem dX6_init_100 : decode cX6_init 100 = .ok (.aload_n 0, 1) := kX6_init_95.1.1.2.1
theorem dX6_init_101 : decode cX6_init 101 = .ok (.bipush 24, 2) := kX6_init_95.1.1.2.2
theorem dX6_init_103 : decode cX6_init 103 = .ok (.newarray .long, 2) := kX6_init_95.1.2.1.1
theorem dX6_init_105 : decode cX6_init 105 = .ok (.putfield 47, 3) := kX6_init_95.1.2.1.2
theorem dX6_init_108 : decode cX6_init 108 = .ok (.aload_n 0, 1) := kX6_init_95.1.2.2.1
theorem dX6_init_109 : decode cX6_init 109 = .ok (.getfield 7, 3) := kX6_init_95.1.2.2.2
theorem dX6_init_112 : decode cX6_init 112 = .ok (.iconst 2, 1) := kX6_init_95.2.1.1.1
theorem dX6_init_113 : decode cX6_init 113 = .ok (.iconst 1, 1) := kX6_init_95.2.1.1.2
theorem dX6_init_114 : decode cX6_init 114 = .ok (.iastore, 1) := kX6_init_95.2.1.2.1
theorem dX6_init_115 : decode cX6_init 115 = .ok (.iconst 0, 1) := kX6_init_95.2.1.2.2
theorem dX6_init_116 : decode cX6_init 116 = .ok (.istore_n 1, 1) := kX6_init_95.2.2.1.1
theorem dX6_init_117 : decode cX6_init 117 = .ok (.iload_n 1, 1) := kX6_init_95.2.2.1.2
theorem dX6_init_118 : decode cX6_init 118 = .ok (.iconst 4, 1) := kX6_init_95.2.2.2.1
theorem dX6_init_119 : decode cX6_init 119 = .ok (.if_icmp .ge 16, 3) := kX6_init_95.2.2.2.2
theorem kX6_init_122 : ((((decode cX6_init 122 = .ok (.aload_n 0, 1)) ∧ (decode cX6_init 123 = .ok (.getfield 37, 3))) ∧ ((decode cX6_init 126 = .ok (.iload_n 1, 1)) ∧ (decode cX6_init 127 = .ok (.iconst (-1), 1)))) ∧ (((decode cX6_init 128 = .ok (.iastore, 1)) ∧ (decode cX6_init 129 = .ok (.iinc 1 1, 3))) ∧ ((decode cX6_init 132 = .ok (.goto (-15), 3)) ∧ (decode cX6_init 135 = .ok (.return_, 1))))) := by decide +kernel
theorem dX6_init_122 : decode cX6_init 122 = .ok (.aload_n 0, 1) := kX6_init_122.1.1.1
theorem dX6_init_123 : decode cX6_init 123 = .ok (.getfield 37, 3) := kX6_init_122.1.1.2
theorem dX6_init_126 : decode cX6_init 126 = .ok (.iload_n 1, 1) := kX6_init_122.1.2.1
theorem dX6_init_127 : decode cX6_init 127 = .ok (.iconst (-1), 1) := kX6_init_122.1.2.2
theorem dX6_init_128 : decode cX6_init 128 = .ok (.iastore, 1) := kX6_init_122.2.1.1
theorem dX6_init_129 : decode cX6_init 129 = .ok (.iinc 1 1, 3) := kX6_init_122.2.1.2
theorem dX6_init_132 : decode cX6_init 132 = .ok (.goto (-15), 3) := kX6_init_122.2.2.1
theorem dX6_init_135 : decode cX6_init 135 = .ok (.return_, 1) := kX6_init_122.2.2.2
set_option maxRecDepth 20000 in
theorem ggX6_isPerson_X6_in : GoodIn wsX6_isPerson wsX6_in := goodIn_r _ [5] rfl (by decide +kernel)
set_option maxRecDepth 20000 in
theorem gX6_isPerson_X6_in : GoodIn wsX6_isPerson (va_wsS RX6 50 yX6_in wsX6_in) := goodIn_app (goodIn_of _ (by decide +kernel)) ggX6_isPerson_X6_in
theorem kX6_isPerson_0 : (((((decode cX6_isPerson 0 = .ok (.iload_n 1, 1)) ∧ (decode cX6_isPerson 1 = .ok (.i2l, 1))) ∧ (decode cX6_isPerson 2 = .ok (.lconst 0, 1))) ∧ (((decode cX6_isPerson 3 = .ok (.aload_n 0, 1)) ∧ (decode cX6_isPerson 4 = .ok (.getfield 7, 3))) ∧ (decode cX6_isPerson 7 = .ok (.iconst 0, 1)))) ∧ ((((decode cX6_isPerson 8 = .ok (.iaload, 1)) ∧ (decode cX6_isPerson 9 = .ok (.iconst 1, 1))) ∧ (decode cX6_isPerson 10 = .ok (.isub, 1))) ∧ (((decode cX6_isPerson 11 = .ok (.i2l, 1)) ∧ (decode cX6_isPerson 12 = .ok (.invokestatic 50, 3))) ∧ (decode cX6_isPerson 15 = .ok (.ireturn, 1))))) := by decide +kernel
theorem dX6_isPerson_0 : decode cX6_isPerson 0 = .ok (.iload_n 1, 1) := kX6_isPerson_0.1.1.1.1
theorem dX6_isPerson_1 : decode cX6_isPerson 1 = .ok (.i2l, 1) := kX6_isPerson_0.1.1.1.2
theorem dX6_isPerson_2 : decode cX6_isPerson 2 = .ok (.lconst 0, 1) := kX6_isPerson_0.1.1.2
theorem dX6_isPerson_3 : decode cX6_isPerson 3 = .ok (.aload_n 0, 1) := kX6_isPerson_0.1.2.1.1
theorem dX6_isPerson_4 : decode cX6_isPerson 4 = .ok (.getfield 7, 3) := kX6_isPerson_0.1.2.1.2
theorem dX6_isPerson_7 : decode cX6_isPerson 7 = .ok (.iconst 0, 1) := kX6_isPerson_0.1.2.2
theorem dX6_isPerson_8 : decode cX6_isPerson 8 = .ok (.iaload, 1) := kX6_isPerson_0.2.1.1.1
theorem dX6_isPerson_9 : decode cX6_isPerson 9 = .ok (.iconst 1, 1) := kX6_isPerson_0.2.1.1.2
theorem dX6_isPerson_10 : decode cX6_isPerson 10 = .ok (.isub, 1) := kX6_isPerson_0.2.1.2
theorem dX6_isPerson_11 : decode cX6_isPerson 11 = .ok (.i2l, 1) := kX6_isPerson_0.2.2.1.1
theorem dX6_isPerson_12 : decode cX6_isPerson 12 = .ok (.invokestatic 50, 3) := kX6_isPerson_0.2.2.1.2
theorem dX6_isPerson_15 : decode cX6_isPerson 15 = .ok (.ireturn, 1) := kX6_isPerson_0.2.2.2
theorem kX6_told_0 : (((((decode cX6_told 0 = .ok (.aload_n 0, 1)) ∧ (decode cX6_told 1 = .ok (.getfield 7, 3))) ∧ (decode cX6_told 4 = .ok (.iconst 3, 1))) ∧ (((decode cX6_told 5 = .ok (.iconst 4, 1)) ∧ (decode cX6_told 6 = .ok (.iload_n 1, 1))) ∧ (decode cX6_told 7 = .ok (.imul, 1)))) ∧ ((((decode cX6_told 8 = .ok (.iadd, 1)) ∧ (decode cX6_told 9 = .ok (.iload_n 2, 1))) ∧ (decode cX6_told 10 = .ok (.iadd, 1))) ∧ ((decode cX6_told 11 = .ok (.iaload, 1)) ∧ (decode cX6_told 12 = .ok (.ireturn, 1))))) := by decide +kernel
theorem dX6_told_0 : decode cX6_told 0 = .ok (.aload_n 0, 1) := kX6_told_0.1.1.1.1
theorem dX6_told_1 : decode cX6_told 1 = .ok (.getfield 7, 3) := kX6_told_0.1.1.1.2
theorem dX6_told_4 : decode cX6_told 4 = .ok (.iconst 3, 1) := kX6_told_0.1.1.2
theorem dX6_told_5 : decode cX6_told 5 = .ok (.iconst 4, 1) := kX6_told_0.1.2.1.1
theorem dX6_told_6 : decode cX6_told 6 = .ok (.iload_n 1, 1) := kX6_told_0.1.2.1.2
theorem dX6_told_7 : decode cX6_told 7 = .ok (.imul, 1) := kX6_told_0.1.2.2
theorem dX6_told_8 : decode cX6_told 8 = .ok (.iadd, 1) := kX6_told_0.2.1.1.1
theorem dX6_told_9 : decode cX6_told 9 = .ok (.iload_n 2, 1) := kX6_told_0.2.1.1.2
theorem dX6_told_10 : decode cX6_told 10 = .ok (.iadd, 1) := kX6_told_0.2.1.2
theorem dX6_told_11 : decode cX6_told 11 = .ok (.iaload, 1) := kX6_told_0.2.2.1
theorem dX6_told_12 : decode cX6_told 12 = .ok (.ireturn, 1) := kX6_told_0.2.2.2
theorem kX6_tells_0 : (((((decode cX6_tells 0 = .ok (.aload_n 0, 1)) ∧ (decode cX6_tells 1 = .ok (.getfield 7, 3))) ∧ (decode cX6_tells 4 = .ok (.iconst 3, 1))) ∧ (((decode cX6_tells 5 = .ok (.iconst 4, 1)) ∧ (decode cX6_tells 6 = .ok (.iload_n 1, 1))) ∧ (decode cX6_tells 7 = .ok (.imul, 1)))) ∧ ((((decode cX6_tells 8 = .ok (.iadd, 1)) ∧ (decode cX6_tells 9 = .ok (.iload_n 2, 1))) ∧ (decode cX6_tells 10 = .ok (.iadd, 1))) ∧ (((decode cX6_tells 11 = .ok (.iload_n 3, 1)) ∧ (decode cX6_tells 12 = .ok (.iastore, 1))) ∧ (decode cX6_tells 13 = .ok (.return_, 1))))) := by decide +kernel
theorem dX6_tells_0 : decode cX6_tells 0 = .ok (.aload_n 0, 1) := kX6_tells_0.1.1.1.1
theorem dX6_tells_1 : decode cX6_tells 1 = .ok (.getfield 7, 3) := kX6_tells_0.1.1.1.2
theorem dX6_tells_4 : decode cX6_tells 4 = .ok (.iconst 3, 1) := kX6_tells_0.1.1.2
theorem dX6_tells_5 : decode cX6_tells 5 = .ok (.iconst 4, 1) := kX6_tells_0.1.2.1.1
theorem dX6_tells_6 : decode cX6_tells 6 = .ok (.iload_n 1, 1) := kX6_tells_0.1.2.1.2
theorem dX6_tells_7 : decode cX6_tells 7 = .ok (.imul, 1) := kX6_tells_0.1.2.2
theorem dX6_tells_8 : decode cX6_tells 8 = .ok (.iadd, 1) := kX6_tells_0.2.1.1.1
theorem dX6_tells_9 : decode cX6_tells 9 = .ok (.iload_n 2, 1) := kX6_tells_0.2.1.1.2
theorem dX6_tells_10 : decode cX6_tells 10 = .ok (.iadd, 1) := kX6_tells_0.2.1.2
theorem dX6_tells_11 : decode cX6_tells 11 = .ok (.iload_n 3, 1) := kX6_tells_0.2.2.1.1
theorem dX6_tells_12 : decode cX6_tells 12 = .ok (.iastore, 1) := kX6_tells_0.2.2.1.2
theorem dX6_tells_13 : decode cX6_tells 13 = .ok (.return_, 1) := kX6_tells_0.2.2.2
set_option maxRecDepth 20000 in
theorem ggX6_turns_X6_told : GoodIn wsX6_turns wsX6_told := goodIn_r _ [5, 6, 7, 8, 9, 10, 11, 12, 13, 14, 15, 16, 17, 18, 19, 20, 21, 22, 23, 24, 25] rfl (by decide +kernel)
set_option maxRecDepth 20000 in
theorem gX6_turns_X6_told : GoodIn wsX6_turns (wsV RX6 54 RX6 yX6_told wsX6_told) := goodIn_app (goodIn_of _ (by decide +kernel)) ggX6_turns_X6_told
theorem kX6_turns_0 : ((((decode cX6_turns 0 = .ok (.aload_n 0, 1)) ∧ (decode cX6_turns 1 = .ok (.iload_n 1, 1))) ∧ (decode cX6_turns 2 = .ok (.iconst 1, 1))) ∧ ((decode cX6_turns 3 = .ok (.invokevirtual 54, 3)) ∧ (decode cX6_turns 6 = .ok (.ireturn, 1)))) := by decide +kernel
theorem dX6_turns_0 : decode cX6_turns 0 = .ok (.aload_n 0, 1) := kX6_turns_0.1.1.1
theorem dX6_turns_1 : decode cX6_turns 1 = .ok (.iload_n 1, 1) := kX6_turns_0.1.1.2
theorem dX6_turns_2 : decode cX6_turns 2 = .ok (.iconst 1, 1) := kX6_turns_0.1.2
theorem dX6_turns_3 : decode cX6_turns 3 = .ok (.invokevirtual 54, 3) := kX6_turns_0.2.1
theorem dX6_turns_6 : decode cX6_turns 6 = .ok (.ireturn, 1) := kX6_turns_0.2.2
set_option maxRecDepth 20000 in
theorem ggX6_whom_X6_told : GoodIn wsX6_whom wsX6_told := goodIn_r _ [5, 6, 7, 8, 9, 10, 11, 12, 13, 14, 15, 16, 17, 18, 19, 20, 21, 22, 23, 24, 25] rfl (by decide +kernel)
set_option maxRecDepth 20000 in
theorem gX6_whom_X6_told : GoodIn wsX6_whom (wsV RX6 54 RX6 yX6_told wsX6_told) := goodIn_app (goodIn_of _ (by decide +kernel)) ggX6_whom_X6_told
theorem kX6_whom_0 : ((((decode cX6_whom 0 = .ok (.aload_n 0, 1)) ∧ (decode cX6_whom 1 = .ok (.iload_n 1, 1))) ∧ (decode cX6_whom 2 = .ok (.iconst 2, 1))) ∧ ((decode cX6_whom 3 = .ok (.invokevirtual 54, 3)) ∧ (decode cX6_whom 6 = .ok (.ireturn, 1)))) := by decide +kernel
theorem dX6_whom_0 : decode cX6_whom 0 = .ok (.aload_n 0, 1) := kX6_whom_0.1.1.1
theorem dX6_whom_1 : decode cX6_whom 1 = .ok (.iload_n 1, 1) := kX6_whom_0.1.1.2
theorem dX6_whom_2 : decode cX6_whom 2 = .ok (.iconst 2, 1) := kX6_whom_0.1.2
theorem dX6_whom_3 : decode cX6_whom 3 = .ok (.invokevirtual 54, 3) := kX6_whom_0.2.1
theorem dX6_whom_6 : decode cX6_whom 6 = .ok (.ireturn, 1) := kX6_whom_0.2.2
set_option maxRecDepth 20000 in
theorem ggX6_isStopped_X6_turns : GoodIn wsX6_isStopped wsX6_turns := goodIn_r _ [5, 6, 7, 8, 4, 9, 10, 11, 12, 13, 14, 15, 16, 17, 18, 19, 20, 21, 22, 23, 24, 25, 26, 27, 28, 29] rfl (by decide +kernel)
set_option maxRecDepth 20000 in
theorem gX6_isStopped_X6_turns : GoodIn wsX6_isStopped (wsV RX6 58 RX6 yX6_turns wsX6_turns) := goodIn_app (goodIn_of _ (by decide +kernel)) ggX6_isStopped_X6_turns
theorem kX6_isStopped_0 : ((((decode cX6_isStopped 0 = .ok (.aload_n 0, 1)) ∧ (decode cX6_isStopped 1 = .ok (.iload_n 1, 1))) ∧ ((decode cX6_isStopped 2 = .ok (.invokevirtual 58, 3)) ∧ (decode cX6_isStopped 5 = .ok (.ifCond .ne 7, 3)))) ∧ (((decode cX6_isStopped 8 = .ok (.iconst 1, 1)) ∧ (decode cX6_isStopped 9 = .ok (.goto 4, 3))) ∧ ((decode cX6_isStopped 12 = .ok (.iconst 0, 1)) ∧ (decode cX6_isStopped 13 = .ok (.ireturn, 1))))) := by decide +kernel
theorem dX6_isStopped_0 : decode cX6_isStopped 0 = .ok (.aload_n 0, 1) := kX6_isStopped_0.1.1.1
theorem dX6_isStopped_1 : decode cX6_isStopped 1 = .ok (.iload_n 1, 1) := kX6_isStopped_0.1.1.2
theorem dX6_isStopped_2 : decode cX6_isStopped 2 = .ok (.invokevirtual 58, 3) := kX6_isStopped_0.1.2.1
theorem dX6_isStopped_5 : decode cX6_isStopped 5 = .ok (.ifCond .ne 7, 3) := kX6_isStopped_0.1.2.2
theorem dX6_isStopped_8 : decode cX6_isStopped 8 = .ok (.iconst 1, 1) := kX6_isStopped_0.2.1.1
theorem dX6_isStopped_9 : decode cX6_isStopped 9 = .ok (.goto 4, 3) := kX6_isStopped_0.2.1.2
theorem dX6_isStopped_12 : decode cX6_isStopped 12 = .ok (.iconst 0, 1) := kX6_isStopped_0.2.2.1
theorem dX6_isStopped_13 : decode cX6_isStopped 13 = .ok (.ireturn, 1) := kX6_isStopped_0.2.2.2
set_option maxRecDepth 20000 in
theorem ggX6_windersOf_X6_whom : GoodIn wsX6_windersOf wsX6_whom := goodIn_r _ [6, 7, 8, 9, 5, 10, 1, 11, 12, 13, 14, 15, 16, 17, 18, 19, 20, 21, 22, 23, 24, 25, 26, 27, 28, 29] rfl (by decide +kernel)
set_option maxRecDepth 20000 in
theorem gX6_windersOf_X6_whom : GoodIn wsX6_windersOf (wsV RX6 62 RX6 yX6_whom wsX6_whom) := goodIn_app (goodIn_of _ (by decide +kernel)) ggX6_windersOf_X6_whom
theorem kX6_windersOf_0 : (((((decode cX6_windersOf 0 = .ok (.iconst 0, 1)) ∧ (decode cX6_windersOf 1 = .ok (.istore_n 2, 1))) ∧ ((decode cX6_windersOf 2 = .ok (.iconst 0, 1)) ∧ (decode cX6_windersOf 3 = .ok (.istore_n 3, 1)))) ∧ (((decode cX6_windersOf 4 = .ok (.iload_n 3, 1)) ∧ (decode cX6_windersOf 5 = .ok (.aload_n 0, 1))) ∧ ((decode cX6_windersOf 6 = .ok (.getfield 7, 3)) ∧ (decode cX6_windersOf 9 = .ok (.iconst 0, 1))))) ∧ ((((decode cX6_windersOf 10 = .ok (.iaload, 1)) ∧ (decode cX6_windersOf 11 = .ok (.if_icmp .ge 28, 3))) ∧ ((decode cX6_windersOf 14 = .ok (.iload_n 2, 1)) ∧ (decode cX6_windersOf 15 = .ok (.aload_n 0, 1)))) ∧ (((decode cX6_windersOf 16 = .ok (.iload_n 3, 1)) ∧ (decode cX6_windersOf 17 = .ok (.invokevirtual 62, 3))) ∧ ((decode cX6_windersOf 20 = .ok (.iload_n 1, 1)) ∧ (decode cX6_windersOf 21 = .ok (.if_icmp .ne 9, 3)))))) := by decide +kernel
theorem dX6_windersOf_0 : decode cX6_windersOf 0 = .ok (.iconst 0, 1) := kX6_windersOf_0.1.1.1.1
theorem dX6_windersOf_1 : decode cX6_windersOf 1 = .ok (.istore_n 2, 1) := kX6_windersOf_0.1.1.1.2
theorem dX6_windersOf_2 : decode cX6_windersOf 2 = .ok (.iconst 0, 1) := kX6_windersOf_0.1.1.2.1
theorem dX6_windersOf_3 : decode cX6_windersOf 3 = .ok (.istore_n 3, 1) := kX6_windersOf_0.1.1.2.2
theorem dX6_windersOf_4 : decode cX6_windersOf 4 = .ok (.iload_n 3, 1) := kX6_windersOf_0.1.2.1.1
theorem dX6_windersOf_5 : decode cX6_windersOf 5 = .ok (.aload_n 0, 1) := kX6_windersOf_0.1.2.1.2
theorem dX6_windersOf_6 : decode cX6_windersOf 6 = .ok (.getfield 7, 3) := kX6_windersOf_0.1.2.2.1
theorem dX6_windersOf_9 : decode cX6_windersOf 9 = .ok (.iconst 0, 1) := kX6_windersOf_0.1.2.2.2
theorem dX6_windersOf_10 : decode cX6_windersOf 10 = .ok (.iaload, 1) := kX6_windersOf_0.2.1.1.1
theorem dX6_windersOf_11 : decode cX6_windersOf 11 = .ok (.if_icmp .ge 28, 3) := kX6_windersOf_0.2.1.1.2
theorem dX6_windersOf_14 : decode cX6_windersOf 14 = .ok (.iload_n 2, 1) := kX6_windersOf_0.2.1.2.1
theorem dX6_windersOf_15 : decode cX6_windersOf 15 = .ok (.aload_n 0, 1) := kX6_windersOf_0.2.1.2.2
theorem dX6_windersOf_16 : decode cX6_windersOf 16 = .ok (.iload_n 3, 1) := kX6_windersOf_0.2.2.1.1
theorem dX6_windersOf_17 : decode cX6_windersOf 17 = .ok (.invokevirtual 62, 3) := kX6_windersOf_0.2.2.1.2
theorem dX6_windersOf_20 : decode cX6_windersOf 20 = .ok (.iload_n 1, 1) := kX6_windersOf_0.2.2.2.1
theorem dX6_windersOf_21 : decode cX6_windersOf 21 = .ok (.if_icmp .ne 9, 3) := kX6_windersOf_0.2.2.2.2
theorem kX6_windersOf_24 : (((((decode cX6_windersOf 24 = .ok (.iconst 1, 1)) ∧ (decode cX6_windersOf 25 = .ok (.iload_n 3, 1))) ∧ (decode cX6_windersOf 26 = .ok (.ishl, 1))) ∧ (((decode cX6_windersOf 27 = .ok (.goto 4, 3)) ∧ (decode cX6_windersOf 30 = .ok (.iconst 0, 1))) ∧ (decode cX6_windersOf 31 = .ok (.ior, 1)))) ∧ ((((decode cX6_windersOf 32 = .ok (.istore_n 2, 1)) ∧ (decode cX6_windersOf 33 = .ok (.iinc 3 1, 3))) ∧ (decode cX6_windersOf 36 = .ok (.goto (-32), 3))) ∧ ((decode cX6_windersOf 39 = .ok (.iload_n 2, 1)) ∧ (decode cX6_windersOf 40 = .ok (.ireturn, 1))))) := by decide +kernel
theorem dX6_windersOf_24 : decode cX6_windersOf 24 = .ok (.iconst 1, 1) := kX6_windersOf_24.1.1.1.1
theorem dX6_windersOf_25 : decode cX6_windersOf 25 = .ok (.iload_n 3, 1) := kX6_windersOf_24.1.1.1.2
theorem dX6_windersOf_26 : decode cX6_windersOf 26 = .ok (.ishl, 1) := kX6_windersOf_24.1.1.2
theorem dX6_windersOf_27 : decode cX6_windersOf 27 = .ok (.goto 4, 3) := kX6_windersOf_24.1.2.1.1
theorem dX6_windersOf_30 : decode cX6_windersOf 30 = .ok (.iconst 0, 1) := kX6_windersOf_24.1.2.1.2
theorem dX6_windersOf_31 : decode cX6_windersOf 31 = .ok (.ior, 1) := kX6_windersOf_24.1.2.2
theorem dX6_windersOf_32 : decode cX6_windersOf 32 = .ok (.istore_n 2, 1) := kX6_windersOf_24.2.1.1.1
theorem dX6_windersOf_33 : decode cX6_windersOf 33 = .ok (.iinc 3 1, 3) := kX6_windersOf_24.2.1.1.2
theorem dX6_windersOf_36 : decode cX6_windersOf 36 = .ok (.goto (-32), 3) := kX6_windersOf_24.2.1.2
theorem dX6_windersOf_39 : decode cX6_windersOf 39 = .ok (.iload_n 2, 1) := kX6_windersOf_24.2.2.1
theorem dX6_windersOf_40 : decode cX6_windersOf 40 = .ok (.ireturn, 1) := kX6_windersOf_24.2.2.2
set_option maxRecDepth 20000 in
theorem ggX6_runs_X6_isStopped : GoodIn wsX6_runs wsX6_isStopped := goodIn_r _ [6, 7, 8, 9, 5, 10, 11, 12, 13, 14, 1, 23, 24, 25, 26, 27, 28, 29, 30, 31, 32, 33, 34, 35, 36, 37, 38, 39, 40, 41] rfl (by decide +kernel)
set_option maxRecDepth 20000 in
theorem gX6_runs_X6_isStopped : GoodIn wsX6_runs (wsV RX6 65 RX6 yX6_isStopped wsX6_isStopped) := goodIn_app (goodIn_of _ (by decide +kernel)) ggX6_runs_X6_isStopped
set_option maxRecDepth 20000 in
theorem ggX6_runs_X6_told : GoodIn wsX6_runs wsX6_told := goodIn_r _ [14, 1, 23, 24, 25, 26, 27, 28, 29, 30, 31, 32, 33, 34, 35, 36, 37, 38, 39, 40, 41] rfl (by decide +kernel)
set_option maxRecDepth 20000 in
theorem gX6_runs_X6_told : GoodIn wsX6_runs (wsV RX6 54 RX6 yX6_told wsX6_told) := goodIn_app (goodIn_of _ (by decide +kernel)) ggX6_runs_X6_told
set_option maxRecDepth 20000 in
theorem ggX6_runs_X6_whom : GoodIn wsX6_runs wsX6_whom := goodIn_r _ [18, 11, 12, 13, 5, 14, 1, 23, 24, 25, 26, 27, 28, 29, 30, 31, 32, 33, 34, 35, 36, 37, 38, 39, 40, 41] rfl (by decide +kernel)
set_option maxRecDepth 20000 in
theorem gX6_runs_X6_whom : GoodIn wsX6_runs (wsV RX6 62 RX6 yX6_whom wsX6_whom) := goodIn_app (goodIn_of _ (by decide +kernel)) ggX6_runs_X6_whom
set_option maxRecDepth 20000 in
theorem ggX6_runs_X6_windersOf : GoodIn wsX6_runs wsX6_windersOf := goodIn_r _ [22, 1, 15, 16, 17, 5, 18, 11, 12, 13, 14, 23, 24, 25, 26, 27, 28, 29, 30, 31, 32, 33, 34, 35, 36, 37, 38, 39, 40, 41] rfl (by decide +kernel)
set_option maxRecDepth 20000 in
theorem gX6_runs_X6_windersOf : GoodIn wsX6_runs (wsV RX6 69 RX6 yX6_windersOf wsX6_windersOf) := goodIn_app (goodIn_of _ (by decide +kernel)) ggX6_runs_X6_windersOf
theorem kX6_runs_0 : (((((decode cX6_runs 0 = .ok (.aload_n 0, 1)) ∧ (decode cX6_runs 1 = .ok (.getfield 7, 3))) ∧ ((decode cX6_runs 4 = .ok (.iconst 1, 1)) ∧ (decode cX6_runs 5 = .ok (.iaload, 1)))) ∧ (((decode cX6_runs 6 = .ok (.iconst 2, 1)) ∧ (decode cX6_runs 7 = .ok (.irem, 1))) ∧ ((decode cX6_runs 8 = .ok (.ifCond .ne 7, 3)) ∧ (decode cX6_runs 11 = .ok (.iconst 2, 1))))) ∧ ((((decode cX6_runs 12 = .ok (.goto 4, 3)) ∧ (decode cX6_runs 15 = .ok (.iconst 1, 1))) ∧ ((decode cX6_runs 16 = .ok (.istore_n 2, 1)) ∧ (decode cX6_runs 17 = .ok (.aload_n 0, 1)))) ∧ (((decode cX6_runs 18 = .ok (.getfield 7, 3)) ∧ (decode cX6_runs 21 = .ok (.iconst 1, 1))) ∧ ((decode cX6_runs 22 = .ok (.iaload, 1)) ∧ (decode cX6_runs 23 = .ok (.iconst 3, 1)))))) := by decide +kernel
theorem dX6_runs_0 : decode cX6_runs 0 = .ok (.aload_n 0, 1) := kX6_runs_0.1.1.1.1
theorem dX6_runs_1 : decode cX6_runs 1 = .ok (.getfield 7, 3) := kX6_runs_0.1.1.1.2
theorem dX6_runs_4 : decode cX6_runs 4 = .ok (.iconst 1, 1) := kX6_runs_0.1.1.2.1
theorem dX6_runs_5 : decode cX6_runs 5 = .ok (.iaload, 1) := kX6_runs_0.1.1.2.2
theorem dX6_runs_6 : decode cX6_runs 6 = .ok (.iconst 2, 1) := kX6_runs_0.1.2.1.1
theorem dX6_runs_7 : decode cX6_runs 7 = .ok (.irem, 1) := kX6_runs_0.1.2.1.2
theorem dX6_runs_8 : decode cX6_runs 8 = .ok (.ifCond .ne 7, 3) := kX6_runs_0.1.2.2.1
theorem dX6_runs_11 : decode cX6_runs 11 = .ok (.iconst 2, 1) := kX6_runs_0.1.2.2.2
theorem dX6_runs_12 : decode cX6_runs 12 = .ok (.goto 4, 3) := kX6_runs_0.2.1.1.1
theorem dX6_runs_15 : decode cX6_runs 15 = .ok (.iconst 1, 1) := kX6_runs_0.2.1.1.2
theorem dX6_runs_16 : decode cX6_runs 16 = .ok (.istore_n 2, 1) := kX6_runs_0.2.1.2.1
theorem dX6_runs_17 : decode cX6_runs 17 = .ok (.aload_n 0, 1) := kX6_runs_0.2.1.2.2
theorem dX6_runs_18 : decode cX6_runs 18 = .ok (.getfield 7, 3) := kX6_runs_0.2.2.1.1
theorem dX6_runs_21 : decode cX6_runs 21 = .ok (.iconst 1, 1) := kX6_runs_0.2.2.1.2
theorem dX6_runs_22 : decode cX6_runs 22 = .ok (.iaload, 1) := kX6_runs_0.2.2.2.1
theorem dX6_runs_23 : decode cX6_runs 23 = .ok (.iconst 3, 1) := kX6_runs_0.2.2.2.2
theorem kX6_runs_24 : (((((decode cX6_runs 24 = .ok (.irem, 1)) ∧ (decode cX6_runs 25 = .ok (.ifCond .ne 7, 3))) ∧ ((decode cX6_runs 28 = .ok (.iconst 0, 1)) ∧ (decode cX6_runs 29 = .ok (.goto 4, 3)))) ∧ (((decode cX6_runs 32 = .ok (.iconst 1, 1)) ∧ (decode cX6_runs 33 = .ok (.istore_n 3, 1))) ∧ ((decode cX6_runs 34 = .ok (.aload_n 0, 1)) ∧ (decode cX6_runs 35 = .ok (.iload_n 1, 1))))) ∧ ((((decode cX6_runs 36 = .ok (.invokevirtual 65, 3)) ∧ (decode cX6_runs 39 = .ok (.ifCond .eq 5, 3))) ∧ ((decode cX6_runs 42 = .ok (.iconst 0, 1)) ∧ (decode cX6_runs 43 = .ok (.ireturn, 1)))) ∧ (((decode cX6_runs 44 = .ok (.aload_n 0, 1)) ∧ (decode cX6_runs 45 = .ok (.iload_n 1, 1))) ∧ ((decode cX6_runs 46 = .ok (.iconst 0, 1)) ∧ (decode cX6_runs 47 = .ok (.invokevirtual 54, 3)))))) := by decide +kernel
theorem dX6_runs_24 : decode cX6_runs 24 = .ok (.irem, 1) := kX6_runs_24.1.1.1.1
theorem dX6_runs_25 : decode cX6_runs 25 = .ok (.ifCond .ne 7, 3) := kX6_runs_24.1.1.1.2
theorem dX6_runs_28 : decode cX6_runs 28 = .ok (.iconst 0, 1) := kX6_runs_24.1.1.2.1
theorem dX6_runs_29 : decode cX6_runs 29 = .ok (.goto 4, 3) := kX6_runs_24.1.1.2.2
theorem dX6_runs_32 : decode cX6_runs 32 = .ok (.iconst 1, 1) := kX6_runs_24.1.2.1.1
theorem dX6_runs_33 : decode cX6_runs 33 = .ok (.istore_n 3, 1) := kX6_runs_24.1.2.1.2
theorem dX6_runs_34 : decode cX6_runs 34 = .ok (.aload_n 0, 1) := kX6_runs_24.1.2.2.1
theorem dX6_runs_35 : decode cX6_runs 35 = .ok (.iload_n 1, 1) := kX6_runs_24.1.2.2.2
theorem dX6_runs_36 : decode cX6_runs 36 = .ok (.invokevirtual 65, 3) := kX6_runs_24.2.1.1.1
theorem dX6_runs_39 : decode cX6_runs 39 = .ok (.ifCond .eq 5, 3) := kX6_runs_24.2.1.1.2
theorem dX6_runs_42 : decode cX6_runs 42 = .ok (.iconst 0, 1) := kX6_runs_24.2.1.2.1
theorem dX6_runs_43 : decode cX6_runs 43 = .ok (.ireturn, 1) := kX6_runs_24.2.1.2.2
theorem dX6_runs_44 : decode cX6_runs 44 = .ok (.aload_n 0, 1) := kX6_runs_24.2.2.1.1
theorem dX6_runs_45 : decode cX6_runs 45 = .ok (.iload_n 1, 1) := kX6_runs_24.2.2.1.2
theorem dX6_runs_46 : decode cX6_runs 46 = .ok (.iconst 0, 1) := kX6_runs_24.2.2.2.1
theorem dX6_runs_47 : decode cX6_runs 47 = .ok (.invokevirtual 54, 3) := kX6_runs_24.2.2.2.2
theorem kX6_runs_50 : (((((decode cX6_runs 50 = .ok (.tableswitch 66 0 3 #[30, 32, 34, 36], 30)) ∧ (decode cX6_runs 80 = .ok (.iconst 1, 1))) ∧ ((decode cX6_runs 81 = .ok (.ireturn, 1)) ∧ (decode cX6_runs 82 = .ok (.iload_n 2, 1)))) ∧ (((decode cX6_runs 83 = .ok (.ireturn, 1)) ∧ (decode cX6_runs 84 = .ok (.iload_n 3, 1))) ∧ ((decode cX6_runs 85 = .ok (.ireturn, 1)) ∧ (decode cX6_runs 86 = .ok (.iload_n 2, 1))))) ∧ ((((decode cX6_runs 87 = .ok (.aload_n 0, 1)) ∧ (decode cX6_runs 88 = .ok (.iload_n 1, 1))) ∧ ((decode cX6_runs 89 = .ok (.invokevirtual 62, 3)) ∧ (decode cX6_runs 92 = .ok (.bipush (-4), 2)))) ∧ (((decode cX6_runs 94 = .ok (.if_icmp .eq 19, 3)) ∧ (decode cX6_runs 97 = .ok (.aload_n 0, 1))) ∧ ((decode cX6_runs 98 = .ok (.aload_n 0, 1)) ∧ (decode cX6_runs 99 = .ok (.iload_n 1, 1)))))) := by decide +kernel
theorem dX6_runs_50 : decode cX6_runs 50 = .ok (.tableswitch 66 0 3 #[30, 32, 34, 36], 30) := kX6_runs_50.1.1.1.1
theorem dX6_runs_80 : decode cX6_runs 80 = .ok (.iconst 1, 1) := kX6_runs_50.1.1.1.2
theorem dX6_runs_81 : decode cX6_runs 81 = .ok (.ireturn, 1) := kX6_runs_50.1.1.2.1
theorem dX6_runs_82 : decode cX6_runs 82 = .ok (.iload_n 2, 1) := kX6_runs_50.1.1.2.2
theorem dX6_runs_83 : decode cX6_runs 83 = .ok (.ireturn, 1) := kX6_runs_50.1.2.1.1
theorem dX6_runs_84 : decode cX6_runs 84 = .ok (.iload_n 3, 1) := kX6_runs_50.1.2.1.2
theorem dX6_runs_85 : decode cX6_runs 85 = .ok (.ireturn, 1) := kX6_runs_50.1.2.2.1
theorem dX6_runs_86 : decode cX6_runs 86 = .ok (.iload_n 2, 1) := kX6_runs_50.1.2.2.2
theorem dX6_runs_87 : decode cX6_runs 87 = .ok (.aload_n 0, 1) := kX6_runs_50.2.1.1.1
theorem dX6_runs_88 : decode cX6_runs 88 = .ok (.iload_n 1, 1) := kX6_runs_50.2.1.1.2
theorem dX6_runs_89 : decode cX6_runs 89 = .ok (.invokevirtual 62, 3) := kX6_runs_50.2.1.2.1
theorem dX6_runs_92 : decode cX6_runs 92 = .ok (.bipush (-4), 2) := kX6_runs_50.2.1.2.2
theorem dX6_runs_94 : decode cX6_runs 94 = .ok (.if_icmp .eq 19, 3) := kX6_runs_50.2.2.1.1
theorem dX6_runs_97 : decode cX6_runs 97 = .ok (.aload_n 0, 1) := kX6_runs_50.2.2.1.2
theorem dX6_runs_98 : decode cX6_runs 98 = .ok (.aload_n 0, 1) := kX6_runs_50.2.2.2.1
theorem dX6_runs_99 : decode cX6_runs 99 = .ok (.iload_n 1, 1) := kX6_runs_50.2.2.2.2
theorem kX6_runs_100 : (((((decode cX6_runs 100 = .ok (.invokevirtual 62, 3)) ∧ (decode cX6_runs 103 = .ok (.invokevirtual 65, 3))) ∧ ((decode cX6_runs 106 = .ok (.ifCond .eq 7, 3)) ∧ (decode cX6_runs 109 = .ok (.iconst 2, 1)))) ∧ (((decode cX6_runs 110 = .ok (.goto 4, 3)) ∧ (decode cX6_runs 113 = .ok (.iconst 0, 1))) ∧ ((decode cX6_runs 114 = .ok (.iadd, 1)) ∧ (decode cX6_runs 115 = .ok (.ireturn, 1))))) ∧ ((((decode cX6_runs 116 = .ok (.aload_n 0, 1)) ∧ (decode cX6_runs 117 = .ok (.iload_n 1, 1))) ∧ ((decode cX6_runs 118 = .ok (.invokevirtual 69, 3)) ∧ (decode cX6_runs 121 = .ok (.ifCond .ne 9, 3)))) ∧ (((decode cX6_runs 124 = .ok (.iconst 2, 1)) ∧ (decode cX6_runs 125 = .ok (.iload_n 3, 1))) ∧ ((decode cX6_runs 126 = .ok (.imul, 1)) ∧ (decode cX6_runs 127 = .ok (.goto 4, 3)))))) := by decide +kernel
theorem dX6_runs_100 : decode cX6_runs 100 = .ok (.invokevirtual 62, 3) := kX6_runs_100.1.1.1.1
theorem dX6_runs_103 : decode cX6_runs 103 = .ok (.invokevirtual 65, 3) := kX6_runs_100.1.1.1.2
theorem dX6_runs_106 : decode cX6_runs 106 = .ok (.ifCond .eq 7, 3) := kX6_runs_100.1.1.2.1
theorem dX6_runs_109 : decode cX6_runs 109 = .ok (.iconst 2, 1) := kX6_runs_100.1.1.2.2
theorem dX6_runs_110 : decode cX6_runs 110 = .ok (.goto 4, 3) := kX6_runs_100.1.2.1.1
theorem dX6_runs_113 : decode cX6_runs 113 = .ok (.iconst 0, 1) := kX6_runs_100.1.2.1.2
theorem dX6_runs_114 : decode cX6_runs 114 = .ok (.iadd, 1) := kX6_runs_100.1.2.2.1
theorem dX6_runs_115 : decode cX6_runs 115 = .ok (.ireturn, 1) := kX6_runs_100.1.2.2.2
theorem dX6_runs_116 : decode cX6_runs 116 = .ok (.aload_n 0, 1) := kX6_runs_100.2.1.1.1
theorem dX6_runs_117 : decode cX6_runs 117 = .ok (.iload_n 1, 1) := kX6_runs_100.2.1.1.2
theorem dX6_runs_118 : decode cX6_runs 118 = .ok (.invokevirtual 69, 3) := kX6_runs_100.2.1.2.1
theorem dX6_runs_121 : decode cX6_runs 121 = .ok (.ifCond .ne 9, 3) := kX6_runs_100.2.1.2.2
theorem dX6_runs_124 : decode cX6_runs 124 = .ok (.iconst 2, 1) := kX6_runs_100.2.2.1.1
theorem dX6_runs_125 : decode cX6_runs 125 = .ok (.iload_n 3, 1) := kX6_runs_100.2.2.1.2
theorem dX6_runs_126 : decode cX6_runs 126 = .ok (.imul, 1) := kX6_runs_100.2.2.2.1
theorem dX6_runs_127 : decode cX6_runs 127 = .ok (.goto 4, 3) := kX6_runs_100.2.2.2.2
theorem kX6_runs_130 : ((decode cX6_runs 130 = .ok (.iload_n 3, 1)) ∧ (decode cX6_runs 131 = .ok (.ireturn, 1))) := by decide +kernel
theorem dX6_runs_130 : decode cX6_runs 130 = .ok (.iload_n 3, 1) := kX6_runs_130.1
theorem dX6_runs_131 : decode cX6_runs 131 = .ok (.ireturn, 1) := kX6_runs_130.2
theorem kX6_isWinding_0 : (((((decode cX6_isWinding 0 = .ok (.aload_n 0, 1)) ∧ (decode cX6_isWinding 1 = .ok (.getfield 7, 3))) ∧ (decode cX6_isWinding 4 = .ok (.iconst 1, 1))) ∧ (((decode cX6_isWinding 5 = .ok (.iaload, 1)) ∧ (decode cX6_isWinding 6 = .ok (.bipush 8, 2))) ∧ (decode cX6_isWinding 8 = .ok (.irem, 1)))) ∧ ((((decode cX6_isWinding 9 = .ok (.ifCond .ne 7, 3)) ∧ (decode cX6_isWinding 12 = .ok (.iconst 1, 1))) ∧ (decode cX6_isWinding 13 = .ok (.goto 4, 3))) ∧ ((decode cX6_isWinding 16 = .ok (.iconst 0, 1)) ∧ (decode cX6_isWinding 17 = .ok (.ireturn, 1))))) := by decide +kernel
theorem dX6_isWinding_0 : decode cX6_isWinding 0 = .ok (.aload_n 0, 1) := kX6_isWinding_0.1.1.1.1
theorem dX6_isWinding_1 : decode cX6_isWinding 1 = .ok (.getfield 7, 3) := kX6_isWinding_0.1.1.1.2
theorem dX6_isWinding_4 : decode cX6_isWinding 4 = .ok (.iconst 1, 1) := kX6_isWinding_0.1.1.2
theorem dX6_isWinding_5 : decode cX6_isWinding 5 = .ok (.iaload, 1) := kX6_isWinding_0.1.2.1.1
theorem dX6_isWinding_6 : decode cX6_isWinding 6 = .ok (.bipush 8, 2) := kX6_isWinding_0.1.2.1.2
theorem dX6_isWinding_8 : decode cX6_isWinding 8 = .ok (.irem, 1) := kX6_isWinding_0.1.2.2
theorem dX6_isWinding_9 : decode cX6_isWinding 9 = .ok (.ifCond .ne 7, 3) := kX6_isWinding_0.2.1.1.1
theorem dX6_isWinding_12 : decode cX6_isWinding 12 = .ok (.iconst 1, 1) := kX6_isWinding_0.2.1.1.2
theorem dX6_isWinding_13 : decode cX6_isWinding 13 = .ok (.goto 4, 3) := kX6_isWinding_0.2.1.2
theorem dX6_isWinding_16 : decode cX6_isWinding 16 = .ok (.iconst 0, 1) := kX6_isWinding_0.2.2.1
theorem dX6_isWinding_17 : decode cX6_isWinding 17 = .ok (.ireturn, 1) := kX6_isWinding_0.2.2.2
set_option maxRecDepth 20000 in
theorem ggX6_winds_X6_isStopped : GoodIn wsX6_winds wsX6_isStopped := goodIn_r _ [7, 8, 9, 10, 6, 11, 12, 13, 14, 15, 2, 24, 25, 26, 27, 28, 29, 30, 31, 32, 33, 34, 35, 36, 37, 38, 39, 40, 41, 42] rfl (by decide +kernel)
set_option maxRecDepth 20000 in
theorem gX6_winds_X6_isStopped : GoodIn wsX6_winds (wsV RX6 65 RX6 yX6_isStopped wsX6_isStopped) := goodIn_app (goodIn_of _ (by decide +kernel)) ggX6_winds_X6_isStopped
set_option maxRecDepth 20000 in
theorem ggX6_winds_X6_whom : GoodIn wsX6_winds wsX6_whom := goodIn_r _ [19, 12, 13, 14, 6, 15, 2, 24, 25, 26, 27, 28, 29, 30, 31, 32, 33, 34, 35, 36, 37, 38, 39, 40, 41, 42] rfl (by decide +kernel)
set_option maxRecDepth 20000 in
theorem gX6_winds_X6_whom : GoodIn wsX6_winds (wsV RX6 62 RX6 yX6_whom wsX6_whom) := goodIn_app (goodIn_of _ (by decide +kernel)) ggX6_winds_X6_whom
set_option maxRecDepth 20000 in
theorem ggX6_winds_X6_told : GoodIn wsX6_winds wsX6_told := goodIn_r _ [15, 2, 24, 25, 26, 27, 28, 29, 30, 31, 32, 33, 34, 35, 36, 37, 38, 39, 40, 41, 42] rfl (by decide +kernel)
set_option maxRecDepth 20000 in
theorem gX6_winds_X6_told : GoodIn wsX6_winds (wsV RX6 54 RX6 yX6_told wsX6_told) := goodIn_app (goodIn_of _ (by decide +kernel)) ggX6_winds_X6_told
set_option maxRecDepth 20000 in
theorem ggX6_winds_X6_turns : GoodIn wsX6_winds wsX6_turns := goodIn_r _ [11, 12, 13, 14, 6, 15, 2, 24, 25, 26, 27, 28, 29, 30, 31, 32, 33, 34, 35, 36, 37, 38, 39, 40, 41, 42] rfl (by decide +kernel)
set_option maxRecDepth 20000 in
theorem gX6_winds_X6_turns : GoodIn wsX6_winds (wsV RX6 58 RX6 yX6_turns wsX6_turns) := goodIn_app (goodIn_of _ (by decide +kernel)) ggX6_winds_X6_turns
set_option maxRecDepth 20000 in
theorem ggX6_winds_X6_tells : GoodIn wsX6_winds wsX6_tells := goodIn_r _ [23, 2, 24, 25, 26, 27, 28, 29, 30, 31, 32, 33, 34, 35, 36, 37, 38, 39, 40, 41, 42] rfl (by decide +kernel)
set_option maxRecDepth 20000 in
theorem gX6_winds_X6_tells : GoodIn wsX6_winds (wsV RX6 72 RX6 yX6_tells wsX6_tells) := goodIn_app (goodIn_of _ (by decide +kernel)) ggX6_winds_X6_tells
theorem kX6_winds_0 : (((((decode cX6_winds 0 = .ok (.iconst 0, 1)) ∧ (decode cX6_winds 1 = .ok (.istore_n 2, 1))) ∧ ((decode cX6_winds 2 = .ok (.iload_n 2, 1)) ∧ (decode cX6_winds 3 = .ok (.bipush 6, 2)))) ∧ (((decode cX6_winds 5 = .ok (.if_icmp .ge 16, 3)) ∧ (decode cX6_winds 8 = .ok (.aload_n 0, 1))) ∧ ((decode cX6_winds 9 = .ok (.getfield 13, 3)) ∧ (decode cX6_winds 12 = .ok (.iload_n 2, 1))))) ∧ ((((decode cX6_winds 13 = .ok (.iconst 0, 1)) ∧ (decode cX6_winds 14 = .ok (.iastore, 1))) ∧ ((decode cX6_winds 15 = .ok (.iinc 2 1, 3)) ∧ (decode cX6_winds 18 = .ok (.goto (-16), 3)))) ∧ (((decode cX6_winds 21 = .ok (.iconst 0, 1)) ∧ (decode cX6_winds 22 = .ok (.istore_n 2, 1))) ∧ ((decode cX6_winds 23 = .ok (.iload_n 2, 1)) ∧ (decode cX6_winds 24 = .ok (.aload_n 0, 1)))))) := by decide +kernel
theorem dX6_winds_0 : decode cX6_winds 0 = .ok (.iconst 0, 1) := kX6_winds_0.1.1.1.1
theorem dX6_winds_1 : decode cX6_winds 1 = .ok (.istore_n 2, 1) := kX6_winds_0.1.1.1.2
theorem dX6_winds_2 : decode cX6_winds 2 = .ok (.iload_n 2, 1) := kX6_winds_0.1.1.2.1
theorem dX6_winds_3 : decode cX6_winds 3 = .ok (.bipush 6, 2) := kX6_winds_0.1.1.2.2
theorem dX6_winds_5 : decode cX6_winds 5 = .ok (.if_icmp .ge 16, 3) := kX6_winds_0.1.2.1.1
theorem dX6_winds_8 : decode cX6_winds 8 = .ok (.aload_n 0, 1) := kX6_winds_0.1.2.1.2
theorem dX6_winds_9 : decode cX6_winds 9 = .ok (.getfield 13, 3) := kX6_winds_0.1.2.2.1
theorem dX6_winds_12 : decode cX6_winds 12 = .ok (.iload_n 2, 1) := kX6_winds_0.1.2.2.2
theorem dX6_winds_13 : decode cX6_winds 13 = .ok (.iconst 0, 1) := kX6_winds_0.2.1.1.1
theorem dX6_winds_14 : decode cX6_winds 14 = .ok (.iastore, 1) := kX6_winds_0.2.1.1.2
theorem dX6_winds_15 : decode cX6_winds 15 = .ok (.iinc 2 1, 3) := kX6_winds_0.2.1.2.1
theorem dX6_winds_18 : decode cX6_winds 18 = .ok (.goto (-16), 3) := kX6_winds_0.2.1.2.2
theorem dX6_winds_21 : decode cX6_winds 21 = .ok (.iconst 0, 1) := kX6_winds_0.2.2.1.1
theorem dX6_winds_22 : decode cX6_winds 22 = .ok (.istore_n 2, 1) := kX6_winds_0.2.2.1.2
theorem dX6_winds_23 : decode cX6_winds 23 = .ok (.iload_n 2, 1) := kX6_winds_0.2.2.2.1
theorem dX6_winds_24 : decode cX6_winds 24 = .ok (.aload_n 0, 1) := kX6_winds_0.2.2.2.2
theorem kX6_winds_25 : (((((decode cX6_winds 25 = .ok (.getfield 7, 3)) ∧ (decode cX6_winds 28 = .ok (.iconst 0, 1))) ∧ ((decode cX6_winds 29 = .ok (.iaload, 1)) ∧ (decode cX6_winds 30 = .ok (.if_icmp .ge 54, 3)))) ∧ (((decode cX6_winds 33 = .ok (.aload_n 0, 1)) ∧ (decode cX6_winds 34 = .ok (.iload_n 2, 1))) ∧ ((decode cX6_winds 35 = .ok (.invokevirtual 65, 3)) ∧ (decode cX6_winds 38 = .ok (.ifCond .ne 40, 3))))) ∧ ((((decode cX6_winds 41 = .ok (.aload_n 0, 1)) ∧ (decode cX6_winds 42 = .ok (.iload_n 2, 1))) ∧ ((decode cX6_winds 43 = .ok (.invokevirtual 62, 3)) ∧ (decode cX6_winds 46 = .ok (.bipush (-4), 2)))) ∧ (((decode cX6_winds 48 = .ok (.if_icmp .eq 30, 3)) ∧ (decode cX6_winds 51 = .ok (.iload_n 1, 1))) ∧ ((decode cX6_winds 52 = .ok (.iload_n 2, 1)) ∧ (decode cX6_winds 53 = .ok (.ishr, 1)))))) := by decide +kernel
theorem dX6_winds_25 : decode cX6_winds 25 = .ok (.getfield 7, 3) := kX6_winds_25.1.1.1.1
theorem dX6_winds_28 : decode cX6_winds 28 = .ok (.iconst 0, 1) := kX6_winds_25.1.1.1.2
theorem dX6_winds_29 : decode cX6_winds 29 = .ok (.iaload, 1) := kX6_winds_25.1.1.2.1
theorem dX6_winds_30 : decode cX6_winds 30 = .ok (.if_icmp .ge 54, 3) := kX6_winds_25.1.1.2.2
theorem dX6_winds_33 : decode cX6_winds 33 = .ok (.aload_n 0, 1) := kX6_winds_25.1.2.1.1
theorem dX6_winds_34 : decode cX6_winds 34 = .ok (.iload_n 2, 1) := kX6_winds_25.1.2.1.2
theorem dX6_winds_35 : decode cX6_winds 35 = .ok (.invokevirtual 65, 3) := kX6_winds_25.1.2.2.1
theorem dX6_winds_38 : decode cX6_winds 38 = .ok (.ifCond .ne 40, 3) := kX6_winds_25.1.2.2.2
theorem dX6_winds_41 : decode cX6_winds 41 = .ok (.aload_n 0, 1) := kX6_winds_25.2.1.1.1
theorem dX6_winds_42 : decode cX6_winds 42 = .ok (.iload_n 2, 1) := kX6_winds_25.2.1.1.2
theorem dX6_winds_43 : decode cX6_winds 43 = .ok (.invokevirtual 62, 3) := kX6_winds_25.2.1.2.1
theorem dX6_winds_46 : decode cX6_winds 46 = .ok (.bipush (-4), 2) := kX6_winds_25.2.1.2.2
theorem dX6_winds_48 : decode cX6_winds 48 = .ok (.if_icmp .eq 30, 3) := kX6_winds_25.2.2.1.1
theorem dX6_winds_51 : decode cX6_winds 51 = .ok (.iload_n 1, 1) := kX6_winds_25.2.2.1.2
theorem dX6_winds_52 : decode cX6_winds 52 = .ok (.iload_n 2, 1) := kX6_winds_25.2.2.2.1
theorem dX6_winds_53 : decode cX6_winds 53 = .ok (.ishr, 1) := kX6_winds_25.2.2.2.2
theorem kX6_winds_54 : (((((decode cX6_winds 54 = .ok (.iconst 1, 1)) ∧ (decode cX6_winds 55 = .ok (.iand, 1))) ∧ ((decode cX6_winds 56 = .ok (.ifCond .ne 22, 3)) ∧ (decode cX6_winds 59 = .ok (.aload_n 0, 1)))) ∧ (((decode cX6_winds 60 = .ok (.getfield 13, 3)) ∧ (decode cX6_winds 63 = .ok (.aload_n 0, 1))) ∧ ((decode cX6_winds 64 = .ok (.iload_n 2, 1)) ∧ (decode cX6_winds 65 = .ok (.invokevirtual 62, 3))))) ∧ ((((decode cX6_winds 68 = .ok (.dup2, 1)) ∧ (decode cX6_winds 69 = .ok (.iaload, 1))) ∧ ((decode cX6_winds 70 = .ok (.aload_n 0, 1)) ∧ (decode cX6_winds 71 = .ok (.iload_n 2, 1)))) ∧ (((decode cX6_winds 72 = .ok (.iconst 3, 1)) ∧ (decode cX6_winds 73 = .ok (.invokevirtual 54, 3))) ∧ ((decode cX6_winds 76 = .ok (.iadd, 1)) ∧ (decode cX6_winds 77 = .ok (.iastore, 1)))))) := by decide +kernel
theorem dX6_winds_54 : decode cX6_winds 54 = .ok (.iconst 1, 1) := kX6_winds_54.1.1.1.1
theorem dX6_winds_55 : decode cX6_winds 55 = .ok (.iand, 1) := kX6_winds_54.1.1.1.2
theorem dX6_winds_56 : decode cX6_winds 56 = .ok (.ifCond .ne 22, 3) := kX6_winds_54.1.1.2.1
theorem dX6_winds_59 : decode cX6_winds 59 = .ok (.aload_n 0, 1) := kX6_winds_54.1.1.2.2
theorem dX6_winds_60 : decode cX6_winds 60 = .ok (.getfield 13, 3) := kX6_winds_54.1.2.1.1
theorem dX6_winds_63 : decode cX6_winds 63 = .ok (.aload_n 0, 1) := kX6_winds_54.1.2.1.2
theorem dX6_winds_64 : decode cX6_winds 64 = .ok (.iload_n 2, 1) := kX6_winds_54.1.2.2.1
theorem dX6_winds_65 : decode cX6_winds 65 = .ok (.invokevirtual 62, 3) := kX6_winds_54.1.2.2.2
theorem dX6_winds_68 : decode cX6_winds 68 = .ok (.dup2, 1) := kX6_winds_54.2.1.1.1
theorem dX6_winds_69 : decode cX6_winds 69 = .ok (.iaload, 1) := kX6_winds_54.2.1.1.2
theorem dX6_winds_70 : decode cX6_winds 70 = .ok (.aload_n 0, 1) := kX6_winds_54.2.1.2.1
theorem dX6_winds_71 : decode cX6_winds 71 = .ok (.iload_n 2, 1) := kX6_winds_54.2.1.2.2
theorem dX6_winds_72 : decode cX6_winds 72 = .ok (.iconst 3, 1) := kX6_winds_54.2.2.1.1
theorem dX6_winds_73 : decode cX6_winds 73 = .ok (.invokevirtual 54, 3) := kX6_winds_54.2.2.1.2
theorem dX6_winds_76 : decode cX6_winds 76 = .ok (.iadd, 1) := kX6_winds_54.2.2.2.1
theorem dX6_winds_77 : decode cX6_winds 77 = .ok (.iastore, 1) := kX6_winds_54.2.2.2.2
theorem kX6_winds_78 : (((((decode cX6_winds 78 = .ok (.iinc 2 1, 3)) ∧ (decode cX6_winds 81 = .ok (.goto (-58), 3))) ∧ ((decode cX6_winds 84 = .ok (.iconst 0, 1)) ∧ (decode cX6_winds 85 = .ok (.istore_n 2, 1)))) ∧ (((decode cX6_winds 86 = .ok (.iload_n 2, 1)) ∧ (decode cX6_winds 87 = .ok (.aload_n 0, 1))) ∧ ((decode cX6_winds 88 = .ok (.getfield 7, 3)) ∧ (decode cX6_winds 91 = .ok (.iconst 0, 1))))) ∧ ((((decode cX6_winds 92 = .ok (.iaload, 1)) ∧ (decode cX6_winds 93 = .ok (.if_icmp .ge 40, 3))) ∧ ((decode cX6_winds 96 = .ok (.aload_n 0, 1)) ∧ (decode cX6_winds 97 = .ok (.iload_n 2, 1)))) ∧ (((decode cX6_winds 98 = .ok (.invokevirtual 58, 3)) ∧ (decode cX6_winds 101 = .ok (.aload_n 0, 1))) ∧ ((decode cX6_winds 102 = .ok (.getfield 13, 3)) ∧ (decode cX6_winds 105 = .ok (.iload_n 2, 1)))))) := by decide +kernel
theorem dX6_winds_78 : decode cX6_winds 78 = .ok (.iinc 2 1, 3) := kX6_winds_78.1.1.1.1
theorem dX6_winds_81 : decode cX6_winds 81 = .ok (.goto (-58), 3) := kX6_winds_78.1.1.1.2
theorem dX6_winds_84 : decode cX6_winds 84 = .ok (.iconst 0, 1) := kX6_winds_78.1.1.2.1
theorem dX6_winds_85 : decode cX6_winds 85 = .ok (.istore_n 2, 1) := kX6_winds_78.1.1.2.2
theorem dX6_winds_86 : decode cX6_winds 86 = .ok (.iload_n 2, 1) := kX6_winds_78.1.2.1.1
theorem dX6_winds_87 : decode cX6_winds 87 = .ok (.aload_n 0, 1) := kX6_winds_78.1.2.1.2
theorem dX6_winds_88 : decode cX6_winds 88 = .ok (.getfield 7, 3) := kX6_winds_78.1.2.2.1
theorem dX6_winds_91 : decode cX6_winds 91 = .ok (.iconst 0, 1) := kX6_winds_78.1.2.2.2
theorem dX6_winds_92 : decode cX6_winds 92 = .ok (.iaload, 1) := kX6_winds_78.2.1.1.1
theorem dX6_winds_93 : decode cX6_winds 93 = .ok (.if_icmp .ge 40, 3) := kX6_winds_78.2.1.1.2
theorem dX6_winds_96 : decode cX6_winds 96 = .ok (.aload_n 0, 1) := kX6_winds_78.2.1.2.1
theorem dX6_winds_97 : decode cX6_winds 97 = .ok (.iload_n 2, 1) := kX6_winds_78.2.1.2.2
theorem dX6_winds_98 : decode cX6_winds 98 = .ok (.invokevirtual 58, 3) := kX6_winds_78.2.2.1.1
theorem dX6_winds_101 : decode cX6_winds 101 = .ok (.aload_n 0, 1) := kX6_winds_78.2.2.1.2
theorem dX6_winds_102 : decode cX6_winds 102 = .ok (.getfield 13, 3) := kX6_winds_78.2.2.2.1
theorem dX6_winds_105 : decode cX6_winds 105 = .ok (.iload_n 2, 1) := kX6_winds_78.2.2.2.2
theorem kX6_winds_106 : (((((decode cX6_winds 106 = .ok (.iaload, 1)) ∧ (decode cX6_winds 107 = .ok (.iadd, 1))) ∧ ((decode cX6_winds 108 = .ok (.istore_n 3, 1)) ∧ (decode cX6_winds 109 = .ok (.aload_n 0, 1)))) ∧ (((decode cX6_winds 110 = .ok (.iload_n 2, 1)) ∧ (decode cX6_winds 111 = .ok (.iconst 1, 1))) ∧ ((decode cX6_winds 112 = .ok (.iload_n 3, 1)) ∧ (decode cX6_winds 113 = .ok (.bipush 30, 2))))) ∧ ((((decode cX6_winds 115 = .ok (.if_icmp .le 8, 3)) ∧ (decode cX6_winds 118 = .ok (.bipush 30, 2))) ∧ ((decode cX6_winds 120 = .ok (.goto 4, 3)) ∧ (decode cX6_winds 123 = .ok (.iload_n 3, 1)))) ∧ (((decode cX6_winds 124 = .ok (.invokevirtual 72, 3)) ∧ (decode cX6_winds 127 = .ok (.iinc 2 1, 3))) ∧ ((decode cX6_winds 130 = .ok (.goto (-44), 3)) ∧ (decode cX6_winds 133 = .ok (.return_, 1)))))) := by decide +kernel
theorem dX6_winds_106 : decode cX6_winds 106 = .ok (.iaload, 1) := kX6_winds_106.1.1.1.1
theorem dX6_winds_107 : decode cX6_winds 107 = .ok (.iadd, 1) := kX6_winds_106.1.1.1.2
theorem dX6_winds_108 : decode cX6_winds 108 = .ok (.istore_n 3, 1) := kX6_winds_106.1.1.2.1
theorem dX6_winds_109 : decode cX6_winds 109 = .ok (.aload_n 0, 1) := kX6_winds_106.1.1.2.2
theorem dX6_winds_110 : decode cX6_winds 110 = .ok (.iload_n 2, 1) := kX6_winds_106.1.2.1.1
theorem dX6_winds_111 : decode cX6_winds 111 = .ok (.iconst 1, 1) := kX6_winds_106.1.2.1.2
theorem dX6_winds_112 : decode cX6_winds 112 = .ok (.iload_n 3, 1) := kX6_winds_106.1.2.2.1
theorem dX6_winds_113 : decode cX6_winds 113 = .ok (.bipush 30, 2) := kX6_winds_106.1.2.2.2
theorem dX6_winds_115 : decode cX6_winds 115 = .ok (.if_icmp .le 8, 3) := kX6_winds_106.2.1.1.1
theorem dX6_winds_118 : decode cX6_winds 118 = .ok (.bipush 30, 2) := kX6_winds_106.2.1.1.2
theorem dX6_winds_120 : decode cX6_winds 120 = .ok (.goto 4, 3) := kX6_winds_106.2.1.2.1
theorem dX6_winds_123 : decode cX6_winds 123 = .ok (.iload_n 3, 1) := kX6_winds_106.2.1.2.2
theorem dX6_winds_124 : decode cX6_winds 124 = .ok (.invokevirtual 72, 3) := kX6_winds_106.2.2.1.1
theorem dX6_winds_127 : decode cX6_winds 127 = .ok (.iinc 2 1, 3) := kX6_winds_106.2.2.1.2
theorem dX6_winds_130 : decode cX6_winds 130 = .ok (.goto (-44), 3) := kX6_winds_106.2.2.2.1
theorem dX6_winds_133 : decode cX6_winds 133 = .ok (.return_, 1) := kX6_winds_106.2.2.2.2
set_option maxRecDepth 20000 in
theorem ggX6_goesBy_X6_isWinding : GoodIn wsX6_goesBy wsX6_isWinding := goodIn_r _ [7, 1, 40, 41, 42, 43, 44, 45, 46, 47, 48, 49, 50, 51, 52, 53, 54, 55, 56, 57, 58] rfl (by decide +kernel)
set_option maxRecDepth 20000 in
theorem gX6_goesBy_X6_isWinding : GoodIn wsX6_goesBy (wsV RX6 76 RX6 yX6_isWinding wsX6_isWinding) := goodIn_app (goodIn_of _ (by decide +kernel)) ggX6_goesBy_X6_isWinding
set_option maxRecDepth 20000 in
theorem ggX6_goesBy_X6_winds : GoodIn wsX6_goesBy wsX6_winds := goodIn_r _ [11, 2, 1, 12, 13, 14, 6, 15, 16, 17, 18, 19, 20, 21, 22, 23, 24, 25, 26, 27, 28, 29, 30, 31, 40, 41, 42, 43, 44, 45, 46, 47, 48, 49, 50, 51, 52, 53, 54, 55, 56, 57, 58] rfl (by decide +kernel)
set_option maxRecDepth 20000 in
theorem gX6_goesBy_X6_winds : GoodIn wsX6_goesBy (wsV RX6 80 RX6 yX6_winds wsX6_winds) := goodIn_app (goodIn_of _ (by decide +kernel)) ggX6_goesBy_X6_winds
set_option maxRecDepth 20000 in
theorem ggX6_goesBy_X6_runs : GoodIn wsX6_goesBy wsX6_runs := goodIn_r _ [35, 1, 12, 13, 14, 6, 15, 16, 17, 18, 19, 20, 21, 22, 23, 24, 25, 26, 27, 36, 37, 38, 39, 40, 41, 42, 43, 44, 45, 46, 47, 48, 49, 50, 51, 52, 53, 54, 55, 56, 57, 58] rfl (by decide +kernel)
set_option maxRecDepth 20000 in
theorem gX6_goesBy_X6_runs : GoodIn wsX6_goesBy (wsV RX6 84 RX6 yX6_runs wsX6_runs) := goodIn_app (goodIn_of _ (by decide +kernel)) ggX6_goesBy_X6_runs
set_option maxRecDepth 20000 in
theorem ggX6_goesBy_X6_turns : GoodIn wsX6_goesBy wsX6_turns := goodIn_r _ [19, 20, 21, 22, 6, 23, 1, 40, 41, 42, 43, 44, 45, 46, 47, 48, 49, 50, 51, 52, 53, 54, 55, 56, 57, 58] rfl (by decide +kernel)
set_option maxRecDepth 20000 in
theorem gX6_goesBy_X6_turns : GoodIn wsX6_goesBy (wsV RX6 58 RX6 yX6_turns wsX6_turns) := goodIn_app (goodIn_of _ (by decide +kernel)) ggX6_goesBy_X6_turns
set_option maxRecDepth 20000 in
theorem ggX6_goesBy_X6_tells : GoodIn wsX6_goesBy wsX6_tells := goodIn_r _ [31, 1, 40, 41, 42, 43, 44, 45, 46, 47, 48, 49, 50, 51, 52, 53, 54, 55, 56, 57, 58] rfl (by decide +kernel)
set_option maxRecDepth 20000 in
theorem gX6_goesBy_X6_tells : GoodIn wsX6_goesBy (wsV RX6 72 RX6 yX6_tells wsX6_tells) := goodIn_app (goodIn_of _ (by decide +kernel)) ggX6_goesBy_X6_tells
theorem kX6_goesBy_0 : (((((decode cX6_goesBy 0 = .ok (.aload_n 0, 1)) ∧ (decode cX6_goesBy 1 = .ok (.invokevirtual 76, 3))) ∧ ((decode cX6_goesBy 4 = .ok (.ifCond .eq 8, 3)) ∧ (decode cX6_goesBy 7 = .ok (.aload_n 0, 1)))) ∧ (((decode cX6_goesBy 8 = .ok (.iload_n 1, 1)) ∧ (decode cX6_goesBy 9 = .ok (.invokevirtual 80, 3))) ∧ ((decode cX6_goesBy 12 = .ok (.iconst 0, 1)) ∧ (decode cX6_goesBy 13 = .ok (.istore_n 2, 1))))) ∧ ((((decode cX6_goesBy 14 = .ok (.iload_n 2, 1)) ∧ (decode cX6_goesBy 15 = .ok (.aload_n 0, 1))) ∧ ((decode cX6_goesBy 16 = .ok (.getfield 7, 3)) ∧ (decode cX6_goesBy 19 = .ok (.iconst 0, 1)))) ∧ (((decode cX6_goesBy 20 = .ok (.iaload, 1)) ∧ (decode cX6_goesBy 21 = .ok (.if_icmp .ge 20, 3))) ∧ ((decode cX6_goesBy 24 = .ok (.aload_n 0, 1)) ∧ (decode cX6_goesBy 25 = .ok (.getfield 13, 3)))))) := by decide +kernel
theorem dX6_goesBy_0 : decode cX6_goesBy 0 = .ok (.aload_n 0, 1) := kX6_goesBy_0.1.1.1.1
theorem dX6_goesBy_1 : decode cX6_goesBy 1 = .ok (.invokevirtual 76, 3) := kX6_goesBy_0.1.1.1.2
theorem dX6_goesBy_4 : decode cX6_goesBy 4 = .ok (.ifCond .eq 8, 3) := kX6_goesBy_0.1.1.2.1
theorem dX6_goesBy_7 : decode cX6_goesBy 7 = .ok (.aload_n 0, 1) := kX6_goesBy_0.1.1.2.2
theorem dX6_goesBy_8 : decode cX6_goesBy 8 = .ok (.iload_n 1, 1) := kX6_goesBy_0.1.2.1.1
theorem dX6_goesBy_9 : decode cX6_goesBy 9 = .ok (.invokevirtual 80, 3) := kX6_goesBy_0.1.2.1.2
theorem dX6_goesBy_12 : decode cX6_goesBy 12 = .ok (.iconst 0, 1) := kX6_goesBy_0.1.2.2.1
theorem dX6_goesBy_13 : decode cX6_goesBy 13 = .ok (.istore_n 2, 1) := kX6_goesBy_0.1.2.2.2
theorem dX6_goesBy_14 : decode cX6_goesBy 14 = .ok (.iload_n 2, 1) := kX6_goesBy_0.2.1.1.1
theorem dX6_goesBy_15 : decode cX6_goesBy 15 = .ok (.aload_n 0, 1) := kX6_goesBy_0.2.1.1.2
theorem dX6_goesBy_16 : decode cX6_goesBy 16 = .ok (.getfield 7, 3) := kX6_goesBy_0.2.1.2.1
theorem dX6_goesBy_19 : decode cX6_goesBy 19 = .ok (.iconst 0, 1) := kX6_goesBy_0.2.1.2.2
theorem dX6_goesBy_20 : decode cX6_goesBy 20 = .ok (.iaload, 1) := kX6_goesBy_0.2.2.1.1
theorem dX6_goesBy_21 : decode cX6_goesBy 21 = .ok (.if_icmp .ge 20, 3) := kX6_goesBy_0.2.2.1.2
theorem dX6_goesBy_24 : decode cX6_goesBy 24 = .ok (.aload_n 0, 1) := kX6_goesBy_0.2.2.2.1
theorem dX6_goesBy_25 : decode cX6_goesBy 25 = .ok (.getfield 13, 3) := kX6_goesBy_0.2.2.2.2
theorem kX6_goesBy_28 : (((((decode cX6_goesBy 28 = .ok (.iload_n 2, 1)) ∧ (decode cX6_goesBy 29 = .ok (.aload_n 0, 1))) ∧ ((decode cX6_goesBy 30 = .ok (.iload_n 2, 1)) ∧ (decode cX6_goesBy 31 = .ok (.invokevirtual 84, 3)))) ∧ (((decode cX6_goesBy 34 = .ok (.iastore, 1)) ∧ (decode cX6_goesBy 35 = .ok (.iinc 2 1, 3))) ∧ ((decode cX6_goesBy 38 = .ok (.goto (-24), 3)) ∧ (decode cX6_goesBy 41 = .ok (.iconst 0, 1))))) ∧ ((((decode cX6_goesBy 42 = .ok (.istore_n 2, 1)) ∧ (decode cX6_goesBy 43 = .ok (.iload_n 2, 1))) ∧ ((decode cX6_goesBy 44 = .ok (.aload_n 0, 1)) ∧ (decode cX6_goesBy 45 = .ok (.getfield 7, 3)))) ∧ (((decode cX6_goesBy 48 = .ok (.iconst 0, 1)) ∧ (decode cX6_goesBy 49 = .ok (.iaload, 1))) ∧ ((decode cX6_goesBy 50 = .ok (.if_icmp .ge 37, 3)) ∧ (decode cX6_goesBy 53 = .ok (.aload_n 0, 1)))))) := by decide +kernel
theorem dX6_goesBy_28 : decode cX6_goesBy 28 = .ok (.iload_n 2, 1) := kX6_goesBy_28.1.1.1.1
theorem dX6_goesBy_29 : decode cX6_goesBy 29 = .ok (.aload_n 0, 1) := kX6_goesBy_28.1.1.1.2
theorem dX6_goesBy_30 : decode cX6_goesBy 30 = .ok (.iload_n 2, 1) := kX6_goesBy_28.1.1.2.1
theorem dX6_goesBy_31 : decode cX6_goesBy 31 = .ok (.invokevirtual 84, 3) := kX6_goesBy_28.1.1.2.2
theorem dX6_goesBy_34 : decode cX6_goesBy 34 = .ok (.iastore, 1) := kX6_goesBy_28.1.2.1.1
theorem dX6_goesBy_35 : decode cX6_goesBy 35 = .ok (.iinc 2 1, 3) := kX6_goesBy_28.1.2.1.2
theorem dX6_goesBy_38 : decode cX6_goesBy 38 = .ok (.goto (-24), 3) := kX6_goesBy_28.1.2.2.1
theorem dX6_goesBy_41 : decode cX6_goesBy 41 = .ok (.iconst 0, 1) := kX6_goesBy_28.1.2.2.2
theorem dX6_goesBy_42 : decode cX6_goesBy 42 = .ok (.istore_n 2, 1) := kX6_goesBy_28.2.1.1.1
theorem dX6_goesBy_43 : decode cX6_goesBy 43 = .ok (.iload_n 2, 1) := kX6_goesBy_28.2.1.1.2
theorem dX6_goesBy_44 : decode cX6_goesBy 44 = .ok (.aload_n 0, 1) := kX6_goesBy_28.2.1.2.1
theorem dX6_goesBy_45 : decode cX6_goesBy 45 = .ok (.getfield 7, 3) := kX6_goesBy_28.2.1.2.2
theorem dX6_goesBy_48 : decode cX6_goesBy 48 = .ok (.iconst 0, 1) := kX6_goesBy_28.2.2.1.1
theorem dX6_goesBy_49 : decode cX6_goesBy 49 = .ok (.iaload, 1) := kX6_goesBy_28.2.2.1.2
theorem dX6_goesBy_50 : decode cX6_goesBy 50 = .ok (.if_icmp .ge 37, 3) := kX6_goesBy_28.2.2.2.1
theorem dX6_goesBy_53 : decode cX6_goesBy 53 = .ok (.aload_n 0, 1) := kX6_goesBy_28.2.2.2.2
theorem kX6_goesBy_54 : (((((decode cX6_goesBy 54 = .ok (.iload_n 2, 1)) ∧ (decode cX6_goesBy 55 = .ok (.invokevirtual 58, 3))) ∧ ((decode cX6_goesBy 58 = .ok (.aload_n 0, 1)) ∧ (decode cX6_goesBy 59 = .ok (.getfield 13, 3)))) ∧ (((decode cX6_goesBy 62 = .ok (.iload_n 2, 1)) ∧ (decode cX6_goesBy 63 = .ok (.iaload, 1))) ∧ ((decode cX6_goesBy 64 = .ok (.isub, 1)) ∧ (decode cX6_goesBy 65 = .ok (.istore_n 3, 1))))) ∧ ((((decode cX6_goesBy 66 = .ok (.aload_n 0, 1)) ∧ (decode cX6_goesBy 67 = .ok (.iload_n 2, 1))) ∧ ((decode cX6_goesBy 68 = .ok (.iconst 1, 1)) ∧ (decode cX6_goesBy 69 = .ok (.iload_n 3, 1)))) ∧ (((decode cX6_goesBy 70 = .ok (.ifCond .ge 7, 3)) ∧ (decode cX6_goesBy 73 = .ok (.iconst 0, 1))) ∧ ((decode cX6_goesBy 74 = .ok (.goto 4, 3)) ∧ (decode cX6_goesBy 77 = .ok (.iload_n 3, 1)))))) := by decide +kernel
theorem dX6_goesBy_54 : decode cX6_goesBy 54 = .ok (.iload_n 2, 1) := kX6_goesBy_54.1.1.1.1
theorem dX6_goesBy_55 : decode cX6_goesBy 55 = .ok (.invokevirtual 58, 3) := kX6_goesBy_54.1.1.1.2
theorem dX6_goesBy_58 : decode cX6_goesBy 58 = .ok (.aload_n 0, 1) := kX6_goesBy_54.1.1.2.1
theorem dX6_goesBy_59 : decode cX6_goesBy 59 = .ok (.getfield 13, 3) := kX6_goesBy_54.1.1.2.2
theorem dX6_goesBy_62 : decode cX6_goesBy 62 = .ok (.iload_n 2, 1) := kX6_goesBy_54.1.2.1.1
theorem dX6_goesBy_63 : decode cX6_goesBy 63 = .ok (.iaload, 1) := kX6_goesBy_54.1.2.1.2
theorem dX6_goesBy_64 : decode cX6_goesBy 64 = .ok (.isub, 1) := kX6_goesBy_54.1.2.2.1
theorem dX6_goesBy_65 : decode cX6_goesBy 65 = .ok (.istore_n 3, 1) := kX6_goesBy_54.1.2.2.2
theorem dX6_goesBy_66 : decode cX6_goesBy 66 = .ok (.aload_n 0, 1) := kX6_goesBy_54.2.1.1.1
theorem dX6_goesBy_67 : decode cX6_goesBy 67 = .ok (.iload_n 2, 1) := kX6_goesBy_54.2.1.1.2
theorem dX6_goesBy_68 : decode cX6_goesBy 68 = .ok (.iconst 1, 1) := kX6_goesBy_54.2.1.2.1
theorem dX6_goesBy_69 : decode cX6_goesBy 69 = .ok (.iload_n 3, 1) := kX6_goesBy_54.2.1.2.2
theorem dX6_goesBy_70 : decode cX6_goesBy 70 = .ok (.ifCond .ge 7, 3) := kX6_goesBy_54.2.2.1.1
theorem dX6_goesBy_73 : decode cX6_goesBy 73 = .ok (.iconst 0, 1) := kX6_goesBy_54.2.2.1.2
theorem dX6_goesBy_74 : decode cX6_goesBy 74 = .ok (.goto 4, 3) := kX6_goesBy_54.2.2.2.1
theorem dX6_goesBy_77 : decode cX6_goesBy 77 = .ok (.iload_n 3, 1) := kX6_goesBy_54.2.2.2.2
theorem kX6_goesBy_78 : (((((decode cX6_goesBy 78 = .ok (.invokevirtual 72, 3)) ∧ (decode cX6_goesBy 81 = .ok (.iinc 2 1, 3))) ∧ (decode cX6_goesBy 84 = .ok (.goto (-41), 3))) ∧ (((decode cX6_goesBy 87 = .ok (.aload_n 0, 1)) ∧ (decode cX6_goesBy 88 = .ok (.getfield 7, 3))) ∧ (decode cX6_goesBy 91 = .ok (.iconst 1, 1)))) ∧ ((((decode cX6_goesBy 92 = .ok (.dup2, 1)) ∧ (decode cX6_goesBy 93 = .ok (.iaload, 1))) ∧ (decode cX6_goesBy 94 = .ok (.iconst 1, 1))) ∧ (((decode cX6_goesBy 95 = .ok (.iadd, 1)) ∧ (decode cX6_goesBy 96 = .ok (.iastore, 1))) ∧ (decode cX6_goesBy 97 = .ok (.return_, 1))))) := by decide +kernel
theorem dX6_goesBy_78 : decode cX6_goesBy 78 = .ok (.invokevirtual 72, 3) := kX6_goesBy_78.1.1.1.1
theorem dX6_goesBy_81 : decode cX6_goesBy 81 = .ok (.iinc 2 1, 3) := kX6_goesBy_78.1.1.1.2
theorem dX6_goesBy_84 : decode cX6_goesBy 84 = .ok (.goto (-41), 3) := kX6_goesBy_78.1.1.2
theorem dX6_goesBy_87 : decode cX6_goesBy 87 = .ok (.aload_n 0, 1) := kX6_goesBy_78.1.2.1.1
theorem dX6_goesBy_88 : decode cX6_goesBy 88 = .ok (.getfield 7, 3) := kX6_goesBy_78.1.2.1.2
theorem dX6_goesBy_91 : decode cX6_goesBy 91 = .ok (.iconst 1, 1) := kX6_goesBy_78.1.2.2
theorem dX6_goesBy_92 : decode cX6_goesBy 92 = .ok (.dup2, 1) := kX6_goesBy_78.2.1.1.1
theorem dX6_goesBy_93 : decode cX6_goesBy 93 = .ok (.iaload, 1) := kX6_goesBy_78.2.1.1.2
theorem dX6_goesBy_94 : decode cX6_goesBy 94 = .ok (.iconst 1, 1) := kX6_goesBy_78.2.1.2
theorem dX6_goesBy_95 : decode cX6_goesBy 95 = .ok (.iadd, 1) := kX6_goesBy_78.2.2.1.1
theorem dX6_goesBy_96 : decode cX6_goesBy 96 = .ok (.iastore, 1) := kX6_goesBy_78.2.2.1.2
theorem dX6_goesBy_97 : decode cX6_goesBy 97 = .ok (.return_, 1) := kX6_goesBy_78.2.2.2
set_option maxRecDepth 20000 in
theorem ggX6_goesOn_X6_goesBy : GoodIn wsX6_goesOn wsX6_goesBy := goodIn_r _ [5, 6, 7, 8, 9, 10, 4, 11, 12, 13, 14, 15, 16, 17, 18, 19, 20, 21, 22, 23, 24, 25, 26, 27, 28, 29, 30, 31, 32, 33, 34, 35, 36, 37, 38, 39, 40, 41, 42, 43, 44, 45, 46, 47, 48, 49, 50, 51, 52, 53, 54, 55, 56, 57, 58, 59, 60, 61, 62] rfl (by decide +kernel)
set_option maxRecDepth 20000 in
theorem gX6_goesOn_X6_goesBy : GoodIn wsX6_goesOn (wsV RX6 87 RX6 yX6_goesBy wsX6_goesBy) := goodIn_app (goodIn_of _ (by decide +kernel)) ggX6_goesOn_X6_goesBy
theorem kX6_goesOn_0 : (((((decode cX6_goesOn 0 = .ok (.iconst 0, 1)) ∧ (decode cX6_goesOn 1 = .ok (.istore_n 2, 1))) ∧ (decode cX6_goesOn 2 = .ok (.iload_n 2, 1))) ∧ (((decode cX6_goesOn 3 = .ok (.iload_n 1, 1)) ∧ (decode cX6_goesOn 4 = .ok (.if_icmp .ge 14, 3))) ∧ (decode cX6_goesOn 7 = .ok (.aload_n 0, 1)))) ∧ ((((decode cX6_goesOn 8 = .ok (.iconst 0, 1)) ∧ (decode cX6_goesOn 9 = .ok (.invokevirtual 87, 3))) ∧ (decode cX6_goesOn 12 = .ok (.iinc 2 1, 3))) ∧ ((decode cX6_goesOn 15 = .ok (.goto (-13), 3)) ∧ (decode cX6_goesOn 18 = .ok (.return_, 1))))) := by decide +kernel
theorem dX6_goesOn_0 : decode cX6_goesOn 0 = .ok (.iconst 0, 1) := kX6_goesOn_0.1.1.1.1
theorem dX6_goesOn_1 : decode cX6_goesOn 1 = .ok (.istore_n 2, 1) := kX6_goesOn_0.1.1.1.2
theorem dX6_goesOn_2 : decode cX6_goesOn 2 = .ok (.iload_n 2, 1) := kX6_goesOn_0.1.1.2
theorem dX6_goesOn_3 : decode cX6_goesOn 3 = .ok (.iload_n 1, 1) := kX6_goesOn_0.1.2.1.1
theorem dX6_goesOn_4 : decode cX6_goesOn 4 = .ok (.if_icmp .ge 14, 3) := kX6_goesOn_0.1.2.1.2
theorem dX6_goesOn_7 : decode cX6_goesOn 7 = .ok (.aload_n 0, 1) := kX6_goesOn_0.1.2.2
theorem dX6_goesOn_8 : decode cX6_goesOn 8 = .ok (.iconst 0, 1) := kX6_goesOn_0.2.1.1.1
theorem dX6_goesOn_9 : decode cX6_goesOn 9 = .ok (.invokevirtual 87, 3) := kX6_goesOn_0.2.1.1.2
theorem dX6_goesOn_12 : decode cX6_goesOn 12 = .ok (.iinc 2 1, 3) := kX6_goesOn_0.2.1.2
theorem dX6_goesOn_15 : decode cX6_goesOn 15 = .ok (.goto (-13), 3) := kX6_goesOn_0.2.2.1
theorem dX6_goesOn_18 : decode cX6_goesOn 18 = .ok (.return_, 1) := kX6_goesOn_0.2.2.2
set_option maxRecDepth 20000 in
theorem ggX6_stopped_X6_isStopped : GoodIn wsX6_stopped wsX6_isStopped := goodIn_r _ [6, 7, 8, 9, 5, 10, 11, 12, 13, 14, 1, 15, 16, 17, 18, 19, 20, 21, 22, 23, 24, 25, 26, 27, 28, 29, 30, 31, 32, 33] rfl (by decide +kernel)
set_option maxRecDepth 20000 in
theorem gX6_stopped_X6_isStopped : GoodIn wsX6_stopped (wsV RX6 65 RX6 yX6_isStopped wsX6_isStopped) := goodIn_app (goodIn_of _ (by decide +kernel)) ggX6_stopped_X6_isStopped
theorem kX6_stopped_0 : (((((decode cX6_stopped 0 = .ok (.iconst 0, 1)) ∧ (decode cX6_stopped 1 = .ok (.istore_n 1, 1))) ∧ ((decode cX6_stopped 2 = .ok (.iconst 0, 1)) ∧ (decode cX6_stopped 3 = .ok (.istore_n 2, 1)))) ∧ (((decode cX6_stopped 4 = .ok (.iload_n 2, 1)) ∧ (decode cX6_stopped 5 = .ok (.aload_n 0, 1))) ∧ ((decode cX6_stopped 6 = .ok (.getfield 7, 3)) ∧ (decode cX6_stopped 9 = .ok (.iconst 0, 1))))) ∧ ((((decode cX6_stopped 10 = .ok (.iaload, 1)) ∧ (decode cX6_stopped 11 = .ok (.if_icmp .ge 27, 3))) ∧ ((decode cX6_stopped 14 = .ok (.iload_n 1, 1)) ∧ (decode cX6_stopped 15 = .ok (.aload_n 0, 1)))) ∧ (((decode cX6_stopped 16 = .ok (.iload_n 2, 1)) ∧ (decode cX6_stopped 17 = .ok (.invokevirtual 65, 3))) ∧ ((decode cX6_stopped 20 = .ok (.ifCond .eq 9, 3)) ∧ (decode cX6_stopped 23 = .ok (.iconst 1, 1)))))) := by decide +kernel
theorem dX6_stopped_0 : decode cX6_stopped 0 = .ok (.iconst 0, 1) := kX6_stopped_0.1.1.1.1
theorem dX6_stopped_1 : decode cX6_stopped 1 = .ok (.istore_n 1, 1) := kX6_stopped_0.1.1.1.2
theorem dX6_stopped_2 : decode cX6_stopped 2 = .ok (.iconst 0, 1) := kX6_stopped_0.1.1.2.1
theorem dX6_stopped_3 : decode cX6_stopped 3 = .ok (.istore_n 2, 1) := kX6_stopped_0.1.1.2.2
theorem dX6_stopped_4 : decode cX6_stopped 4 = .ok (.iload_n 2, 1) := kX6_stopped_0.1.2.1.1
theorem dX6_stopped_5 : decode cX6_stopped 5 = .ok (.aload_n 0, 1) := kX6_stopped_0.1.2.1.2
theorem dX6_stopped_6 : decode cX6_stopped 6 = .ok (.getfield 7, 3) := kX6_stopped_0.1.2.2.1
theorem dX6_stopped_9 : decode cX6_stopped 9 = .ok (.iconst 0, 1) := kX6_stopped_0.1.2.2.2
theorem dX6_stopped_10 : decode cX6_stopped 10 = .ok (.iaload, 1) := kX6_stopped_0.2.1.1.1
theorem dX6_stopped_11 : decode cX6_stopped 11 = .ok (.if_icmp .ge 27, 3) := kX6_stopped_0.2.1.1.2
theorem dX6_stopped_14 : decode cX6_stopped 14 = .ok (.iload_n 1, 1) := kX6_stopped_0.2.1.2.1
theorem dX6_stopped_15 : decode cX6_stopped 15 = .ok (.aload_n 0, 1) := kX6_stopped_0.2.1.2.2
theorem dX6_stopped_16 : decode cX6_stopped 16 = .ok (.iload_n 2, 1) := kX6_stopped_0.2.2.1.1
theorem dX6_stopped_17 : decode cX6_stopped 17 = .ok (.invokevirtual 65, 3) := kX6_stopped_0.2.2.1.2
theorem dX6_stopped_20 : decode cX6_stopped 20 = .ok (.ifCond .eq 9, 3) := kX6_stopped_0.2.2.2.1
theorem dX6_stopped_23 : decode cX6_stopped 23 = .ok (.iconst 1, 1) := kX6_stopped_0.2.2.2.2
theorem kX6_stopped_24 : (((((decode cX6_stopped 24 = .ok (.iload_n 2, 1)) ∧ (decode cX6_stopped 25 = .ok (.ishl, 1))) ∧ (decode cX6_stopped 26 = .ok (.goto 4, 3))) ∧ ((decode cX6_stopped 29 = .ok (.iconst 0, 1)) ∧ (decode cX6_stopped 30 = .ok (.ior, 1)))) ∧ ((((decode cX6_stopped 31 = .ok (.istore_n 1, 1)) ∧ (decode cX6_stopped 32 = .ok (.iinc 2 1, 3))) ∧ (decode cX6_stopped 35 = .ok (.goto (-31), 3))) ∧ ((decode cX6_stopped 38 = .ok (.iload_n 1, 1)) ∧ (decode cX6_stopped 39 = .ok (.ireturn, 1))))) := by decide +kernel
theorem dX6_stopped_24 : decode cX6_stopped 24 = .ok (.iload_n 2, 1) := kX6_stopped_24.1.1.1.1
theorem dX6_stopped_25 : decode cX6_stopped 25 = .ok (.ishl, 1) := kX6_stopped_24.1.1.1.2
theorem dX6_stopped_26 : decode cX6_stopped 26 = .ok (.goto 4, 3) := kX6_stopped_24.1.1.2
theorem dX6_stopped_29 : decode cX6_stopped 29 = .ok (.iconst 0, 1) := kX6_stopped_24.1.2.1
theorem dX6_stopped_30 : decode cX6_stopped 30 = .ok (.ior, 1) := kX6_stopped_24.1.2.2
theorem dX6_stopped_31 : decode cX6_stopped 31 = .ok (.istore_n 1, 1) := kX6_stopped_24.2.1.1.1
theorem dX6_stopped_32 : decode cX6_stopped 32 = .ok (.iinc 2 1, 3) := kX6_stopped_24.2.1.1.2
theorem dX6_stopped_35 : decode cX6_stopped 35 = .ok (.goto (-31), 3) := kX6_stopped_24.2.1.2
theorem dX6_stopped_38 : decode cX6_stopped 38 = .ok (.iload_n 1, 1) := kX6_stopped_24.2.2.1
theorem dX6_stopped_39 : decode cX6_stopped 39 = .ok (.ireturn, 1) := kX6_stopped_24.2.2.2
theorem kX6_many_0 : (((((decode cX6_many 0 = .ok (.iconst 0, 1)) ∧ (decode cX6_many 1 = .ok (.istore_n 1, 1))) ∧ ((decode cX6_many 2 = .ok (.iload_n 0, 1)) ∧ (decode cX6_many 3 = .ok (.istore_n 2, 1)))) ∧ (((decode cX6_many 4 = .ok (.iload_n 2, 1)) ∧ (decode cX6_many 5 = .ok (.ifCond .eq 15, 3))) ∧ ((decode cX6_many 8 = .ok (.iinc 1 1, 3)) ∧ (decode cX6_many 11 = .ok (.iload_n 2, 1))))) ∧ ((((decode cX6_many 12 = .ok (.iload_n 2, 1)) ∧ (decode cX6_many 13 = .ok (.iconst 1, 1))) ∧ ((decode cX6_many 14 = .ok (.isub, 1)) ∧ (decode cX6_many 15 = .ok (.iand, 1)))) ∧ (((decode cX6_many 16 = .ok (.istore_n 2, 1)) ∧ (decode cX6_many 17 = .ok (.goto (-13), 3))) ∧ ((decode cX6_many 20 = .ok (.iload_n 1, 1)) ∧ (decode cX6_many 21 = .ok (.ireturn, 1)))))) := by decide +kernel
theorem dX6_many_0 : decode cX6_many 0 = .ok (.iconst 0, 1) := kX6_many_0.1.1.1.1
theorem dX6_many_1 : decode cX6_many 1 = .ok (.istore_n 1, 1) := kX6_many_0.1.1.1.2
theorem dX6_many_2 : decode cX6_many 2 = .ok (.iload_n 0, 1) := kX6_many_0.1.1.2.1
theorem dX6_many_3 : decode cX6_many 3 = .ok (.istore_n 2, 1) := kX6_many_0.1.1.2.2
theorem dX6_many_4 : decode cX6_many 4 = .ok (.iload_n 2, 1) := kX6_many_0.1.2.1.1
theorem dX6_many_5 : decode cX6_many 5 = .ok (.ifCond .eq 15, 3) := kX6_many_0.1.2.1.2
theorem dX6_many_8 : decode cX6_many 8 = .ok (.iinc 1 1, 3) := kX6_many_0.1.2.2.1
theorem dX6_many_11 : decode cX6_many 11 = .ok (.iload_n 2, 1) := kX6_many_0.1.2.2.2
theorem dX6_many_12 : decode cX6_many 12 = .ok (.iload_n 2, 1) := kX6_many_0.2.1.1.1
theorem dX6_many_13 : decode cX6_many 13 = .ok (.iconst 1, 1) := kX6_many_0.2.1.1.2
theorem dX6_many_14 : decode cX6_many 14 = .ok (.isub, 1) := kX6_many_0.2.1.2.1
theorem dX6_many_15 : decode cX6_many 15 = .ok (.iand, 1) := kX6_many_0.2.1.2.2
theorem dX6_many_16 : decode cX6_many 16 = .ok (.istore_n 2, 1) := kX6_many_0.2.2.1.1
theorem dX6_many_17 : decode cX6_many 17 = .ok (.goto (-13), 3) := kX6_many_0.2.2.1.2
theorem dX6_many_20 : decode cX6_many 20 = .ok (.iload_n 1, 1) := kX6_many_0.2.2.2.1
theorem dX6_many_21 : decode cX6_many 21 = .ok (.ireturn, 1) := kX6_many_0.2.2.2.2
set_option maxRecDepth 20000 in
theorem ggX6_personComes_X6_tells : GoodIn wsX6_personComes wsX6_tells := goodIn_r _ [7, 1, 8, 9, 10, 11, 12, 13, 14, 15, 16, 17, 18, 19, 20, 21, 22, 23, 24, 25, 26] rfl (by decide +kernel)
set_option maxRecDepth 20000 in
theorem gX6_personComes_X6_tells : GoodIn wsX6_personComes (wsV RX6 72 RX6 yX6_tells wsX6_tells) := goodIn_app (goodIn_of _ (by decide +kernel)) ggX6_personComes_X6_tells
theorem kX6_personComes_0 : (((((decode cX6_personComes 0 = .ok (.aload_n 0, 1)) ∧ (decode cX6_personComes 1 = .ok (.getfield 7, 3))) ∧ ((decode cX6_personComes 4 = .ok (.iconst 0, 1)) ∧ (decode cX6_personComes 5 = .ok (.iaload, 1)))) ∧ (((decode cX6_personComes 6 = .ok (.istore 5, 2)) ∧ (decode cX6_personComes 8 = .ok (.aload_n 0, 1))) ∧ ((decode cX6_personComes 9 = .ok (.iload 5, 2)) ∧ (decode cX6_personComes 11 = .ok (.iconst 0, 1))))) ∧ ((((decode cX6_personComes 12 = .ok (.iload_n 1, 1)) ∧ (decode cX6_personComes 13 = .ok (.invokevirtual 72, 3))) ∧ ((decode cX6_personComes 16 = .ok (.aload_n 0, 1)) ∧ (decode cX6_personComes 17 = .ok (.iload 5, 2)))) ∧ (((decode cX6_personComes 19 = .ok (.iconst 1, 1)) ∧ (decode cX6_personComes 20 = .ok (.iload_n 2, 1))) ∧ ((decode cX6_personComes 21 = .ok (.invokevirtual 72, 3)) ∧ (decode cX6_personComes 24 = .ok (.aload_n 0, 1)))))) := by decide +kernel
theorem dX6_personComes_0 : decode cX6_personComes 0 = .ok (.aload_n 0, 1) := kX6_personComes_0.1.1.1.1
theorem dX6_personComes_1 : decode cX6_personComes 1 = .ok (.getfield 7, 3) := kX6_personComes_0.1.1.1.2
theorem dX6_personComes_4 : decode cX6_personComes 4 = .ok (.iconst 0, 1) := kX6_personComes_0.1.1.2.1
theorem dX6_personComes_5 : decode cX6_personComes 5 = .ok (.iaload, 1) := kX6_personComes_0.1.1.2.2
theorem dX6_personComes_6 : decode cX6_personComes 6 = .ok (.istore 5, 2) := kX6_personComes_0.1.2.1.1
theorem dX6_personComes_8 : decode cX6_personComes 8 = .ok (.aload_n 0, 1) := kX6_personComes_0.1.2.1.2
theorem dX6_personComes_9 : decode cX6_personComes 9 = .ok (.iload 5, 2) := kX6_personComes_0.1.2.2.1
theorem dX6_personComes_11 : decode cX6_personComes 11 = .ok (.iconst 0, 1) := kX6_personComes_0.1.2.2.2
theorem dX6_personComes_12 : decode cX6_personComes 12 = .ok (.iload_n 1, 1) := kX6_personComes_0.2.1.1.1
theorem dX6_personComes_13 : decode cX6_personComes 13 = .ok (.invokevirtual 72, 3) := kX6_personComes_0.2.1.1.2
theorem dX6_personComes_16 : decode cX6_personComes 16 = .ok (.aload_n 0, 1) := kX6_personComes_0.2.1.2.1
theorem dX6_personComes_17 : decode cX6_personComes 17 = .ok (.iload 5, 2) := kX6_personComes_0.2.1.2.2
theorem dX6_personComes_19 : decode cX6_personComes 19 = .ok (.iconst 1, 1) := kX6_personComes_0.2.2.1.1
theorem dX6_personComes_20 : decode cX6_personComes 20 = .ok (.iload_n 2, 1) := kX6_personComes_0.2.2.1.2
theorem dX6_personComes_21 : decode cX6_personComes 21 = .ok (.invokevirtual 72, 3) := kX6_personComes_0.2.2.2.1
theorem dX6_personComes_24 : decode cX6_personComes 24 = .ok (.aload_n 0, 1) := kX6_personComes_0.2.2.2.2
theorem kX6_personComes_25 : (((((decode cX6_personComes 25 = .ok (.iload 5, 2)) ∧ (decode cX6_personComes 27 = .ok (.iconst 2, 1))) ∧ ((decode cX6_personComes 28 = .ok (.iload_n 3, 1)) ∧ (decode cX6_personComes 29 = .ok (.invokevirtual 72, 3)))) ∧ (((decode cX6_personComes 32 = .ok (.aload_n 0, 1)) ∧ (decode cX6_personComes 33 = .ok (.iload 5, 2))) ∧ ((decode cX6_personComes 35 = .ok (.iconst 3, 1)) ∧ (decode cX6_personComes 36 = .ok (.iload 4, 2))))) ∧ ((((decode cX6_personComes 38 = .ok (.invokevirtual 72, 3)) ∧ (decode cX6_personComes 41 = .ok (.aload_n 0, 1))) ∧ ((decode cX6_personComes 42 = .ok (.getfield 7, 3)) ∧ (decode cX6_personComes 45 = .ok (.iconst 0, 1)))) ∧ (((decode cX6_personComes 46 = .ok (.dup2, 1)) ∧ (decode cX6_personComes 47 = .ok (.iaload, 1))) ∧ ((decode cX6_personComes 48 = .ok (.iconst 1, 1)) ∧ (decode cX6_personComes 49 = .ok (.iadd, 1)))))) := by decide +kernel
theorem dX6_personComes_25 : decode cX6_personComes 25 = .ok (.iload 5, 2) := kX6_personComes_25.1.1.1.1
theorem dX6_personComes_27 : decode cX6_personComes 27 = .ok (.iconst 2, 1) := kX6_personComes_25.1.1.1.2
theorem dX6_personComes_28 : decode cX6_personComes 28 = .ok (.iload_n 3, 1) := kX6_personComes_25.1.1.2.1
theorem dX6_personComes_29 : decode cX6_personComes 29 = .ok (.invokevirtual 72, 3) := kX6_personComes_25.1.1.2.2
theorem dX6_personComes_32 : decode cX6_personComes 32 = .ok (.aload_n 0, 1) := kX6_personComes_25.1.2.1.1
theorem dX6_personComes_33 : decode cX6_personComes 33 = .ok (.iload 5, 2) := kX6_personComes_25.1.2.1.2
theorem dX6_personComes_35 : decode cX6_personComes 35 = .ok (.iconst 3, 1) := kX6_personComes_25.1.2.2.1
theorem dX6_personComes_36 : decode cX6_personComes 36 = .ok (.iload 4, 2) := kX6_personComes_25.1.2.2.2
theorem dX6_personComes_38 : decode cX6_personComes 38 = .ok (.invokevirtual 72, 3) := kX6_personComes_25.2.1.1.1
theorem dX6_personComes_41 : decode cX6_personComes 41 = .ok (.aload_n 0, 1) := kX6_personComes_25.2.1.1.2
theorem dX6_personComes_42 : decode cX6_personComes 42 = .ok (.getfield 7, 3) := kX6_personComes_25.2.1.2.1
theorem dX6_personComes_45 : decode cX6_personComes 45 = .ok (.iconst 0, 1) := kX6_personComes_25.2.1.2.2
theorem dX6_personComes_46 : decode cX6_personComes 46 = .ok (.dup2, 1) := kX6_personComes_25.2.2.1.1
theorem dX6_personComes_47 : decode cX6_personComes 47 = .ok (.iaload, 1) := kX6_personComes_25.2.2.1.2
theorem dX6_personComes_48 : decode cX6_personComes 48 = .ok (.iconst 1, 1) := kX6_personComes_25.2.2.2.1
theorem dX6_personComes_49 : decode cX6_personComes 49 = .ok (.iadd, 1) := kX6_personComes_25.2.2.2.2
theorem kX6_personComes_50 : ((((decode cX6_personComes 50 = .ok (.iastore, 1)) ∧ (decode cX6_personComes 51 = .ok (.aload_n 0, 1))) ∧ (decode cX6_personComes 52 = .ok (.iconst 0, 1))) ∧ ((decode cX6_personComes 53 = .ok (.putfield 90, 3)) ∧ (decode cX6_personComes 56 = .ok (.return_, 1)))) := by decide +kernel
theorem dX6_personComes_50 : decode cX6_personComes 50 = .ok (.iastore, 1) := kX6_personComes_50.1.1.1
theorem dX6_personComes_51 : decode cX6_personComes 51 = .ok (.aload_n 0, 1) := kX6_personComes_50.1.1.2
theorem dX6_personComes_52 : decode cX6_personComes 52 = .ok (.iconst 0, 1) := kX6_personComes_50.1.2
theorem dX6_personComes_53 : decode cX6_personComes 53 = .ok (.putfield 90, 3) := kX6_personComes_50.2.1
theorem dX6_personComes_56 : decode cX6_personComes 56 = .ok (.return_, 1) := kX6_personComes_50.2.2
set_option maxRecDepth 20000 in
theorem ggX6_person_X6_in : GoodIn wsX6_person wsX6_in := goodIn_r _ [7] rfl (by decide +kernel)
set_option maxRecDepth 20000 in
theorem gX6_person_X6_in : GoodIn wsX6_person (va_wsS RX6 50 yX6_in wsX6_in) := goodIn_app (goodIn_of _ (by decide +kernel)) ggX6_person_X6_in
set_option maxRecDepth 20000 in
theorem ggX6_person_X6_personComes : GoodIn wsX6_person wsX6_personComes := goodIn_r _ [11, 3, 12, 13, 14, 15, 6, 16, 17, 18, 19, 20, 21, 22, 23, 24, 25, 26, 27, 28, 29, 30, 31, 32, 33, 34, 35] rfl (by decide +kernel)
set_option maxRecDepth 20000 in
theorem gX6_person_X6_personComes : GoodIn wsX6_person (wsV RX6 98 RX6 yX6_personComes wsX6_personComes) := goodIn_app (goodIn_of _ (by decide +kernel)) ggX6_person_X6_personComes
theorem kX6_person_0 : (((((decode cX6_person 0 = .ok (.iload_n 1, 1)) ∧ (decode cX6_person 1 = .ok (.i2l, 1))) ∧ ((decode cX6_person 2 = .ok (.lconst 0, 1)) ∧ (decode cX6_person 3 = .ok (.ldc2_w 94, 3)))) ∧ (((decode cX6_person 6 = .ok (.invokestatic 50, 3)) ∧ (decode cX6_person 9 = .ok (.ifCond .eq 15, 3))) ∧ ((decode cX6_person 12 = .ok (.iload_n 2, 1)) ∧ (decode cX6_person 13 = .ok (.i2l, 1))))) ∧ ((((decode cX6_person 14 = .ok (.lconst 0, 1)) ∧ (decode cX6_person 15 = .ok (.ldc2_w 96, 3))) ∧ ((decode cX6_person 18 = .ok (.invokestatic 50, 3)) ∧ (decode cX6_person 21 = .ok (.ifCond .ne 5, 3)))) ∧ (((decode cX6_person 24 = .ok (.iconst (-1), 1)) ∧ (decode cX6_person 25 = .ok (.ireturn, 1))) ∧ ((decode cX6_person 26 = .ok (.aload_n 0, 1)) ∧ (decode cX6_person 27 = .ok (.getfield 7, 3)))))) := by decide +kernel
theorem dX6_person_0 : decode cX6_person 0 = .ok (.iload_n 1, 1) := kX6_person_0.1.1.1.1
theorem dX6_person_1 : decode cX6_person 1 = .ok (.i2l, 1) := kX6_person_0.1.1.1.2
theorem dX6_person_2 : decode cX6_person 2 = .ok (.lconst 0, 1) := kX6_person_0.1.1.2.1
theorem dX6_person_3 : decode cX6_person 3 = .ok (.ldc2_w 94, 3) := kX6_person_0.1.1.2.2
theorem dX6_person_6 : decode cX6_person 6 = .ok (.invokestatic 50, 3) := kX6_person_0.1.2.1.1
theorem dX6_person_9 : decode cX6_person 9 = .ok (.ifCond .eq 15, 3) := kX6_person_0.1.2.1.2
theorem dX6_person_12 : decode cX6_person 12 = .ok (.iload_n 2, 1) := kX6_person_0.1.2.2.1
theorem dX6_person_13 : decode cX6_person 13 = .ok (.i2l, 1) := kX6_person_0.1.2.2.2
theorem dX6_person_14 : decode cX6_person 14 = .ok (.lconst 0, 1) := kX6_person_0.2.1.1.1
theorem dX6_person_15 : decode cX6_person 15 = .ok (.ldc2_w 96, 3) := kX6_person_0.2.1.1.2
theorem dX6_person_18 : decode cX6_person 18 = .ok (.invokestatic 50, 3) := kX6_person_0.2.1.2.1
theorem dX6_person_21 : decode cX6_person 21 = .ok (.ifCond .ne 5, 3) := kX6_person_0.2.1.2.2
theorem dX6_person_24 : decode cX6_person 24 = .ok (.iconst (-1), 1) := kX6_person_0.2.2.1.1
theorem dX6_person_25 : decode cX6_person 25 = .ok (.ireturn, 1) := kX6_person_0.2.2.1.2
theorem dX6_person_26 : decode cX6_person 26 = .ok (.aload_n 0, 1) := kX6_person_0.2.2.2.1
theorem dX6_person_27 : decode cX6_person 27 = .ok (.getfield 7, 3) := kX6_person_0.2.2.2.2
theorem kX6_person_30 : (((((decode cX6_person 30 = .ok (.iconst 0, 1)) ∧ (decode cX6_person 31 = .ok (.iaload, 1))) ∧ ((decode cX6_person 32 = .ok (.bipush 6, 2)) ∧ (decode cX6_person 34 = .ok (.if_icmp .ne 6, 3)))) ∧ (((decode cX6_person 37 = .ok (.bipush (-3), 2)) ∧ (decode cX6_person 39 = .ok (.ireturn, 1))) ∧ ((decode cX6_person 40 = .ok (.aload_n 0, 1)) ∧ (decode cX6_person 41 = .ok (.iload_n 1, 1))))) ∧ ((((decode cX6_person 42 = .ok (.iload_n 2, 1)) ∧ (decode cX6_person 43 = .ok (.bipush (-4), 2))) ∧ ((decode cX6_person 45 = .ok (.iconst 1, 1)) ∧ (decode cX6_person 46 = .ok (.invokevirtual 98, 3)))) ∧ (((decode cX6_person 49 = .ok (.aload_n 0, 1)) ∧ (decode cX6_person 50 = .ok (.getfield 7, 3))) ∧ ((decode cX6_person 53 = .ok (.iconst 0, 1)) ∧ (decode cX6_person 54 = .ok (.iaload, 1)))))) := by decide +kernel
theorem dX6_person_30 : decode cX6_person 30 = .ok (.iconst 0, 1) := kX6_person_30.1.1.1.1
theorem dX6_person_31 : decode cX6_person 31 = .ok (.iaload, 1) := kX6_person_30.1.1.1.2
theorem dX6_person_32 : decode cX6_person 32 = .ok (.bipush 6, 2) := kX6_person_30.1.1.2.1
theorem dX6_person_34 : decode cX6_person 34 = .ok (.if_icmp .ne 6, 3) := kX6_person_30.1.1.2.2
theorem dX6_person_37 : decode cX6_person 37 = .ok (.bipush (-3), 2) := kX6_person_30.1.2.1.1
theorem dX6_person_39 : decode cX6_person 39 = .ok (.ireturn, 1) := kX6_person_30.1.2.1.2
theorem dX6_person_40 : decode cX6_person 40 = .ok (.aload_n 0, 1) := kX6_person_30.1.2.2.1
theorem dX6_person_41 : decode cX6_person 41 = .ok (.iload_n 1, 1) := kX6_person_30.1.2.2.2
theorem dX6_person_42 : decode cX6_person 42 = .ok (.iload_n 2, 1) := kX6_person_30.2.1.1.1
theorem dX6_person_43 : decode cX6_person 43 = .ok (.bipush (-4), 2) := kX6_person_30.2.1.1.2
theorem dX6_person_45 : decode cX6_person 45 = .ok (.iconst 1, 1) := kX6_person_30.2.1.2.1
theorem dX6_person_46 : decode cX6_person 46 = .ok (.invokevirtual 98, 3) := kX6_person_30.2.1.2.2
theorem dX6_person_49 : decode cX6_person 49 = .ok (.aload_n 0, 1) := kX6_person_30.2.2.1.1
theorem dX6_person_50 : decode cX6_person 50 = .ok (.getfield 7, 3) := kX6_person_30.2.2.1.2
theorem dX6_person_53 : decode cX6_person 53 = .ok (.iconst 0, 1) := kX6_person_30.2.2.2.1
theorem dX6_person_54 : decode cX6_person 54 = .ok (.iaload, 1) := kX6_person_30.2.2.2.2
theorem kX6_person_55 : (((decode cX6_person 55 = .ok (.iconst 1, 1)) ∧ (decode cX6_person 56 = .ok (.isub, 1))) ∧ (decode cX6_person 57 = .ok (.ireturn, 1))) := by decide +kernel
theorem dX6_person_55 : decode cX6_person 55 = .ok (.iconst 1, 1) := kX6_person_55.1.1
theorem dX6_person_56 : decode cX6_person 56 = .ok (.isub, 1) := kX6_person_55.1.2
theorem dX6_person_57 : decode cX6_person 57 = .ok (.ireturn, 1) := kX6_person_55.2
set_option maxRecDepth 20000 in
theorem ggX6_of_X6_isPerson : GoodIn wsX6_of wsX6_isPerson := goodIn_r _ [6, 7, 8, 9, 5, 10, 35, 36, 37, 38, 39, 40, 41, 42, 43, 44, 45, 46, 47, 48, 49, 50, 51, 52, 53] rfl (by decide +kernel)
set_option maxRecDepth 20000 in
theorem gX6_of_X6_isPerson : GoodIn wsX6_of (wsV RX6 102 RX6 yX6_isPerson wsX6_isPerson) := goodIn_app (goodIn_of _ (by decide +kernel)) ggX6_of_X6_isPerson
set_option maxRecDepth 20000 in
theorem ggX6_of_X6_in : GoodIn wsX6_of wsX6_in := goodIn_r _ [10] rfl (by decide +kernel)
set_option maxRecDepth 20000 in
theorem gX6_of_X6_in : GoodIn wsX6_of (va_wsS RX6 50 yX6_in wsX6_in) := goodIn_app (goodIn_of _ (by decide +kernel)) ggX6_of_X6_in
set_option maxRecDepth 20000 in
theorem ggX6_of_X6_told : GoodIn wsX6_of wsX6_told := goodIn_r _ [14, 7, 35, 36, 37, 38, 39, 40, 41, 42, 43, 44, 45, 46, 47, 48, 49, 50, 51, 52, 53] rfl (by decide +kernel)
set_option maxRecDepth 20000 in
theorem gX6_of_X6_told : GoodIn wsX6_of (wsV RX6 54 RX6 yX6_told wsX6_told) := goodIn_app (goodIn_of _ (by decide +kernel)) ggX6_of_X6_told
set_option maxRecDepth 20000 in
theorem ggX6_of_X6_runs : GoodIn wsX6_of wsX6_runs := goodIn_r _ [18, 7, 19, 20, 21, 5, 22, 23, 24, 25, 26, 11, 12, 13, 14, 27, 28, 29, 30, 31, 32, 33, 34, 35, 36, 37, 38, 39, 40, 41, 42, 43, 44, 45, 46, 47, 48, 49, 50, 51, 52, 53] rfl (by decide +kernel)
set_option maxRecDepth 20000 in
theorem gX6_of_X6_runs : GoodIn wsX6_of (wsV RX6 84 RX6 yX6_runs wsX6_runs) := goodIn_app (goodIn_of _ (by decide +kernel)) ggX6_of_X6_runs
set_option maxRecDepth 20000 in
theorem ggX6_of_X6_windersOf : GoodIn wsX6_of wsX6_windersOf := goodIn_r _ [34, 7, 27, 28, 29, 5, 30, 11, 12, 13, 14, 35, 36, 37, 38, 39, 40, 41, 42, 43, 44, 45, 46, 47, 48, 49, 50, 51, 52, 53] rfl (by decide +kernel)
set_option maxRecDepth 20000 in
theorem gX6_of_X6_windersOf : GoodIn wsX6_of (wsV RX6 69 RX6 yX6_windersOf wsX6_windersOf) := goodIn_app (goodIn_of _ (by decide +kernel)) ggX6_of_X6_windersOf
theorem kX6_of_0 : (((((decode cX6_of 0 = .ok (.aload_n 0, 1)) ∧ (decode cX6_of 1 = .ok (.iload_n 1, 1))) ∧ ((decode cX6_of 2 = .ok (.invokevirtual 102, 3)) ∧ (decode cX6_of 5 = .ok (.ifCond .eq 15, 3)))) ∧ (((decode cX6_of 8 = .ok (.iload_n 2, 1)) ∧ (decode cX6_of 9 = .ok (.i2l, 1))) ∧ ((decode cX6_of 10 = .ok (.lconst 0, 1)) ∧ (decode cX6_of 11 = .ok (.ldc2_w 105, 3))))) ∧ ((((decode cX6_of 14 = .ok (.invokestatic 50, 3)) ∧ (decode cX6_of 17 = .ok (.ifCond .ne 5, 3))) ∧ ((decode cX6_of 20 = .ok (.iconst (-1), 1)) ∧ (decode cX6_of 21 = .ok (.ireturn, 1)))) ∧ (((decode cX6_of 22 = .ok (.iload_n 2, 1)) ∧ (decode cX6_of 23 = .ok (.iconst 4, 1))) ∧ ((decode cX6_of 24 = .ok (.if_icmp .ge 12, 3)) ∧ (decode cX6_of 27 = .ok (.aload_n 0, 1)))))) := by decide +kernel
theorem dX6_of_0 : decode cX6_of 0 = .ok (.aload_n 0, 1) := kX6_of_0.1.1.1.1
theorem dX6_of_1 : decode cX6_of 1 = .ok (.iload_n 1, 1) := kX6_of_0.1.1.1.2
theorem dX6_of_2 : decode cX6_of 2 = .ok (.invokevirtual 102, 3) := kX6_of_0.1.1.2.1
theorem dX6_of_5 : decode cX6_of 5 = .ok (.ifCond .eq 15, 3) := kX6_of_0.1.1.2.2
theorem dX6_of_8 : decode cX6_of 8 = .ok (.iload_n 2, 1) := kX6_of_0.1.2.1.1
theorem dX6_of_9 : decode cX6_of 9 = .ok (.i2l, 1) := kX6_of_0.1.2.1.2
theorem dX6_of_10 : decode cX6_of 10 = .ok (.lconst 0, 1) := kX6_of_0.1.2.2.1
theorem dX6_of_11 : decode cX6_of 11 = .ok (.ldc2_w 105, 3) := kX6_of_0.1.2.2.2
theorem dX6_of_14 : decode cX6_of 14 = .ok (.invokestatic 50, 3) := kX6_of_0.2.1.1.1
theorem dX6_of_17 : decode cX6_of 17 = .ok (.ifCond .ne 5, 3) := kX6_of_0.2.1.1.2
theorem dX6_of_20 : decode cX6_of 20 = .ok (.iconst (-1), 1) := kX6_of_0.2.1.2.1
theorem dX6_of_21 : decode cX6_of 21 = .ok (.ireturn, 1) := kX6_of_0.2.1.2.2
theorem dX6_of_22 : decode cX6_of 22 = .ok (.iload_n 2, 1) := kX6_of_0.2.2.1.1
theorem dX6_of_23 : decode cX6_of 23 = .ok (.iconst 4, 1) := kX6_of_0.2.2.1.2
theorem dX6_of_24 : decode cX6_of 24 = .ok (.if_icmp .ge 12, 3) := kX6_of_0.2.2.2.1
theorem dX6_of_27 : decode cX6_of 27 = .ok (.aload_n 0, 1) := kX6_of_0.2.2.2.2
theorem kX6_of_28 : (((((decode cX6_of 28 = .ok (.iload_n 1, 1)) ∧ (decode cX6_of 29 = .ok (.iload_n 2, 1))) ∧ ((decode cX6_of 30 = .ok (.invokevirtual 54, 3)) ∧ (decode cX6_of 33 = .ok (.goto 21, 3)))) ∧ (((decode cX6_of 36 = .ok (.iload_n 2, 1)) ∧ (decode cX6_of 37 = .ok (.iconst 4, 1))) ∧ ((decode cX6_of 38 = .ok (.if_icmp .ne 11, 3)) ∧ (decode cX6_of 41 = .ok (.aload_n 0, 1))))) ∧ ((((decode cX6_of 42 = .ok (.iload_n 1, 1)) ∧ (decode cX6_of 43 = .ok (.invokevirtual 84, 3))) ∧ ((decode cX6_of 46 = .ok (.goto 8, 3)) ∧ (decode cX6_of 49 = .ok (.aload_n 0, 1)))) ∧ (((decode cX6_of 50 = .ok (.iload_n 1, 1)) ∧ (decode cX6_of 51 = .ok (.invokevirtual 69, 3))) ∧ (decode cX6_of 54 = .ok (.ireturn, 1))))) := by decide +kernel
theorem dX6_of_28 : decode cX6_of 28 = .ok (.iload_n 1, 1) := kX6_of_28.1.1.1.1
theorem dX6_of_29 : decode cX6_of 29 = .ok (.iload_n 2, 1) := kX6_of_28.1.1.1.2
theorem dX6_of_30 : decode cX6_of 30 = .ok (.invokevirtual 54, 3) := kX6_of_28.1.1.2.1
theorem dX6_of_33 : decode cX6_of 33 = .ok (.goto 21, 3) := kX6_of_28.1.1.2.2
theorem dX6_of_36 : decode cX6_of 36 = .ok (.iload_n 2, 1) := kX6_of_28.1.2.1.1
theorem dX6_of_37 : decode cX6_of 37 = .ok (.iconst 4, 1) := kX6_of_28.1.2.1.2
theorem dX6_of_38 : decode cX6_of 38 = .ok (.if_icmp .ne 11, 3) := kX6_of_28.1.2.2.1
theorem dX6_of_41 : decode cX6_of 41 = .ok (.aload_n 0, 1) := kX6_of_28.1.2.2.2
theorem dX6_of_42 : decode cX6_of 42 = .ok (.iload_n 1, 1) := kX6_of_28.2.1.1.1
theorem dX6_of_43 : decode cX6_of 43 = .ok (.invokevirtual 84, 3) := kX6_of_28.2.1.1.2
theorem dX6_of_46 : decode cX6_of 46 = .ok (.goto 8, 3) := kX6_of_28.2.1.2.1
theorem dX6_of_49 : decode cX6_of 49 = .ok (.aload_n 0, 1) := kX6_of_28.2.1.2.2
theorem dX6_of_50 : decode cX6_of 50 = .ok (.iload_n 1, 1) := kX6_of_28.2.2.1.1
theorem dX6_of_51 : decode cX6_of 51 = .ok (.invokevirtual 69, 3) := kX6_of_28.2.2.1.2
theorem dX6_of_54 : decode cX6_of 54 = .ok (.ireturn, 1) := kX6_of_28.2.2.2
set_option maxRecDepth 20000 in
theorem ggX6_behind_X6_whom : GoodIn wsX6_behind wsX6_whom := goodIn_r _ [5, 6, 7, 8, 4, 9, 10, 11, 12, 13, 14, 15, 16, 17, 18, 19, 20, 21, 22, 23, 24, 25, 26, 27, 28, 29] rfl (by decide +kernel)
set_option maxRecDepth 20000 in
theorem gX6_behind_X6_whom : GoodIn wsX6_behind (wsV RX6 62 RX6 yX6_whom wsX6_whom) := goodIn_app (goodIn_of _ (by decide +kernel)) ggX6_behind_X6_whom
theorem kX6_behind_0 : (((((decode cX6_behind 0 = .ok (.iconst 0, 1)) ∧ (decode cX6_behind 1 = .ok (.istore_n 2, 1))) ∧ ((decode cX6_behind 2 = .ok (.aload_n 0, 1)) ∧ (decode cX6_behind 3 = .ok (.iload_n 1, 1)))) ∧ (((decode cX6_behind 4 = .ok (.invokevirtual 62, 3)) ∧ (decode cX6_behind 7 = .ok (.istore_n 3, 1))) ∧ ((decode cX6_behind 8 = .ok (.iload_n 3, 1)) ∧ (decode cX6_behind 9 = .ok (.bipush (-4), 2))))) ∧ ((((decode cX6_behind 11 = .ok (.if_icmp .eq 26, 3)) ∧ (decode cX6_behind 14 = .ok (.iload_n 2, 1))) ∧ ((decode cX6_behind 15 = .ok (.iload_n 3, 1)) ∧ (decode cX6_behind 16 = .ok (.ishr, 1)))) ∧ (((decode cX6_behind 17 = .ok (.iconst 1, 1)) ∧ (decode cX6_behind 18 = .ok (.iand, 1))) ∧ ((decode cX6_behind 19 = .ok (.ifCond .ne 18, 3)) ∧ (decode cX6_behind 22 = .ok (.iload_n 2, 1)))))) := by decide +kernel
theorem dX6_behind_0 : decode cX6_behind 0 = .ok (.iconst 0, 1) := kX6_behind_0.1.1.1.1
theorem dX6_behind_1 : decode cX6_behind 1 = .ok (.istore_n 2, 1) := kX6_behind_0.1.1.1.2
theorem dX6_behind_2 : decode cX6_behind 2 = .ok (.aload_n 0, 1) := kX6_behind_0.1.1.2.1
theorem dX6_behind_3 : decode cX6_behind 3 = .ok (.iload_n 1, 1) := kX6_behind_0.1.1.2.2
theorem dX6_behind_4 : decode cX6_behind 4 = .ok (.invokevirtual 62, 3) := kX6_behind_0.1.2.1.1
theorem dX6_behind_7 : decode cX6_behind 7 = .ok (.istore_n 3, 1) := kX6_behind_0.1.2.1.2
theorem dX6_behind_8 : decode cX6_behind 8 = .ok (.iload_n 3, 1) := kX6_behind_0.1.2.2.1
theorem dX6_behind_9 : decode cX6_behind 9 = .ok (.bipush (-4), 2) := kX6_behind_0.1.2.2.2
theorem dX6_behind_11 : decode cX6_behind 11 = .ok (.if_icmp .eq 26, 3) := kX6_behind_0.2.1.1.1
theorem dX6_behind_14 : decode cX6_behind 14 = .ok (.iload_n 2, 1) := kX6_behind_0.2.1.1.2
theorem dX6_behind_15 : decode cX6_behind 15 = .ok (.iload_n 3, 1) := kX6_behind_0.2.1.2.1
theorem dX6_behind_16 : decode cX6_behind 16 = .ok (.ishr, 1) := kX6_behind_0.2.1.2.2
theorem dX6_behind_17 : decode cX6_behind 17 = .ok (.iconst 1, 1) := kX6_behind_0.2.2.1.1
theorem dX6_behind_18 : decode cX6_behind 18 = .ok (.iand, 1) := kX6_behind_0.2.2.1.2
theorem dX6_behind_19 : decode cX6_behind 19 = .ok (.ifCond .ne 18, 3) := kX6_behind_0.2.2.2.1
theorem dX6_behind_22 : decode cX6_behind 22 = .ok (.iload_n 2, 1) := kX6_behind_0.2.2.2.2
theorem kX6_behind_23 : (((((decode cX6_behind 23 = .ok (.iconst 1, 1)) ∧ (decode cX6_behind 24 = .ok (.iload_n 3, 1))) ∧ (decode cX6_behind 25 = .ok (.ishl, 1))) ∧ (((decode cX6_behind 26 = .ok (.ior, 1)) ∧ (decode cX6_behind 27 = .ok (.istore_n 2, 1))) ∧ (decode cX6_behind 28 = .ok (.aload_n 0, 1)))) ∧ ((((decode cX6_behind 29 = .ok (.iload_n 3, 1)) ∧ (decode cX6_behind 30 = .ok (.invokevirtual 62, 3))) ∧ (decode cX6_behind 33 = .ok (.istore_n 3, 1))) ∧ (((decode cX6_behind 34 = .ok (.goto (-26), 3)) ∧ (decode cX6_behind 37 = .ok (.iload_n 2, 1))) ∧ (decode cX6_behind 38 = .ok (.ireturn, 1))))) := by decide +kernel
theorem dX6_behind_23 : decode cX6_behind 23 = .ok (.iconst 1, 1) := kX6_behind_23.1.1.1.1
theorem dX6_behind_24 : decode cX6_behind 24 = .ok (.iload_n 3, 1) := kX6_behind_23.1.1.1.2
theorem dX6_behind_25 : decode cX6_behind 25 = .ok (.ishl, 1) := kX6_behind_23.1.1.2
theorem dX6_behind_26 : decode cX6_behind 26 = .ok (.ior, 1) := kX6_behind_23.1.2.1.1
theorem dX6_behind_27 : decode cX6_behind 27 = .ok (.istore_n 2, 1) := kX6_behind_23.1.2.1.2
theorem dX6_behind_28 : decode cX6_behind 28 = .ok (.aload_n 0, 1) := kX6_behind_23.1.2.2
theorem dX6_behind_29 : decode cX6_behind 29 = .ok (.iload_n 3, 1) := kX6_behind_23.2.1.1.1
theorem dX6_behind_30 : decode cX6_behind 30 = .ok (.invokevirtual 62, 3) := kX6_behind_23.2.1.1.2
theorem dX6_behind_33 : decode cX6_behind 33 = .ok (.istore_n 3, 1) := kX6_behind_23.2.1.2
theorem dX6_behind_34 : decode cX6_behind 34 = .ok (.goto (-26), 3) := kX6_behind_23.2.2.1.1
theorem dX6_behind_37 : decode cX6_behind 37 = .ok (.iload_n 2, 1) := kX6_behind_23.2.2.1.2
theorem dX6_behind_38 : decode cX6_behind 38 = .ok (.ireturn, 1) := kX6_behind_23.2.2.2
set_option maxRecDepth 20000 in
theorem ggX6_ring_X6_behind : GoodIn wsX6_ring wsX6_behind := goodIn_r _ [6, 7, 8, 9, 5, 10, 11, 12, 13, 14, 1, 15, 16, 17, 18, 19, 20, 21, 22, 23, 24, 25, 26, 27, 28, 29, 30, 31, 32, 33] rfl (by decide +kernel)
set_option maxRecDepth 20000 in
theorem gX6_ring_X6_behind : GoodIn wsX6_ring (wsV RX6 107 RX6 yX6_behind wsX6_behind) := goodIn_app (goodIn_of _ (by decide +kernel)) ggX6_ring_X6_behind
theorem kX6_ring_0 : (((((decode cX6_ring 0 = .ok (.iconst 0, 1)) ∧ (decode cX6_ring 1 = .ok (.istore_n 1, 1))) ∧ ((decode cX6_ring 2 = .ok (.iconst 0, 1)) ∧ (decode cX6_ring 3 = .ok (.istore_n 2, 1)))) ∧ (((decode cX6_ring 4 = .ok (.iload_n 2, 1)) ∧ (decode cX6_ring 5 = .ok (.aload_n 0, 1))) ∧ ((decode cX6_ring 6 = .ok (.getfield 7, 3)) ∧ (decode cX6_ring 9 = .ok (.iconst 0, 1))))) ∧ ((((decode cX6_ring 10 = .ok (.iaload, 1)) ∧ (decode cX6_ring 11 = .ok (.if_icmp .ge 32, 3))) ∧ ((decode cX6_ring 14 = .ok (.iload_n 1, 1)) ∧ (decode cX6_ring 15 = .ok (.aload_n 0, 1)))) ∧ (((decode cX6_ring 16 = .ok (.iload_n 2, 1)) ∧ (decode cX6_ring 17 = .ok (.invokevirtual 107, 3))) ∧ ((decode cX6_ring 20 = .ok (.iload_n 2, 1)) ∧ (decode cX6_ring 21 = .ok (.ishr, 1)))))) := by decide +kernel
theorem dX6_ring_0 : decode cX6_ring 0 = .ok (.iconst 0, 1) := kX6_ring_0.1.1.1.1
theorem dX6_ring_1 : decode cX6_ring 1 = .ok (.istore_n 1, 1) := kX6_ring_0.1.1.1.2
theorem dX6_ring_2 : decode cX6_ring 2 = .ok (.iconst 0, 1) := kX6_ring_0.1.1.2.1
theorem dX6_ring_3 : decode cX6_ring 3 = .ok (.istore_n 2, 1) := kX6_ring_0.1.1.2.2
theorem dX6_ring_4 : decode cX6_ring 4 = .ok (.iload_n 2, 1) := kX6_ring_0.1.2.1.1
theorem dX6_ring_5 : decode cX6_ring 5 = .ok (.aload_n 0, 1) := kX6_ring_0.1.2.1.2
theorem dX6_ring_6 : decode cX6_ring 6 = .ok (.getfield 7, 3) := kX6_ring_0.1.2.2.1
theorem dX6_ring_9 : decode cX6_ring 9 = .ok (.iconst 0, 1) := kX6_ring_0.1.2.2.2
theorem dX6_ring_10 : decode cX6_ring 10 = .ok (.iaload, 1) := kX6_ring_0.2.1.1.1
theorem dX6_ring_11 : decode cX6_ring 11 = .ok (.if_icmp .ge 32, 3) := kX6_ring_0.2.1.1.2
theorem dX6_ring_14 : decode cX6_ring 14 = .ok (.iload_n 1, 1) := kX6_ring_0.2.1.2.1
theorem dX6_ring_15 : decode cX6_ring 15 = .ok (.aload_n 0, 1) := kX6_ring_0.2.1.2.2
theorem dX6_ring_16 : decode cX6_ring 16 = .ok (.iload_n 2, 1) := kX6_ring_0.2.2.1.1
theorem dX6_ring_17 : decode cX6_ring 17 = .ok (.invokevirtual 107, 3) := kX6_ring_0.2.2.1.2
theorem dX6_ring_20 : decode cX6_ring 20 = .ok (.iload_n 2, 1) := kX6_ring_0.2.2.2.1
theorem dX6_ring_21 : decode cX6_ring 21 = .ok (.ishr, 1) := kX6_ring_0.2.2.2.2
theorem kX6_ring_22 : (((((decode cX6_ring 22 = .ok (.iconst 1, 1)) ∧ (decode cX6_ring 23 = .ok (.iand, 1))) ∧ ((decode cX6_ring 24 = .ok (.iconst 1, 1)) ∧ (decode cX6_ring 25 = .ok (.if_icmp .ne 9, 3)))) ∧ (((decode cX6_ring 28 = .ok (.iconst 1, 1)) ∧ (decode cX6_ring 29 = .ok (.iload_n 2, 1))) ∧ ((decode cX6_ring 30 = .ok (.ishl, 1)) ∧ (decode cX6_ring 31 = .ok (.goto 4, 3))))) ∧ ((((decode cX6_ring 34 = .ok (.iconst 0, 1)) ∧ (decode cX6_ring 35 = .ok (.ior, 1))) ∧ ((decode cX6_ring 36 = .ok (.istore_n 1, 1)) ∧ (decode cX6_ring 37 = .ok (.iinc 2 1, 3)))) ∧ (((decode cX6_ring 40 = .ok (.goto (-36), 3)) ∧ (decode cX6_ring 43 = .ok (.iload_n 1, 1))) ∧ (decode cX6_ring 44 = .ok (.ireturn, 1))))) := by decide +kernel
theorem dX6_ring_22 : decode cX6_ring 22 = .ok (.iconst 1, 1) := kX6_ring_22.1.1.1.1
theorem dX6_ring_23 : decode cX6_ring 23 = .ok (.iand, 1) := kX6_ring_22.1.1.1.2
theorem dX6_ring_24 : decode cX6_ring 24 = .ok (.iconst 1, 1) := kX6_ring_22.1.1.2.1
theorem dX6_ring_25 : decode cX6_ring 25 = .ok (.if_icmp .ne 9, 3) := kX6_ring_22.1.1.2.2
theorem dX6_ring_28 : decode cX6_ring 28 = .ok (.iconst 1, 1) := kX6_ring_22.1.2.1.1
theorem dX6_ring_29 : decode cX6_ring 29 = .ok (.iload_n 2, 1) := kX6_ring_22.1.2.1.2
theorem dX6_ring_30 : decode cX6_ring 30 = .ok (.ishl, 1) := kX6_ring_22.1.2.2.1
theorem dX6_ring_31 : decode cX6_ring 31 = .ok (.goto 4, 3) := kX6_ring_22.1.2.2.2
theorem dX6_ring_34 : decode cX6_ring 34 = .ok (.iconst 0, 1) := kX6_ring_22.2.1.1.1
theorem dX6_ring_35 : decode cX6_ring 35 = .ok (.ior, 1) := kX6_ring_22.2.1.1.2
theorem dX6_ring_36 : decode cX6_ring 36 = .ok (.istore_n 1, 1) := kX6_ring_22.2.1.2.1
theorem dX6_ring_37 : decode cX6_ring 37 = .ok (.iinc 2 1, 3) := kX6_ring_22.2.1.2.2
theorem dX6_ring_40 : decode cX6_ring 40 = .ok (.goto (-36), 3) := kX6_ring_22.2.2.1.1
theorem dX6_ring_43 : decode cX6_ring 43 = .ok (.iload_n 1, 1) := kX6_ring_22.2.2.1.2
theorem dX6_ring_44 : decode cX6_ring 44 = .ok (.ireturn, 1) := kX6_ring_22.2.2.2
set_option maxRecDepth 20000 in
theorem ggX6_without_X6_windersOf : GoodIn wsX6_without wsX6_windersOf := goodIn_r _ [6, 1, 7, 8, 9, 5, 10, 11, 12, 13, 14, 15, 16, 17, 18, 19, 20, 21, 22, 23, 24, 25, 26, 27, 28, 29, 30, 31, 32, 33] rfl (by decide +kernel)
set_option maxRecDepth 20000 in
theorem gX6_without_X6_windersOf : GoodIn wsX6_without (wsV RX6 69 RX6 yX6_windersOf wsX6_windersOf) := goodIn_app (goodIn_of _ (by decide +kernel)) ggX6_without_X6_windersOf
theorem kX6_without_0 : (((((decode cX6_without 0 = .ok (.iconst 0, 1)) ∧ (decode cX6_without 1 = .ok (.istore_n 1, 1))) ∧ ((decode cX6_without 2 = .ok (.iconst 0, 1)) ∧ (decode cX6_without 3 = .ok (.istore_n 2, 1)))) ∧ (((decode cX6_without 4 = .ok (.iload_n 2, 1)) ∧ (decode cX6_without 5 = .ok (.aload_n 0, 1))) ∧ ((decode cX6_without 6 = .ok (.getfield 7, 3)) ∧ (decode cX6_without 9 = .ok (.iconst 0, 1))))) ∧ ((((decode cX6_without 10 = .ok (.iaload, 1)) ∧ (decode cX6_without 11 = .ok (.if_icmp .ge 25, 3))) ∧ ((decode cX6_without 14 = .ok (.iload_n 1, 1)) ∧ (decode cX6_without 15 = .ok (.aload_n 0, 1)))) ∧ (((decode cX6_without 16 = .ok (.iload_n 2, 1)) ∧ (decode cX6_without 17 = .ok (.invokevirtual 69, 3))) ∧ ((decode cX6_without 20 = .ok (.ifCond .ne 7, 3)) ∧ (decode cX6_without 23 = .ok (.iconst 1, 1)))))) := by decide +kernel
theorem dX6_without_0 : decode cX6_without 0 = .ok (.iconst 0, 1) := kX6_without_0.1.1.1.1
theorem dX6_without_1 : decode cX6_without 1 = .ok (.istore_n 1, 1) := kX6_without_0.1.1.1.2
theorem dX6_without_2 : decode cX6_without 2 = .ok (.iconst 0, 1) := kX6_without_0.1.1.2.1
theorem dX6_without_3 : decode cX6_without 3 = .ok (.istore_n 2, 1) := kX6_without_0.1.1.2.2
theorem dX6_without_4 : decode cX6_without 4 = .ok (.iload_n 2, 1) := kX6_without_0.1.2.1.1
theorem dX6_without_5 : decode cX6_without 5 = .ok (.aload_n 0, 1) := kX6_without_0.1.2.1.2
theorem dX6_without_6 : decode cX6_without 6 = .ok (.getfield 7, 3) := kX6_without_0.1.2.2.1
theorem dX6_without_9 : decode cX6_without 9 = .ok (.iconst 0, 1) := kX6_without_0.1.2.2.2
theorem dX6_without_10 : decode cX6_without 10 = .ok (.iaload, 1) := kX6_without_0.2.1.1.1
theorem dX6_without_11 : decode cX6_without 11 = .ok (.if_icmp .ge 25, 3) := kX6_without_0.2.1.1.2
theorem dX6_without_14 : decode cX6_without 14 = .ok (.iload_n 1, 1) := kX6_without_0.2.1.2.1
theorem dX6_without_15 : decode cX6_without 15 = .ok (.aload_n 0, 1) := kX6_without_0.2.1.2.2
theorem dX6_without_16 : decode cX6_without 16 = .ok (.iload_n 2, 1) := kX6_without_0.2.2.1.1
theorem dX6_without_17 : decode cX6_without 17 = .ok (.invokevirtual 69, 3) := kX6_without_0.2.2.1.2
theorem dX6_without_20 : decode cX6_without 20 = .ok (.ifCond .ne 7, 3) := kX6_without_0.2.2.2.1
theorem dX6_without_23 : decode cX6_without 23 = .ok (.iconst 1, 1) := kX6_without_0.2.2.2.2
theorem kX6_without_24 : ((((decode cX6_without 24 = .ok (.goto 4, 3)) ∧ (decode cX6_without 27 = .ok (.iconst 0, 1))) ∧ ((decode cX6_without 28 = .ok (.iadd, 1)) ∧ (decode cX6_without 29 = .ok (.istore_n 1, 1)))) ∧ (((decode cX6_without 30 = .ok (.iinc 2 1, 3)) ∧ (decode cX6_without 33 = .ok (.goto (-29), 3))) ∧ ((decode cX6_without 36 = .ok (.iload_n 1, 1)) ∧ (decode cX6_without 37 = .ok (.ireturn, 1))))) := by decide +kernel
theorem dX6_without_24 : decode cX6_without 24 = .ok (.goto 4, 3) := kX6_without_24.1.1.1
theorem dX6_without_27 : decode cX6_without 27 = .ok (.iconst 0, 1) := kX6_without_24.1.1.2
theorem dX6_without_28 : decode cX6_without 28 = .ok (.iadd, 1) := kX6_without_24.1.2.1
theorem dX6_without_29 : decode cX6_without 29 = .ok (.istore_n 1, 1) := kX6_without_24.1.2.2
theorem dX6_without_30 : decode cX6_without 30 = .ok (.iinc 2 1, 3) := kX6_without_24.2.1.1
theorem dX6_without_33 : decode cX6_without 33 = .ok (.goto (-29), 3) := kX6_without_24.2.1.2
theorem dX6_without_36 : decode cX6_without 36 = .ok (.iload_n 1, 1) := kX6_without_24.2.2.1
theorem dX6_without_37 : decode cX6_without 37 = .ok (.ireturn, 1) := kX6_without_24.2.2.2
set_option maxRecDepth 20000 in
theorem ggX6_turnsAll_X6_turns : GoodIn wsX6_turnsAll wsX6_turns := goodIn_r _ [6, 7, 8, 9, 5, 10, 1, 11, 12, 13, 14, 15, 16, 17, 18, 19, 20, 21, 22, 23, 24, 25, 26, 27, 28, 29] rfl (by decide +kernel)
set_option maxRecDepth 20000 in
theorem gX6_turnsAll_X6_turns : GoodIn wsX6_turnsAll (wsV RX6 58 RX6 yX6_turns wsX6_turns) := goodIn_app (goodIn_of _ (by decide +kernel)) ggX6_turnsAll_X6_turns
theorem kX6_turnsAll_0 : (((((decode cX6_turnsAll 0 = .ok (.iconst 0, 1)) ∧ (decode cX6_turnsAll 1 = .ok (.istore_n 1, 1))) ∧ ((decode cX6_turnsAll 2 = .ok (.iconst 0, 1)) ∧ (decode cX6_turnsAll 3 = .ok (.istore_n 2, 1)))) ∧ (((decode cX6_turnsAll 4 = .ok (.iload_n 2, 1)) ∧ (decode cX6_turnsAll 5 = .ok (.aload_n 0, 1))) ∧ ((decode cX6_turnsAll 6 = .ok (.getfield 7, 3)) ∧ (decode cX6_turnsAll 9 = .ok (.iconst 0, 1))))) ∧ ((((decode cX6_turnsAll 10 = .ok (.iaload, 1)) ∧ (decode cX6_turnsAll 11 = .ok (.if_icmp .ge 17, 3))) ∧ ((decode cX6_turnsAll 14 = .ok (.iload_n 1, 1)) ∧ (decode cX6_turnsAll 15 = .ok (.aload_n 0, 1)))) ∧ (((decode cX6_turnsAll 16 = .ok (.iload_n 2, 1)) ∧ (decode cX6_turnsAll 17 = .ok (.invokevirtual 58, 3))) ∧ ((decode cX6_turnsAll 20 = .ok (.iadd, 1)) ∧ (decode cX6_turnsAll 21 = .ok (.istore_n 1, 1)))))) := by decide +kernel
theorem dX6_turnsAll_0 : decode cX6_turnsAll 0 = .ok (.iconst 0, 1) := kX6_turnsAll_0.1.1.1.1
theorem dX6_turnsAll_1 : decode cX6_turnsAll 1 = .ok (.istore_n 1, 1) := kX6_turnsAll_0.1.1.1.2
theorem dX6_turnsAll_2 : decode cX6_turnsAll 2 = .ok (.iconst 0, 1) := kX6_turnsAll_0.1.1.2.1
theorem dX6_turnsAll_3 : decode cX6_turnsAll 3 = .ok (.istore_n 2, 1) := kX6_turnsAll_0.1.1.2.2
theorem dX6_turnsAll_4 : decode cX6_turnsAll 4 = .ok (.iload_n 2, 1) := kX6_turnsAll_0.1.2.1.1
theorem dX6_turnsAll_5 : decode cX6_turnsAll 5 = .ok (.aload_n 0, 1) := kX6_turnsAll_0.1.2.1.2
theorem dX6_turnsAll_6 : decode cX6_turnsAll 6 = .ok (.getfield 7, 3) := kX6_turnsAll_0.1.2.2.1
theorem dX6_turnsAll_9 : decode cX6_turnsAll 9 = .ok (.iconst 0, 1) := kX6_turnsAll_0.1.2.2.2
theorem dX6_turnsAll_10 : decode cX6_turnsAll 10 = .ok (.iaload, 1) := kX6_turnsAll_0.2.1.1.1
theorem dX6_turnsAll_11 : decode cX6_turnsAll 11 = .ok (.if_icmp .ge 17, 3) := kX6_turnsAll_0.2.1.1.2
theorem dX6_turnsAll_14 : decode cX6_turnsAll 14 = .ok (.iload_n 1, 1) := kX6_turnsAll_0.2.1.2.1
theorem dX6_turnsAll_15 : decode cX6_turnsAll 15 = .ok (.aload_n 0, 1) := kX6_turnsAll_0.2.1.2.2
theorem dX6_turnsAll_16 : decode cX6_turnsAll 16 = .ok (.iload_n 2, 1) := kX6_turnsAll_0.2.2.1.1
theorem dX6_turnsAll_17 : decode cX6_turnsAll 17 = .ok (.invokevirtual 58, 3) := kX6_turnsAll_0.2.2.1.2
theorem dX6_turnsAll_20 : decode cX6_turnsAll 20 = .ok (.iadd, 1) := kX6_turnsAll_0.2.2.2.1
theorem dX6_turnsAll_21 : decode cX6_turnsAll 21 = .ok (.istore_n 1, 1) := kX6_turnsAll_0.2.2.2.2
theorem kX6_turnsAll_22 : (((decode cX6_turnsAll 22 = .ok (.iinc 2 1, 3)) ∧ (decode cX6_turnsAll 25 = .ok (.goto (-21), 3))) ∧ ((decode cX6_turnsAll 28 = .ok (.iload_n 1, 1)) ∧ (decode cX6_turnsAll 29 = .ok (.ireturn, 1)))) := by decide +kernel
theorem dX6_turnsAll_22 : decode cX6_turnsAll 22 = .ok (.iinc 2 1, 3) := kX6_turnsAll_22.1.1
theorem dX6_turnsAll_25 : decode cX6_turnsAll 25 = .ok (.goto (-21), 3) := kX6_turnsAll_22.1.2
theorem dX6_turnsAll_28 : decode cX6_turnsAll 28 = .ok (.iload_n 1, 1) := kX6_turnsAll_22.2.1
theorem dX6_turnsAll_29 : decode cX6_turnsAll 29 = .ok (.ireturn, 1) := kX6_turnsAll_22.2.2
set_option maxRecDepth 20000 in
theorem ggX6_count_X6_stopped : GoodIn wsX6_count wsX6_stopped := goodIn_r _ [7, 1, 8, 9, 10, 6, 11, 12, 13, 14, 15, 16, 17, 18, 19, 48, 49, 50, 51, 52, 53, 54, 55, 56, 57, 58, 59, 60, 61, 62, 63, 64, 65, 66] rfl (by decide +kernel)
set_option maxRecDepth 20000 in
theorem gX6_count_X6_stopped : GoodIn wsX6_count (wsV RX6 110 RX6 yX6_stopped wsX6_stopped) := goodIn_app (goodIn_of _ (by decide +kernel)) ggX6_count_X6_stopped
set_option maxRecDepth 20000 in
theorem ggX6_count_X6_turnsAll : GoodIn wsX6_count wsX6_turnsAll := goodIn_r _ [23, 1, 12, 13, 14, 6, 15, 16, 17, 18, 19, 48, 49, 50, 51, 52, 53, 54, 55, 56, 57, 58, 59, 60, 61, 62, 63, 64, 65, 66] rfl (by decide +kernel)
set_option maxRecDepth 20000 in
theorem gX6_count_X6_turnsAll : GoodIn wsX6_count (wsV RX6 114 RX6 yX6_turnsAll wsX6_turnsAll) := goodIn_app (goodIn_of _ (by decide +kernel)) ggX6_count_X6_turnsAll
set_option maxRecDepth 20000 in
theorem ggX6_count_X6_ring : GoodIn wsX6_count wsX6_ring := goodIn_r _ [27, 1, 28, 29, 30, 6, 31, 32, 33, 34, 35, 16, 17, 18, 19, 48, 49, 50, 51, 52, 53, 54, 55, 56, 57, 58, 59, 60, 61, 62, 63, 64, 65, 66] rfl (by decide +kernel)
set_option maxRecDepth 20000 in
theorem gX6_count_X6_ring : GoodIn wsX6_count (wsV RX6 117 RX6 yX6_ring wsX6_ring) := goodIn_app (goodIn_of _ (by decide +kernel)) ggX6_count_X6_ring
set_option maxRecDepth 20000 in
theorem ggX6_count_X6_without : GoodIn wsX6_count wsX6_without := goodIn_r _ [39, 1, 40, 41, 42, 6, 43, 32, 33, 34, 35, 16, 17, 18, 19, 48, 49, 50, 51, 52, 53, 54, 55, 56, 57, 58, 59, 60, 61, 62, 63, 64, 65, 66] rfl (by decide +kernel)
set_option maxRecDepth 20000 in
theorem gX6_count_X6_without : GoodIn wsX6_count (wsV RX6 120 RX6 yX6_without wsX6_without) := goodIn_app (goodIn_of _ (by decide +kernel)) ggX6_count_X6_without
set_option maxRecDepth 20000 in
theorem ggX6_count_X6_isWinding : GoodIn wsX6_count wsX6_isWinding := goodIn_r _ [47, 1, 48, 49, 50, 51, 52, 53, 54, 55, 56, 57, 58, 59, 60, 61, 62, 63, 64, 65, 66] rfl (by decide +kernel)
set_option maxRecDepth 20000 in
theorem gX6_count_X6_isWinding : GoodIn wsX6_count (wsV RX6 76 RX6 yX6_isWinding wsX6_isWinding) := goodIn_app (goodIn_of _ (by decide +kernel)) ggX6_count_X6_isWinding
theorem kX6_count_0 : (((((decode cX6_count 0 = .ok (.iload_n 1, 1)) ∧ (decode cX6_count 1 = .ok (.tableswitch 92 0 7 #[47, 47, 54, 59, 64, 69, 74, 87], 47))) ∧ ((decode cX6_count 48 = .ok (.aload_n 0, 1)) ∧ (decode cX6_count 49 = .ok (.getfield 7, 3)))) ∧ (((decode cX6_count 52 = .ok (.iload_n 1, 1)) ∧ (decode cX6_count 53 = .ok (.iaload, 1))) ∧ ((decode cX6_count 54 = .ok (.ireturn, 1)) ∧ (decode cX6_count 55 = .ok (.aload_n 0, 1))))) ∧ ((((decode cX6_count 56 = .ok (.invokevirtual 110, 3)) ∧ (decode cX6_count 59 = .ok (.ireturn, 1))) ∧ ((decode cX6_count 60 = .ok (.aload_n 0, 1)) ∧ (decode cX6_count 61 = .ok (.invokevirtual 114, 3)))) ∧ (((decode cX6_count 64 = .ok (.ireturn, 1)) ∧ (decode cX6_count 65 = .ok (.aload_n 0, 1))) ∧ ((decode cX6_count 66 = .ok (.invokevirtual 117, 3)) ∧ (decode cX6_count 69 = .ok (.ireturn, 1)))))) := by decide +kernel
theorem dX6_count_0 : decode cX6_count 0 = .ok (.iload_n 1, 1) := kX6_count_0.1.1.1.1
theorem dX6_count_1 : decode cX6_count 1 = .ok (.tableswitch 92 0 7 #[47, 47, 54, 59, 64, 69, 74, 87], 47) := kX6_count_0.1.1.1.2
theorem dX6_count_48 : decode cX6_count 48 = .ok (.aload_n 0, 1) := kX6_count_0.1.1.2.1
theorem dX6_count_49 : decode cX6_count 49 = .ok (.getfield 7, 3) := kX6_count_0.1.1.2.2
theorem dX6_count_52 : decode cX6_count 52 = .ok (.iload_n 1, 1) := kX6_count_0.1.2.1.1
theorem dX6_count_53 : decode cX6_count 53 = .ok (.iaload, 1) := kX6_count_0.1.2.1.2
theorem dX6_count_54 : decode cX6_count 54 = .ok (.ireturn, 1) := kX6_count_0.1.2.2.1
theorem dX6_count_55 : decode cX6_count 55 = .ok (.aload_n 0, 1) := kX6_count_0.1.2.2.2
theorem dX6_count_56 : decode cX6_count 56 = .ok (.invokevirtual 110, 3) := kX6_count_0.2.1.1.1
theorem dX6_count_59 : decode cX6_count 59 = .ok (.ireturn, 1) := kX6_count_0.2.1.1.2
theorem dX6_count_60 : decode cX6_count 60 = .ok (.aload_n 0, 1) := kX6_count_0.2.1.2.1
theorem dX6_count_61 : decode cX6_count 61 = .ok (.invokevirtual 114, 3) := kX6_count_0.2.1.2.2
theorem dX6_count_64 : decode cX6_count 64 = .ok (.ireturn, 1) := kX6_count_0.2.2.1.1
theorem dX6_count_65 : decode cX6_count 65 = .ok (.aload_n 0, 1) := kX6_count_0.2.2.1.2
theorem dX6_count_66 : decode cX6_count 66 = .ok (.invokevirtual 117, 3) := kX6_count_0.2.2.2.1
theorem dX6_count_69 : decode cX6_count 69 = .ok (.ireturn, 1) := kX6_count_0.2.2.2.2
theorem kX6_count_70 : (((((decode cX6_count 70 = .ok (.aload_n 0, 1)) ∧ (decode cX6_count 71 = .ok (.invokevirtual 120, 3))) ∧ ((decode cX6_count 74 = .ok (.ireturn, 1)) ∧ (decode cX6_count 75 = .ok (.aload_n 0, 1)))) ∧ (((decode cX6_count 76 = .ok (.invokevirtual 76, 3)) ∧ (decode cX6_count 79 = .ok (.ifCond .eq 7, 3))) ∧ ((decode cX6_count 82 = .ok (.iconst 1, 1)) ∧ (decode cX6_count 83 = .ok (.goto 4, 3))))) ∧ ((((decode cX6_count 86 = .ok (.iconst 0, 1)) ∧ (decode cX6_count 87 = .ok (.ireturn, 1))) ∧ ((decode cX6_count 88 = .ok (.aload_n 0, 1)) ∧ (decode cX6_count 89 = .ok (.getfield 90, 3)))) ∧ (((decode cX6_count 92 = .ok (.ireturn, 1)) ∧ (decode cX6_count 93 = .ok (.iconst (-1), 1))) ∧ (decode cX6_count 94 = .ok (.ireturn, 1))))) := by decide +kernel
theorem dX6_count_70 : decode cX6_count 70 = .ok (.aload_n 0, 1) := kX6_count_70.1.1.1.1
theorem dX6_count_71 : decode cX6_count 71 = .ok (.invokevirtual 120, 3) := kX6_count_70.1.1.1.2
theorem dX6_count_74 : decode cX6_count 74 = .ok (.ireturn, 1) := kX6_count_70.1.1.2.1
theorem dX6_count_75 : decode cX6_count 75 = .ok (.aload_n 0, 1) := kX6_count_70.1.1.2.2
theorem dX6_count_76 : decode cX6_count 76 = .ok (.invokevirtual 76, 3) := kX6_count_70.1.2.1.1
theorem dX6_count_79 : decode cX6_count 79 = .ok (.ifCond .eq 7, 3) := kX6_count_70.1.2.1.2
theorem dX6_count_82 : decode cX6_count 82 = .ok (.iconst 1, 1) := kX6_count_70.1.2.2.1
theorem dX6_count_83 : decode cX6_count 83 = .ok (.goto 4, 3) := kX6_count_70.1.2.2.2
theorem dX6_count_86 : decode cX6_count 86 = .ok (.iconst 0, 1) := kX6_count_70.2.1.1.1
theorem dX6_count_87 : decode cX6_count 87 = .ok (.ireturn, 1) := kX6_count_70.2.1.1.2
theorem dX6_count_88 : decode cX6_count 88 = .ok (.aload_n 0, 1) := kX6_count_70.2.1.2.1
theorem dX6_count_89 : decode cX6_count 89 = .ok (.getfield 90, 3) := kX6_count_70.2.1.2.2
theorem dX6_count_92 : decode cX6_count 92 = .ok (.ireturn, 1) := kX6_count_70.2.2.1.1
theorem dX6_count_93 : decode cX6_count 93 = .ok (.iconst (-1), 1) := kX6_count_70.2.2.1.2
theorem dX6_count_94 : decode cX6_count 94 = .ok (.ireturn, 1) := kX6_count_70.2.2.2
set_option maxRecDepth 20000 in
theorem ggX6_type_X6_in : GoodIn wsX6_type wsX6_in := goodIn_r _ [8] rfl (by decide +kernel)
set_option maxRecDepth 20000 in
theorem gX6_type_X6_in : GoodIn wsX6_type (va_wsS RX6 50 yX6_in wsX6_in) := goodIn_app (goodIn_of _ (by decide +kernel)) ggX6_type_X6_in
theorem kX6_type_0 : (((((decode cX6_type 0 = .ok (.iload_n 1, 1)) ∧ (decode cX6_type 1 = .ok (.i2l, 1))) ∧ ((decode cX6_type 2 = .ok (.ldc2_w 123, 3)) ∧ (decode cX6_type 5 = .ok (.ldc2_w 125, 3)))) ∧ (((decode cX6_type 8 = .ok (.invokestatic 50, 3)) ∧ (decode cX6_type 11 = .ok (.ifCond .ne 5, 3))) ∧ ((decode cX6_type 14 = .ok (.iconst (-1), 1)) ∧ (decode cX6_type 15 = .ok (.ireturn, 1))))) ∧ ((((decode cX6_type 16 = .ok (.aload_n 0, 1)) ∧ (decode cX6_type 17 = .ok (.getfield 127, 3))) ∧ ((decode cX6_type 20 = .ok (.bipush 60, 2)) ∧ (decode cX6_type 22 = .ok (.if_icmp .ne 6, 3)))) ∧ (((decode cX6_type 25 = .ok (.bipush (-3), 2)) ∧ (decode cX6_type 27 = .ok (.ireturn, 1))) ∧ ((decode cX6_type 28 = .ok (.aload_n 0, 1)) ∧ (decode cX6_type 29 = .ok (.getfield 16, 3)))))) := by decide +kernel
theorem dX6_type_0 : decode cX6_type 0 = .ok (.iload_n 1, 1) := kX6_type_0.1.1.1.1
theorem dX6_type_1 : decode cX6_type 1 = .ok (.i2l, 1) := kX6_type_0.1.1.1.2
theorem dX6_type_2 : decode cX6_type 2 = .ok (.ldc2_w 123, 3) := kX6_type_0.1.1.2.1
theorem dX6_type_5 : decode cX6_type 5 = .ok (.ldc2_w 125, 3) := kX6_type_0.1.1.2.2
theorem dX6_type_8 : decode cX6_type 8 = .ok (.invokestatic 50, 3) := kX6_type_0.1.2.1.1
theorem dX6_type_11 : decode cX6_type 11 = .ok (.ifCond .ne 5, 3) := kX6_type_0.1.2.1.2
theorem dX6_type_14 : decode cX6_type 14 = .ok (.iconst (-1), 1) := kX6_type_0.1.2.2.1
theorem dX6_type_15 : decode cX6_type 15 = .ok (.ireturn, 1) := kX6_type_0.1.2.2.2
theorem dX6_type_16 : decode cX6_type 16 = .ok (.aload_n 0, 1) := kX6_type_0.2.1.1.1
theorem dX6_type_17 : decode cX6_type 17 = .ok (.getfield 127, 3) := kX6_type_0.2.1.1.2
theorem dX6_type_20 : decode cX6_type 20 = .ok (.bipush 60, 2) := kX6_type_0.2.1.2.1
theorem dX6_type_22 : decode cX6_type 22 = .ok (.if_icmp .ne 6, 3) := kX6_type_0.2.1.2.2
theorem dX6_type_25 : decode cX6_type 25 = .ok (.bipush (-3), 2) := kX6_type_0.2.2.1.1
theorem dX6_type_27 : decode cX6_type 27 = .ok (.ireturn, 1) := kX6_type_0.2.2.1.2
theorem dX6_type_28 : decode cX6_type 28 = .ok (.aload_n 0, 1) := kX6_type_0.2.2.2.1
theorem dX6_type_29 : decode cX6_type 29 = .ok (.getfield 16, 3) := kX6_type_0.2.2.2.2
theorem kX6_type_32 : (((((decode cX6_type 32 = .ok (.aload_n 0, 1)) ∧ (decode cX6_type 33 = .ok (.getfield 127, 3))) ∧ ((decode cX6_type 36 = .ok (.iload_n 1, 1)) ∧ (decode cX6_type 37 = .ok (.iastore, 1)))) ∧ (((decode cX6_type 38 = .ok (.aload_n 0, 1)) ∧ (decode cX6_type 39 = .ok (.dup, 1))) ∧ (decode cX6_type 40 = .ok (.getfield 127, 3)))) ∧ ((((decode cX6_type 43 = .ok (.iconst 1, 1)) ∧ (decode cX6_type 44 = .ok (.iadd, 1))) ∧ (decode cX6_type 45 = .ok (.putfield 127, 3))) ∧ (((decode cX6_type 48 = .ok (.aload_n 0, 1)) ∧ (decode cX6_type 49 = .ok (.getfield 127, 3))) ∧ (decode cX6_type 52 = .ok (.ireturn, 1))))) := by decide +kernel
theorem dX6_type_32 : decode cX6_type 32 = .ok (.aload_n 0, 1) := kX6_type_32.1.1.1.1
theorem dX6_type_33 : decode cX6_type 33 = .ok (.getfield 127, 3) := kX6_type_32.1.1.1.2
theorem dX6_type_36 : decode cX6_type 36 = .ok (.iload_n 1, 1) := kX6_type_32.1.1.2.1
theorem dX6_type_37 : decode cX6_type 37 = .ok (.iastore, 1) := kX6_type_32.1.1.2.2
theorem dX6_type_38 : decode cX6_type 38 = .ok (.aload_n 0, 1) := kX6_type_32.1.2.1.1
theorem dX6_type_39 : decode cX6_type 39 = .ok (.dup, 1) := kX6_type_32.1.2.1.2
theorem dX6_type_40 : decode cX6_type 40 = .ok (.getfield 127, 3) := kX6_type_32.1.2.2
theorem dX6_type_43 : decode cX6_type 43 = .ok (.iconst 1, 1) := kX6_type_32.2.1.1.1
theorem dX6_type_44 : decode cX6_type 44 = .ok (.iadd, 1) := kX6_type_32.2.1.1.2
theorem dX6_type_45 : decode cX6_type 45 = .ok (.putfield 127, 3) := kX6_type_32.2.1.2
theorem dX6_type_48 : decode cX6_type 48 = .ok (.aload_n 0, 1) := kX6_type_32.2.2.1.1
theorem dX6_type_49 : decode cX6_type 49 = .ok (.getfield 127, 3) := kX6_type_32.2.2.1.2
theorem dX6_type_52 : decode cX6_type 52 = .ok (.ireturn, 1) := kX6_type_32.2.2.2
theorem kX6_here_0 : (((((decode cX6_here 0 = .ok (.aload_n 0, 1)) ∧ (decode cX6_here 1 = .ok (.getfield 130, 3))) ∧ ((decode cX6_here 4 = .ok (.aload_n 0, 1)) ∧ (decode cX6_here 5 = .ok (.getfield 127, 3)))) ∧ (((decode cX6_here 8 = .ok (.if_icmp .ge 30, 3)) ∧ (decode cX6_here 11 = .ok (.aload_n 0, 1))) ∧ ((decode cX6_here 12 = .ok (.getfield 16, 3)) ∧ (decode cX6_here 15 = .ok (.aload_n 0, 1))))) ∧ ((((decode cX6_here 16 = .ok (.getfield 130, 3)) ∧ (decode cX6_here 19 = .ok (.iaload, 1))) ∧ ((decode cX6_here 20 = .ok (.bipush 32, 2)) ∧ (decode cX6_here 22 = .ok (.if_icmp .ne 16, 3)))) ∧ (((decode cX6_here 25 = .ok (.aload_n 0, 1)) ∧ (decode cX6_here 26 = .ok (.dup, 1))) ∧ ((decode cX6_here 27 = .ok (.getfield 130, 3)) ∧ (decode cX6_here 30 = .ok (.iconst 1, 1)))))) := by decide +kernel
theorem dX6_here_0 : decode cX6_here 0 = .ok (.aload_n 0, 1) := kX6_here_0.1.1.1.1
theorem dX6_here_1 : decode cX6_here 1 = .ok (.getfield 130, 3) := kX6_here_0.1.1.1.2
theorem dX6_here_4 : decode cX6_here 4 = .ok (.aload_n 0, 1) := kX6_here_0.1.1.2.1
theorem dX6_here_5 : decode cX6_here 5 = .ok (.getfield 127, 3) := kX6_here_0.1.1.2.2
theorem dX6_here_8 : decode cX6_here 8 = .ok (.if_icmp .ge 30, 3) := kX6_here_0.1.2.1.1
theorem dX6_here_11 : decode cX6_here 11 = .ok (.aload_n 0, 1) := kX6_here_0.1.2.1.2
theorem dX6_here_12 : decode cX6_here 12 = .ok (.getfield 16, 3) := kX6_here_0.1.2.2.1
theorem dX6_here_15 : decode cX6_here 15 = .ok (.aload_n 0, 1) := kX6_here_0.1.2.2.2
theorem dX6_here_16 : decode cX6_here 16 = .ok (.getfield 130, 3) := kX6_here_0.2.1.1.1
theorem dX6_here_19 : decode cX6_here 19 = .ok (.iaload, 1) := kX6_here_0.2.1.1.2
theorem dX6_here_20 : decode cX6_here 20 = .ok (.bipush 32, 2) := kX6_here_0.2.1.2.1
theorem dX6_here_22 : decode cX6_here 22 = .ok (.if_icmp .ne 16, 3) := kX6_here_0.2.1.2.2
theorem dX6_here_25 : decode cX6_here 25 = .ok (.aload_n 0, 1) := kX6_here_0.2.2.1.1
theorem dX6_here_26 : decode cX6_here 26 = .ok (.dup, 1) := kX6_here_0.2.2.1.2
theorem dX6_here_27 : decode cX6_here 27 = .ok (.getfield 130, 3) := kX6_here_0.2.2.2.1
theorem dX6_here_30 : decode cX6_here 30 = .ok (.iconst 1, 1) := kX6_here_0.2.2.2.2
theorem kX6_here_31 : (((((decode cX6_here 31 = .ok (.iadd, 1)) ∧ (decode cX6_here 32 = .ok (.putfield 130, 3))) ∧ ((decode cX6_here 35 = .ok (.goto (-35), 3)) ∧ (decode cX6_here 38 = .ok (.aload_n 0, 1)))) ∧ (((decode cX6_here 39 = .ok (.getfield 130, 3)) ∧ (decode cX6_here 42 = .ok (.aload_n 0, 1))) ∧ ((decode cX6_here 43 = .ok (.getfield 127, 3)) ∧ (decode cX6_here 46 = .ok (.if_icmp .ge 15, 3))))) ∧ ((((decode cX6_here 49 = .ok (.aload_n 0, 1)) ∧ (decode cX6_here 50 = .ok (.getfield 16, 3))) ∧ ((decode cX6_here 53 = .ok (.aload_n 0, 1)) ∧ (decode cX6_here 54 = .ok (.getfield 130, 3)))) ∧ (((decode cX6_here 57 = .ok (.iaload, 1)) ∧ (decode cX6_here 58 = .ok (.goto 4, 3))) ∧ ((decode cX6_here 61 = .ok (.iconst 0, 1)) ∧ (decode cX6_here 62 = .ok (.ireturn, 1)))))) := by decide +kernel
theorem dX6_here_31 : decode cX6_here 31 = .ok (.iadd, 1) := kX6_here_31.1.1.1.1
theorem dX6_here_32 : decode cX6_here 32 = .ok (.putfield 130, 3) := kX6_here_31.1.1.1.2
theorem dX6_here_35 : decode cX6_here 35 = .ok (.goto (-35), 3) := kX6_here_31.1.1.2.1
theorem dX6_here_38 : decode cX6_here 38 = .ok (.aload_n 0, 1) := kX6_here_31.1.1.2.2
theorem dX6_here_39 : decode cX6_here 39 = .ok (.getfield 130, 3) := kX6_here_31.1.2.1.1
theorem dX6_here_42 : decode cX6_here 42 = .ok (.aload_n 0, 1) := kX6_here_31.1.2.1.2
theorem dX6_here_43 : decode cX6_here 43 = .ok (.getfield 127, 3) := kX6_here_31.1.2.2.1
theorem dX6_here_46 : decode cX6_here 46 = .ok (.if_icmp .ge 15, 3) := kX6_here_31.1.2.2.2
theorem dX6_here_49 : decode cX6_here 49 = .ok (.aload_n 0, 1) := kX6_here_31.2.1.1.1
theorem dX6_here_50 : decode cX6_here 50 = .ok (.getfield 16, 3) := kX6_here_31.2.1.1.2
theorem dX6_here_53 : decode cX6_here 53 = .ok (.aload_n 0, 1) := kX6_here_31.2.1.2.1
theorem dX6_here_54 : decode cX6_here 54 = .ok (.getfield 130, 3) := kX6_here_31.2.1.2.2
theorem dX6_here_57 : decode cX6_here 57 = .ok (.iaload, 1) := kX6_here_31.2.2.1.1
theorem dX6_here_58 : decode cX6_here 58 = .ok (.goto 4, 3) := kX6_here_31.2.2.1.2
theorem dX6_here_61 : decode cX6_here 61 = .ok (.iconst 0, 1) := kX6_here_31.2.2.2.1
theorem dX6_here_62 : decode cX6_here 62 = .ok (.ireturn, 1) := kX6_here_31.2.2.2.2
theorem kX6_must_0 : (((((decode cX6_must 0 = .ok (.aload_n 0, 1)) ∧ (decode cX6_must 1 = .ok (.aload_n 0, 1))) ∧ ((decode cX6_must 2 = .ok (.getfield 133, 3)) ∧ (decode cX6_must 5 = .ok (.ifCond .ne 7, 3)))) ∧ (((decode cX6_must 8 = .ok (.iload_n 1, 1)) ∧ (decode cX6_must 9 = .ok (.ifCond .ne 7, 3))) ∧ ((decode cX6_must 12 = .ok (.iconst 1, 1)) ∧ (decode cX6_must 13 = .ok (.goto 4, 3))))) ∧ ((((decode cX6_must 16 = .ok (.iconst 0, 1)) ∧ (decode cX6_must 17 = .ok (.putfield 133, 3))) ∧ ((decode cX6_must 20 = .ok (.aload_n 0, 1)) ∧ (decode cX6_must 21 = .ok (.dup, 1)))) ∧ (((decode cX6_must 22 = .ok (.getfield 130, 3)) ∧ (decode cX6_must 25 = .ok (.aload_n 0, 1))) ∧ ((decode cX6_must 26 = .ok (.getfield 133, 3)) ∧ (decode cX6_must 29 = .ok (.ifCond .eq 7, 3)))))) := by decide +kernel
theorem dX6_must_0 : decode cX6_must 0 = .ok (.aload_n 0, 1) := kX6_must_0.1.1.1.1
theorem dX6_must_1 : decode cX6_must 1 = .ok (.aload_n 0, 1) := kX6_must_0.1.1.1.2
theorem dX6_must_2 : decode cX6_must 2 = .ok (.getfield 133, 3) := kX6_must_0.1.1.2.1
theorem dX6_must_5 : decode cX6_must 5 = .ok (.ifCond .ne 7, 3) := kX6_must_0.1.1.2.2
theorem dX6_must_8 : decode cX6_must 8 = .ok (.iload_n 1, 1) := kX6_must_0.1.2.1.1
theorem dX6_must_9 : decode cX6_must 9 = .ok (.ifCond .ne 7, 3) := kX6_must_0.1.2.1.2
theorem dX6_must_12 : decode cX6_must 12 = .ok (.iconst 1, 1) := kX6_must_0.1.2.2.1
theorem dX6_must_13 : decode cX6_must 13 = .ok (.goto 4, 3) := kX6_must_0.1.2.2.2
theorem dX6_must_16 : decode cX6_must 16 = .ok (.iconst 0, 1) := kX6_must_0.2.1.1.1
theorem dX6_must_17 : decode cX6_must 17 = .ok (.putfield 133, 3) := kX6_must_0.2.1.1.2
theorem dX6_must_20 : decode cX6_must 20 = .ok (.aload_n 0, 1) := kX6_must_0.2.1.2.1
theorem dX6_must_21 : decode cX6_must 21 = .ok (.dup, 1) := kX6_must_0.2.1.2.2
theorem dX6_must_22 : decode cX6_must 22 = .ok (.getfield 130, 3) := kX6_must_0.2.2.1.1
theorem dX6_must_25 : decode cX6_must 25 = .ok (.aload_n 0, 1) := kX6_must_0.2.2.1.2
theorem dX6_must_26 : decode cX6_must 26 = .ok (.getfield 133, 3) := kX6_must_0.2.2.2.1
theorem dX6_must_29 : decode cX6_must 29 = .ok (.ifCond .eq 7, 3) := kX6_must_0.2.2.2.2
theorem kX6_must_32 : ((((decode cX6_must 32 = .ok (.iconst 0, 1)) ∧ (decode cX6_must 33 = .ok (.goto 4, 3))) ∧ (decode cX6_must 36 = .ok (.iconst 1, 1))) ∧ (((decode cX6_must 37 = .ok (.iadd, 1)) ∧ (decode cX6_must 38 = .ok (.putfield 130, 3))) ∧ (decode cX6_must 41 = .ok (.return_, 1)))) := by decide +kernel
theorem dX6_must_32 : decode cX6_must 32 = .ok (.iconst 0, 1) := kX6_must_32.1.1.1
theorem dX6_must_33 : decode cX6_must 33 = .ok (.goto 4, 3) := kX6_must_32.1.1.2
theorem dX6_must_36 : decode cX6_must 36 = .ok (.iconst 1, 1) := kX6_must_32.1.2
theorem dX6_must_37 : decode cX6_must 37 = .ok (.iadd, 1) := kX6_must_32.2.1.1
theorem dX6_must_38 : decode cX6_must 38 = .ok (.putfield 130, 3) := kX6_must_32.2.1.2
theorem dX6_must_41 : decode cX6_must 41 = .ok (.return_, 1) := kX6_must_32.2.2
set_option maxRecDepth 20000 in
theorem ggX6_number_X6_here : GoodIn wsX6_number wsX6_here := goodIn_r _ [11, 2, 5, 6, 15, 16, 17, 18, 19, 20, 21, 22, 23, 24, 25, 26, 27, 28, 29, 30, 31, 32, 33] rfl (by decide +kernel)
set_option maxRecDepth 20000 in
theorem gX6_number_X6_here : GoodIn wsX6_number (wsV RX6 137 RX6 yX6_here wsX6_here) := goodIn_app (goodIn_of _ (by decide +kernel)) ggX6_number_X6_here
set_option maxRecDepth 20000 in
theorem ggX6_number_X6_in : GoodIn wsX6_number wsX6_in := goodIn_r _ [14] rfl (by decide +kernel)
set_option maxRecDepth 20000 in
theorem gX6_number_X6_in : GoodIn wsX6_number (va_wsS RX6 50 yX6_in wsX6_in) := goodIn_app (goodIn_of _ (by decide +kernel)) ggX6_number_X6_in
theorem kX6_number_0 : (((((decode cX6_number 0 = .ok (.aload_n 0, 1)) ∧ (decode cX6_number 1 = .ok (.getfield 133, 3))) ∧ ((decode cX6_number 4 = .ok (.ifCond .eq 7, 3)) ∧ (decode cX6_number 7 = .ok (.iconst 0, 1)))) ∧ (((decode cX6_number 8 = .ok (.goto 7, 3)) ∧ (decode cX6_number 11 = .ok (.aload_n 0, 1))) ∧ ((decode cX6_number 12 = .ok (.invokevirtual 137, 3)) ∧ (decode cX6_number 15 = .ok (.istore_n 3, 1))))) ∧ ((((decode cX6_number 16 = .ok (.aload_n 0, 1)) ∧ (decode cX6_number 17 = .ok (.getfield 130, 3))) ∧ ((decode cX6_number 20 = .ok (.istore 4, 2)) ∧ (decode cX6_number 22 = .ok (.iconst 0, 1)))) ∧ (((decode cX6_number 23 = .ok (.istore 5, 2)) ∧ (decode cX6_number 25 = .ok (.aload_n 0, 1))) ∧ ((decode cX6_number 26 = .ok (.aload_n 0, 1)) ∧ (decode cX6_number 27 = .ok (.getfield 133, 3)))))) := by decide +kernel
theorem dX6_number_0 : decode cX6_number 0 = .ok (.aload_n 0, 1) := kX6_number_0.1.1.1.1
theorem dX6_number_1 : decode cX6_number 1 = .ok (.getfield 133, 3) := kX6_number_0.1.1.1.2
theorem dX6_number_4 : decode cX6_number 4 = .ok (.ifCond .eq 7, 3) := kX6_number_0.1.1.2.1
theorem dX6_number_7 : decode cX6_number 7 = .ok (.iconst 0, 1) := kX6_number_0.1.1.2.2
theorem dX6_number_8 : decode cX6_number 8 = .ok (.goto 7, 3) := kX6_number_0.1.2.1.1
theorem dX6_number_11 : decode cX6_number 11 = .ok (.aload_n 0, 1) := kX6_number_0.1.2.1.2
theorem dX6_number_12 : decode cX6_number 12 = .ok (.invokevirtual 137, 3) := kX6_number_0.1.2.2.1
theorem dX6_number_15 : decode cX6_number 15 = .ok (.istore_n 3, 1) := kX6_number_0.1.2.2.2
theorem dX6_number_16 : decode cX6_number 16 = .ok (.aload_n 0, 1) := kX6_number_0.2.1.1.1
theorem dX6_number_17 : decode cX6_number 17 = .ok (.getfield 130, 3) := kX6_number_0.2.1.1.2
theorem dX6_number_20 : decode cX6_number 20 = .ok (.istore 4, 2) := kX6_number_0.2.1.2.1
theorem dX6_number_22 : decode cX6_number 22 = .ok (.iconst 0, 1) := kX6_number_0.2.1.2.2
theorem dX6_number_23 : decode cX6_number 23 = .ok (.istore 5, 2) := kX6_number_0.2.2.1.1
theorem dX6_number_25 : decode cX6_number 25 = .ok (.aload_n 0, 1) := kX6_number_0.2.2.1.2
theorem dX6_number_26 : decode cX6_number 26 = .ok (.aload_n 0, 1) := kX6_number_0.2.2.2.1
theorem dX6_number_27 : decode cX6_number 27 = .ok (.getfield 133, 3) := kX6_number_0.2.2.2.2
theorem kX6_number_30 : (((((decode cX6_number 30 = .ok (.ifCond .ne 17, 3)) ∧ (decode cX6_number 33 = .ok (.iload_n 3, 1))) ∧ ((decode cX6_number 34 = .ok (.i2l, 1)) ∧ (decode cX6_number 35 = .ok (.ldc2_w 140, 3)))) ∧ (((decode cX6_number 38 = .ok (.ldc2_w 142, 3)) ∧ (decode cX6_number 41 = .ok (.invokestatic 50, 3))) ∧ ((decode cX6_number 44 = .ok (.ifCond .ne 7, 3)) ∧ (decode cX6_number 47 = .ok (.iconst 1, 1))))) ∧ ((((decode cX6_number 48 = .ok (.goto 4, 3)) ∧ (decode cX6_number 51 = .ok (.iconst 0, 1))) ∧ ((decode cX6_number 52 = .ok (.putfield 133, 3)) ∧ (decode cX6_number 55 = .ok (.aload_n 0, 1)))) ∧ (((decode cX6_number 56 = .ok (.getfield 133, 3)) ∧ (decode cX6_number 59 = .ok (.ifCond .ne 80, 3))) ∧ ((decode cX6_number 62 = .ok (.aload_n 0, 1)) ∧ (decode cX6_number 63 = .ok (.getfield 130, 3)))))) := by decide +kernel
theorem dX6_number_30 : decode cX6_number 30 = .ok (.ifCond .ne 17, 3) := kX6_number_30.1.1.1.1
theorem dX6_number_33 : decode cX6_number 33 = .ok (.iload_n 3, 1) := kX6_number_30.1.1.1.2
theorem dX6_number_34 : decode cX6_number 34 = .ok (.i2l, 1) := kX6_number_30.1.1.2.1
theorem dX6_number_35 : decode cX6_number 35 = .ok (.ldc2_w 140, 3) := kX6_number_30.1.1.2.2
theorem dX6_number_38 : decode cX6_number 38 = .ok (.ldc2_w 142, 3) := kX6_number_30.1.2.1.1
theorem dX6_number_41 : decode cX6_number 41 = .ok (.invokestatic 50, 3) := kX6_number_30.1.2.1.2
theorem dX6_number_44 : decode cX6_number 44 = .ok (.ifCond .ne 7, 3) := kX6_number_30.1.2.2.1
theorem dX6_number_47 : decode cX6_number 47 = .ok (.iconst 1, 1) := kX6_number_30.1.2.2.2
theorem dX6_number_48 : decode cX6_number 48 = .ok (.goto 4, 3) := kX6_number_30.2.1.1.1
theorem dX6_number_51 : decode cX6_number 51 = .ok (.iconst 0, 1) := kX6_number_30.2.1.1.2
theorem dX6_number_52 : decode cX6_number 52 = .ok (.putfield 133, 3) := kX6_number_30.2.1.2.1
theorem dX6_number_55 : decode cX6_number 55 = .ok (.aload_n 0, 1) := kX6_number_30.2.1.2.2
theorem dX6_number_56 : decode cX6_number 56 = .ok (.getfield 133, 3) := kX6_number_30.2.2.1.1
theorem dX6_number_59 : decode cX6_number 59 = .ok (.ifCond .ne 80, 3) := kX6_number_30.2.2.1.2
theorem dX6_number_62 : decode cX6_number 62 = .ok (.aload_n 0, 1) := kX6_number_30.2.2.2.1
theorem dX6_number_63 : decode cX6_number 63 = .ok (.getfield 130, 3) := kX6_number_30.2.2.2.2
theorem kX6_number_66 : (((((decode cX6_number 66 = .ok (.aload_n 0, 1)) ∧ (decode cX6_number 67 = .ok (.getfield 127, 3))) ∧ ((decode cX6_number 70 = .ok (.if_icmp .ge 69, 3)) ∧ (decode cX6_number 73 = .ok (.aload_n 0, 1)))) ∧ (((decode cX6_number 74 = .ok (.getfield 130, 3)) ∧ (decode cX6_number 77 = .ok (.iload 4, 2))) ∧ ((decode cX6_number 79 = .ok (.isub, 1)) ∧ (decode cX6_number 80 = .ok (.iconst 2, 1))))) ∧ ((((decode cX6_number 81 = .ok (.if_icmp .ge 58, 3)) ∧ (decode cX6_number 84 = .ok (.aload_n 0, 1))) ∧ ((decode cX6_number 85 = .ok (.getfield 16, 3)) ∧ (decode cX6_number 88 = .ok (.aload_n 0, 1)))) ∧ (((decode cX6_number 89 = .ok (.getfield 130, 3)) ∧ (decode cX6_number 92 = .ok (.iaload, 1))) ∧ ((decode cX6_number 93 = .ok (.i2l, 1)) ∧ (decode cX6_number 94 = .ok (.ldc2_w 140, 3)))))) := by decide +kernel
theorem dX6_number_66 : decode cX6_number 66 = .ok (.aload_n 0, 1) := kX6_number_66.1.1.1.1
theorem dX6_number_67 : decode cX6_number 67 = .ok (.getfield 127, 3) := kX6_number_66.1.1.1.2
theorem dX6_number_70 : decode cX6_number 70 = .ok (.if_icmp .ge 69, 3) := kX6_number_66.1.1.2.1
theorem dX6_number_73 : decode cX6_number 73 = .ok (.aload_n 0, 1) := kX6_number_66.1.1.2.2
theorem dX6_number_74 : decode cX6_number 74 = .ok (.getfield 130, 3) := kX6_number_66.1.2.1.1
theorem dX6_number_77 : decode cX6_number 77 = .ok (.iload 4, 2) := kX6_number_66.1.2.1.2
theorem dX6_number_79 : decode cX6_number 79 = .ok (.isub, 1) := kX6_number_66.1.2.2.1
theorem dX6_number_80 : decode cX6_number 80 = .ok (.iconst 2, 1) := kX6_number_66.1.2.2.2
theorem dX6_number_81 : decode cX6_number 81 = .ok (.if_icmp .ge 58, 3) := kX6_number_66.2.1.1.1
theorem dX6_number_84 : decode cX6_number 84 = .ok (.aload_n 0, 1) := kX6_number_66.2.1.1.2
theorem dX6_number_85 : decode cX6_number 85 = .ok (.getfield 16, 3) := kX6_number_66.2.1.2.1
theorem dX6_number_88 : decode cX6_number 88 = .ok (.aload_n 0, 1) := kX6_number_66.2.1.2.2
theorem dX6_number_89 : decode cX6_number 89 = .ok (.getfield 130, 3) := kX6_number_66.2.2.1.1
theorem dX6_number_92 : decode cX6_number 92 = .ok (.iaload, 1) := kX6_number_66.2.2.1.2
theorem dX6_number_93 : decode cX6_number 93 = .ok (.i2l, 1) := kX6_number_66.2.2.2.1
theorem dX6_number_94 : decode cX6_number 94 = .ok (.ldc2_w 140, 3) := kX6_number_66.2.2.2.2
theorem kX6_number_97 : (((((decode cX6_number 97 = .ok (.ldc2_w 142, 3)) ∧ (decode cX6_number 100 = .ok (.invokestatic 50, 3))) ∧ ((decode cX6_number 103 = .ok (.ifCond .eq 36, 3)) ∧ (decode cX6_number 106 = .ok (.bipush 10, 2)))) ∧ (((decode cX6_number 108 = .ok (.iload 5, 2)) ∧ (decode cX6_number 110 = .ok (.imul, 1))) ∧ ((decode cX6_number 111 = .ok (.aload_n 0, 1)) ∧ (decode cX6_number 112 = .ok (.getfield 16, 3))))) ∧ ((((decode cX6_number 115 = .ok (.aload_n 0, 1)) ∧ (decode cX6_number 116 = .ok (.getfield 130, 3))) ∧ ((decode cX6_number 119 = .ok (.iaload, 1)) ∧ (decode cX6_number 120 = .ok (.iadd, 1)))) ∧ (((decode cX6_number 121 = .ok (.bipush 48, 2)) ∧ (decode cX6_number 123 = .ok (.isub, 1))) ∧ ((decode cX6_number 124 = .ok (.istore 5, 2)) ∧ (decode cX6_number 126 = .ok (.aload_n 0, 1)))))) := by decide +kernel
theorem dX6_number_97 : decode cX6_number 97 = .ok (.ldc2_w 142, 3) := kX6_number_97.1.1.1.1
theorem dX6_number_100 : decode cX6_number 100 = .ok (.invokestatic 50, 3) := kX6_number_97.1.1.1.2
theorem dX6_number_103 : decode cX6_number 103 = .ok (.ifCond .eq 36, 3) := kX6_number_97.1.1.2.1
theorem dX6_number_106 : decode cX6_number 106 = .ok (.bipush 10, 2) := kX6_number_97.1.1.2.2
theorem dX6_number_108 : decode cX6_number 108 = .ok (.iload 5, 2) := kX6_number_97.1.2.1.1
theorem dX6_number_110 : decode cX6_number 110 = .ok (.imul, 1) := kX6_number_97.1.2.1.2
theorem dX6_number_111 : decode cX6_number 111 = .ok (.aload_n 0, 1) := kX6_number_97.1.2.2.1
theorem dX6_number_112 : decode cX6_number 112 = .ok (.getfield 16, 3) := kX6_number_97.1.2.2.2
theorem dX6_number_115 : decode cX6_number 115 = .ok (.aload_n 0, 1) := kX6_number_97.2.1.1.1
theorem dX6_number_116 : decode cX6_number 116 = .ok (.getfield 130, 3) := kX6_number_97.2.1.1.2
theorem dX6_number_119 : decode cX6_number 119 = .ok (.iaload, 1) := kX6_number_97.2.1.2.1
theorem dX6_number_120 : decode cX6_number 120 = .ok (.iadd, 1) := kX6_number_97.2.1.2.2
theorem dX6_number_121 : decode cX6_number 121 = .ok (.bipush 48, 2) := kX6_number_97.2.2.1.1
theorem dX6_number_123 : decode cX6_number 123 = .ok (.isub, 1) := kX6_number_97.2.2.1.2
theorem dX6_number_124 : decode cX6_number 124 = .ok (.istore 5, 2) := kX6_number_97.2.2.2.1
theorem dX6_number_126 : decode cX6_number 126 = .ok (.aload_n 0, 1) := kX6_number_97.2.2.2.2
theorem kX6_number_127 : (((((decode cX6_number 127 = .ok (.dup, 1)) ∧ (decode cX6_number 128 = .ok (.getfield 130, 3))) ∧ ((decode cX6_number 131 = .ok (.iconst 1, 1)) ∧ (decode cX6_number 132 = .ok (.iadd, 1)))) ∧ (((decode cX6_number 133 = .ok (.putfield 130, 3)) ∧ (decode cX6_number 136 = .ok (.goto (-81), 3))) ∧ ((decode cX6_number 139 = .ok (.aload_n 0, 1)) ∧ (decode cX6_number 140 = .ok (.getfield 133, 3))))) ∧ ((((decode cX6_number 143 = .ok (.ifCond .ne 27, 3)) ∧ (decode cX6_number 146 = .ok (.iload 5, 2))) ∧ ((decode cX6_number 148 = .ok (.i2l, 1)) ∧ (decode cX6_number 149 = .ok (.iload_n 1, 1)))) ∧ (((decode cX6_number 150 = .ok (.i2l, 1)) ∧ (decode cX6_number 151 = .ok (.iload_n 2, 1))) ∧ ((decode cX6_number 152 = .ok (.i2l, 1)) ∧ (decode cX6_number 153 = .ok (.invokestatic 50, 3)))))) := by decide +kernel
theorem dX6_number_127 : decode cX6_number 127 = .ok (.dup, 1) := kX6_number_127.1.1.1.1
theorem dX6_number_128 : decode cX6_number 128 = .ok (.getfield 130, 3) := kX6_number_127.1.1.1.2
theorem dX6_number_131 : decode cX6_number 131 = .ok (.iconst 1, 1) := kX6_number_127.1.1.2.1
theorem dX6_number_132 : decode cX6_number 132 = .ok (.iadd, 1) := kX6_number_127.1.1.2.2
theorem dX6_number_133 : decode cX6_number 133 = .ok (.putfield 130, 3) := kX6_number_127.1.2.1.1
theorem dX6_number_136 : decode cX6_number 136 = .ok (.goto (-81), 3) := kX6_number_127.1.2.1.2
theorem dX6_number_139 : decode cX6_number 139 = .ok (.aload_n 0, 1) := kX6_number_127.1.2.2.1
theorem dX6_number_140 : decode cX6_number 140 = .ok (.getfield 133, 3) := kX6_number_127.1.2.2.2
theorem dX6_number_143 : decode cX6_number 143 = .ok (.ifCond .ne 27, 3) := kX6_number_127.2.1.1.1
theorem dX6_number_146 : decode cX6_number 146 = .ok (.iload 5, 2) := kX6_number_127.2.1.1.2
theorem dX6_number_148 : decode cX6_number 148 = .ok (.i2l, 1) := kX6_number_127.2.1.2.1
theorem dX6_number_149 : decode cX6_number 149 = .ok (.iload_n 1, 1) := kX6_number_127.2.1.2.2
theorem dX6_number_150 : decode cX6_number 150 = .ok (.i2l, 1) := kX6_number_127.2.2.1.1
theorem dX6_number_151 : decode cX6_number 151 = .ok (.iload_n 2, 1) := kX6_number_127.2.2.1.2
theorem dX6_number_152 : decode cX6_number 152 = .ok (.i2l, 1) := kX6_number_127.2.2.2.1
theorem dX6_number_153 : decode cX6_number 153 = .ok (.invokestatic 50, 3) := kX6_number_127.2.2.2.2
theorem kX6_number_156 : (((((decode cX6_number 156 = .ok (.ifCond .ne 14, 3)) ∧ (decode cX6_number 159 = .ok (.aload_n 0, 1))) ∧ (decode cX6_number 160 = .ok (.iconst 1, 1))) ∧ ((decode cX6_number 161 = .ok (.putfield 133, 3)) ∧ (decode cX6_number 164 = .ok (.aload_n 0, 1)))) ∧ (((decode cX6_number 165 = .ok (.iload 4, 2)) ∧ (decode cX6_number 167 = .ok (.putfield 130, 3))) ∧ ((decode cX6_number 170 = .ok (.iload 5, 2)) ∧ (decode cX6_number 172 = .ok (.ireturn, 1))))) := by decide +kernel
theorem dX6_number_156 : decode cX6_number 156 = .ok (.ifCond .ne 14, 3) := kX6_number_156.1.1.1.1
theorem dX6_number_159 : decode cX6_number 159 = .ok (.aload_n 0, 1) := kX6_number_156.1.1.1.2
theorem dX6_number_160 : decode cX6_number 160 = .ok (.iconst 1, 1) := kX6_number_156.1.1.2
theorem dX6_number_161 : decode cX6_number 161 = .ok (.putfield 133, 3) := kX6_number_156.1.2.1
theorem dX6_number_164 : decode cX6_number 164 = .ok (.aload_n 0, 1) := kX6_number_156.1.2.2
theorem dX6_number_165 : decode cX6_number 165 = .ok (.iload 4, 2) := kX6_number_156.2.1.1
theorem dX6_number_167 : decode cX6_number 167 = .ok (.putfield 130, 3) := kX6_number_156.2.1.2
theorem dX6_number_170 : decode cX6_number 170 = .ok (.iload 5, 2) := kX6_number_156.2.2.1
theorem dX6_number_172 : decode cX6_number 172 = .ok (.ireturn, 1) := kX6_number_156.2.2.2
set_option maxRecDepth 20000 in
theorem ggX6_peopleRead_X6_here : GoodIn wsX6_peopleRead wsX6_here := goodIn_r _ [9, 2, 10, 11, 25, 26, 27, 28, 29, 30, 31, 32, 33, 34, 35, 36, 37, 38, 39, 40, 41, 42, 43] rfl (by decide +kernel)
set_option maxRecDepth 20000 in
theorem gX6_peopleRead_X6_here : GoodIn wsX6_peopleRead (wsV RX6 137 RX6 yX6_here wsX6_here) := goodIn_app (goodIn_of _ (by decide +kernel)) ggX6_peopleRead_X6_here
set_option maxRecDepth 20000 in
theorem ggX6_peopleRead_X6_must : GoodIn wsX6_peopleRead wsX6_must := goodIn_r _ [15, 1, 2, 25, 26, 27, 28, 29, 30, 31, 32, 33, 34, 35, 36, 37, 38, 39, 40, 41, 42, 43] rfl (by decide +kernel)
set_option maxRecDepth 20000 in
theorem gX6_peopleRead_X6_must : GoodIn wsX6_peopleRead (wsV RX6 144 RX6 yX6_must wsX6_must) := goodIn_app (goodIn_of _ (by decide +kernel)) ggX6_peopleRead_X6_must
set_option maxRecDepth 20000 in
theorem ggX6_peopleRead_X6_number : GoodIn wsX6_peopleRead wsX6_number := goodIn_r _ [19, 1, 2, 20, 21, 10, 11, 5, 6, 7, 8, 9, 22, 23, 24, 25, 26, 27, 28, 29, 30, 31, 32, 33, 34, 35, 36, 37, 38, 39, 40, 41, 42, 43] rfl (by decide +kernel)
set_option maxRecDepth 20000 in
theorem gX6_peopleRead_X6_number : GoodIn wsX6_peopleRead (wsV RX6 148 RX6 yX6_number wsX6_number) := goodIn_app (goodIn_of _ (by decide +kernel)) ggX6_peopleRead_X6_number
set_option maxRecDepth 20000 in
theorem ggX6_peopleRead_X6_in : GoodIn wsX6_peopleRead wsX6_in := goodIn_r _ [24] rfl (by decide +kernel)
set_option maxRecDepth 20000 in
theorem gX6_peopleRead_X6_in : GoodIn wsX6_peopleRead (va_wsS RX6 50 yX6_in wsX6_in) := goodIn_app (goodIn_of _ (by decide +kernel)) ggX6_peopleRead_X6_in
theorem kX6_peopleRead_0 : (((((decode cX6_peopleRead 0 = .ok (.iconst 0, 1)) ∧ (decode cX6_peopleRead 1 = .ok (.istore_n 1, 1))) ∧ ((decode cX6_peopleRead 2 = .ok (.aload_n 0, 1)) ∧ (decode cX6_peopleRead 3 = .ok (.getfield 133, 3)))) ∧ (((decode cX6_peopleRead 6 = .ok (.ifCond .ne 287, 3)) ∧ (decode cX6_peopleRead 9 = .ok (.iload_n 1, 1))) ∧ ((decode cX6_peopleRead 10 = .ok (.ifCond .eq 12, 3)) ∧ (decode cX6_peopleRead 13 = .ok (.aload_n 0, 1))))) ∧ ((((decode cX6_peopleRead 14 = .ok (.invokevirtual 137, 3)) ∧ (decode cX6_peopleRead 17 = .ok (.bipush 44, 2))) ∧ ((decode cX6_peopleRead 19 = .ok (.if_icmp .ne 274, 3)) ∧ (decode cX6_peopleRead 22 = .ok (.iload_n 1, 1)))) ∧ (((decode cX6_peopleRead 23 = .ok (.ifCond .le 18, 3)) ∧ (decode cX6_peopleRead 26 = .ok (.aload_n 0, 1))) ∧ ((decode cX6_peopleRead 27 = .ok (.iload_n 1, 1)) ∧ (decode cX6_peopleRead 28 = .ok (.bipush 6, 2)))))) := by decide +kernel
theorem dX6_peopleRead_0 : decode cX6_peopleRead 0 = .ok (.iconst 0, 1) := kX6_peopleRead_0.1.1.1.1
theorem dX6_peopleRead_1 : decode cX6_peopleRead 1 = .ok (.istore_n 1, 1) := kX6_peopleRead_0.1.1.1.2
theorem dX6_peopleRead_2 : decode cX6_peopleRead 2 = .ok (.aload_n 0, 1) := kX6_peopleRead_0.1.1.2.1
theorem dX6_peopleRead_3 : decode cX6_peopleRead 3 = .ok (.getfield 133, 3) := kX6_peopleRead_0.1.1.2.2
theorem dX6_peopleRead_6 : decode cX6_peopleRead 6 = .ok (.ifCond .ne 287, 3) := kX6_peopleRead_0.1.2.1.1
theorem dX6_peopleRead_9 : decode cX6_peopleRead 9 = .ok (.iload_n 1, 1) := kX6_peopleRead_0.1.2.1.2
theorem dX6_peopleRead_10 : decode cX6_peopleRead 10 = .ok (.ifCond .eq 12, 3) := kX6_peopleRead_0.1.2.2.1
theorem dX6_peopleRead_13 : decode cX6_peopleRead 13 = .ok (.aload_n 0, 1) := kX6_peopleRead_0.1.2.2.2
theorem dX6_peopleRead_14 : decode cX6_peopleRead 14 = .ok (.invokevirtual 137, 3) := kX6_peopleRead_0.2.1.1.1
theorem dX6_peopleRead_17 : decode cX6_peopleRead 17 = .ok (.bipush 44, 2) := kX6_peopleRead_0.2.1.1.2
theorem dX6_peopleRead_19 : decode cX6_peopleRead 19 = .ok (.if_icmp .ne 274, 3) := kX6_peopleRead_0.2.1.2.1
theorem dX6_peopleRead_22 : decode cX6_peopleRead 22 = .ok (.iload_n 1, 1) := kX6_peopleRead_0.2.1.2.2
theorem dX6_peopleRead_23 : decode cX6_peopleRead 23 = .ok (.ifCond .le 18, 3) := kX6_peopleRead_0.2.2.1.1
theorem dX6_peopleRead_26 : decode cX6_peopleRead 26 = .ok (.aload_n 0, 1) := kX6_peopleRead_0.2.2.1.2
theorem dX6_peopleRead_27 : decode cX6_peopleRead 27 = .ok (.iload_n 1, 1) := kX6_peopleRead_0.2.2.2.1
theorem dX6_peopleRead_28 : decode cX6_peopleRead 28 = .ok (.bipush 6, 2) := kX6_peopleRead_0.2.2.2.2
theorem kX6_peopleRead_30 : (((((decode cX6_peopleRead 30 = .ok (.if_icmp .ge 7, 3)) ∧ (decode cX6_peopleRead 33 = .ok (.iconst 1, 1))) ∧ ((decode cX6_peopleRead 34 = .ok (.goto 4, 3)) ∧ (decode cX6_peopleRead 37 = .ok (.iconst 0, 1)))) ∧ (((decode cX6_peopleRead 38 = .ok (.invokevirtual 144, 3)) ∧ (decode cX6_peopleRead 41 = .ok (.aload_n 0, 1))) ∧ ((decode cX6_peopleRead 42 = .ok (.getfield 133, 3)) ∧ (decode cX6_peopleRead 45 = .ok (.ifCond .eq 7, 3))))) ∧ ((((decode cX6_peopleRead 48 = .ok (.iconst 0, 1)) ∧ (decode cX6_peopleRead 49 = .ok (.goto 7, 3))) ∧ ((decode cX6_peopleRead 52 = .ok (.aload_n 0, 1)) ∧ (decode cX6_peopleRead 53 = .ok (.invokevirtual 137, 3)))) ∧ (((decode cX6_peopleRead 56 = .ok (.istore_n 2, 1)) ∧ (decode cX6_peopleRead 57 = .ok (.iload_n 2, 1))) ∧ ((decode cX6_peopleRead 58 = .ok (.bipush 103, 2)) ∧ (decode cX6_peopleRead 60 = .ok (.if_icmp .ne 7, 3)))))) := by decide +kernel
theorem dX6_peopleRead_30 : decode cX6_peopleRead 30 = .ok (.if_icmp .ge 7, 3) := kX6_peopleRead_30.1.1.1.1
theorem dX6_peopleRead_33 : decode cX6_peopleRead 33 = .ok (.iconst 1, 1) := kX6_peopleRead_30.1.1.1.2
theorem dX6_peopleRead_34 : decode cX6_peopleRead 34 = .ok (.goto 4, 3) := kX6_peopleRead_30.1.1.2.1
theorem dX6_peopleRead_37 : decode cX6_peopleRead 37 = .ok (.iconst 0, 1) := kX6_peopleRead_30.1.1.2.2
theorem dX6_peopleRead_38 : decode cX6_peopleRead 38 = .ok (.invokevirtual 144, 3) := kX6_peopleRead_30.1.2.1.1
theorem dX6_peopleRead_41 : decode cX6_peopleRead 41 = .ok (.aload_n 0, 1) := kX6_peopleRead_30.1.2.1.2
theorem dX6_peopleRead_42 : decode cX6_peopleRead 42 = .ok (.getfield 133, 3) := kX6_peopleRead_30.1.2.2.1
theorem dX6_peopleRead_45 : decode cX6_peopleRead 45 = .ok (.ifCond .eq 7, 3) := kX6_peopleRead_30.1.2.2.2
theorem dX6_peopleRead_48 : decode cX6_peopleRead 48 = .ok (.iconst 0, 1) := kX6_peopleRead_30.2.1.1.1
theorem dX6_peopleRead_49 : decode cX6_peopleRead 49 = .ok (.goto 7, 3) := kX6_peopleRead_30.2.1.1.2
theorem dX6_peopleRead_52 : decode cX6_peopleRead 52 = .ok (.aload_n 0, 1) := kX6_peopleRead_30.2.1.2.1
theorem dX6_peopleRead_53 : decode cX6_peopleRead 53 = .ok (.invokevirtual 137, 3) := kX6_peopleRead_30.2.1.2.2
theorem dX6_peopleRead_56 : decode cX6_peopleRead 56 = .ok (.istore_n 2, 1) := kX6_peopleRead_30.2.2.1.1
theorem dX6_peopleRead_57 : decode cX6_peopleRead 57 = .ok (.iload_n 2, 1) := kX6_peopleRead_30.2.2.1.2
theorem dX6_peopleRead_58 : decode cX6_peopleRead 58 = .ok (.bipush 103, 2) := kX6_peopleRead_30.2.2.2.1
theorem dX6_peopleRead_60 : decode cX6_peopleRead 60 = .ok (.if_icmp .ne 7, 3) := kX6_peopleRead_30.2.2.2.2
theorem kX6_peopleRead_63 : (((((decode cX6_peopleRead 63 = .ok (.iconst 0, 1)) ∧ (decode cX6_peopleRead 64 = .ok (.goto 44, 3))) ∧ ((decode cX6_peopleRead 67 = .ok (.iload_n 2, 1)) ∧ (decode cX6_peopleRead 68 = .ok (.bipush 99, 2)))) ∧ (((decode cX6_peopleRead 70 = .ok (.if_icmp .ne 7, 3)) ∧ (decode cX6_peopleRead 73 = .ok (.iconst 1, 1))) ∧ ((decode cX6_peopleRead 74 = .ok (.goto 34, 3)) ∧ (decode cX6_peopleRead 77 = .ok (.iload_n 2, 1))))) ∧ ((((decode cX6_peopleRead 78 = .ok (.bipush 116, 2)) ∧ (decode cX6_peopleRead 80 = .ok (.if_icmp .ne 7, 3))) ∧ ((decode cX6_peopleRead 83 = .ok (.iconst 2, 1)) ∧ (decode cX6_peopleRead 84 = .ok (.goto 24, 3)))) ∧ (((decode cX6_peopleRead 87 = .ok (.iload_n 2, 1)) ∧ (decode cX6_peopleRead 88 = .ok (.bipush 112, 2))) ∧ ((decode cX6_peopleRead 90 = .ok (.if_icmp .ne 7, 3)) ∧ (decode cX6_peopleRead 93 = .ok (.iconst 3, 1)))))) := by decide +kernel
theorem dX6_peopleRead_63 : decode cX6_peopleRead 63 = .ok (.iconst 0, 1) := kX6_peopleRead_63.1.1.1.1
theorem dX6_peopleRead_64 : decode cX6_peopleRead 64 = .ok (.goto 44, 3) := kX6_peopleRead_63.1.1.1.2
theorem dX6_peopleRead_67 : decode cX6_peopleRead 67 = .ok (.iload_n 2, 1) := kX6_peopleRead_63.1.1.2.1
theorem dX6_peopleRead_68 : decode cX6_peopleRead 68 = .ok (.bipush 99, 2) := kX6_peopleRead_63.1.1.2.2
theorem dX6_peopleRead_70 : decode cX6_peopleRead 70 = .ok (.if_icmp .ne 7, 3) := kX6_peopleRead_63.1.2.1.1
theorem dX6_peopleRead_73 : decode cX6_peopleRead 73 = .ok (.iconst 1, 1) := kX6_peopleRead_63.1.2.1.2
theorem dX6_peopleRead_74 : decode cX6_peopleRead 74 = .ok (.goto 34, 3) := kX6_peopleRead_63.1.2.2.1
theorem dX6_peopleRead_77 : decode cX6_peopleRead 77 = .ok (.iload_n 2, 1) := kX6_peopleRead_63.1.2.2.2
theorem dX6_peopleRead_78 : decode cX6_peopleRead 78 = .ok (.bipush 116, 2) := kX6_peopleRead_63.2.1.1.1
theorem dX6_peopleRead_80 : decode cX6_peopleRead 80 = .ok (.if_icmp .ne 7, 3) := kX6_peopleRead_63.2.1.1.2
theorem dX6_peopleRead_83 : decode cX6_peopleRead 83 = .ok (.iconst 2, 1) := kX6_peopleRead_63.2.1.2.1
theorem dX6_peopleRead_84 : decode cX6_peopleRead 84 = .ok (.goto 24, 3) := kX6_peopleRead_63.2.1.2.2
theorem dX6_peopleRead_87 : decode cX6_peopleRead 87 = .ok (.iload_n 2, 1) := kX6_peopleRead_63.2.2.1.1
theorem dX6_peopleRead_88 : decode cX6_peopleRead 88 = .ok (.bipush 112, 2) := kX6_peopleRead_63.2.2.1.2
theorem dX6_peopleRead_90 : decode cX6_peopleRead 90 = .ok (.if_icmp .ne 7, 3) := kX6_peopleRead_63.2.2.2.1
theorem dX6_peopleRead_93 : decode cX6_peopleRead 93 = .ok (.iconst 3, 1) := kX6_peopleRead_63.2.2.2.2
theorem kX6_peopleRead_94 : (((((decode cX6_peopleRead 94 = .ok (.goto 14, 3)) ∧ (decode cX6_peopleRead 97 = .ok (.iload_n 2, 1))) ∧ ((decode cX6_peopleRead 98 = .ok (.bipush 108, 2)) ∧ (decode cX6_peopleRead 100 = .ok (.if_icmp .ne 7, 3)))) ∧ (((decode cX6_peopleRead 103 = .ok (.iconst 4, 1)) ∧ (decode cX6_peopleRead 104 = .ok (.goto 4, 3))) ∧ ((decode cX6_peopleRead 107 = .ok (.iconst (-1), 1)) ∧ (decode cX6_peopleRead 108 = .ok (.istore_n 3, 1))))) ∧ ((((decode cX6_peopleRead 109 = .ok (.aload_n 0, 1)) ∧ (decode cX6_peopleRead 110 = .ok (.iload_n 3, 1))) ∧ ((decode cX6_peopleRead 111 = .ok (.ifCond .lt 7, 3)) ∧ (decode cX6_peopleRead 114 = .ok (.iconst 1, 1)))) ∧ (((decode cX6_peopleRead 115 = .ok (.goto 4, 3)) ∧ (decode cX6_peopleRead 118 = .ok (.iconst 0, 1))) ∧ ((decode cX6_peopleRead 119 = .ok (.invokevirtual 144, 3)) ∧ (decode cX6_peopleRead 122 = .ok (.aload_n 0, 1)))))) := by decide +kernel
theorem dX6_peopleRead_94 : decode cX6_peopleRead 94 = .ok (.goto 14, 3) := kX6_peopleRead_94.1.1.1.1
theorem dX6_peopleRead_97 : decode cX6_peopleRead 97 = .ok (.iload_n 2, 1) := kX6_peopleRead_94.1.1.1.2
theorem dX6_peopleRead_98 : decode cX6_peopleRead 98 = .ok (.bipush 108, 2) := kX6_peopleRead_94.1.1.2.1
theorem dX6_peopleRead_100 : decode cX6_peopleRead 100 = .ok (.if_icmp .ne 7, 3) := kX6_peopleRead_94.1.1.2.2
theorem dX6_peopleRead_103 : decode cX6_peopleRead 103 = .ok (.iconst 4, 1) := kX6_peopleRead_94.1.2.1.1
theorem dX6_peopleRead_104 : decode cX6_peopleRead 104 = .ok (.goto 4, 3) := kX6_peopleRead_94.1.2.1.2
theorem dX6_peopleRead_107 : decode cX6_peopleRead 107 = .ok (.iconst (-1), 1) := kX6_peopleRead_94.1.2.2.1
theorem dX6_peopleRead_108 : decode cX6_peopleRead 108 = .ok (.istore_n 3, 1) := kX6_peopleRead_94.1.2.2.2
theorem dX6_peopleRead_109 : decode cX6_peopleRead 109 = .ok (.aload_n 0, 1) := kX6_peopleRead_94.2.1.1.1
theorem dX6_peopleRead_110 : decode cX6_peopleRead 110 = .ok (.iload_n 3, 1) := kX6_peopleRead_94.2.1.1.2
theorem dX6_peopleRead_111 : decode cX6_peopleRead 111 = .ok (.ifCond .lt 7, 3) := kX6_peopleRead_94.2.1.2.1
theorem dX6_peopleRead_114 : decode cX6_peopleRead 114 = .ok (.iconst 1, 1) := kX6_peopleRead_94.2.1.2.2
theorem dX6_peopleRead_115 : decode cX6_peopleRead 115 = .ok (.goto 4, 3) := kX6_peopleRead_94.2.2.1.1
theorem dX6_peopleRead_118 : decode cX6_peopleRead 118 = .ok (.iconst 0, 1) := kX6_peopleRead_94.2.2.1.2
theorem dX6_peopleRead_119 : decode cX6_peopleRead 119 = .ok (.invokevirtual 144, 3) := kX6_peopleRead_94.2.2.2.1
theorem dX6_peopleRead_122 : decode cX6_peopleRead 122 = .ok (.aload_n 0, 1) := kX6_peopleRead_94.2.2.2.2
theorem kX6_peopleRead_123 : (((((decode cX6_peopleRead 123 = .ok (.iconst 0, 1)) ∧ (decode cX6_peopleRead 124 = .ok (.bipush 30, 2))) ∧ ((decode cX6_peopleRead 126 = .ok (.invokevirtual 148, 3)) ∧ (decode cX6_peopleRead 129 = .ok (.istore 4, 2)))) ∧ (((decode cX6_peopleRead 131 = .ok (.bipush (-4), 2)) ∧ (decode cX6_peopleRead 133 = .ok (.istore 5, 2))) ∧ ((decode cX6_peopleRead 135 = .ok (.iconst 1, 1)) ∧ (decode cX6_peopleRead 136 = .ok (.istore 6, 2))))) ∧ ((((decode cX6_peopleRead 138 = .ok (.aload_n 0, 1)) ∧ (decode cX6_peopleRead 139 = .ok (.getfield 133, 3))) ∧ ((decode cX6_peopleRead 142 = .ok (.ifCond .ne 93, 3)) ∧ (decode cX6_peopleRead 145 = .ok (.aload_n 0, 1)))) ∧ (((decode cX6_peopleRead 146 = .ok (.invokevirtual 137, 3)) ∧ (decode cX6_peopleRead 149 = .ok (.bipush 62, 2))) ∧ ((decode cX6_peopleRead 151 = .ok (.if_icmp .ne 84, 3)) ∧ (decode cX6_peopleRead 154 = .ok (.aload_n 0, 1)))))) := by decide +kernel
theorem dX6_peopleRead_123 : decode cX6_peopleRead 123 = .ok (.iconst 0, 1) := kX6_peopleRead_123.1.1.1.1
theorem dX6_peopleRead_124 : decode cX6_peopleRead 124 = .ok (.bipush 30, 2) := kX6_peopleRead_123.1.1.1.2
theorem dX6_peopleRead_126 : decode cX6_peopleRead 126 = .ok (.invokevirtual 148, 3) := kX6_peopleRead_123.1.1.2.1
theorem dX6_peopleRead_129 : decode cX6_peopleRead 129 = .ok (.istore 4, 2) := kX6_peopleRead_123.1.1.2.2
theorem dX6_peopleRead_131 : decode cX6_peopleRead 131 = .ok (.bipush (-4), 2) := kX6_peopleRead_123.1.2.1.1
theorem dX6_peopleRead_133 : decode cX6_peopleRead 133 = .ok (.istore 5, 2) := kX6_peopleRead_123.1.2.1.2
theorem dX6_peopleRead_135 : decode cX6_peopleRead 135 = .ok (.iconst 1, 1) := kX6_peopleRead_123.1.2.2.1
theorem dX6_peopleRead_136 : decode cX6_peopleRead 136 = .ok (.istore 6, 2) := kX6_peopleRead_123.1.2.2.2
theorem dX6_peopleRead_138 : decode cX6_peopleRead 138 = .ok (.aload_n 0, 1) := kX6_peopleRead_123.2.1.1.1
theorem dX6_peopleRead_139 : decode cX6_peopleRead 139 = .ok (.getfield 133, 3) := kX6_peopleRead_123.2.1.1.2
theorem dX6_peopleRead_142 : decode cX6_peopleRead 142 = .ok (.ifCond .ne 93, 3) := kX6_peopleRead_123.2.1.2.1
theorem dX6_peopleRead_145 : decode cX6_peopleRead 145 = .ok (.aload_n 0, 1) := kX6_peopleRead_123.2.1.2.2
theorem dX6_peopleRead_146 : decode cX6_peopleRead 146 = .ok (.invokevirtual 137, 3) := kX6_peopleRead_123.2.2.1.1
theorem dX6_peopleRead_149 : decode cX6_peopleRead 149 = .ok (.bipush 62, 2) := kX6_peopleRead_123.2.2.1.2
theorem dX6_peopleRead_151 : decode cX6_peopleRead 151 = .ok (.if_icmp .ne 84, 3) := kX6_peopleRead_123.2.2.2.1
theorem dX6_peopleRead_154 : decode cX6_peopleRead 154 = .ok (.aload_n 0, 1) := kX6_peopleRead_123.2.2.2.2
theorem kX6_peopleRead_155 : (((((decode cX6_peopleRead 155 = .ok (.dup, 1)) ∧ (decode cX6_peopleRead 156 = .ok (.getfield 130, 3))) ∧ ((decode cX6_peopleRead 159 = .ok (.iconst 1, 1)) ∧ (decode cX6_peopleRead 160 = .ok (.iadd, 1)))) ∧ (((decode cX6_peopleRead 161 = .ok (.putfield 130, 3)) ∧ (decode cX6_peopleRead 164 = .ok (.aload_n 0, 1))) ∧ ((decode cX6_peopleRead 165 = .ok (.invokevirtual 137, 3)) ∧ (decode cX6_peopleRead 168 = .ok (.bipush 48, 2))))) ∧ ((((decode cX6_peopleRead 170 = .ok (.isub, 1)) ∧ (decode cX6_peopleRead 171 = .ok (.istore 5, 2))) ∧ ((decode cX6_peopleRead 173 = .ok (.aload_n 0, 1)) ∧ (decode cX6_peopleRead 174 = .ok (.iload 5, 2)))) ∧ (((decode cX6_peopleRead 176 = .ok (.i2l, 1)) ∧ (decode cX6_peopleRead 177 = .ok (.lconst 0, 1))) ∧ ((decode cX6_peopleRead 178 = .ok (.ldc2_w 105, 3)) ∧ (decode cX6_peopleRead 181 = .ok (.invokestatic 50, 3)))))) := by decide +kernel
theorem dX6_peopleRead_155 : decode cX6_peopleRead 155 = .ok (.dup, 1) := kX6_peopleRead_155.1.1.1.1
theorem dX6_peopleRead_156 : decode cX6_peopleRead 156 = .ok (.getfield 130, 3) := kX6_peopleRead_155.1.1.1.2
theorem dX6_peopleRead_159 : decode cX6_peopleRead 159 = .ok (.iconst 1, 1) := kX6_peopleRead_155.1.1.2.1
theorem dX6_peopleRead_160 : decode cX6_peopleRead 160 = .ok (.iadd, 1) := kX6_peopleRead_155.1.1.2.2
theorem dX6_peopleRead_161 : decode cX6_peopleRead 161 = .ok (.putfield 130, 3) := kX6_peopleRead_155.1.2.1.1
theorem dX6_peopleRead_164 : decode cX6_peopleRead 164 = .ok (.aload_n 0, 1) := kX6_peopleRead_155.1.2.1.2
theorem dX6_peopleRead_165 : decode cX6_peopleRead 165 = .ok (.invokevirtual 137, 3) := kX6_peopleRead_155.1.2.2.1
theorem dX6_peopleRead_168 : decode cX6_peopleRead 168 = .ok (.bipush 48, 2) := kX6_peopleRead_155.1.2.2.2
theorem dX6_peopleRead_170 : decode cX6_peopleRead 170 = .ok (.isub, 1) := kX6_peopleRead_155.2.1.1.1
theorem dX6_peopleRead_171 : decode cX6_peopleRead 171 = .ok (.istore 5, 2) := kX6_peopleRead_155.2.1.1.2
theorem dX6_peopleRead_173 : decode cX6_peopleRead 173 = .ok (.aload_n 0, 1) := kX6_peopleRead_155.2.1.2.1
theorem dX6_peopleRead_174 : decode cX6_peopleRead 174 = .ok (.iload 5, 2) := kX6_peopleRead_155.2.1.2.2
theorem dX6_peopleRead_176 : decode cX6_peopleRead 176 = .ok (.i2l, 1) := kX6_peopleRead_155.2.2.1.1
theorem dX6_peopleRead_177 : decode cX6_peopleRead 177 = .ok (.lconst 0, 1) := kX6_peopleRead_155.2.2.1.2
theorem dX6_peopleRead_178 : decode cX6_peopleRead 178 = .ok (.ldc2_w 105, 3) := kX6_peopleRead_155.2.2.2.1
theorem dX6_peopleRead_181 : decode cX6_peopleRead 181 = .ok (.invokestatic 50, 3) := kX6_peopleRead_155.2.2.2.2
theorem kX6_peopleRead_184 : (((((decode cX6_peopleRead 184 = .ok (.ifCond .eq 13, 3)) ∧ (decode cX6_peopleRead 187 = .ok (.iload 5, 2))) ∧ ((decode cX6_peopleRead 189 = .ok (.iload_n 1, 1)) ∧ (decode cX6_peopleRead 190 = .ok (.if_icmp .eq 7, 3)))) ∧ (((decode cX6_peopleRead 193 = .ok (.iconst 1, 1)) ∧ (decode cX6_peopleRead 194 = .ok (.goto 4, 3))) ∧ ((decode cX6_peopleRead 197 = .ok (.iconst 0, 1)) ∧ (decode cX6_peopleRead 198 = .ok (.invokevirtual 144, 3))))) ∧ ((((decode cX6_peopleRead 201 = .ok (.aload_n 0, 1)) ∧ (decode cX6_peopleRead 202 = .ok (.aload_n 0, 1))) ∧ ((decode cX6_peopleRead 203 = .ok (.getfield 133, 3)) ∧ (decode cX6_peopleRead 206 = .ok (.ifCond .ne 16, 3)))) ∧ (((decode cX6_peopleRead 209 = .ok (.aload_n 0, 1)) ∧ (decode cX6_peopleRead 210 = .ok (.invokevirtual 137, 3))) ∧ ((decode cX6_peopleRead 213 = .ok (.bipush 58, 2)) ∧ (decode cX6_peopleRead 215 = .ok (.if_icmp .ne 7, 3)))))) := by decide +kernel
theorem dX6_peopleRead_184 : decode cX6_peopleRead 184 = .ok (.ifCond .eq 13, 3) := kX6_peopleRead_184.1.1.1.1
theorem dX6_peopleRead_187 : decode cX6_peopleRead 187 = .ok (.iload 5, 2) := kX6_peopleRead_184.1.1.1.2
theorem dX6_peopleRead_189 : decode cX6_peopleRead 189 = .ok (.iload_n 1, 1) := kX6_peopleRead_184.1.1.2.1
theorem dX6_peopleRead_190 : decode cX6_peopleRead 190 = .ok (.if_icmp .eq 7, 3) := kX6_peopleRead_184.1.1.2.2
theorem dX6_peopleRead_193 : decode cX6_peopleRead 193 = .ok (.iconst 1, 1) := kX6_peopleRead_184.1.2.1.1
theorem dX6_peopleRead_194 : decode cX6_peopleRead 194 = .ok (.goto 4, 3) := kX6_peopleRead_184.1.2.1.2
theorem dX6_peopleRead_197 : decode cX6_peopleRead 197 = .ok (.iconst 0, 1) := kX6_peopleRead_184.1.2.2.1
theorem dX6_peopleRead_198 : decode cX6_peopleRead 198 = .ok (.invokevirtual 144, 3) := kX6_peopleRead_184.1.2.2.2
theorem dX6_peopleRead_201 : decode cX6_peopleRead 201 = .ok (.aload_n 0, 1) := kX6_peopleRead_184.2.1.1.1
theorem dX6_peopleRead_202 : decode cX6_peopleRead 202 = .ok (.aload_n 0, 1) := kX6_peopleRead_184.2.1.1.2
theorem dX6_peopleRead_203 : decode cX6_peopleRead 203 = .ok (.getfield 133, 3) := kX6_peopleRead_184.2.1.2.1
theorem dX6_peopleRead_206 : decode cX6_peopleRead 206 = .ok (.ifCond .ne 16, 3) := kX6_peopleRead_184.2.1.2.2
theorem dX6_peopleRead_209 : decode cX6_peopleRead 209 = .ok (.aload_n 0, 1) := kX6_peopleRead_184.2.2.1.1
theorem dX6_peopleRead_210 : decode cX6_peopleRead 210 = .ok (.invokevirtual 137, 3) := kX6_peopleRead_184.2.2.1.2
theorem dX6_peopleRead_213 : decode cX6_peopleRead 213 = .ok (.bipush 58, 2) := kX6_peopleRead_184.2.2.2.1
theorem dX6_peopleRead_215 : decode cX6_peopleRead 215 = .ok (.if_icmp .ne 7, 3) := kX6_peopleRead_184.2.2.2.2
theorem kX6_peopleRead_218 : (((((decode cX6_peopleRead 218 = .ok (.iconst 1, 1)) ∧ (decode cX6_peopleRead 219 = .ok (.goto 4, 3))) ∧ ((decode cX6_peopleRead 222 = .ok (.iconst 0, 1)) ∧ (decode cX6_peopleRead 223 = .ok (.invokevirtual 144, 3)))) ∧ (((decode cX6_peopleRead 226 = .ok (.aload_n 0, 1)) ∧ (decode cX6_peopleRead 227 = .ok (.iconst 1, 1))) ∧ ((decode cX6_peopleRead 228 = .ok (.bipush 12, 2)) ∧ (decode cX6_peopleRead 230 = .ok (.invokevirtual 148, 3))))) ∧ ((((decode cX6_peopleRead 233 = .ok (.istore 6, 2)) ∧ (decode cX6_peopleRead 235 = .ok (.aload_n 0, 1))) ∧ ((decode cX6_peopleRead 236 = .ok (.getfield 133, 3)) ∧ (decode cX6_peopleRead 239 = .ok (.ifCond .ne 48, 3)))) ∧ (((decode cX6_peopleRead 242 = .ok (.aload_n 0, 1)) ∧ (decode cX6_peopleRead 243 = .ok (.getfield 19, 3))) ∧ ((decode cX6_peopleRead 246 = .ok (.iconst 4, 1)) ∧ (decode cX6_peopleRead 247 = .ok (.iload_n 1, 1)))))) := by decide +kernel
theorem dX6_peopleRead_218 : decode cX6_peopleRead 218 = .ok (.iconst 1, 1) := kX6_peopleRead_218.1.1.1.1
theorem dX6_peopleRead_219 : decode cX6_peopleRead 219 = .ok (.goto 4, 3) := kX6_peopleRead_218.1.1.1.2
theorem dX6_peopleRead_222 : decode cX6_peopleRead 222 = .ok (.iconst 0, 1) := kX6_peopleRead_218.1.1.2.1
theorem dX6_peopleRead_223 : decode cX6_peopleRead 223 = .ok (.invokevirtual 144, 3) := kX6_peopleRead_218.1.1.2.2
theorem dX6_peopleRead_226 : decode cX6_peopleRead 226 = .ok (.aload_n 0, 1) := kX6_peopleRead_218.1.2.1.1
theorem dX6_peopleRead_227 : decode cX6_peopleRead 227 = .ok (.iconst 1, 1) := kX6_peopleRead_218.1.2.1.2
theorem dX6_peopleRead_228 : decode cX6_peopleRead 228 = .ok (.bipush 12, 2) := kX6_peopleRead_218.1.2.2.1
theorem dX6_peopleRead_230 : decode cX6_peopleRead 230 = .ok (.invokevirtual 148, 3) := kX6_peopleRead_218.1.2.2.2
theorem dX6_peopleRead_233 : decode cX6_peopleRead 233 = .ok (.istore 6, 2) := kX6_peopleRead_218.2.1.1.1
theorem dX6_peopleRead_235 : decode cX6_peopleRead 235 = .ok (.aload_n 0, 1) := kX6_peopleRead_218.2.1.1.2
theorem dX6_peopleRead_236 : decode cX6_peopleRead 236 = .ok (.getfield 133, 3) := kX6_peopleRead_218.2.1.2.1
theorem dX6_peopleRead_239 : decode cX6_peopleRead 239 = .ok (.ifCond .ne 48, 3) := kX6_peopleRead_218.2.1.2.2
theorem dX6_peopleRead_242 : decode cX6_peopleRead 242 = .ok (.aload_n 0, 1) := kX6_peopleRead_218.2.2.1.1
theorem dX6_peopleRead_243 : decode cX6_peopleRead 243 = .ok (.getfield 19, 3) := kX6_peopleRead_218.2.2.1.2
theorem dX6_peopleRead_246 : decode cX6_peopleRead 246 = .ok (.iconst 4, 1) := kX6_peopleRead_218.2.2.2.1
theorem dX6_peopleRead_247 : decode cX6_peopleRead 247 = .ok (.iload_n 1, 1) := kX6_peopleRead_218.2.2.2.2
theorem kX6_peopleRead_248 : (((((decode cX6_peopleRead 248 = .ok (.imul, 1)) ∧ (decode cX6_peopleRead 249 = .ok (.iload_n 3, 1))) ∧ ((decode cX6_peopleRead 250 = .ok (.iastore, 1)) ∧ (decode cX6_peopleRead 251 = .ok (.aload_n 0, 1)))) ∧ (((decode cX6_peopleRead 252 = .ok (.getfield 19, 3)) ∧ (decode cX6_peopleRead 255 = .ok (.iconst 4, 1))) ∧ ((decode cX6_peopleRead 256 = .ok (.iload_n 1, 1)) ∧ (decode cX6_peopleRead 257 = .ok (.imul, 1))))) ∧ ((((decode cX6_peopleRead 258 = .ok (.iconst 1, 1)) ∧ (decode cX6_peopleRead 259 = .ok (.iadd, 1))) ∧ ((decode cX6_peopleRead 260 = .ok (.iload 4, 2)) ∧ (decode cX6_peopleRead 262 = .ok (.iastore, 1)))) ∧ (((decode cX6_peopleRead 263 = .ok (.aload_n 0, 1)) ∧ (decode cX6_peopleRead 264 = .ok (.getfield 19, 3))) ∧ ((decode cX6_peopleRead 267 = .ok (.iconst 4, 1)) ∧ (decode cX6_peopleRead 268 = .ok (.iload_n 1, 1)))))) := by decide +kernel
theorem dX6_peopleRead_248 : decode cX6_peopleRead 248 = .ok (.imul, 1) := kX6_peopleRead_248.1.1.1.1
theorem dX6_peopleRead_249 : decode cX6_peopleRead 249 = .ok (.iload_n 3, 1) := kX6_peopleRead_248.1.1.1.2
theorem dX6_peopleRead_250 : decode cX6_peopleRead 250 = .ok (.iastore, 1) := kX6_peopleRead_248.1.1.2.1
theorem dX6_peopleRead_251 : decode cX6_peopleRead 251 = .ok (.aload_n 0, 1) := kX6_peopleRead_248.1.1.2.2
theorem dX6_peopleRead_252 : decode cX6_peopleRead 252 = .ok (.getfield 19, 3) := kX6_peopleRead_248.1.2.1.1
theorem dX6_peopleRead_255 : decode cX6_peopleRead 255 = .ok (.iconst 4, 1) := kX6_peopleRead_248.1.2.1.2
theorem dX6_peopleRead_256 : decode cX6_peopleRead 256 = .ok (.iload_n 1, 1) := kX6_peopleRead_248.1.2.2.1
theorem dX6_peopleRead_257 : decode cX6_peopleRead 257 = .ok (.imul, 1) := kX6_peopleRead_248.1.2.2.2
theorem dX6_peopleRead_258 : decode cX6_peopleRead 258 = .ok (.iconst 1, 1) := kX6_peopleRead_248.2.1.1.1
theorem dX6_peopleRead_259 : decode cX6_peopleRead 259 = .ok (.iadd, 1) := kX6_peopleRead_248.2.1.1.2
theorem dX6_peopleRead_260 : decode cX6_peopleRead 260 = .ok (.iload 4, 2) := kX6_peopleRead_248.2.1.2.1
theorem dX6_peopleRead_262 : decode cX6_peopleRead 262 = .ok (.iastore, 1) := kX6_peopleRead_248.2.1.2.2
theorem dX6_peopleRead_263 : decode cX6_peopleRead 263 = .ok (.aload_n 0, 1) := kX6_peopleRead_248.2.2.1.1
theorem dX6_peopleRead_264 : decode cX6_peopleRead 264 = .ok (.getfield 19, 3) := kX6_peopleRead_248.2.2.1.2
theorem dX6_peopleRead_267 : decode cX6_peopleRead 267 = .ok (.iconst 4, 1) := kX6_peopleRead_248.2.2.2.1
theorem dX6_peopleRead_268 : decode cX6_peopleRead 268 = .ok (.iload_n 1, 1) := kX6_peopleRead_248.2.2.2.2
theorem kX6_peopleRead_269 : (((((decode cX6_peopleRead 269 = .ok (.imul, 1)) ∧ (decode cX6_peopleRead 270 = .ok (.iconst 2, 1))) ∧ ((decode cX6_peopleRead 271 = .ok (.iadd, 1)) ∧ (decode cX6_peopleRead 272 = .ok (.iload 5, 2)))) ∧ (((decode cX6_peopleRead 274 = .ok (.iastore, 1)) ∧ (decode cX6_peopleRead 275 = .ok (.aload_n 0, 1))) ∧ ((decode cX6_peopleRead 276 = .ok (.getfield 19, 3)) ∧ (decode cX6_peopleRead 279 = .ok (.iconst 4, 1))))) ∧ ((((decode cX6_peopleRead 280 = .ok (.iload_n 1, 1)) ∧ (decode cX6_peopleRead 281 = .ok (.imul, 1))) ∧ ((decode cX6_peopleRead 282 = .ok (.iconst 3, 1)) ∧ (decode cX6_peopleRead 283 = .ok (.iadd, 1)))) ∧ (((decode cX6_peopleRead 284 = .ok (.iload 6, 2)) ∧ (decode cX6_peopleRead 286 = .ok (.iastore, 1))) ∧ ((decode cX6_peopleRead 287 = .ok (.iinc 1 1, 3)) ∧ (decode cX6_peopleRead 290 = .ok (.goto (-288), 3)))))) := by decide +kernel
theorem dX6_peopleRead_269 : decode cX6_peopleRead 269 = .ok (.imul, 1) := kX6_peopleRead_269.1.1.1.1
theorem dX6_peopleRead_270 : decode cX6_peopleRead 270 = .ok (.iconst 2, 1) := kX6_peopleRead_269.1.1.1.2
theorem dX6_peopleRead_271 : decode cX6_peopleRead 271 = .ok (.iadd, 1) := kX6_peopleRead_269.1.1.2.1
theorem dX6_peopleRead_272 : decode cX6_peopleRead 272 = .ok (.iload 5, 2) := kX6_peopleRead_269.1.1.2.2
theorem dX6_peopleRead_274 : decode cX6_peopleRead 274 = .ok (.iastore, 1) := kX6_peopleRead_269.1.2.1.1
theorem dX6_peopleRead_275 : decode cX6_peopleRead 275 = .ok (.aload_n 0, 1) := kX6_peopleRead_269.1.2.1.2
theorem dX6_peopleRead_276 : decode cX6_peopleRead 276 = .ok (.getfield 19, 3) := kX6_peopleRead_269.1.2.2.1
theorem dX6_peopleRead_279 : decode cX6_peopleRead 279 = .ok (.iconst 4, 1) := kX6_peopleRead_269.1.2.2.2
theorem dX6_peopleRead_280 : decode cX6_peopleRead 280 = .ok (.iload_n 1, 1) := kX6_peopleRead_269.2.1.1.1
theorem dX6_peopleRead_281 : decode cX6_peopleRead 281 = .ok (.imul, 1) := kX6_peopleRead_269.2.1.1.2
theorem dX6_peopleRead_282 : decode cX6_peopleRead 282 = .ok (.iconst 3, 1) := kX6_peopleRead_269.2.1.2.1
theorem dX6_peopleRead_283 : decode cX6_peopleRead 283 = .ok (.iadd, 1) := kX6_peopleRead_269.2.1.2.2
theorem dX6_peopleRead_284 : decode cX6_peopleRead 284 = .ok (.iload 6, 2) := kX6_peopleRead_269.2.2.1.1
theorem dX6_peopleRead_286 : decode cX6_peopleRead 286 = .ok (.iastore, 1) := kX6_peopleRead_269.2.2.1.2
theorem dX6_peopleRead_287 : decode cX6_peopleRead 287 = .ok (.iinc 1 1, 3) := kX6_peopleRead_269.2.2.2.1
theorem dX6_peopleRead_290 : decode cX6_peopleRead 290 = .ok (.goto (-288), 3) := kX6_peopleRead_269.2.2.2.2
theorem kX6_peopleRead_293 : ((decode cX6_peopleRead 293 = .ok (.iload_n 1, 1)) ∧ (decode cX6_peopleRead 294 = .ok (.ireturn, 1))) := by decide +kernel
theorem dX6_peopleRead_293 : decode cX6_peopleRead 293 = .ok (.iload_n 1, 1) := kX6_peopleRead_293.1
theorem dX6_peopleRead_294 : decode cX6_peopleRead 294 = .ok (.ireturn, 1) := kX6_peopleRead_293.2
theorem kX6_areThere_0 : (((((decode cX6_areThere 0 = .ok (.iconst 1, 1)) ∧ (decode cX6_areThere 1 = .ok (.istore_n 2, 1))) ∧ ((decode cX6_areThere 2 = .ok (.iconst 0, 1)) ∧ (decode cX6_areThere 3 = .ok (.istore_n 3, 1)))) ∧ (((decode cX6_areThere 4 = .ok (.iload_n 3, 1)) ∧ (decode cX6_areThere 5 = .ok (.iload_n 1, 1))) ∧ ((decode cX6_areThere 6 = .ok (.if_icmp .ge 33, 3)) ∧ (decode cX6_areThere 9 = .ok (.iload_n 2, 1))))) ∧ ((((decode cX6_areThere 10 = .ok (.ifCond .eq 21, 3)) ∧ (decode cX6_areThere 13 = .ok (.aload_n 0, 1))) ∧ ((decode cX6_areThere 14 = .ok (.getfield 19, 3)) ∧ (decode cX6_areThere 17 = .ok (.iconst 4, 1)))) ∧ (((decode cX6_areThere 18 = .ok (.iload_n 3, 1)) ∧ (decode cX6_areThere 19 = .ok (.imul, 1))) ∧ ((decode cX6_areThere 20 = .ok (.iconst 2, 1)) ∧ (decode cX6_areThere 21 = .ok (.iadd, 1)))))) := by decide +kernel
theorem dX6_areThere_0 : decode cX6_areThere 0 = .ok (.iconst 1, 1) := kX6_areThere_0.1.1.1.1
theorem dX6_areThere_1 : decode cX6_areThere 1 = .ok (.istore_n 2, 1) := kX6_areThere_0.1.1.1.2
theorem dX6_areThere_2 : decode cX6_areThere 2 = .ok (.iconst 0, 1) := kX6_areThere_0.1.1.2.1
theorem dX6_areThere_3 : decode cX6_areThere 3 = .ok (.istore_n 3, 1) := kX6_areThere_0.1.1.2.2
theorem dX6_areThere_4 : decode cX6_areThere 4 = .ok (.iload_n 3, 1) := kX6_areThere_0.1.2.1.1
theorem dX6_areThere_5 : decode cX6_areThere 5 = .ok (.iload_n 1, 1) := kX6_areThere_0.1.2.1.2
theorem dX6_areThere_6 : decode cX6_areThere 6 = .ok (.if_icmp .ge 33, 3) := kX6_areThere_0.1.2.2.1
theorem dX6_areThere_9 : decode cX6_areThere 9 = .ok (.iload_n 2, 1) := kX6_areThere_0.1.2.2.2
theorem dX6_areThere_10 : decode cX6_areThere 10 = .ok (.ifCond .eq 21, 3) := kX6_areThere_0.2.1.1.1
theorem dX6_areThere_13 : decode cX6_areThere 13 = .ok (.aload_n 0, 1) := kX6_areThere_0.2.1.1.2
theorem dX6_areThere_14 : decode cX6_areThere 14 = .ok (.getfield 19, 3) := kX6_areThere_0.2.1.2.1
theorem dX6_areThere_17 : decode cX6_areThere 17 = .ok (.iconst 4, 1) := kX6_areThere_0.2.1.2.2
theorem dX6_areThere_18 : decode cX6_areThere 18 = .ok (.iload_n 3, 1) := kX6_areThere_0.2.2.1.1
theorem dX6_areThere_19 : decode cX6_areThere 19 = .ok (.imul, 1) := kX6_areThere_0.2.2.1.2
theorem dX6_areThere_20 : decode cX6_areThere 20 = .ok (.iconst 2, 1) := kX6_areThere_0.2.2.2.1
theorem dX6_areThere_21 : decode cX6_areThere 21 = .ok (.iadd, 1) := kX6_areThere_0.2.2.2.2
theorem kX6_areThere_22 : (((((decode cX6_areThere 22 = .ok (.iaload, 1)) ∧ (decode cX6_areThere 23 = .ok (.iload_n 1, 1))) ∧ (decode cX6_areThere 24 = .ok (.if_icmp .ge 7, 3))) ∧ (((decode cX6_areThere 27 = .ok (.iconst 1, 1)) ∧ (decode cX6_areThere 28 = .ok (.goto 4, 3))) ∧ (decode cX6_areThere 31 = .ok (.iconst 0, 1)))) ∧ ((((decode cX6_areThere 32 = .ok (.istore_n 2, 1)) ∧ (decode cX6_areThere 33 = .ok (.iinc 3 1, 3))) ∧ (decode cX6_areThere 36 = .ok (.goto (-32), 3))) ∧ ((decode cX6_areThere 39 = .ok (.iload_n 2, 1)) ∧ (decode cX6_areThere 40 = .ok (.ireturn, 1))))) := by decide +kernel
theorem dX6_areThere_22 : decode cX6_areThere 22 = .ok (.iaload, 1) := kX6_areThere_22.1.1.1.1
theorem dX6_areThere_23 : decode cX6_areThere 23 = .ok (.iload_n 1, 1) := kX6_areThere_22.1.1.1.2
theorem dX6_areThere_24 : decode cX6_areThere 24 = .ok (.if_icmp .ge 7, 3) := kX6_areThere_22.1.1.2
theorem dX6_areThere_27 : decode cX6_areThere 27 = .ok (.iconst 1, 1) := kX6_areThere_22.1.2.1.1
theorem dX6_areThere_28 : decode cX6_areThere 28 = .ok (.goto 4, 3) := kX6_areThere_22.1.2.1.2
theorem dX6_areThere_31 : decode cX6_areThere 31 = .ok (.iconst 0, 1) := kX6_areThere_22.1.2.2
theorem dX6_areThere_32 : decode cX6_areThere 32 = .ok (.istore_n 2, 1) := kX6_areThere_22.2.1.1.1
theorem dX6_areThere_33 : decode cX6_areThere 33 = .ok (.iinc 3 1, 3) := kX6_areThere_22.2.1.1.2
theorem dX6_areThere_36 : decode cX6_areThere 36 = .ok (.goto (-32), 3) := kX6_areThere_22.2.1.2
theorem dX6_areThere_39 : decode cX6_areThere 39 = .ok (.iload_n 2, 1) := kX6_areThere_22.2.2.1
theorem dX6_areThere_40 : decode cX6_areThere 40 = .ok (.ireturn, 1) := kX6_areThere_22.2.2.2
set_option maxRecDepth 20000 in
theorem ggX6_close_X6_peopleRead : GoodIn wsX6_close wsX6_peopleRead := goodIn_r _ [10, 2, 1, 11, 5, 12, 13, 14, 9, 15, 3, 16, 17, 18, 19, 20, 21, 22, 23, 24, 25, 26, 27, 28, 29, 43, 44, 45, 46, 47, 48, 49, 50, 51, 52, 53, 54, 55, 56, 57, 58, 59, 60, 61] rfl (by decide +kernel)
set_option maxRecDepth 20000 in
theorem gX6_close_X6_peopleRead : GoodIn wsX6_close (wsV RX6 151 RX6 yX6_peopleRead wsX6_peopleRead) := goodIn_app (goodIn_of _ (by decide +kernel)) ggX6_close_X6_peopleRead
set_option maxRecDepth 20000 in
theorem ggX6_close_X6_here : GoodIn wsX6_close wsX6_here := goodIn_r _ [15, 1, 3, 16, 43, 44, 45, 46, 47, 48, 49, 50, 51, 52, 53, 54, 55, 56, 57, 58, 59, 60, 61] rfl (by decide +kernel)
set_option maxRecDepth 20000 in
theorem gX6_close_X6_here : GoodIn wsX6_close (wsV RX6 137 RX6 yX6_here wsX6_here) := goodIn_app (goodIn_of _ (by decide +kernel)) ggX6_close_X6_here
set_option maxRecDepth 20000 in
theorem ggX6_close_X6_areThere : GoodIn wsX6_close wsX6_areThere := goodIn_r _ [33, 5, 43, 44, 45, 46, 47, 48, 49, 50, 51, 52, 53, 54, 55, 56, 57, 58, 59, 60, 61] rfl (by decide +kernel)
set_option maxRecDepth 20000 in
theorem gX6_close_X6_areThere : GoodIn wsX6_close (wsV RX6 154 RX6 yX6_areThere wsX6_areThere) := goodIn_app (goodIn_of _ (by decide +kernel)) ggX6_close_X6_areThere
set_option maxRecDepth 20000 in
theorem ggX6_close_X6_personComes : GoodIn wsX6_close wsX6_personComes := goodIn_r _ [37, 4, 38, 39, 40, 41, 9, 42, 43, 44, 45, 46, 47, 48, 49, 50, 51, 52, 53, 54, 55, 56, 57, 58, 59, 60, 61] rfl (by decide +kernel)
set_option maxRecDepth 20000 in
theorem gX6_close_X6_personComes : GoodIn wsX6_close (wsV RX6 98 RX6 yX6_personComes wsX6_personComes) := goodIn_app (goodIn_of _ (by decide +kernel)) ggX6_close_X6_personComes
theorem kX6_close_0 : (((((decode cX6_close 0 = .ok (.aload_n 0, 1)) ∧ (decode cX6_close 1 = .ok (.iconst 0, 1))) ∧ ((decode cX6_close 2 = .ok (.putfield 130, 3)) ∧ (decode cX6_close 5 = .ok (.aload_n 0, 1)))) ∧ (((decode cX6_close 6 = .ok (.iconst 0, 1)) ∧ (decode cX6_close 7 = .ok (.putfield 133, 3))) ∧ ((decode cX6_close 10 = .ok (.aload_n 0, 1)) ∧ (decode cX6_close 11 = .ok (.invokevirtual 151, 3))))) ∧ ((((decode cX6_close 14 = .ok (.istore_n 1, 1)) ∧ (decode cX6_close 15 = .ok (.aload_n 0, 1))) ∧ ((decode cX6_close 16 = .ok (.aload_n 0, 1)) ∧ (decode cX6_close 17 = .ok (.getfield 133, 3)))) ∧ (((decode cX6_close 20 = .ok (.ifCond .ne 10, 3)) ∧ (decode cX6_close 23 = .ok (.aload_n 0, 1))) ∧ ((decode cX6_close 24 = .ok (.invokevirtual 137, 3)) ∧ (decode cX6_close 27 = .ok (.ifCond .eq 7, 3)))))) := by decide +kernel
theorem dX6_close_0 : decode cX6_close 0 = .ok (.aload_n 0, 1) := kX6_close_0.1.1.1.1
theorem dX6_close_1 : decode cX6_close 1 = .ok (.iconst 0, 1) := kX6_close_0.1.1.1.2
theorem dX6_close_2 : decode cX6_close 2 = .ok (.putfield 130, 3) := kX6_close_0.1.1.2.1
theorem dX6_close_5 : decode cX6_close 5 = .ok (.aload_n 0, 1) := kX6_close_0.1.1.2.2
theorem dX6_close_6 : decode cX6_close 6 = .ok (.iconst 0, 1) := kX6_close_0.1.2.1.1
theorem dX6_close_7 : decode cX6_close 7 = .ok (.putfield 133, 3) := kX6_close_0.1.2.1.2
theorem dX6_close_10 : decode cX6_close 10 = .ok (.aload_n 0, 1) := kX6_close_0.1.2.2.1
theorem dX6_close_11 : decode cX6_close 11 = .ok (.invokevirtual 151, 3) := kX6_close_0.1.2.2.2
theorem dX6_close_14 : decode cX6_close 14 = .ok (.istore_n 1, 1) := kX6_close_0.2.1.1.1
theorem dX6_close_15 : decode cX6_close 15 = .ok (.aload_n 0, 1) := kX6_close_0.2.1.1.2
theorem dX6_close_16 : decode cX6_close 16 = .ok (.aload_n 0, 1) := kX6_close_0.2.1.2.1
theorem dX6_close_17 : decode cX6_close 17 = .ok (.getfield 133, 3) := kX6_close_0.2.1.2.2
theorem dX6_close_20 : decode cX6_close 20 = .ok (.ifCond .ne 10, 3) := kX6_close_0.2.2.1.1
theorem dX6_close_23 : decode cX6_close 23 = .ok (.aload_n 0, 1) := kX6_close_0.2.2.1.2
theorem dX6_close_24 : decode cX6_close 24 = .ok (.invokevirtual 137, 3) := kX6_close_0.2.2.2.1
theorem dX6_close_27 : decode cX6_close 27 = .ok (.ifCond .eq 7, 3) := kX6_close_0.2.2.2.2
theorem kX6_close_30 : (((((decode cX6_close 30 = .ok (.iconst 1, 1)) ∧ (decode cX6_close 31 = .ok (.goto 4, 3))) ∧ ((decode cX6_close 34 = .ok (.iconst 0, 1)) ∧ (decode cX6_close 35 = .ok (.putfield 133, 3)))) ∧ (((decode cX6_close 38 = .ok (.aload_n 0, 1)) ∧ (decode cX6_close 39 = .ok (.getfield 133, 3))) ∧ ((decode cX6_close 42 = .ok (.ifCond .ne 24, 3)) ∧ (decode cX6_close 45 = .ok (.aload_n 0, 1))))) ∧ ((((decode cX6_close 46 = .ok (.iload_n 1, 1)) ∧ (decode cX6_close 47 = .ok (.invokevirtual 154, 3))) ∧ ((decode cX6_close 50 = .ok (.ifCond .ne 16, 3)) ∧ (decode cX6_close 53 = .ok (.aload_n 0, 1)))) ∧ (((decode cX6_close 54 = .ok (.iconst 1, 1)) ∧ (decode cX6_close 55 = .ok (.putfield 133, 3))) ∧ ((decode cX6_close 58 = .ok (.aload_n 0, 1)) ∧ (decode cX6_close 59 = .ok (.aload_n 0, 1)))))) := by decide +kernel
theorem dX6_close_30 : decode cX6_close 30 = .ok (.iconst 1, 1) := kX6_close_30.1.1.1.1
theorem dX6_close_31 : decode cX6_close 31 = .ok (.goto 4, 3) := kX6_close_30.1.1.1.2
theorem dX6_close_34 : decode cX6_close 34 = .ok (.iconst 0, 1) := kX6_close_30.1.1.2.1
theorem dX6_close_35 : decode cX6_close 35 = .ok (.putfield 133, 3) := kX6_close_30.1.1.2.2
theorem dX6_close_38 : decode cX6_close 38 = .ok (.aload_n 0, 1) := kX6_close_30.1.2.1.1
theorem dX6_close_39 : decode cX6_close 39 = .ok (.getfield 133, 3) := kX6_close_30.1.2.1.2
theorem dX6_close_42 : decode cX6_close 42 = .ok (.ifCond .ne 24, 3) := kX6_close_30.1.2.2.1
theorem dX6_close_45 : decode cX6_close 45 = .ok (.aload_n 0, 1) := kX6_close_30.1.2.2.2
theorem dX6_close_46 : decode cX6_close 46 = .ok (.iload_n 1, 1) := kX6_close_30.2.1.1.1
theorem dX6_close_47 : decode cX6_close 47 = .ok (.invokevirtual 154, 3) := kX6_close_30.2.1.1.2
theorem dX6_close_50 : decode cX6_close 50 = .ok (.ifCond .ne 16, 3) := kX6_close_30.2.1.2.1
theorem dX6_close_53 : decode cX6_close 53 = .ok (.aload_n 0, 1) := kX6_close_30.2.1.2.2
theorem dX6_close_54 : decode cX6_close 54 = .ok (.iconst 1, 1) := kX6_close_30.2.2.1.1
theorem dX6_close_55 : decode cX6_close 55 = .ok (.putfield 133, 3) := kX6_close_30.2.2.1.2
theorem dX6_close_58 : decode cX6_close 58 = .ok (.aload_n 0, 1) := kX6_close_30.2.2.2.1
theorem dX6_close_59 : decode cX6_close 59 = .ok (.aload_n 0, 1) := kX6_close_30.2.2.2.2
theorem kX6_close_60 : (((((decode cX6_close 60 = .ok (.getfield 127, 3)) ∧ (decode cX6_close 63 = .ok (.putfield 130, 3))) ∧ ((decode cX6_close 66 = .ok (.aload_n 0, 1)) ∧ (decode cX6_close 67 = .ok (.iconst 0, 1)))) ∧ (((decode cX6_close 68 = .ok (.putfield 127, 3)) ∧ (decode cX6_close 71 = .ok (.aload_n 0, 1))) ∧ ((decode cX6_close 72 = .ok (.getfield 133, 3)) ∧ (decode cX6_close 75 = .ok (.ifCond .eq 11, 3))))) ∧ ((((decode cX6_close 78 = .ok (.bipush (-20), 2)) ∧ (decode cX6_close 80 = .ok (.aload_n 0, 1))) ∧ ((decode cX6_close 81 = .ok (.getfield 130, 3)) ∧ (decode cX6_close 84 = .ok (.isub, 1)))) ∧ (((decode cX6_close 85 = .ok (.ireturn, 1)) ∧ (decode cX6_close 86 = .ok (.aload_n 0, 1))) ∧ ((decode cX6_close 87 = .ok (.getfield 7, 3)) ∧ (decode cX6_close 90 = .ok (.iconst 0, 1)))))) := by decide +kernel
theorem dX6_close_60 : decode cX6_close 60 = .ok (.getfield 127, 3) := kX6_close_60.1.1.1.1
theorem dX6_close_63 : decode cX6_close 63 = .ok (.putfield 130, 3) := kX6_close_60.1.1.1.2
theorem dX6_close_66 : decode cX6_close 66 = .ok (.aload_n 0, 1) := kX6_close_60.1.1.2.1
theorem dX6_close_67 : decode cX6_close 67 = .ok (.iconst 0, 1) := kX6_close_60.1.1.2.2
theorem dX6_close_68 : decode cX6_close 68 = .ok (.putfield 127, 3) := kX6_close_60.1.2.1.1
theorem dX6_close_71 : decode cX6_close 71 = .ok (.aload_n 0, 1) := kX6_close_60.1.2.1.2
theorem dX6_close_72 : decode cX6_close 72 = .ok (.getfield 133, 3) := kX6_close_60.1.2.2.1
theorem dX6_close_75 : decode cX6_close 75 = .ok (.ifCond .eq 11, 3) := kX6_close_60.1.2.2.2
theorem dX6_close_78 : decode cX6_close 78 = .ok (.bipush (-20), 2) := kX6_close_60.2.1.1.1
theorem dX6_close_80 : decode cX6_close 80 = .ok (.aload_n 0, 1) := kX6_close_60.2.1.1.2
theorem dX6_close_81 : decode cX6_close 81 = .ok (.getfield 130, 3) := kX6_close_60.2.1.2.1
theorem dX6_close_84 : decode cX6_close 84 = .ok (.isub, 1) := kX6_close_60.2.1.2.2
theorem dX6_close_85 : decode cX6_close 85 = .ok (.ireturn, 1) := kX6_close_60.2.2.1.1
theorem dX6_close_86 : decode cX6_close 86 = .ok (.aload_n 0, 1) := kX6_close_60.2.2.1.2
theorem dX6_close_87 : decode cX6_close 87 = .ok (.getfield 7, 3) := kX6_close_60.2.2.2.1
theorem dX6_close_90 : decode cX6_close 90 = .ok (.iconst 0, 1) := kX6_close_60.2.2.2.2
theorem kX6_close_91 : (((((decode cX6_close 91 = .ok (.iconst 0, 1)) ∧ (decode cX6_close 92 = .ok (.iastore, 1))) ∧ ((decode cX6_close 93 = .ok (.aload_n 0, 1)) ∧ (decode cX6_close 94 = .ok (.getfield 7, 3)))) ∧ (((decode cX6_close 97 = .ok (.iconst 1, 1)) ∧ (decode cX6_close 98 = .ok (.iconst 0, 1))) ∧ ((decode cX6_close 99 = .ok (.iastore, 1)) ∧ (decode cX6_close 100 = .ok (.iconst 0, 1))))) ∧ ((((decode cX6_close 101 = .ok (.istore_n 2, 1)) ∧ (decode cX6_close 102 = .ok (.iload_n 2, 1))) ∧ ((decode cX6_close 103 = .ok (.iload_n 1, 1)) ∧ (decode cX6_close 104 = .ok (.if_icmp .ge 51, 3)))) ∧ (((decode cX6_close 107 = .ok (.aload_n 0, 1)) ∧ (decode cX6_close 108 = .ok (.aload_n 0, 1))) ∧ ((decode cX6_close 109 = .ok (.getfield 19, 3)) ∧ (decode cX6_close 112 = .ok (.iconst 4, 1)))))) := by decide +kernel
theorem dX6_close_91 : decode cX6_close 91 = .ok (.iconst 0, 1) := kX6_close_91.1.1.1.1
theorem dX6_close_92 : decode cX6_close 92 = .ok (.iastore, 1) := kX6_close_91.1.1.1.2
theorem dX6_close_93 : decode cX6_close 93 = .ok (.aload_n 0, 1) := kX6_close_91.1.1.2.1
theorem dX6_close_94 : decode cX6_close 94 = .ok (.getfield 7, 3) := kX6_close_91.1.1.2.2
theorem dX6_close_97 : decode cX6_close 97 = .ok (.iconst 1, 1) := kX6_close_91.1.2.1.1
theorem dX6_close_98 : decode cX6_close 98 = .ok (.iconst 0, 1) := kX6_close_91.1.2.1.2
theorem dX6_close_99 : decode cX6_close 99 = .ok (.iastore, 1) := kX6_close_91.1.2.2.1
theorem dX6_close_100 : decode cX6_close 100 = .ok (.iconst 0, 1) := kX6_close_91.1.2.2.2
theorem dX6_close_101 : decode cX6_close 101 = .ok (.istore_n 2, 1) := kX6_close_91.2.1.1.1
theorem dX6_close_102 : decode cX6_close 102 = .ok (.iload_n 2, 1) := kX6_close_91.2.1.1.2
theorem dX6_close_103 : decode cX6_close 103 = .ok (.iload_n 1, 1) := kX6_close_91.2.1.2.1
theorem dX6_close_104 : decode cX6_close 104 = .ok (.if_icmp .ge 51, 3) := kX6_close_91.2.1.2.2
theorem dX6_close_107 : decode cX6_close 107 = .ok (.aload_n 0, 1) := kX6_close_91.2.2.1.1
theorem dX6_close_108 : decode cX6_close 108 = .ok (.aload_n 0, 1) := kX6_close_91.2.2.1.2
theorem dX6_close_109 : decode cX6_close 109 = .ok (.getfield 19, 3) := kX6_close_91.2.2.2.1
theorem dX6_close_112 : decode cX6_close 112 = .ok (.iconst 4, 1) := kX6_close_91.2.2.2.2
theorem kX6_close_113 : (((((decode cX6_close 113 = .ok (.iload_n 2, 1)) ∧ (decode cX6_close 114 = .ok (.imul, 1))) ∧ ((decode cX6_close 115 = .ok (.iaload, 1)) ∧ (decode cX6_close 116 = .ok (.aload_n 0, 1)))) ∧ (((decode cX6_close 117 = .ok (.getfield 19, 3)) ∧ (decode cX6_close 120 = .ok (.iconst 4, 1))) ∧ ((decode cX6_close 121 = .ok (.iload_n 2, 1)) ∧ (decode cX6_close 122 = .ok (.imul, 1))))) ∧ ((((decode cX6_close 123 = .ok (.iconst 1, 1)) ∧ (decode cX6_close 124 = .ok (.iadd, 1))) ∧ ((decode cX6_close 125 = .ok (.iaload, 1)) ∧ (decode cX6_close 126 = .ok (.aload_n 0, 1)))) ∧ (((decode cX6_close 127 = .ok (.getfield 19, 3)) ∧ (decode cX6_close 130 = .ok (.iconst 4, 1))) ∧ ((decode cX6_close 131 = .ok (.iload_n 2, 1)) ∧ (decode cX6_close 132 = .ok (.imul, 1)))))) := by decide +kernel
theorem dX6_close_113 : decode cX6_close 113 = .ok (.iload_n 2, 1) := kX6_close_113.1.1.1.1
theorem dX6_close_114 : decode cX6_close 114 = .ok (.imul, 1) := kX6_close_113.1.1.1.2
theorem dX6_close_115 : decode cX6_close 115 = .ok (.iaload, 1) := kX6_close_113.1.1.2.1
theorem dX6_close_116 : decode cX6_close 116 = .ok (.aload_n 0, 1) := kX6_close_113.1.1.2.2
theorem dX6_close_117 : decode cX6_close 117 = .ok (.getfield 19, 3) := kX6_close_113.1.2.1.1
theorem dX6_close_120 : decode cX6_close 120 = .ok (.iconst 4, 1) := kX6_close_113.1.2.1.2
theorem dX6_close_121 : decode cX6_close 121 = .ok (.iload_n 2, 1) := kX6_close_113.1.2.2.1
theorem dX6_close_122 : decode cX6_close 122 = .ok (.imul, 1) := kX6_close_113.1.2.2.2
theorem dX6_close_123 : decode cX6_close 123 = .ok (.iconst 1, 1) := kX6_close_113.2.1.1.1
theorem dX6_close_124 : decode cX6_close 124 = .ok (.iadd, 1) := kX6_close_113.2.1.1.2
theorem dX6_close_125 : decode cX6_close 125 = .ok (.iaload, 1) := kX6_close_113.2.1.2.1
theorem dX6_close_126 : decode cX6_close 126 = .ok (.aload_n 0, 1) := kX6_close_113.2.1.2.2
theorem dX6_close_127 : decode cX6_close 127 = .ok (.getfield 19, 3) := kX6_close_113.2.2.1.1
theorem dX6_close_130 : decode cX6_close 130 = .ok (.iconst 4, 1) := kX6_close_113.2.2.1.2
theorem dX6_close_131 : decode cX6_close 131 = .ok (.iload_n 2, 1) := kX6_close_113.2.2.2.1
theorem dX6_close_132 : decode cX6_close 132 = .ok (.imul, 1) := kX6_close_113.2.2.2.2
theorem kX6_close_133 : (((((decode cX6_close 133 = .ok (.iconst 2, 1)) ∧ (decode cX6_close 134 = .ok (.iadd, 1))) ∧ ((decode cX6_close 135 = .ok (.iaload, 1)) ∧ (decode cX6_close 136 = .ok (.aload_n 0, 1)))) ∧ (((decode cX6_close 137 = .ok (.getfield 19, 3)) ∧ (decode cX6_close 140 = .ok (.iconst 4, 1))) ∧ ((decode cX6_close 141 = .ok (.iload_n 2, 1)) ∧ (decode cX6_close 142 = .ok (.imul, 1))))) ∧ ((((decode cX6_close 143 = .ok (.iconst 3, 1)) ∧ (decode cX6_close 144 = .ok (.iadd, 1))) ∧ ((decode cX6_close 145 = .ok (.iaload, 1)) ∧ (decode cX6_close 146 = .ok (.invokevirtual 98, 3)))) ∧ (((decode cX6_close 149 = .ok (.iinc 2 1, 3)) ∧ (decode cX6_close 152 = .ok (.goto (-50), 3))) ∧ ((decode cX6_close 155 = .ok (.iload_n 1, 1)) ∧ (decode cX6_close 156 = .ok (.ireturn, 1)))))) := by decide +kernel
theorem dX6_close_133 : decode cX6_close 133 = .ok (.iconst 2, 1) := kX6_close_133.1.1.1.1
theorem dX6_close_134 : decode cX6_close 134 = .ok (.iadd, 1) := kX6_close_133.1.1.1.2
theorem dX6_close_135 : decode cX6_close 135 = .ok (.iaload, 1) := kX6_close_133.1.1.2.1
theorem dX6_close_136 : decode cX6_close 136 = .ok (.aload_n 0, 1) := kX6_close_133.1.1.2.2
theorem dX6_close_137 : decode cX6_close 137 = .ok (.getfield 19, 3) := kX6_close_133.1.2.1.1
theorem dX6_close_140 : decode cX6_close 140 = .ok (.iconst 4, 1) := kX6_close_133.1.2.1.2
theorem dX6_close_141 : decode cX6_close 141 = .ok (.iload_n 2, 1) := kX6_close_133.1.2.2.1
theorem dX6_close_142 : decode cX6_close 142 = .ok (.imul, 1) := kX6_close_133.1.2.2.2
theorem dX6_close_143 : decode cX6_close 143 = .ok (.iconst 3, 1) := kX6_close_133.2.1.1.1
theorem dX6_close_144 : decode cX6_close 144 = .ok (.iadd, 1) := kX6_close_133.2.1.1.2
theorem dX6_close_145 : decode cX6_close 145 = .ok (.iaload, 1) := kX6_close_133.2.1.2.1
theorem dX6_close_146 : decode cX6_close 146 = .ok (.invokevirtual 98, 3) := kX6_close_133.2.1.2.2
theorem dX6_close_149 : decode cX6_close 149 = .ok (.iinc 2 1, 3) := kX6_close_133.2.2.1.1
theorem dX6_close_152 : decode cX6_close 152 = .ok (.goto (-50), 3) := kX6_close_133.2.2.1.2
theorem dX6_close_155 : decode cX6_close 155 = .ok (.iload_n 1, 1) := kX6_close_133.2.2.2.1
theorem dX6_close_156 : decode cX6_close 156 = .ok (.ireturn, 1) := kX6_close_133.2.2.2.2
theorem kX6_notes_0 : (((((decode cX6_notes 0 = .ok (.aload_n 0, 1)) ∧ (decode cX6_notes 1 = .ok (.getfield 90, 3))) ∧ ((decode cX6_notes 4 = .ok (.bipush 8, 2)) ∧ (decode cX6_notes 6 = .ok (.if_icmp .ne 40, 3)))) ∧ (((decode cX6_notes 9 = .ok (.bipush 27, 2)) ∧ (decode cX6_notes 11 = .ok (.istore_n 1, 1))) ∧ ((decode cX6_notes 12 = .ok (.iload_n 1, 1)) ∧ (decode cX6_notes 13 = .ok (.sipush 216, 3))))) ∧ ((((decode cX6_notes 16 = .ok (.if_icmp .ge 24, 3)) ∧ (decode cX6_notes 19 = .ok (.aload_n 0, 1))) ∧ ((decode cX6_notes 20 = .ok (.getfield 22, 3)) ∧ (decode cX6_notes 23 = .ok (.iload_n 1, 1)))) ∧ (((decode cX6_notes 24 = .ok (.bipush 27, 2)) ∧ (decode cX6_notes 26 = .ok (.isub, 1))) ∧ ((decode cX6_notes 27 = .ok (.aload_n 0, 1)) ∧ (decode cX6_notes 28 = .ok (.getfield 22, 3)))))) := by decide +kernel
theorem dX6_notes_0 : decode cX6_notes 0 = .ok (.aload_n 0, 1) := kX6_notes_0.1.1.1.1
theorem dX6_notes_1 : decode cX6_notes 1 = .ok (.getfield 90, 3) := kX6_notes_0.1.1.1.2
theorem dX6_notes_4 : decode cX6_notes 4 = .ok (.bipush 8, 2) := kX6_notes_0.1.1.2.1
theorem dX6_notes_6 : decode cX6_notes 6 = .ok (.if_icmp .ne 40, 3) := kX6_notes_0.1.1.2.2
theorem dX6_notes_9 : decode cX6_notes 9 = .ok (.bipush 27, 2) := kX6_notes_0.1.2.1.1
theorem dX6_notes_11 : decode cX6_notes 11 = .ok (.istore_n 1, 1) := kX6_notes_0.1.2.1.2
theorem dX6_notes_12 : decode cX6_notes 12 = .ok (.iload_n 1, 1) := kX6_notes_0.1.2.2.1
theorem dX6_notes_13 : decode cX6_notes 13 = .ok (.sipush 216, 3) := kX6_notes_0.1.2.2.2
theorem dX6_notes_16 : decode cX6_notes 16 = .ok (.if_icmp .ge 24, 3) := kX6_notes_0.2.1.1.1
theorem dX6_notes_19 : decode cX6_notes 19 = .ok (.aload_n 0, 1) := kX6_notes_0.2.1.1.2
theorem dX6_notes_20 : decode cX6_notes 20 = .ok (.getfield 22, 3) := kX6_notes_0.2.1.2.1
theorem dX6_notes_23 : decode cX6_notes 23 = .ok (.iload_n 1, 1) := kX6_notes_0.2.1.2.2
theorem dX6_notes_24 : decode cX6_notes 24 = .ok (.bipush 27, 2) := kX6_notes_0.2.2.1.1
theorem dX6_notes_26 : decode cX6_notes 26 = .ok (.isub, 1) := kX6_notes_0.2.2.1.2
theorem dX6_notes_27 : decode cX6_notes 27 = .ok (.aload_n 0, 1) := kX6_notes_0.2.2.2.1
theorem dX6_notes_28 : decode cX6_notes 28 = .ok (.getfield 22, 3) := kX6_notes_0.2.2.2.2
theorem kX6_notes_31 : (((((decode cX6_notes 31 = .ok (.iload_n 1, 1)) ∧ (decode cX6_notes 32 = .ok (.iaload, 1))) ∧ ((decode cX6_notes 33 = .ok (.iastore, 1)) ∧ (decode cX6_notes 34 = .ok (.iinc 1 1, 3)))) ∧ (((decode cX6_notes 37 = .ok (.goto (-25), 3)) ∧ (decode cX6_notes 40 = .ok (.aload_n 0, 1))) ∧ ((decode cX6_notes 41 = .ok (.bipush 7, 2)) ∧ (decode cX6_notes 43 = .ok (.putfield 90, 3))))) ∧ ((((decode cX6_notes 46 = .ok (.iconst 0, 1)) ∧ (decode cX6_notes 47 = .ok (.istore_n 1, 1))) ∧ ((decode cX6_notes 48 = .ok (.iload_n 1, 1)) ∧ (decode cX6_notes 49 = .ok (.bipush 27, 2)))) ∧ (((decode cX6_notes 51 = .ok (.if_icmp .ge 29, 3)) ∧ (decode cX6_notes 54 = .ok (.aload_n 0, 1))) ∧ ((decode cX6_notes 55 = .ok (.getfield 22, 3)) ∧ (decode cX6_notes 58 = .ok (.bipush 27, 2)))))) := by decide +kernel
theorem dX6_notes_31 : decode cX6_notes 31 = .ok (.iload_n 1, 1) := kX6_notes_31.1.1.1.1
theorem dX6_notes_32 : decode cX6_notes 32 = .ok (.iaload, 1) := kX6_notes_31.1.1.1.2
theorem dX6_notes_33 : decode cX6_notes 33 = .ok (.iastore, 1) := kX6_notes_31.1.1.2.1
theorem dX6_notes_34 : decode cX6_notes 34 = .ok (.iinc 1 1, 3) := kX6_notes_31.1.1.2.2
theorem dX6_notes_37 : decode cX6_notes 37 = .ok (.goto (-25), 3) := kX6_notes_31.1.2.1.1
theorem dX6_notes_40 : decode cX6_notes 40 = .ok (.aload_n 0, 1) := kX6_notes_31.1.2.1.2
theorem dX6_notes_41 : decode cX6_notes 41 = .ok (.bipush 7, 2) := kX6_notes_31.1.2.2.1
theorem dX6_notes_43 : decode cX6_notes 43 = .ok (.putfield 90, 3) := kX6_notes_31.1.2.2.2
theorem dX6_notes_46 : decode cX6_notes 46 = .ok (.iconst 0, 1) := kX6_notes_31.2.1.1.1
theorem dX6_notes_47 : decode cX6_notes 47 = .ok (.istore_n 1, 1) := kX6_notes_31.2.1.1.2
theorem dX6_notes_48 : decode cX6_notes 48 = .ok (.iload_n 1, 1) := kX6_notes_31.2.1.2.1
theorem dX6_notes_49 : decode cX6_notes 49 = .ok (.bipush 27, 2) := kX6_notes_31.2.1.2.2
theorem dX6_notes_51 : decode cX6_notes 51 = .ok (.if_icmp .ge 29, 3) := kX6_notes_31.2.2.1.1
theorem dX6_notes_54 : decode cX6_notes 54 = .ok (.aload_n 0, 1) := kX6_notes_31.2.2.1.2
theorem dX6_notes_55 : decode cX6_notes 55 = .ok (.getfield 22, 3) := kX6_notes_31.2.2.2.1
theorem dX6_notes_58 : decode cX6_notes 58 = .ok (.bipush 27, 2) := kX6_notes_31.2.2.2.2
theorem kX6_notes_60 : (((((decode cX6_notes 60 = .ok (.aload_n 0, 1)) ∧ (decode cX6_notes 61 = .ok (.getfield 90, 3))) ∧ ((decode cX6_notes 64 = .ok (.imul, 1)) ∧ (decode cX6_notes 65 = .ok (.iload_n 1, 1)))) ∧ (((decode cX6_notes 66 = .ok (.iadd, 1)) ∧ (decode cX6_notes 67 = .ok (.aload_n 0, 1))) ∧ ((decode cX6_notes 68 = .ok (.getfield 7, 3)) ∧ (decode cX6_notes 71 = .ok (.iload_n 1, 1))))) ∧ ((((decode cX6_notes 72 = .ok (.iaload, 1)) ∧ (decode cX6_notes 73 = .ok (.iastore, 1))) ∧ ((decode cX6_notes 74 = .ok (.iinc 1 1, 3)) ∧ (decode cX6_notes 77 = .ok (.goto (-29), 3)))) ∧ (((decode cX6_notes 80 = .ok (.aload_n 0, 1)) ∧ (decode cX6_notes 81 = .ok (.dup, 1))) ∧ ((decode cX6_notes 82 = .ok (.getfield 90, 3)) ∧ (decode cX6_notes 85 = .ok (.iconst 1, 1)))))) := by decide +kernel
theorem dX6_notes_60 : decode cX6_notes 60 = .ok (.aload_n 0, 1) := kX6_notes_60.1.1.1.1
theorem dX6_notes_61 : decode cX6_notes 61 = .ok (.getfield 90, 3) := kX6_notes_60.1.1.1.2
theorem dX6_notes_64 : decode cX6_notes 64 = .ok (.imul, 1) := kX6_notes_60.1.1.2.1
theorem dX6_notes_65 : decode cX6_notes 65 = .ok (.iload_n 1, 1) := kX6_notes_60.1.1.2.2
theorem dX6_notes_66 : decode cX6_notes 66 = .ok (.iadd, 1) := kX6_notes_60.1.2.1.1
theorem dX6_notes_67 : decode cX6_notes 67 = .ok (.aload_n 0, 1) := kX6_notes_60.1.2.1.2
theorem dX6_notes_68 : decode cX6_notes 68 = .ok (.getfield 7, 3) := kX6_notes_60.1.2.2.1
theorem dX6_notes_71 : decode cX6_notes 71 = .ok (.iload_n 1, 1) := kX6_notes_60.1.2.2.2
theorem dX6_notes_72 : decode cX6_notes 72 = .ok (.iaload, 1) := kX6_notes_60.2.1.1.1
theorem dX6_notes_73 : decode cX6_notes 73 = .ok (.iastore, 1) := kX6_notes_60.2.1.1.2
theorem dX6_notes_74 : decode cX6_notes 74 = .ok (.iinc 1 1, 3) := kX6_notes_60.2.1.2.1
theorem dX6_notes_77 : decode cX6_notes 77 = .ok (.goto (-29), 3) := kX6_notes_60.2.1.2.2
theorem dX6_notes_80 : decode cX6_notes 80 = .ok (.aload_n 0, 1) := kX6_notes_60.2.2.1.1
theorem dX6_notes_81 : decode cX6_notes 81 = .ok (.dup, 1) := kX6_notes_60.2.2.1.2
theorem dX6_notes_82 : decode cX6_notes 82 = .ok (.getfield 90, 3) := kX6_notes_60.2.2.2.1
theorem dX6_notes_85 : decode cX6_notes 85 = .ok (.iconst 1, 1) := kX6_notes_60.2.2.2.2
theorem kX6_notes_86 : (((decode cX6_notes 86 = .ok (.iadd, 1)) ∧ (decode cX6_notes 87 = .ok (.putfield 90, 3))) ∧ (decode cX6_notes 90 = .ok (.return_, 1))) := by decide +kernel
theorem dX6_notes_86 : decode cX6_notes 86 = .ok (.iadd, 1) := kX6_notes_86.1.1
theorem dX6_notes_87 : decode cX6_notes 87 = .ok (.putfield 90, 3) := kX6_notes_86.1.2
theorem dX6_notes_90 : decode cX6_notes 90 = .ok (.return_, 1) := kX6_notes_86.2
set_option maxRecDepth 20000 in
theorem ggX6_hours_X6_in : GoodIn wsX6_hours wsX6_in := goodIn_r _ [6] rfl (by decide +kernel)
set_option maxRecDepth 20000 in
theorem gX6_hours_X6_in : GoodIn wsX6_hours (va_wsS RX6 50 yX6_in wsX6_in) := goodIn_app (goodIn_of _ (by decide +kernel)) ggX6_hours_X6_in
set_option maxRecDepth 20000 in
theorem ggX6_hours_X6_notes : GoodIn wsX6_hours wsX6_notes := goodIn_r _ [10, 11, 12, 2, 58, 59, 60, 61, 62, 63, 64, 65, 66, 67, 68, 69, 70, 71, 72, 73, 74, 75, 76] rfl (by decide +kernel)
set_option maxRecDepth 20000 in
theorem gX6_hours_X6_notes : GoodIn wsX6_hours (wsV RX6 157 RX6 yX6_notes wsX6_notes) := goodIn_app (goodIn_of _ (by decide +kernel)) ggX6_hours_X6_notes
set_option maxRecDepth 20000 in
theorem ggX6_hours_X6_goesBy : GoodIn wsX6_hours wsX6_goesBy := goodIn_r _ [16, 2, 17, 18, 19, 20, 5, 21, 22, 23, 24, 25, 26, 27, 28, 29, 30, 31, 32, 33, 34, 35, 36, 37, 38, 39, 40, 41, 42, 43, 44, 45, 46, 47, 48, 49, 50, 51, 52, 53, 58, 59, 60, 61, 62, 63, 64, 65, 66, 67, 68, 69, 70, 71, 72, 73, 74, 75, 76] rfl (by decide +kernel)
set_option maxRecDepth 20000 in
theorem gX6_hours_X6_goesBy : GoodIn wsX6_hours (wsV RX6 87 RX6 yX6_goesBy wsX6_goesBy) := goodIn_app (goodIn_of _ (by decide +kernel)) ggX6_hours_X6_goesBy
set_option maxRecDepth 20000 in
theorem ggX6_hours_X6_stopped : GoodIn wsX6_hours wsX6_stopped := goodIn_r _ [57, 2, 26, 27, 28, 5, 29, 30, 31, 32, 33, 34, 35, 36, 37, 58, 59, 60, 61, 62, 63, 64, 65, 66, 67, 68, 69, 70, 71, 72, 73, 74, 75, 76] rfl (by decide +kernel)
set_option maxRecDepth 20000 in
theorem gX6_hours_X6_stopped : GoodIn wsX6_hours (wsV RX6 110 RX6 yX6_stopped wsX6_stopped) := goodIn_app (goodIn_of _ (by decide +kernel)) ggX6_hours_X6_stopped
theorem kX6_hours_0 : (((((decode cX6_hours 0 = .ok (.iload_n 1, 1)) ∧ (decode cX6_hours 1 = .ok (.i2l, 1))) ∧ ((decode cX6_hours 2 = .ok (.lconst 1, 1)) ∧ (decode cX6_hours 3 = .ok (.ldc2_w 140, 3)))) ∧ (((decode cX6_hours 6 = .ok (.invokestatic 50, 3)) ∧ (decode cX6_hours 9 = .ok (.ifCond .ne 5, 3))) ∧ ((decode cX6_hours 12 = .ok (.iconst (-1), 1)) ∧ (decode cX6_hours 13 = .ok (.ireturn, 1))))) ∧ ((((decode cX6_hours 14 = .ok (.aload_n 0, 1)) ∧ (decode cX6_hours 15 = .ok (.getfield 7, 3))) ∧ ((decode cX6_hours 18 = .ok (.iconst 1, 1)) ∧ (decode cX6_hours 19 = .ok (.iaload, 1)))) ∧ (((decode cX6_hours 20 = .ok (.iload_n 1, 1)) ∧ (decode cX6_hours 21 = .ok (.iadd, 1))) ∧ ((decode cX6_hours 22 = .ok (.sipush 9999, 3)) ∧ (decode cX6_hours 25 = .ok (.if_icmp .le 6, 3)))))) := by decide +kernel
theorem dX6_hours_0 : decode cX6_hours 0 = .ok (.iload_n 1, 1) := kX6_hours_0.1.1.1.1
theorem dX6_hours_1 : decode cX6_hours 1 = .ok (.i2l, 1) := kX6_hours_0.1.1.1.2
theorem dX6_hours_2 : decode cX6_hours 2 = .ok (.lconst 1, 1) := kX6_hours_0.1.1.2.1
theorem dX6_hours_3 : decode cX6_hours 3 = .ok (.ldc2_w 140, 3) := kX6_hours_0.1.1.2.2
theorem dX6_hours_6 : decode cX6_hours 6 = .ok (.invokestatic 50, 3) := kX6_hours_0.1.2.1.1
theorem dX6_hours_9 : decode cX6_hours 9 = .ok (.ifCond .ne 5, 3) := kX6_hours_0.1.2.1.2
theorem dX6_hours_12 : decode cX6_hours 12 = .ok (.iconst (-1), 1) := kX6_hours_0.1.2.2.1
theorem dX6_hours_13 : decode cX6_hours 13 = .ok (.ireturn, 1) := kX6_hours_0.1.2.2.2
theorem dX6_hours_14 : decode cX6_hours 14 = .ok (.aload_n 0, 1) := kX6_hours_0.2.1.1.1
theorem dX6_hours_15 : decode cX6_hours 15 = .ok (.getfield 7, 3) := kX6_hours_0.2.1.1.2
theorem dX6_hours_18 : decode cX6_hours 18 = .ok (.iconst 1, 1) := kX6_hours_0.2.1.2.1
theorem dX6_hours_19 : decode cX6_hours 19 = .ok (.iaload, 1) := kX6_hours_0.2.1.2.2
theorem dX6_hours_20 : decode cX6_hours 20 = .ok (.iload_n 1, 1) := kX6_hours_0.2.2.1.1
theorem dX6_hours_21 : decode cX6_hours 21 = .ok (.iadd, 1) := kX6_hours_0.2.2.1.2
theorem dX6_hours_22 : decode cX6_hours 22 = .ok (.sipush 9999, 3) := kX6_hours_0.2.2.2.1
theorem dX6_hours_25 : decode cX6_hours 25 = .ok (.if_icmp .le 6, 3) := kX6_hours_0.2.2.2.2
theorem kX6_hours_28 : (((((decode cX6_hours 28 = .ok (.bipush (-3), 2)) ∧ (decode cX6_hours 30 = .ok (.ireturn, 1))) ∧ ((decode cX6_hours 31 = .ok (.iconst 0, 1)) ∧ (decode cX6_hours 32 = .ok (.istore_n 2, 1)))) ∧ (((decode cX6_hours 33 = .ok (.iload_n 2, 1)) ∧ (decode cX6_hours 34 = .ok (.iload_n 1, 1))) ∧ ((decode cX6_hours 35 = .ok (.if_icmp .ge 18, 3)) ∧ (decode cX6_hours 38 = .ok (.aload_n 0, 1))))) ∧ ((((decode cX6_hours 39 = .ok (.invokevirtual 157, 3)) ∧ (decode cX6_hours 42 = .ok (.aload_n 0, 1))) ∧ ((decode cX6_hours 43 = .ok (.iconst 0, 1)) ∧ (decode cX6_hours 44 = .ok (.invokevirtual 87, 3)))) ∧ (((decode cX6_hours 47 = .ok (.iinc 2 1, 3)) ∧ (decode cX6_hours 50 = .ok (.goto (-17), 3))) ∧ ((decode cX6_hours 53 = .ok (.aload_n 0, 1)) ∧ (decode cX6_hours 54 = .ok (.invokevirtual 110, 3)))))) := by decide +kernel
theorem dX6_hours_28 : decode cX6_hours 28 = .ok (.bipush (-3), 2) := kX6_hours_28.1.1.1.1
theorem dX6_hours_30 : decode cX6_hours 30 = .ok (.ireturn, 1) := kX6_hours_28.1.1.1.2
theorem dX6_hours_31 : decode cX6_hours 31 = .ok (.iconst 0, 1) := kX6_hours_28.1.1.2.1
theorem dX6_hours_32 : decode cX6_hours 32 = .ok (.istore_n 2, 1) := kX6_hours_28.1.1.2.2
theorem dX6_hours_33 : decode cX6_hours 33 = .ok (.iload_n 2, 1) := kX6_hours_28.1.2.1.1
theorem dX6_hours_34 : decode cX6_hours 34 = .ok (.iload_n 1, 1) := kX6_hours_28.1.2.1.2
theorem dX6_hours_35 : decode cX6_hours 35 = .ok (.if_icmp .ge 18, 3) := kX6_hours_28.1.2.2.1
theorem dX6_hours_38 : decode cX6_hours 38 = .ok (.aload_n 0, 1) := kX6_hours_28.1.2.2.2
theorem dX6_hours_39 : decode cX6_hours 39 = .ok (.invokevirtual 157, 3) := kX6_hours_28.2.1.1.1
theorem dX6_hours_42 : decode cX6_hours 42 = .ok (.aload_n 0, 1) := kX6_hours_28.2.1.1.2
theorem dX6_hours_43 : decode cX6_hours 43 = .ok (.iconst 0, 1) := kX6_hours_28.2.1.2.1
theorem dX6_hours_44 : decode cX6_hours 44 = .ok (.invokevirtual 87, 3) := kX6_hours_28.2.1.2.2
theorem dX6_hours_47 : decode cX6_hours 47 = .ok (.iinc 2 1, 3) := kX6_hours_28.2.2.1.1
theorem dX6_hours_50 : decode cX6_hours 50 = .ok (.goto (-17), 3) := kX6_hours_28.2.2.1.2
theorem dX6_hours_53 : decode cX6_hours 53 = .ok (.aload_n 0, 1) := kX6_hours_28.2.2.2.1
theorem dX6_hours_54 : decode cX6_hours 54 = .ok (.invokevirtual 110, 3) := kX6_hours_28.2.2.2.2
theorem dX6_hours_57 : decode cX6_hours 57 = .ok (.ireturn, 1) := by decide +kernel
set_option maxRecDepth 20000 in
theorem ggX6_lent_X6_turns : GoodIn wsX6_lent wsX6_turns := goodIn_r _ [5, 6, 7, 8, 4, 9, 10, 15, 16, 17, 18, 19, 20, 21, 22, 23, 24, 25, 26, 27, 28, 29, 30, 31, 32, 33] rfl (by decide +kernel)
set_option maxRecDepth 20000 in
theorem gX6_lent_X6_turns : GoodIn wsX6_lent (wsV RX6 58 RX6 yX6_turns wsX6_turns) := goodIn_app (goodIn_of _ (by decide +kernel)) ggX6_lent_X6_turns
set_option maxRecDepth 20000 in
theorem ggX6_lent_X6_tells : GoodIn wsX6_lent wsX6_tells := goodIn_r _ [14, 10, 15, 16, 17, 18, 19, 20, 21, 22, 23, 24, 25, 26, 27, 28, 29, 30, 31, 32, 33] rfl (by decide +kernel)
set_option maxRecDepth 20000 in
theorem gX6_lent_X6_tells : GoodIn wsX6_lent (wsV RX6 72 RX6 yX6_tells wsX6_tells) := goodIn_app (goodIn_of _ (by decide +kernel)) ggX6_lent_X6_tells
theorem kX6_lent_0 : (((((decode cX6_lent 0 = .ok (.aload_n 0, 1)) ∧ (decode cX6_lent 1 = .ok (.iload_n 1, 1))) ∧ ((decode cX6_lent 2 = .ok (.invokevirtual 58, 3)) ∧ (decode cX6_lent 5 = .ok (.iload_n 2, 1)))) ∧ (((decode cX6_lent 6 = .ok (.iadd, 1)) ∧ (decode cX6_lent 7 = .ok (.istore_n 3, 1))) ∧ ((decode cX6_lent 8 = .ok (.aload_n 0, 1)) ∧ (decode cX6_lent 9 = .ok (.iload_n 1, 1))))) ∧ ((((decode cX6_lent 10 = .ok (.iconst 1, 1)) ∧ (decode cX6_lent 11 = .ok (.iload_n 3, 1))) ∧ ((decode cX6_lent 12 = .ok (.bipush 30, 2)) ∧ (decode cX6_lent 14 = .ok (.if_icmp .le 8, 3)))) ∧ (((decode cX6_lent 17 = .ok (.bipush 30, 2)) ∧ (decode cX6_lent 19 = .ok (.goto 4, 3))) ∧ ((decode cX6_lent 22 = .ok (.iload_n 3, 1)) ∧ (decode cX6_lent 23 = .ok (.invokevirtual 72, 3)))))) := by decide +kernel
theorem dX6_lent_0 : decode cX6_lent 0 = .ok (.aload_n 0, 1) := kX6_lent_0.1.1.1.1
theorem dX6_lent_1 : decode cX6_lent 1 = .ok (.iload_n 1, 1) := kX6_lent_0.1.1.1.2
theorem dX6_lent_2 : decode cX6_lent 2 = .ok (.invokevirtual 58, 3) := kX6_lent_0.1.1.2.1
theorem dX6_lent_5 : decode cX6_lent 5 = .ok (.iload_n 2, 1) := kX6_lent_0.1.1.2.2
theorem dX6_lent_6 : decode cX6_lent 6 = .ok (.iadd, 1) := kX6_lent_0.1.2.1.1
theorem dX6_lent_7 : decode cX6_lent 7 = .ok (.istore_n 3, 1) := kX6_lent_0.1.2.1.2
theorem dX6_lent_8 : decode cX6_lent 8 = .ok (.aload_n 0, 1) := kX6_lent_0.1.2.2.1
theorem dX6_lent_9 : decode cX6_lent 9 = .ok (.iload_n 1, 1) := kX6_lent_0.1.2.2.2
theorem dX6_lent_10 : decode cX6_lent 10 = .ok (.iconst 1, 1) := kX6_lent_0.2.1.1.1
theorem dX6_lent_11 : decode cX6_lent 11 = .ok (.iload_n 3, 1) := kX6_lent_0.2.1.1.2
theorem dX6_lent_12 : decode cX6_lent 12 = .ok (.bipush 30, 2) := kX6_lent_0.2.1.2.1
theorem dX6_lent_14 : decode cX6_lent 14 = .ok (.if_icmp .le 8, 3) := kX6_lent_0.2.1.2.2
theorem dX6_lent_17 : decode cX6_lent 17 = .ok (.bipush 30, 2) := kX6_lent_0.2.2.1.1
theorem dX6_lent_19 : decode cX6_lent 19 = .ok (.goto 4, 3) := kX6_lent_0.2.2.1.2
theorem dX6_lent_22 : decode cX6_lent 22 = .ok (.iload_n 3, 1) := kX6_lent_0.2.2.2.1
theorem dX6_lent_23 : decode cX6_lent 23 = .ok (.invokevirtual 72, 3) := kX6_lent_0.2.2.2.2
theorem dX6_lent_26 : decode cX6_lent 26 = .ok (.return_, 1) := by decide +kernel
set_option maxRecDepth 20000 in
theorem ggX6_lend_X6_isPerson : GoodIn wsX6_lend wsX6_isPerson := goodIn_r _ [6, 7, 8, 9, 5, 10, 33, 34, 35, 36, 37, 38, 39, 40, 41, 42, 43, 44, 45, 46, 47, 48, 49, 50, 51] rfl (by decide +kernel)
set_option maxRecDepth 20000 in
theorem gX6_lend_X6_isPerson : GoodIn wsX6_lend (wsV RX6 102 RX6 yX6_isPerson wsX6_isPerson) := goodIn_app (goodIn_of _ (by decide +kernel)) ggX6_lend_X6_isPerson
set_option maxRecDepth 20000 in
theorem ggX6_lend_X6_in : GoodIn wsX6_lend wsX6_in := goodIn_r _ [10] rfl (by decide +kernel)
set_option maxRecDepth 20000 in
theorem gX6_lend_X6_in : GoodIn wsX6_lend (va_wsS RX6 50 yX6_in wsX6_in) := goodIn_app (goodIn_of _ (by decide +kernel)) ggX6_lend_X6_in
set_option maxRecDepth 20000 in
theorem ggX6_lend_X6_turns : GoodIn wsX6_lend wsX6_turns := goodIn_r _ [14, 15, 16, 17, 5, 18, 7, 33, 34, 35, 36, 37, 38, 39, 40, 41, 42, 43, 44, 45, 46, 47, 48, 49, 50, 51] rfl (by decide +kernel)
set_option maxRecDepth 20000 in
theorem gX6_lend_X6_turns : GoodIn wsX6_lend (wsV RX6 58 RX6 yX6_turns wsX6_turns) := goodIn_app (goodIn_of _ (by decide +kernel)) ggX6_lend_X6_turns
set_option maxRecDepth 20000 in
theorem ggX6_lend_X6_notes : GoodIn wsX6_lend wsX6_notes := goodIn_r _ [22, 23, 24, 7, 33, 34, 35, 36, 37, 38, 39, 40, 41, 42, 43, 44, 45, 46, 47, 48, 49, 50, 51] rfl (by decide +kernel)
set_option maxRecDepth 20000 in
theorem gX6_lend_X6_notes : GoodIn wsX6_lend (wsV RX6 157 RX6 yX6_notes wsX6_notes) := goodIn_app (goodIn_of _ (by decide +kernel)) ggX6_lend_X6_notes
set_option maxRecDepth 20000 in
theorem ggX6_lend_X6_lent : GoodIn wsX6_lend wsX6_lent := goodIn_r _ [28, 11, 12, 13, 5, 14, 15, 16, 17, 18, 7, 29, 30, 31, 32, 33, 34, 35, 36, 37, 38, 39, 40, 41, 42, 43, 44, 45, 46, 47, 48, 49, 50, 51] rfl (by decide +kernel)
set_option maxRecDepth 20000 in
theorem gX6_lend_X6_lent : GoodIn wsX6_lend (wsV RX6 160 RX6 yX6_lent wsX6_lent) := goodIn_app (goodIn_of _ (by decide +kernel)) ggX6_lend_X6_lent
theorem kX6_lend_0 : (((((decode cX6_lend 0 = .ok (.aload_n 0, 1)) ∧ (decode cX6_lend 1 = .ok (.iload_n 1, 1))) ∧ ((decode cX6_lend 2 = .ok (.invokevirtual 102, 3)) ∧ (decode cX6_lend 5 = .ok (.ifCond .eq 15, 3)))) ∧ (((decode cX6_lend 8 = .ok (.iload_n 2, 1)) ∧ (decode cX6_lend 9 = .ok (.i2l, 1))) ∧ ((decode cX6_lend 10 = .ok (.lconst 1, 1)) ∧ (decode cX6_lend 11 = .ok (.ldc2_w 96, 3))))) ∧ ((((decode cX6_lend 14 = .ok (.invokestatic 50, 3)) ∧ (decode cX6_lend 17 = .ok (.ifCond .ne 5, 3))) ∧ ((decode cX6_lend 20 = .ok (.iconst (-1), 1)) ∧ (decode cX6_lend 21 = .ok (.ireturn, 1)))) ∧ (((decode cX6_lend 22 = .ok (.aload_n 0, 1)) ∧ (decode cX6_lend 23 = .ok (.iload_n 1, 1))) ∧ ((decode cX6_lend 24 = .ok (.invokevirtual 58, 3)) ∧ (decode cX6_lend 27 = .ok (.bipush 30, 2)))))) := by decide +kernel
theorem dX6_lend_0 : decode cX6_lend 0 = .ok (.aload_n 0, 1) := kX6_lend_0.1.1.1.1
theorem dX6_lend_1 : decode cX6_lend 1 = .ok (.iload_n 1, 1) := kX6_lend_0.1.1.1.2
theorem dX6_lend_2 : decode cX6_lend 2 = .ok (.invokevirtual 102, 3) := kX6_lend_0.1.1.2.1
theorem dX6_lend_5 : decode cX6_lend 5 = .ok (.ifCond .eq 15, 3) := kX6_lend_0.1.1.2.2
theorem dX6_lend_8 : decode cX6_lend 8 = .ok (.iload_n 2, 1) := kX6_lend_0.1.2.1.1
theorem dX6_lend_9 : decode cX6_lend 9 = .ok (.i2l, 1) := kX6_lend_0.1.2.1.2
theorem dX6_lend_10 : decode cX6_lend 10 = .ok (.lconst 1, 1) := kX6_lend_0.1.2.2.1
theorem dX6_lend_11 : decode cX6_lend 11 = .ok (.ldc2_w 96, 3) := kX6_lend_0.1.2.2.2
theorem dX6_lend_14 : decode cX6_lend 14 = .ok (.invokestatic 50, 3) := kX6_lend_0.2.1.1.1
theorem dX6_lend_17 : decode cX6_lend 17 = .ok (.ifCond .ne 5, 3) := kX6_lend_0.2.1.1.2
theorem dX6_lend_20 : decode cX6_lend 20 = .ok (.iconst (-1), 1) := kX6_lend_0.2.1.2.1
theorem dX6_lend_21 : decode cX6_lend 21 = .ok (.ireturn, 1) := kX6_lend_0.2.1.2.2
theorem dX6_lend_22 : decode cX6_lend 22 = .ok (.aload_n 0, 1) := kX6_lend_0.2.2.1.1
theorem dX6_lend_23 : decode cX6_lend 23 = .ok (.iload_n 1, 1) := kX6_lend_0.2.2.1.2
theorem dX6_lend_24 : decode cX6_lend 24 = .ok (.invokevirtual 58, 3) := kX6_lend_0.2.2.2.1
theorem dX6_lend_27 : decode cX6_lend 27 = .ok (.bipush 30, 2) := kX6_lend_0.2.2.2.2
theorem kX6_lend_29 : (((((decode cX6_lend 29 = .ok (.if_icmp .ne 6, 3)) ∧ (decode cX6_lend 32 = .ok (.bipush (-2), 2))) ∧ ((decode cX6_lend 34 = .ok (.ireturn, 1)) ∧ (decode cX6_lend 35 = .ok (.aload_n 0, 1)))) ∧ (((decode cX6_lend 36 = .ok (.invokevirtual 157, 3)) ∧ (decode cX6_lend 39 = .ok (.aload_n 0, 1))) ∧ (decode cX6_lend 40 = .ok (.iload_n 1, 1)))) ∧ ((((decode cX6_lend 41 = .ok (.iload_n 2, 1)) ∧ (decode cX6_lend 42 = .ok (.invokevirtual 160, 3))) ∧ (decode cX6_lend 45 = .ok (.aload_n 0, 1))) ∧ (((decode cX6_lend 46 = .ok (.iload_n 1, 1)) ∧ (decode cX6_lend 47 = .ok (.invokevirtual 58, 3))) ∧ (decode cX6_lend 50 = .ok (.ireturn, 1))))) := by decide +kernel
theorem dX6_lend_29 : decode cX6_lend 29 = .ok (.if_icmp .ne 6, 3) := kX6_lend_29.1.1.1.1
theorem dX6_lend_32 : decode cX6_lend 32 = .ok (.bipush (-2), 2) := kX6_lend_29.1.1.1.2
theorem dX6_lend_34 : decode cX6_lend 34 = .ok (.ireturn, 1) := kX6_lend_29.1.1.2.1
theorem dX6_lend_35 : decode cX6_lend 35 = .ok (.aload_n 0, 1) := kX6_lend_29.1.1.2.2
theorem dX6_lend_36 : decode cX6_lend 36 = .ok (.invokevirtual 157, 3) := kX6_lend_29.1.2.1.1
theorem dX6_lend_39 : decode cX6_lend 39 = .ok (.aload_n 0, 1) := kX6_lend_29.1.2.1.2
theorem dX6_lend_40 : decode cX6_lend 40 = .ok (.iload_n 1, 1) := kX6_lend_29.1.2.2
theorem dX6_lend_41 : decode cX6_lend 41 = .ok (.iload_n 2, 1) := kX6_lend_29.2.1.1.1
theorem dX6_lend_42 : decode cX6_lend 42 = .ok (.invokevirtual 160, 3) := kX6_lend_29.2.1.1.2
theorem dX6_lend_45 : decode cX6_lend 45 = .ok (.aload_n 0, 1) := kX6_lend_29.2.1.2
theorem dX6_lend_46 : decode cX6_lend 46 = .ok (.iload_n 1, 1) := kX6_lend_29.2.2.1.1
theorem dX6_lend_47 : decode cX6_lend 47 = .ok (.invokevirtual 58, 3) := kX6_lend_29.2.2.1.2
theorem dX6_lend_50 : decode cX6_lend 50 = .ok (.ireturn, 1) := kX6_lend_29.2.2.2
set_option maxRecDepth 20000 in
theorem ggX6_tell_X6_isPerson : GoodIn wsX6_tell wsX6_isPerson := goodIn_r _ [5, 6, 7, 8, 4, 9, 28, 29, 30, 31, 32, 33, 34, 35, 36, 37, 38, 39, 40, 41, 42, 43, 44, 45, 46] rfl (by decide +kernel)
set_option maxRecDepth 20000 in
theorem gX6_tell_X6_isPerson : GoodIn wsX6_tell (wsV RX6 102 RX6 yX6_isPerson wsX6_isPerson) := goodIn_app (goodIn_of _ (by decide +kernel)) ggX6_tell_X6_isPerson
set_option maxRecDepth 20000 in
theorem ggX6_tell_X6_whom : GoodIn wsX6_tell wsX6_whom := goodIn_r _ [13, 14, 15, 16, 4, 17, 6, 28, 29, 30, 31, 32, 33, 34, 35, 36, 37, 38, 39, 40, 41, 42, 43, 44, 45, 46] rfl (by decide +kernel)
set_option maxRecDepth 20000 in
theorem gX6_tell_X6_whom : GoodIn wsX6_tell (wsV RX6 62 RX6 yX6_whom wsX6_whom) := goodIn_app (goodIn_of _ (by decide +kernel)) ggX6_tell_X6_whom
set_option maxRecDepth 20000 in
theorem ggX6_tell_X6_notes : GoodIn wsX6_tell wsX6_notes := goodIn_r _ [21, 22, 23, 6, 28, 29, 30, 31, 32, 33, 34, 35, 36, 37, 38, 39, 40, 41, 42, 43, 44, 45, 46] rfl (by decide +kernel)
set_option maxRecDepth 20000 in
theorem gX6_tell_X6_notes : GoodIn wsX6_tell (wsV RX6 157 RX6 yX6_notes wsX6_notes) := goodIn_app (goodIn_of _ (by decide +kernel)) ggX6_tell_X6_notes
set_option maxRecDepth 20000 in
theorem ggX6_tell_X6_tells : GoodIn wsX6_tell wsX6_tells := goodIn_r _ [27, 6, 28, 29, 30, 31, 32, 33, 34, 35, 36, 37, 38, 39, 40, 41, 42, 43, 44, 45, 46] rfl (by decide +kernel)
set_option maxRecDepth 20000 in
theorem gX6_tell_X6_tells : GoodIn wsX6_tell (wsV RX6 72 RX6 yX6_tells wsX6_tells) := goodIn_app (goodIn_of _ (by decide +kernel)) ggX6_tell_X6_tells
theorem kX6_tell_0 : (((((decode cX6_tell 0 = .ok (.aload_n 0, 1)) ∧ (decode cX6_tell 1 = .ok (.iload_n 1, 1))) ∧ ((decode cX6_tell 2 = .ok (.invokevirtual 102, 3)) ∧ (decode cX6_tell 5 = .ok (.ifCond .eq 22, 3)))) ∧ (((decode cX6_tell 8 = .ok (.iload_n 2, 1)) ∧ (decode cX6_tell 9 = .ok (.bipush (-4), 2))) ∧ ((decode cX6_tell 11 = .ok (.if_icmp .eq 11, 3)) ∧ (decode cX6_tell 14 = .ok (.aload_n 0, 1))))) ∧ ((((decode cX6_tell 15 = .ok (.iload_n 2, 1)) ∧ (decode cX6_tell 16 = .ok (.invokevirtual 102, 3))) ∧ ((decode cX6_tell 19 = .ok (.ifCond .eq 8, 3)) ∧ (decode cX6_tell 22 = .ok (.iload_n 2, 1)))) ∧ (((decode cX6_tell 23 = .ok (.iload_n 1, 1)) ∧ (decode cX6_tell 24 = .ok (.if_icmp .ne 5, 3))) ∧ ((decode cX6_tell 27 = .ok (.iconst (-1), 1)) ∧ (decode cX6_tell 28 = .ok (.ireturn, 1)))))) := by decide +kernel
theorem dX6_tell_0 : decode cX6_tell 0 = .ok (.aload_n 0, 1) := kX6_tell_0.1.1.1.1
theorem dX6_tell_1 : decode cX6_tell 1 = .ok (.iload_n 1, 1) := kX6_tell_0.1.1.1.2
theorem dX6_tell_2 : decode cX6_tell 2 = .ok (.invokevirtual 102, 3) := kX6_tell_0.1.1.2.1
theorem dX6_tell_5 : decode cX6_tell 5 = .ok (.ifCond .eq 22, 3) := kX6_tell_0.1.1.2.2
theorem dX6_tell_8 : decode cX6_tell 8 = .ok (.iload_n 2, 1) := kX6_tell_0.1.2.1.1
theorem dX6_tell_9 : decode cX6_tell 9 = .ok (.bipush (-4), 2) := kX6_tell_0.1.2.1.2
theorem dX6_tell_11 : decode cX6_tell 11 = .ok (.if_icmp .eq 11, 3) := kX6_tell_0.1.2.2.1
theorem dX6_tell_14 : decode cX6_tell 14 = .ok (.aload_n 0, 1) := kX6_tell_0.1.2.2.2
theorem dX6_tell_15 : decode cX6_tell 15 = .ok (.iload_n 2, 1) := kX6_tell_0.2.1.1.1
theorem dX6_tell_16 : decode cX6_tell 16 = .ok (.invokevirtual 102, 3) := kX6_tell_0.2.1.1.2
theorem dX6_tell_19 : decode cX6_tell 19 = .ok (.ifCond .eq 8, 3) := kX6_tell_0.2.1.2.1
theorem dX6_tell_22 : decode cX6_tell 22 = .ok (.iload_n 2, 1) := kX6_tell_0.2.1.2.2
theorem dX6_tell_23 : decode cX6_tell 23 = .ok (.iload_n 1, 1) := kX6_tell_0.2.2.1.1
theorem dX6_tell_24 : decode cX6_tell 24 = .ok (.if_icmp .ne 5, 3) := kX6_tell_0.2.2.1.2
theorem dX6_tell_27 : decode cX6_tell 27 = .ok (.iconst (-1), 1) := kX6_tell_0.2.2.2.1
theorem dX6_tell_28 : decode cX6_tell 28 = .ok (.ireturn, 1) := kX6_tell_0.2.2.2.2
theorem kX6_tell_29 : (((((decode cX6_tell 29 = .ok (.aload_n 0, 1)) ∧ (decode cX6_tell 30 = .ok (.iload_n 1, 1))) ∧ ((decode cX6_tell 31 = .ok (.invokevirtual 62, 3)) ∧ (decode cX6_tell 34 = .ok (.istore_n 3, 1)))) ∧ (((decode cX6_tell 35 = .ok (.iload_n 3, 1)) ∧ (decode cX6_tell 36 = .ok (.iload_n 2, 1))) ∧ ((decode cX6_tell 37 = .ok (.if_icmp .ne 6, 3)) ∧ (decode cX6_tell 40 = .ok (.bipush (-2), 2))))) ∧ ((((decode cX6_tell 42 = .ok (.ireturn, 1)) ∧ (decode cX6_tell 43 = .ok (.aload_n 0, 1))) ∧ ((decode cX6_tell 44 = .ok (.invokevirtual 157, 3)) ∧ (decode cX6_tell 47 = .ok (.aload_n 0, 1)))) ∧ (((decode cX6_tell 48 = .ok (.iload_n 1, 1)) ∧ (decode cX6_tell 49 = .ok (.iconst 2, 1))) ∧ ((decode cX6_tell 50 = .ok (.iload_n 2, 1)) ∧ (decode cX6_tell 51 = .ok (.invokevirtual 72, 3)))))) := by decide +kernel
theorem dX6_tell_29 : decode cX6_tell 29 = .ok (.aload_n 0, 1) := kX6_tell_29.1.1.1.1
theorem dX6_tell_30 : decode cX6_tell 30 = .ok (.iload_n 1, 1) := kX6_tell_29.1.1.1.2
theorem dX6_tell_31 : decode cX6_tell 31 = .ok (.invokevirtual 62, 3) := kX6_tell_29.1.1.2.1
theorem dX6_tell_34 : decode cX6_tell 34 = .ok (.istore_n 3, 1) := kX6_tell_29.1.1.2.2
theorem dX6_tell_35 : decode cX6_tell 35 = .ok (.iload_n 3, 1) := kX6_tell_29.1.2.1.1
theorem dX6_tell_36 : decode cX6_tell 36 = .ok (.iload_n 2, 1) := kX6_tell_29.1.2.1.2
theorem dX6_tell_37 : decode cX6_tell 37 = .ok (.if_icmp .ne 6, 3) := kX6_tell_29.1.2.2.1
theorem dX6_tell_40 : decode cX6_tell 40 = .ok (.bipush (-2), 2) := kX6_tell_29.1.2.2.2
theorem dX6_tell_42 : decode cX6_tell 42 = .ok (.ireturn, 1) := kX6_tell_29.2.1.1.1
theorem dX6_tell_43 : decode cX6_tell 43 = .ok (.aload_n 0, 1) := kX6_tell_29.2.1.1.2
theorem dX6_tell_44 : decode cX6_tell 44 = .ok (.invokevirtual 157, 3) := kX6_tell_29.2.1.2.1
theorem dX6_tell_47 : decode cX6_tell 47 = .ok (.aload_n 0, 1) := kX6_tell_29.2.1.2.2
theorem dX6_tell_48 : decode cX6_tell 48 = .ok (.iload_n 1, 1) := kX6_tell_29.2.2.1.1
theorem dX6_tell_49 : decode cX6_tell 49 = .ok (.iconst 2, 1) := kX6_tell_29.2.2.1.2
theorem dX6_tell_50 : decode cX6_tell 50 = .ok (.iload_n 2, 1) := kX6_tell_29.2.2.2.1
theorem dX6_tell_51 : decode cX6_tell 51 = .ok (.invokevirtual 72, 3) := kX6_tell_29.2.2.2.2
theorem kX6_tell_54 : ((decode cX6_tell 54 = .ok (.iload_n 3, 1)) ∧ (decode cX6_tell 55 = .ok (.ireturn, 1))) := by decide +kernel
theorem dX6_tell_54 : decode cX6_tell 54 = .ok (.iload_n 3, 1) := kX6_tell_54.1
theorem dX6_tell_55 : decode cX6_tell 55 = .ok (.ireturn, 1) := kX6_tell_54.2
set_option maxRecDepth 20000 in
theorem ggX6_cut_X6_isPerson : GoodIn wsX6_cut wsX6_isPerson := goodIn_r _ [6, 7, 8, 9, 5, 10, 25, 26, 27, 28, 29, 30, 31, 32, 33, 34, 35, 36, 37, 38, 39, 40, 41, 42, 43] rfl (by decide +kernel)
set_option maxRecDepth 20000 in
theorem gX6_cut_X6_isPerson : GoodIn wsX6_cut (wsV RX6 102 RX6 yX6_isPerson wsX6_isPerson) := goodIn_app (goodIn_of _ (by decide +kernel)) ggX6_cut_X6_isPerson
set_option maxRecDepth 20000 in
theorem ggX6_cut_X6_in : GoodIn wsX6_cut wsX6_in := goodIn_r _ [10] rfl (by decide +kernel)
set_option maxRecDepth 20000 in
theorem gX6_cut_X6_in : GoodIn wsX6_cut (va_wsS RX6 50 yX6_in wsX6_in) := goodIn_app (goodIn_of _ (by decide +kernel)) ggX6_cut_X6_in
set_option maxRecDepth 20000 in
theorem ggX6_cut_X6_told : GoodIn wsX6_cut wsX6_told := goodIn_r _ [14, 7, 25, 26, 27, 28, 29, 30, 31, 32, 33, 34, 35, 36, 37, 38, 39, 40, 41, 42, 43] rfl (by decide +kernel)
set_option maxRecDepth 20000 in
theorem gX6_cut_X6_told : GoodIn wsX6_cut (wsV RX6 54 RX6 yX6_told wsX6_told) := goodIn_app (goodIn_of _ (by decide +kernel)) ggX6_cut_X6_told
set_option maxRecDepth 20000 in
theorem ggX6_cut_X6_notes : GoodIn wsX6_cut wsX6_notes := goodIn_r _ [18, 19, 20, 7, 25, 26, 27, 28, 29, 30, 31, 32, 33, 34, 35, 36, 37, 38, 39, 40, 41, 42, 43] rfl (by decide +kernel)
set_option maxRecDepth 20000 in
theorem gX6_cut_X6_notes : GoodIn wsX6_cut (wsV RX6 157 RX6 yX6_notes wsX6_notes) := goodIn_app (goodIn_of _ (by decide +kernel)) ggX6_cut_X6_notes
set_option maxRecDepth 20000 in
theorem ggX6_cut_X6_tells : GoodIn wsX6_cut wsX6_tells := goodIn_r _ [24, 7, 25, 26, 27, 28, 29, 30, 31, 32, 33, 34, 35, 36, 37, 38, 39, 40, 41, 42, 43] rfl (by decide +kernel)
set_option maxRecDepth 20000 in
theorem gX6_cut_X6_tells : GoodIn wsX6_cut (wsV RX6 72 RX6 yX6_tells wsX6_tells) := goodIn_app (goodIn_of _ (by decide +kernel)) ggX6_cut_X6_tells
theorem kX6_cut_0 : (((((decode cX6_cut 0 = .ok (.aload_n 0, 1)) ∧ (decode cX6_cut 1 = .ok (.iload_n 1, 1))) ∧ ((decode cX6_cut 2 = .ok (.invokevirtual 102, 3)) ∧ (decode cX6_cut 5 = .ok (.ifCond .eq 15, 3)))) ∧ (((decode cX6_cut 8 = .ok (.iload_n 2, 1)) ∧ (decode cX6_cut 9 = .ok (.i2l, 1))) ∧ ((decode cX6_cut 10 = .ok (.lconst 1, 1)) ∧ (decode cX6_cut 11 = .ok (.ldc2_w 164, 3))))) ∧ ((((decode cX6_cut 14 = .ok (.invokestatic 50, 3)) ∧ (decode cX6_cut 17 = .ok (.ifCond .ne 5, 3))) ∧ ((decode cX6_cut 20 = .ok (.iconst (-1), 1)) ∧ (decode cX6_cut 21 = .ok (.ireturn, 1)))) ∧ (((decode cX6_cut 22 = .ok (.aload_n 0, 1)) ∧ (decode cX6_cut 23 = .ok (.iload_n 1, 1))) ∧ ((decode cX6_cut 24 = .ok (.iconst 3, 1)) ∧ (decode cX6_cut 25 = .ok (.invokevirtual 54, 3)))))) := by decide +kernel
theorem dX6_cut_0 : decode cX6_cut 0 = .ok (.aload_n 0, 1) := kX6_cut_0.1.1.1.1
theorem dX6_cut_1 : decode cX6_cut 1 = .ok (.iload_n 1, 1) := kX6_cut_0.1.1.1.2
theorem dX6_cut_2 : decode cX6_cut 2 = .ok (.invokevirtual 102, 3) := kX6_cut_0.1.1.2.1
theorem dX6_cut_5 : decode cX6_cut 5 = .ok (.ifCond .eq 15, 3) := kX6_cut_0.1.1.2.2
theorem dX6_cut_8 : decode cX6_cut 8 = .ok (.iload_n 2, 1) := kX6_cut_0.1.2.1.1
theorem dX6_cut_9 : decode cX6_cut 9 = .ok (.i2l, 1) := kX6_cut_0.1.2.1.2
theorem dX6_cut_10 : decode cX6_cut 10 = .ok (.lconst 1, 1) := kX6_cut_0.1.2.2.1
theorem dX6_cut_11 : decode cX6_cut 11 = .ok (.ldc2_w 164, 3) := kX6_cut_0.1.2.2.2
theorem dX6_cut_14 : decode cX6_cut 14 = .ok (.invokestatic 50, 3) := kX6_cut_0.2.1.1.1
theorem dX6_cut_17 : decode cX6_cut 17 = .ok (.ifCond .ne 5, 3) := kX6_cut_0.2.1.1.2
theorem dX6_cut_20 : decode cX6_cut 20 = .ok (.iconst (-1), 1) := kX6_cut_0.2.1.2.1
theorem dX6_cut_21 : decode cX6_cut 21 = .ok (.ireturn, 1) := kX6_cut_0.2.1.2.2
theorem dX6_cut_22 : decode cX6_cut 22 = .ok (.aload_n 0, 1) := kX6_cut_0.2.2.1.1
theorem dX6_cut_23 : decode cX6_cut 23 = .ok (.iload_n 1, 1) := kX6_cut_0.2.2.1.2
theorem dX6_cut_24 : decode cX6_cut 24 = .ok (.iconst 3, 1) := kX6_cut_0.2.2.2.1
theorem dX6_cut_25 : decode cX6_cut 25 = .ok (.invokevirtual 54, 3) := kX6_cut_0.2.2.2.2
theorem kX6_cut_28 : (((((decode cX6_cut 28 = .ok (.istore_n 3, 1)) ∧ (decode cX6_cut 29 = .ok (.iload_n 3, 1))) ∧ ((decode cX6_cut 30 = .ok (.iload_n 2, 1)) ∧ (decode cX6_cut 31 = .ok (.if_icmp .ne 6, 3)))) ∧ (((decode cX6_cut 34 = .ok (.bipush (-2), 2)) ∧ (decode cX6_cut 36 = .ok (.ireturn, 1))) ∧ ((decode cX6_cut 37 = .ok (.aload_n 0, 1)) ∧ (decode cX6_cut 38 = .ok (.invokevirtual 157, 3))))) ∧ ((((decode cX6_cut 41 = .ok (.aload_n 0, 1)) ∧ (decode cX6_cut 42 = .ok (.iload_n 1, 1))) ∧ ((decode cX6_cut 43 = .ok (.iconst 3, 1)) ∧ (decode cX6_cut 44 = .ok (.iload_n 2, 1)))) ∧ (((decode cX6_cut 45 = .ok (.invokevirtual 72, 3)) ∧ (decode cX6_cut 48 = .ok (.iload_n 3, 1))) ∧ (decode cX6_cut 49 = .ok (.ireturn, 1))))) := by decide +kernel
theorem dX6_cut_28 : decode cX6_cut 28 = .ok (.istore_n 3, 1) := kX6_cut_28.1.1.1.1
theorem dX6_cut_29 : decode cX6_cut 29 = .ok (.iload_n 3, 1) := kX6_cut_28.1.1.1.2
theorem dX6_cut_30 : decode cX6_cut 30 = .ok (.iload_n 2, 1) := kX6_cut_28.1.1.2.1
theorem dX6_cut_31 : decode cX6_cut 31 = .ok (.if_icmp .ne 6, 3) := kX6_cut_28.1.1.2.2
theorem dX6_cut_34 : decode cX6_cut 34 = .ok (.bipush (-2), 2) := kX6_cut_28.1.2.1.1
theorem dX6_cut_36 : decode cX6_cut 36 = .ok (.ireturn, 1) := kX6_cut_28.1.2.1.2
theorem dX6_cut_37 : decode cX6_cut 37 = .ok (.aload_n 0, 1) := kX6_cut_28.1.2.2.1
theorem dX6_cut_38 : decode cX6_cut 38 = .ok (.invokevirtual 157, 3) := kX6_cut_28.1.2.2.2
theorem dX6_cut_41 : decode cX6_cut 41 = .ok (.aload_n 0, 1) := kX6_cut_28.2.1.1.1
theorem dX6_cut_42 : decode cX6_cut 42 = .ok (.iload_n 1, 1) := kX6_cut_28.2.1.1.2
theorem dX6_cut_43 : decode cX6_cut 43 = .ok (.iconst 3, 1) := kX6_cut_28.2.1.2.1
theorem dX6_cut_44 : decode cX6_cut 44 = .ok (.iload_n 2, 1) := kX6_cut_28.2.1.2.2
theorem dX6_cut_45 : decode cX6_cut 45 = .ok (.invokevirtual 72, 3) := kX6_cut_28.2.2.1.1
theorem dX6_cut_48 : decode cX6_cut 48 = .ok (.iload_n 3, 1) := kX6_cut_28.2.2.1.2
theorem dX6_cut_49 : decode cX6_cut 49 = .ok (.ireturn, 1) := kX6_cut_28.2.2.2
set_option maxRecDepth 20000 in
theorem ggX6_drift_X6_in : GoodIn wsX6_drift wsX6_in := goodIn_r _ [10] rfl (by decide +kernel)
set_option maxRecDepth 20000 in
theorem gX6_drift_X6_in : GoodIn wsX6_drift (va_wsS RX6 50 yX6_in wsX6_in) := goodIn_app (goodIn_of _ (by decide +kernel)) ggX6_drift_X6_in
set_option maxRecDepth 20000 in
theorem ggX6_drift_X6_notes : GoodIn wsX6_drift wsX6_notes := goodIn_r _ [14, 15, 16, 2, 66, 67, 68, 69, 70, 71, 72, 73, 74, 75, 76, 77, 78, 79, 80, 81, 82, 83, 84] rfl (by decide +kernel)
set_option maxRecDepth 20000 in
theorem gX6_drift_X6_notes : GoodIn wsX6_drift (wsV RX6 157 RX6 yX6_notes wsX6_notes) := goodIn_app (goodIn_of _ (by decide +kernel)) ggX6_drift_X6_notes
set_option maxRecDepth 20000 in
theorem ggX6_drift_X6_lent : GoodIn wsX6_drift wsX6_lent := goodIn_r _ [20, 21, 22, 23, 9, 24, 25, 26, 27, 28, 2, 29, 30, 31, 32, 66, 67, 68, 69, 70, 71, 72, 73, 74, 75, 76, 77, 78, 79, 80, 81, 82, 83, 84] rfl (by decide +kernel)
set_option maxRecDepth 20000 in
theorem gX6_drift_X6_lent : GoodIn wsX6_drift (wsV RX6 160 RX6 yX6_lent wsX6_lent) := goodIn_app (goodIn_of _ (by decide +kernel)) ggX6_drift_X6_lent
set_option maxRecDepth 20000 in
theorem ggX6_drift_X6_goesBy : GoodIn wsX6_drift wsX6_goesBy := goodIn_r _ [36, 2, 37, 38, 39, 40, 9, 41, 42, 43, 44, 45, 46, 47, 48, 49, 21, 22, 23, 24, 25, 26, 27, 28, 50, 51, 52, 53, 29, 30, 31, 32, 54, 55, 56, 57, 58, 59, 60, 61, 66, 67, 68, 69, 70, 71, 72, 73, 74, 75, 76, 77, 78, 79, 80, 81, 82, 83, 84] rfl (by decide +kernel)
set_option maxRecDepth 20000 in
theorem gX6_drift_X6_goesBy : GoodIn wsX6_drift (wsV RX6 87 RX6 yX6_goesBy wsX6_goesBy) := goodIn_app (goodIn_of _ (by decide +kernel)) ggX6_drift_X6_goesBy
set_option maxRecDepth 20000 in
theorem ggX6_drift_X6_stopped : GoodIn wsX6_drift wsX6_stopped := goodIn_r _ [65, 2, 46, 47, 48, 9, 49, 21, 22, 23, 24, 25, 26, 27, 28, 66, 67, 68, 69, 70, 71, 72, 73, 74, 75, 76, 77, 78, 79, 80, 81, 82, 83, 84] rfl (by decide +kernel)
set_option maxRecDepth 20000 in
theorem gX6_drift_X6_stopped : GoodIn wsX6_drift (wsV RX6 110 RX6 yX6_stopped wsX6_stopped) := goodIn_app (goodIn_of _ (by decide +kernel)) ggX6_drift_X6_stopped
theorem kX6_drift_0 : (((((decode cX6_drift 0 = .ok (.iload_n 1, 1)) ∧ (decode cX6_drift 1 = .ok (.i2l, 1))) ∧ ((decode cX6_drift 2 = .ok (.lconst 1, 1)) ∧ (decode cX6_drift 3 = .ok (.ldc2_w 140, 3)))) ∧ (((decode cX6_drift 6 = .ok (.invokestatic 50, 3)) ∧ (decode cX6_drift 9 = .ok (.ifCond .ne 5, 3))) ∧ ((decode cX6_drift 12 = .ok (.iconst (-1), 1)) ∧ (decode cX6_drift 13 = .ok (.ireturn, 1))))) ∧ ((((decode cX6_drift 14 = .ok (.aload_n 0, 1)) ∧ (decode cX6_drift 15 = .ok (.getfield 7, 3))) ∧ ((decode cX6_drift 18 = .ok (.iconst 1, 1)) ∧ (decode cX6_drift 19 = .ok (.iaload, 1)))) ∧ (((decode cX6_drift 20 = .ok (.iload_n 1, 1)) ∧ (decode cX6_drift 21 = .ok (.iadd, 1))) ∧ ((decode cX6_drift 22 = .ok (.sipush 9999, 3)) ∧ (decode cX6_drift 25 = .ok (.if_icmp .le 6, 3)))))) := by decide +kernel
theorem dX6_drift_0 : decode cX6_drift 0 = .ok (.iload_n 1, 1) := kX6_drift_0.1.1.1.1
theorem dX6_drift_1 : decode cX6_drift 1 = .ok (.i2l, 1) := kX6_drift_0.1.1.1.2
theorem dX6_drift_2 : decode cX6_drift 2 = .ok (.lconst 1, 1) := kX6_drift_0.1.1.2.1
theorem dX6_drift_3 : decode cX6_drift 3 = .ok (.ldc2_w 140, 3) := kX6_drift_0.1.1.2.2
theorem dX6_drift_6 : decode cX6_drift 6 = .ok (.invokestatic 50, 3) := kX6_drift_0.1.2.1.1
theorem dX6_drift_9 : decode cX6_drift 9 = .ok (.ifCond .ne 5, 3) := kX6_drift_0.1.2.1.2
theorem dX6_drift_12 : decode cX6_drift 12 = .ok (.iconst (-1), 1) := kX6_drift_0.1.2.2.1
theorem dX6_drift_13 : decode cX6_drift 13 = .ok (.ireturn, 1) := kX6_drift_0.1.2.2.2
theorem dX6_drift_14 : decode cX6_drift 14 = .ok (.aload_n 0, 1) := kX6_drift_0.2.1.1.1
theorem dX6_drift_15 : decode cX6_drift 15 = .ok (.getfield 7, 3) := kX6_drift_0.2.1.1.2
theorem dX6_drift_18 : decode cX6_drift 18 = .ok (.iconst 1, 1) := kX6_drift_0.2.1.2.1
theorem dX6_drift_19 : decode cX6_drift 19 = .ok (.iaload, 1) := kX6_drift_0.2.1.2.2
theorem dX6_drift_20 : decode cX6_drift 20 = .ok (.iload_n 1, 1) := kX6_drift_0.2.2.1.1
theorem dX6_drift_21 : decode cX6_drift 21 = .ok (.iadd, 1) := kX6_drift_0.2.2.1.2
theorem dX6_drift_22 : decode cX6_drift 22 = .ok (.sipush 9999, 3) := kX6_drift_0.2.2.2.1
theorem dX6_drift_25 : decode cX6_drift 25 = .ok (.if_icmp .le 6, 3) := kX6_drift_0.2.2.2.2
theorem kX6_drift_28 : (((((decode cX6_drift 28 = .ok (.bipush (-3), 2)) ∧ (decode cX6_drift 30 = .ok (.ireturn, 1))) ∧ ((decode cX6_drift 31 = .ok (.iconst 0, 1)) ∧ (decode cX6_drift 32 = .ok (.istore_n 2, 1)))) ∧ (((decode cX6_drift 33 = .ok (.iload_n 2, 1)) ∧ (decode cX6_drift 34 = .ok (.iload_n 1, 1))) ∧ ((decode cX6_drift 35 = .ok (.if_icmp .ge 89, 3)) ∧ (decode cX6_drift 38 = .ok (.aload_n 0, 1))))) ∧ ((((decode cX6_drift 39 = .ok (.invokevirtual 157, 3)) ∧ (decode cX6_drift 42 = .ok (.aload_n 0, 1))) ∧ ((decode cX6_drift 43 = .ok (.getfield 7, 3)) ∧ (decode cX6_drift 46 = .ok (.iconst 2, 1)))) ∧ (((decode cX6_drift 47 = .ok (.aload_n 0, 1)) ∧ (decode cX6_drift 48 = .ok (.getfield 7, 3))) ∧ ((decode cX6_drift 51 = .ok (.iconst 2, 1)) ∧ (decode cX6_drift 52 = .ok (.iaload, 1)))))) := by decide +kernel
theorem dX6_drift_28 : decode cX6_drift 28 = .ok (.bipush (-3), 2) := kX6_drift_28.1.1.1.1
theorem dX6_drift_30 : decode cX6_drift 30 = .ok (.ireturn, 1) := kX6_drift_28.1.1.1.2
theorem dX6_drift_31 : decode cX6_drift 31 = .ok (.iconst 0, 1) := kX6_drift_28.1.1.2.1
theorem dX6_drift_32 : decode cX6_drift 32 = .ok (.istore_n 2, 1) := kX6_drift_28.1.1.2.2
theorem dX6_drift_33 : decode cX6_drift 33 = .ok (.iload_n 2, 1) := kX6_drift_28.1.2.1.1
theorem dX6_drift_34 : decode cX6_drift 34 = .ok (.iload_n 1, 1) := kX6_drift_28.1.2.1.2
theorem dX6_drift_35 : decode cX6_drift 35 = .ok (.if_icmp .ge 89, 3) := kX6_drift_28.1.2.2.1
theorem dX6_drift_38 : decode cX6_drift 38 = .ok (.aload_n 0, 1) := kX6_drift_28.1.2.2.2
theorem dX6_drift_39 : decode cX6_drift 39 = .ok (.invokevirtual 157, 3) := kX6_drift_28.2.1.1.1
theorem dX6_drift_42 : decode cX6_drift 42 = .ok (.aload_n 0, 1) := kX6_drift_28.2.1.1.2
theorem dX6_drift_43 : decode cX6_drift 43 = .ok (.getfield 7, 3) := kX6_drift_28.2.1.2.1
theorem dX6_drift_46 : decode cX6_drift 46 = .ok (.iconst 2, 1) := kX6_drift_28.2.1.2.2
theorem dX6_drift_47 : decode cX6_drift 47 = .ok (.aload_n 0, 1) := kX6_drift_28.2.2.1.1
theorem dX6_drift_48 : decode cX6_drift 48 = .ok (.getfield 7, 3) := kX6_drift_28.2.2.1.2
theorem dX6_drift_51 : decode cX6_drift 51 = .ok (.iconst 2, 1) := kX6_drift_28.2.2.2.1
theorem dX6_drift_52 : decode cX6_drift 52 = .ok (.iaload, 1) := kX6_drift_28.2.2.2.2
theorem kX6_drift_53 : (((((decode cX6_drift 53 = .ok (.i2l, 1)) ∧ (decode cX6_drift 54 = .ok (.ldc2_w 166, 3))) ∧ ((decode cX6_drift 57 = .ok (.lmul, 1)) ∧ (decode cX6_drift 58 = .ok (.ldc2_w 168, 3)))) ∧ (((decode cX6_drift 61 = .ok (.ladd, 1)) ∧ (decode cX6_drift 62 = .ok (.ldc2_w 170, 3))) ∧ ((decode cX6_drift 65 = .ok (.land, 1)) ∧ (decode cX6_drift 66 = .ok (.l2i, 1))))) ∧ ((((decode cX6_drift 67 = .ok (.iastore, 1)) ∧ (decode cX6_drift 68 = .ok (.aload_n 0, 1))) ∧ ((decode cX6_drift 69 = .ok (.getfield 7, 3)) ∧ (decode cX6_drift 72 = .ok (.iconst 0, 1)))) ∧ (((decode cX6_drift 73 = .ok (.iaload, 1)) ∧ (decode cX6_drift 74 = .ok (.ifCond .le 39, 3))) ∧ ((decode cX6_drift 77 = .ok (.aload_n 0, 1)) ∧ (decode cX6_drift 78 = .ok (.getfield 7, 3)))))) := by decide +kernel
theorem dX6_drift_53 : decode cX6_drift 53 = .ok (.i2l, 1) := kX6_drift_53.1.1.1.1
theorem dX6_drift_54 : decode cX6_drift 54 = .ok (.ldc2_w 166, 3) := kX6_drift_53.1.1.1.2
theorem dX6_drift_57 : decode cX6_drift 57 = .ok (.lmul, 1) := kX6_drift_53.1.1.2.1
theorem dX6_drift_58 : decode cX6_drift 58 = .ok (.ldc2_w 168, 3) := kX6_drift_53.1.1.2.2
theorem dX6_drift_61 : decode cX6_drift 61 = .ok (.ladd, 1) := kX6_drift_53.1.2.1.1
theorem dX6_drift_62 : decode cX6_drift 62 = .ok (.ldc2_w 170, 3) := kX6_drift_53.1.2.1.2
theorem dX6_drift_65 : decode cX6_drift 65 = .ok (.land, 1) := kX6_drift_53.1.2.2.1
theorem dX6_drift_66 : decode cX6_drift 66 = .ok (.l2i, 1) := kX6_drift_53.1.2.2.2
theorem dX6_drift_67 : decode cX6_drift 67 = .ok (.iastore, 1) := kX6_drift_53.2.1.1.1
theorem dX6_drift_68 : decode cX6_drift 68 = .ok (.aload_n 0, 1) := kX6_drift_53.2.1.1.2
theorem dX6_drift_69 : decode cX6_drift 69 = .ok (.getfield 7, 3) := kX6_drift_53.2.1.2.1
theorem dX6_drift_72 : decode cX6_drift 72 = .ok (.iconst 0, 1) := kX6_drift_53.2.1.2.2
theorem dX6_drift_73 : decode cX6_drift 73 = .ok (.iaload, 1) := kX6_drift_53.2.2.1.1
theorem dX6_drift_74 : decode cX6_drift 74 = .ok (.ifCond .le 39, 3) := kX6_drift_53.2.2.1.2
theorem dX6_drift_77 : decode cX6_drift 77 = .ok (.aload_n 0, 1) := kX6_drift_53.2.2.2.1
theorem dX6_drift_78 : decode cX6_drift 78 = .ok (.getfield 7, 3) := kX6_drift_53.2.2.2.2
theorem kX6_drift_81 : (((((decode cX6_drift 81 = .ok (.iconst 2, 1)) ∧ (decode cX6_drift 82 = .ok (.iaload, 1))) ∧ ((decode cX6_drift 83 = .ok (.ldc 172, 2)) ∧ (decode cX6_drift 85 = .ok (.idiv, 1)))) ∧ (((decode cX6_drift 86 = .ok (.iconst 4, 1)) ∧ (decode cX6_drift 87 = .ok (.irem, 1))) ∧ ((decode cX6_drift 88 = .ok (.ifCond .ne 25, 3)) ∧ (decode cX6_drift 91 = .ok (.aload_n 0, 1))))) ∧ ((((decode cX6_drift 92 = .ok (.aload_n 0, 1)) ∧ (decode cX6_drift 93 = .ok (.getfield 7, 3))) ∧ ((decode cX6_drift 96 = .ok (.iconst 2, 1)) ∧ (decode cX6_drift 97 = .ok (.iaload, 1)))) ∧ (((decode cX6_drift 98 = .ok (.sipush 128, 3)) ∧ (decode cX6_drift 101 = .ok (.idiv, 1))) ∧ ((decode cX6_drift 102 = .ok (.aload_n 0, 1)) ∧ (decode cX6_drift 103 = .ok (.getfield 7, 3)))))) := by decide +kernel
theorem dX6_drift_81 : decode cX6_drift 81 = .ok (.iconst 2, 1) := kX6_drift_81.1.1.1.1
theorem dX6_drift_82 : decode cX6_drift 82 = .ok (.iaload, 1) := kX6_drift_81.1.1.1.2
theorem dX6_drift_83 : decode cX6_drift 83 = .ok (.ldc 172, 2) := kX6_drift_81.1.1.2.1
theorem dX6_drift_85 : decode cX6_drift 85 = .ok (.idiv, 1) := kX6_drift_81.1.1.2.2
theorem dX6_drift_86 : decode cX6_drift 86 = .ok (.iconst 4, 1) := kX6_drift_81.1.2.1.1
theorem dX6_drift_87 : decode cX6_drift 87 = .ok (.irem, 1) := kX6_drift_81.1.2.1.2
theorem dX6_drift_88 : decode cX6_drift 88 = .ok (.ifCond .ne 25, 3) := kX6_drift_81.1.2.2.1
theorem dX6_drift_91 : decode cX6_drift 91 = .ok (.aload_n 0, 1) := kX6_drift_81.1.2.2.2
theorem dX6_drift_92 : decode cX6_drift 92 = .ok (.aload_n 0, 1) := kX6_drift_81.2.1.1.1
theorem dX6_drift_93 : decode cX6_drift 93 = .ok (.getfield 7, 3) := kX6_drift_81.2.1.1.2
theorem dX6_drift_96 : decode cX6_drift 96 = .ok (.iconst 2, 1) := kX6_drift_81.2.1.2.1
theorem dX6_drift_97 : decode cX6_drift 97 = .ok (.iaload, 1) := kX6_drift_81.2.1.2.2
theorem dX6_drift_98 : decode cX6_drift 98 = .ok (.sipush 128, 3) := kX6_drift_81.2.2.1.1
theorem dX6_drift_101 : decode cX6_drift 101 = .ok (.idiv, 1) := kX6_drift_81.2.2.1.2
theorem dX6_drift_102 : decode cX6_drift 102 = .ok (.aload_n 0, 1) := kX6_drift_81.2.2.2.1
theorem dX6_drift_103 : decode cX6_drift 103 = .ok (.getfield 7, 3) := kX6_drift_81.2.2.2.2
theorem kX6_drift_106 : (((((decode cX6_drift 106 = .ok (.iconst 0, 1)) ∧ (decode cX6_drift 107 = .ok (.iaload, 1))) ∧ ((decode cX6_drift 108 = .ok (.irem, 1)) ∧ (decode cX6_drift 109 = .ok (.iconst 3, 1)))) ∧ (((decode cX6_drift 110 = .ok (.invokevirtual 160, 3)) ∧ (decode cX6_drift 113 = .ok (.aload_n 0, 1))) ∧ (decode cX6_drift 114 = .ok (.iconst 0, 1)))) ∧ ((((decode cX6_drift 115 = .ok (.invokevirtual 87, 3)) ∧ (decode cX6_drift 118 = .ok (.iinc 2 1, 3))) ∧ (decode cX6_drift 121 = .ok (.goto (-88), 3))) ∧ (((decode cX6_drift 124 = .ok (.aload_n 0, 1)) ∧ (decode cX6_drift 125 = .ok (.invokevirtual 110, 3))) ∧ (decode cX6_drift 128 = .ok (.ireturn, 1))))) := by decide +kernel
theorem dX6_drift_106 : decode cX6_drift 106 = .ok (.iconst 0, 1) := kX6_drift_106.1.1.1.1
theorem dX6_drift_107 : decode cX6_drift 107 = .ok (.iaload, 1) := kX6_drift_106.1.1.1.2
theorem dX6_drift_108 : decode cX6_drift 108 = .ok (.irem, 1) := kX6_drift_106.1.1.2.1
theorem dX6_drift_109 : decode cX6_drift 109 = .ok (.iconst 3, 1) := kX6_drift_106.1.1.2.2
theorem dX6_drift_110 : decode cX6_drift 110 = .ok (.invokevirtual 160, 3) := kX6_drift_106.1.2.1.1
theorem dX6_drift_113 : decode cX6_drift 113 = .ok (.aload_n 0, 1) := kX6_drift_106.1.2.1.2
theorem dX6_drift_114 : decode cX6_drift 114 = .ok (.iconst 0, 1) := kX6_drift_106.1.2.2
theorem dX6_drift_115 : decode cX6_drift 115 = .ok (.invokevirtual 87, 3) := kX6_drift_106.2.1.1.1
theorem dX6_drift_118 : decode cX6_drift 118 = .ok (.iinc 2 1, 3) := kX6_drift_106.2.1.1.2
theorem dX6_drift_121 : decode cX6_drift 121 = .ok (.goto (-88), 3) := kX6_drift_106.2.1.2
theorem dX6_drift_124 : decode cX6_drift 124 = .ok (.aload_n 0, 1) := kX6_drift_106.2.2.1.1
theorem dX6_drift_125 : decode cX6_drift 125 = .ok (.invokevirtual 110, 3) := kX6_drift_106.2.2.1.2
theorem dX6_drift_128 : decode cX6_drift 128 = .ok (.ireturn, 1) := kX6_drift_106.2.2.2
theorem kX6_undo_0 : (((((decode cX6_undo 0 = .ok (.aload_n 0, 1)) ∧ (decode cX6_undo 1 = .ok (.getfield 90, 3))) ∧ (decode cX6_undo 4 = .ok (.ifCond .ne 6, 3))) ∧ (((decode cX6_undo 7 = .ok (.bipush (-4), 2)) ∧ (decode cX6_undo 9 = .ok (.ireturn, 1))) ∧ (decode cX6_undo 10 = .ok (.aload_n 0, 1)))) ∧ ((((decode cX6_undo 11 = .ok (.dup, 1)) ∧ (decode cX6_undo 12 = .ok (.getfield 90, 3))) ∧ (decode cX6_undo 15 = .ok (.iconst 1, 1))) ∧ (((decode cX6_undo 16 = .ok (.isub, 1)) ∧ (decode cX6_undo 17 = .ok (.putfield 90, 3))) ∧ (decode cX6_undo 20 = .ok (.iconst 0, 1))))) := by decide +kernel
theorem dX6_undo_0 : decode cX6_undo 0 = .ok (.aload_n 0, 1) := kX6_undo_0.1.1.1.1
theorem dX6_undo_1 : decode cX6_undo 1 = .ok (.getfield 90, 3) := kX6_undo_0.1.1.1.2
theorem dX6_undo_4 : decode cX6_undo 4 = .ok (.ifCond .ne 6, 3) := kX6_undo_0.1.1.2
theorem dX6_undo_7 : decode cX6_undo 7 = .ok (.bipush (-4), 2) := kX6_undo_0.1.2.1.1
theorem dX6_undo_9 : decode cX6_undo 9 = .ok (.ireturn, 1) := kX6_undo_0.1.2.1.2
theorem dX6_undo_10 : decode cX6_undo 10 = .ok (.aload_n 0, 1) := kX6_undo_0.1.2.2
theorem dX6_undo_11 : decode cX6_undo 11 = .ok (.dup, 1) := kX6_undo_0.2.1.1.1
theorem dX6_undo_12 : decode cX6_undo 12 = .ok (.getfield 90, 3) := kX6_undo_0.2.1.1.2
theorem dX6_undo_15 : decode cX6_undo 15 = .ok (.iconst 1, 1) := kX6_undo_0.2.1.2
theorem dX6_undo_16 : decode cX6_undo 16 = .ok (.isub, 1) := kX6_undo_0.2.2.1.1
theorem dX6_undo_17 : decode cX6_undo 17 = .ok (.putfield 90, 3) := kX6_undo_0.2.2.1.2
theorem dX6_undo_20 : decode cX6_undo 20 = .ok (.iconst 0, 1) := kX6_undo_0.2.2.2
