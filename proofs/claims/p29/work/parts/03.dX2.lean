theorem kX2_init_0 : (((((decode cX2_init 0 = .ok (.aload_n 0, 1)) ∧ (decode cX2_init 1 = .ok (.invokespecial 3, 3))) ∧ ((decode cX2_init 4 = .ok (.aload_n 0, 1)) ∧ (decode cX2_init 5 = .ok (.iconst 0, 1)))) ∧ (((decode cX2_init 6 = .ok (.putfield 9, 3)) ∧ (decode cX2_init 9 = .ok (.aload_n 0, 1))) ∧ ((decode cX2_init 10 = .ok (.bipush 6, 2)) ∧ (decode cX2_init 12 = .ok (.newarray .int, 2))))) ∧ ((((decode cX2_init 14 = .ok (.putfield 15, 3)) ∧ (decode cX2_init 17 = .ok (.aload_n 0, 1))) ∧ ((decode cX2_init 18 = .ok (.bipush 6, 2)) ∧ (decode cX2_init 20 = .ok (.newarray .int, 2)))) ∧ (((decode cX2_init 22 = .ok (.putfield 19, 3)) ∧ (decode cX2_init 25 = .ok (.aload_n 0, 1))) ∧ ((decode cX2_init 26 = .ok (.bipush 6, 2)) ∧ (decode cX2_init 28 = .ok (.newarray .int, 2)))))) := by decide +kernel
theorem dX2_init_0 : decode cX2_init 0 = .ok (.aload_n 0, 1) := kX2_init_0.1.1.1.1
theorem dX2_init_1 : decode cX2_init 1 = .ok (.invokespecial 3, 3) := kX2_init_0.1.1.1.2
theorem dX2_init_4 : decode cX2_init 4 = .ok (.aload_n 0, 1) := kX2_init_0.1.1.2.1
theorem dX2_init_5 : decode cX2_init 5 = .ok (.iconst 0, 1) := kX2_init_0.1.1.2.2
theorem dX2_init_6 : decode cX2_init 6 = .ok (.putfield 9, 3) := kX2_init_0.1.2.1.1
theorem dX2_init_9 : decode cX2_init 9 = .ok (.aload_n 0, 1) := kX2_init_0.1.2.1.2
theorem dX2_init_10 : decode cX2_init 10 = .ok (.bipush 6, 2) := kX2_init_0.1.2.2.1
theorem dX2_init_12 : decode cX2_init 12 = .ok (.newarray .int, 2) := kX2_init_0.1.2.2.2
theorem dX2_init_14 : decode cX2_init 14 = .ok (.putfield 15, 3) := kX2_init_0.2.1.1.1
theorem dX2_init_17 : decode cX2_init 17 = .ok (.aload_n 0, 1) := kX2_init_0.2.1.1.2
theorem dX2_init_18 : decode cX2_init 18 = .ok (.bipush 6, 2) := kX2_init_0.2.1.2.1
theorem dX2_init_20 : decode cX2_init 20 = .ok (.newarray .int, 2) := kX2_init_0.2.1.2.2
theorem dX2_init_22 : decode cX2_init 22 = .ok (.putfield 19, 3) := kX2_init_0.2.2.1.1
theorem dX2_init_25 : decode cX2_init 25 = .ok (.aload_n 0, 1) := kX2_init_0.2.2.1.2
theorem dX2_init_26 : decode cX2_init 26 = .ok (.bipush 6, 2) := kX2_init_0.2.2.2.1
theorem dX2_init_28 : decode cX2_init 28 = .ok (.newarray .int, 2) := kX2_init_0.2.2.2.2
theorem kX2_init_30 : (((((decode cX2_init 30 = .ok (.putfield 22, 3)) ∧ (decode cX2_init 33 = .ok (.aload_n 0, 1))) ∧ (decode cX2_init 34 = .ok (.bipush 6, 2))) ∧ (((decode cX2_init 36 = .ok (.newarray .int, 2)) ∧ (decode cX2_init 38 = .ok (.putfield 25, 3))) ∧ (decode cX2_init 41 = .ok (.aload_n 0, 1)))) ∧ ((((decode cX2_init 42 = .ok (.iconst 0, 1)) ∧ (decode cX2_init 43 = .ok (.putfield 28, 3))) ∧ (decode cX2_init 46 = .ok (.aload_n 0, 1))) ∧ (((decode cX2_init 47 = .ok (.iconst 1, 1)) ∧ (decode cX2_init 48 = .ok (.putfield 31, 3))) ∧ (decode cX2_init 51 = .ok (.return_, 1))))) := by decide +kernel
theorem dX2_init_30 : decode cX2_init 30 = .ok (.putfield 22, 3) := kX2_init_30.1.1.1.1
theorem dX2_init_33 : decode cX2_init 33 = .ok (.aload_n 0, 1) := kX2_init_30.1.1.1.2
theorem dX2_init_34 : decode cX2_init 34 = .ok (.bipush 6, 2) := kX2_init_30.1.1.2
theorem dX2_init_36 : decode cX2_init 36 = .ok (.newarray .int, 2) := kX2_init_30.1.2.1.1
theorem dX2_init_38 : decode cX2_init 38 = .ok (.putfield 25, 3) := kX2_init_30.1.2.1.2
theorem dX2_init_41 : decode cX2_init 41 = .ok (.aload_n 0, 1) := kX2_init_30.1.2.2
theorem dX2_init_42 : decode cX2_init 42 = .ok (.iconst 0, 1) := kX2_init_30.2.1.1.1
theorem dX2_init_43 : decode cX2_init 43 = .ok (.putfield 28, 3) := kX2_init_30.2.1.1.2
theorem dX2_init_46 : decode cX2_init 46 = .ok (.aload_n 0, 1) := kX2_init_30.2.1.2
theorem dX2_init_47 : decode cX2_init 47 = .ok (.iconst 1, 1) := kX2_init_30.2.2.1.1
theorem dX2_init_48 : decode cX2_init 48 = .ok (.putfield 31, 3) := kX2_init_30.2.2.1.2
theorem dX2_init_51 : decode cX2_init 51 = .ok (.return_, 1) := kX2_init_30.2.2.2
theorem kX2_empty_0 : ((((decode cX2_empty 0 = .ok (.aload_n 0, 1)) ∧ (decode cX2_empty 1 = .ok (.iconst 0, 1))) ∧ ((decode cX2_empty 2 = .ok (.putfield 9, 3)) ∧ (decode cX2_empty 5 = .ok (.aload_n 0, 1)))) ∧ (((decode cX2_empty 6 = .ok (.iconst 0, 1)) ∧ (decode cX2_empty 7 = .ok (.putfield 28, 3))) ∧ (decode cX2_empty 10 = .ok (.return_, 1)))) := by decide +kernel
theorem dX2_empty_0 : decode cX2_empty 0 = .ok (.aload_n 0, 1) := kX2_empty_0.1.1.1
theorem dX2_empty_1 : decode cX2_empty 1 = .ok (.iconst 0, 1) := kX2_empty_0.1.1.2
theorem dX2_empty_2 : decode cX2_empty 2 = .ok (.putfield 9, 3) := kX2_empty_0.1.2.1
theorem dX2_empty_5 : decode cX2_empty 5 = .ok (.aload_n 0, 1) := kX2_empty_0.1.2.2
theorem dX2_empty_6 : decode cX2_empty 6 = .ok (.iconst 0, 1) := kX2_empty_0.2.1.1
theorem dX2_empty_7 : decode cX2_empty 7 = .ok (.putfield 28, 3) := kX2_empty_0.2.1.2
theorem dX2_empty_10 : decode cX2_empty 10 = .ok (.return_, 1) := kX2_empty_0.2.2
theorem kX2_become_0 : (((((decode cX2_become 0 = .ok (.aload_n 0, 1)) ∧ (decode cX2_become 1 = .ok (.aload_n 1, 1))) ∧ ((decode cX2_become 2 = .ok (.getfield 9, 3)) ∧ (decode cX2_become 5 = .ok (.putfield 9, 3)))) ∧ (((decode cX2_become 8 = .ok (.aload_n 0, 1)) ∧ (decode cX2_become 9 = .ok (.aload_n 1, 1))) ∧ ((decode cX2_become 10 = .ok (.getfield 28, 3)) ∧ (decode cX2_become 13 = .ok (.putfield 28, 3))))) ∧ ((((decode cX2_become 16 = .ok (.aload_n 0, 1)) ∧ (decode cX2_become 17 = .ok (.aload_n 1, 1))) ∧ ((decode cX2_become 18 = .ok (.getfield 31, 3)) ∧ (decode cX2_become 21 = .ok (.putfield 31, 3)))) ∧ (((decode cX2_become 24 = .ok (.iconst 0, 1)) ∧ (decode cX2_become 25 = .ok (.istore_n 2, 1))) ∧ ((decode cX2_become 26 = .ok (.iload_n 2, 1)) ∧ (decode cX2_become 27 = .ok (.bipush 6, 2)))))) := by decide +kernel
theorem dX2_become_0 : decode cX2_become 0 = .ok (.aload_n 0, 1) := kX2_become_0.1.1.1.1
theorem dX2_become_1 : decode cX2_become 1 = .ok (.aload_n 1, 1) := kX2_become_0.1.1.1.2
theorem dX2_become_2 : decode cX2_become 2 = .ok (.getfield 9, 3) := kX2_become_0.1.1.2.1
theorem dX2_become_5 : decode cX2_become 5 = .ok (.putfield 9, 3) := kX2_become_0.1.1.2.2
theorem dX2_become_8 : decode cX2_become 8 = .ok (.aload_n 0, 1) := kX2_become_0.1.2.1.1
theorem dX2_become_9 : decode cX2_become 9 = .ok (.aload_n 1, 1) := kX2_become_0.1.2.1.2
theorem dX2_become_10 : decode cX2_become 10 = .ok (.getfield 28, 3) := kX2_become_0.1.2.2.1
theorem dX2_become_13 : decode cX2_become 13 = .ok (.putfield 28, 3) := kX2_become_0.1.2.2.2
theorem dX2_become_16 : decode cX2_become 16 = .ok (.aload_n 0, 1) := kX2_become_0.2.1.1.1
theorem dX2_become_17 : decode cX2_become 17 = .ok (.aload_n 1, 1) := kX2_become_0.2.1.1.2
theorem dX2_become_18 : decode cX2_become 18 = .ok (.getfield 31, 3) := kX2_become_0.2.1.2.1
theorem dX2_become_21 : decode cX2_become 21 = .ok (.putfield 31, 3) := kX2_become_0.2.1.2.2
theorem dX2_become_24 : decode cX2_become 24 = .ok (.iconst 0, 1) := kX2_become_0.2.2.1.1
theorem dX2_become_25 : decode cX2_become 25 = .ok (.istore_n 2, 1) := kX2_become_0.2.2.1.2
theorem dX2_become_26 : decode cX2_become 26 = .ok (.iload_n 2, 1) := kX2_become_0.2.2.2.1
theorem dX2_become_27 : decode cX2_become 27 = .ok (.bipush 6, 2) := kX2_become_0.2.2.2.2
theorem kX2_become_29 : (((((decode cX2_become 29 = .ok (.if_icmp .ge 57, 3)) ∧ (decode cX2_become 32 = .ok (.aload_n 0, 1))) ∧ ((decode cX2_become 33 = .ok (.getfield 15, 3)) ∧ (decode cX2_become 36 = .ok (.iload_n 2, 1)))) ∧ (((decode cX2_become 37 = .ok (.aload_n 1, 1)) ∧ (decode cX2_become 38 = .ok (.getfield 15, 3))) ∧ ((decode cX2_become 41 = .ok (.iload_n 2, 1)) ∧ (decode cX2_become 42 = .ok (.iaload, 1))))) ∧ ((((decode cX2_become 43 = .ok (.iastore, 1)) ∧ (decode cX2_become 44 = .ok (.aload_n 0, 1))) ∧ ((decode cX2_become 45 = .ok (.getfield 19, 3)) ∧ (decode cX2_become 48 = .ok (.iload_n 2, 1)))) ∧ (((decode cX2_become 49 = .ok (.aload_n 1, 1)) ∧ (decode cX2_become 50 = .ok (.getfield 19, 3))) ∧ ((decode cX2_become 53 = .ok (.iload_n 2, 1)) ∧ (decode cX2_become 54 = .ok (.iaload, 1)))))) := by decide +kernel
theorem dX2_become_29 : decode cX2_become 29 = .ok (.if_icmp .ge 57, 3) := kX2_become_29.1.1.1.1
theorem dX2_become_32 : decode cX2_become 32 = .ok (.aload_n 0, 1) := kX2_become_29.1.1.1.2
theorem dX2_become_33 : decode cX2_become 33 = .ok (.getfield 15, 3) := kX2_become_29.1.1.2.1
theorem dX2_become_36 : decode cX2_become 36 = .ok (.iload_n 2, 1) := kX2_become_29.1.1.2.2
theorem dX2_become_37 : decode cX2_become 37 = .ok (.aload_n 1, 1) := kX2_become_29.1.2.1.1
theorem dX2_become_38 : decode cX2_become 38 = .ok (.getfield 15, 3) := kX2_become_29.1.2.1.2
theorem dX2_become_41 : decode cX2_become 41 = .ok (.iload_n 2, 1) := kX2_become_29.1.2.2.1
theorem dX2_become_42 : decode cX2_become 42 = .ok (.iaload, 1) := kX2_become_29.1.2.2.2
theorem dX2_become_43 : decode cX2_become 43 = .ok (.iastore, 1) := kX2_become_29.2.1.1.1
theorem dX2_become_44 : decode cX2_become 44 = .ok (.aload_n 0, 1) := kX2_become_29.2.1.1.2
theorem dX2_become_45 : decode cX2_become 45 = .ok (.getfield 19, 3) := kX2_become_29.2.1.2.1
theorem dX2_become_48 : decode cX2_become 48 = .ok (.iload_n 2, 1) := kX2_become_29.2.1.2.2
theorem dX2_become_49 : decode cX2_become 49 = .ok (.aload_n 1, 1) := kX2_become_29.2.2.1.1
theorem dX2_become_50 : decode cX2_become 50 = .ok (.getfield 19, 3) := kX2_become_29.2.2.1.2
theorem dX2_become_53 : decode cX2_become 53 = .ok (.iload_n 2, 1) := kX2_become_29.2.2.2.1
theorem dX2_become_54 : decode cX2_become 54 = .ok (.iaload, 1) := kX2_become_29.2.2.2.2
theorem kX2_become_55 : (((((decode cX2_become 55 = .ok (.iastore, 1)) ∧ (decode cX2_become 56 = .ok (.aload_n 0, 1))) ∧ ((decode cX2_become 57 = .ok (.getfield 22, 3)) ∧ (decode cX2_become 60 = .ok (.iload_n 2, 1)))) ∧ (((decode cX2_become 61 = .ok (.aload_n 1, 1)) ∧ (decode cX2_become 62 = .ok (.getfield 22, 3))) ∧ ((decode cX2_become 65 = .ok (.iload_n 2, 1)) ∧ (decode cX2_become 66 = .ok (.iaload, 1))))) ∧ ((((decode cX2_become 67 = .ok (.iastore, 1)) ∧ (decode cX2_become 68 = .ok (.aload_n 0, 1))) ∧ ((decode cX2_become 69 = .ok (.getfield 25, 3)) ∧ (decode cX2_become 72 = .ok (.iload_n 2, 1)))) ∧ (((decode cX2_become 73 = .ok (.aload_n 1, 1)) ∧ (decode cX2_become 74 = .ok (.getfield 25, 3))) ∧ ((decode cX2_become 77 = .ok (.iload_n 2, 1)) ∧ (decode cX2_become 78 = .ok (.iaload, 1)))))) := by decide +kernel
theorem dX2_become_55 : decode cX2_become 55 = .ok (.iastore, 1) := kX2_become_55.1.1.1.1
theorem dX2_become_56 : decode cX2_become 56 = .ok (.aload_n 0, 1) := kX2_become_55.1.1.1.2
theorem dX2_become_57 : decode cX2_become 57 = .ok (.getfield 22, 3) := kX2_become_55.1.1.2.1
theorem dX2_become_60 : decode cX2_become 60 = .ok (.iload_n 2, 1) := kX2_become_55.1.1.2.2
theorem dX2_become_61 : decode cX2_become 61 = .ok (.aload_n 1, 1) := kX2_become_55.1.2.1.1
theorem dX2_become_62 : decode cX2_become 62 = .ok (.getfield 22, 3) := kX2_become_55.1.2.1.2
theorem dX2_become_65 : decode cX2_become 65 = .ok (.iload_n 2, 1) := kX2_become_55.1.2.2.1
theorem dX2_become_66 : decode cX2_become 66 = .ok (.iaload, 1) := kX2_become_55.1.2.2.2
theorem dX2_become_67 : decode cX2_become 67 = .ok (.iastore, 1) := kX2_become_55.2.1.1.1
theorem dX2_become_68 : decode cX2_become 68 = .ok (.aload_n 0, 1) := kX2_become_55.2.1.1.2
theorem dX2_become_69 : decode cX2_become 69 = .ok (.getfield 25, 3) := kX2_become_55.2.1.2.1
theorem dX2_become_72 : decode cX2_become 72 = .ok (.iload_n 2, 1) := kX2_become_55.2.1.2.2
theorem dX2_become_73 : decode cX2_become 73 = .ok (.aload_n 1, 1) := kX2_become_55.2.2.1.1
theorem dX2_become_74 : decode cX2_become 74 = .ok (.getfield 25, 3) := kX2_become_55.2.2.1.2
theorem dX2_become_77 : decode cX2_become 77 = .ok (.iload_n 2, 1) := kX2_become_55.2.2.2.1
theorem dX2_become_78 : decode cX2_become 78 = .ok (.iaload, 1) := kX2_become_55.2.2.2.2
theorem kX2_become_79 : (((decode cX2_become 79 = .ok (.iastore, 1)) ∧ (decode cX2_become 80 = .ok (.iinc 2 1, 3))) ∧ ((decode cX2_become 83 = .ok (.goto (-57), 3)) ∧ (decode cX2_become 86 = .ok (.return_, 1)))) := by decide +kernel
theorem dX2_become_79 : decode cX2_become 79 = .ok (.iastore, 1) := kX2_become_79.1.1
theorem dX2_become_80 : decode cX2_become 80 = .ok (.iinc 2 1, 3) := kX2_become_79.1.2
theorem dX2_become_83 : decode cX2_become 83 = .ok (.goto (-57), 3) := kX2_become_79.2.1
theorem dX2_become_86 : decode cX2_become 86 = .ok (.return_, 1) := kX2_become_79.2.2
theorem kX2_join_0 : (((((decode cX2_join 0 = .ok (.aload_n 0, 1)) ∧ (decode cX2_join 1 = .ok (.getfield 9, 3))) ∧ ((decode cX2_join 4 = .ok (.bipush 6, 2)) ∧ (decode cX2_join 6 = .ok (.if_icmp .lt 6, 3)))) ∧ (((decode cX2_join 9 = .ok (.bipush (-3), 2)) ∧ (decode cX2_join 11 = .ok (.ireturn, 1))) ∧ ((decode cX2_join 12 = .ok (.aload_n 0, 1)) ∧ (decode cX2_join 13 = .ok (.getfield 15, 3))))) ∧ ((((decode cX2_join 16 = .ok (.aload_n 0, 1)) ∧ (decode cX2_join 17 = .ok (.getfield 9, 3))) ∧ ((decode cX2_join 20 = .ok (.iload_n 1, 1)) ∧ (decode cX2_join 21 = .ok (.iastore, 1)))) ∧ (((decode cX2_join 22 = .ok (.aload_n 0, 1)) ∧ (decode cX2_join 23 = .ok (.getfield 19, 3))) ∧ ((decode cX2_join 26 = .ok (.aload_n 0, 1)) ∧ (decode cX2_join 27 = .ok (.getfield 9, 3)))))) := by decide +kernel
theorem dX2_join_0 : decode cX2_join 0 = .ok (.aload_n 0, 1) := kX2_join_0.1.1.1.1
theorem dX2_join_1 : decode cX2_join 1 = .ok (.getfield 9, 3) := kX2_join_0.1.1.1.2
theorem dX2_join_4 : decode cX2_join 4 = .ok (.bipush 6, 2) := kX2_join_0.1.1.2.1
theorem dX2_join_6 : decode cX2_join 6 = .ok (.if_icmp .lt 6, 3) := kX2_join_0.1.1.2.2
theorem dX2_join_9 : decode cX2_join 9 = .ok (.bipush (-3), 2) := kX2_join_0.1.2.1.1
theorem dX2_join_11 : decode cX2_join 11 = .ok (.ireturn, 1) := kX2_join_0.1.2.1.2
theorem dX2_join_12 : decode cX2_join 12 = .ok (.aload_n 0, 1) := kX2_join_0.1.2.2.1
theorem dX2_join_13 : decode cX2_join 13 = .ok (.getfield 15, 3) := kX2_join_0.1.2.2.2
theorem dX2_join_16 : decode cX2_join 16 = .ok (.aload_n 0, 1) := kX2_join_0.2.1.1.1
theorem dX2_join_17 : decode cX2_join 17 = .ok (.getfield 9, 3) := kX2_join_0.2.1.1.2
theorem dX2_join_20 : decode cX2_join 20 = .ok (.iload_n 1, 1) := kX2_join_0.2.1.2.1
theorem dX2_join_21 : decode cX2_join 21 = .ok (.iastore, 1) := kX2_join_0.2.1.2.2
theorem dX2_join_22 : decode cX2_join 22 = .ok (.aload_n 0, 1) := kX2_join_0.2.2.1.1
theorem dX2_join_23 : decode cX2_join 23 = .ok (.getfield 19, 3) := kX2_join_0.2.2.1.2
theorem dX2_join_26 : decode cX2_join 26 = .ok (.aload_n 0, 1) := kX2_join_0.2.2.2.1
theorem dX2_join_27 : decode cX2_join 27 = .ok (.getfield 9, 3) := kX2_join_0.2.2.2.2
theorem kX2_join_30 : (((((decode cX2_join 30 = .ok (.iload_n 2, 1)) ∧ (decode cX2_join 31 = .ok (.iastore, 1))) ∧ ((decode cX2_join 32 = .ok (.aload_n 0, 1)) ∧ (decode cX2_join 33 = .ok (.getfield 22, 3)))) ∧ (((decode cX2_join 36 = .ok (.aload_n 0, 1)) ∧ (decode cX2_join 37 = .ok (.getfield 9, 3))) ∧ ((decode cX2_join 40 = .ok (.bipush (-4), 2)) ∧ (decode cX2_join 42 = .ok (.iastore, 1))))) ∧ ((((decode cX2_join 43 = .ok (.aload_n 0, 1)) ∧ (decode cX2_join 44 = .ok (.getfield 25, 3))) ∧ ((decode cX2_join 47 = .ok (.aload_n 0, 1)) ∧ (decode cX2_join 48 = .ok (.getfield 9, 3)))) ∧ (((decode cX2_join 51 = .ok (.iconst 1, 1)) ∧ (decode cX2_join 52 = .ok (.iastore, 1))) ∧ ((decode cX2_join 53 = .ok (.aload_n 0, 1)) ∧ (decode cX2_join 54 = .ok (.dup, 1)))))) := by decide +kernel
theorem dX2_join_30 : decode cX2_join 30 = .ok (.iload_n 2, 1) := kX2_join_30.1.1.1.1
theorem dX2_join_31 : decode cX2_join 31 = .ok (.iastore, 1) := kX2_join_30.1.1.1.2
theorem dX2_join_32 : decode cX2_join 32 = .ok (.aload_n 0, 1) := kX2_join_30.1.1.2.1
theorem dX2_join_33 : decode cX2_join 33 = .ok (.getfield 22, 3) := kX2_join_30.1.1.2.2
theorem dX2_join_36 : decode cX2_join 36 = .ok (.aload_n 0, 1) := kX2_join_30.1.2.1.1
theorem dX2_join_37 : decode cX2_join 37 = .ok (.getfield 9, 3) := kX2_join_30.1.2.1.2
theorem dX2_join_40 : decode cX2_join 40 = .ok (.bipush (-4), 2) := kX2_join_30.1.2.2.1
theorem dX2_join_42 : decode cX2_join 42 = .ok (.iastore, 1) := kX2_join_30.1.2.2.2
theorem dX2_join_43 : decode cX2_join 43 = .ok (.aload_n 0, 1) := kX2_join_30.2.1.1.1
theorem dX2_join_44 : decode cX2_join 44 = .ok (.getfield 25, 3) := kX2_join_30.2.1.1.2
theorem dX2_join_47 : decode cX2_join 47 = .ok (.aload_n 0, 1) := kX2_join_30.2.1.2.1
theorem dX2_join_48 : decode cX2_join 48 = .ok (.getfield 9, 3) := kX2_join_30.2.1.2.2
theorem dX2_join_51 : decode cX2_join 51 = .ok (.iconst 1, 1) := kX2_join_30.2.2.1.1
theorem dX2_join_52 : decode cX2_join 52 = .ok (.iastore, 1) := kX2_join_30.2.2.1.2
theorem dX2_join_53 : decode cX2_join 53 = .ok (.aload_n 0, 1) := kX2_join_30.2.2.2.1
theorem dX2_join_54 : decode cX2_join 54 = .ok (.dup, 1) := kX2_join_30.2.2.2.2
theorem kX2_join_55 : (((((decode cX2_join 55 = .ok (.getfield 9, 3)) ∧ (decode cX2_join 58 = .ok (.iconst 1, 1))) ∧ (decode cX2_join 59 = .ok (.iadd, 1))) ∧ ((decode cX2_join 60 = .ok (.putfield 9, 3)) ∧ (decode cX2_join 63 = .ok (.aload_n 0, 1)))) ∧ (((decode cX2_join 64 = .ok (.getfield 9, 3)) ∧ (decode cX2_join 67 = .ok (.iconst 1, 1))) ∧ ((decode cX2_join 68 = .ok (.isub, 1)) ∧ (decode cX2_join 69 = .ok (.ireturn, 1))))) := by decide +kernel
theorem dX2_join_55 : decode cX2_join 55 = .ok (.getfield 9, 3) := kX2_join_55.1.1.1.1
theorem dX2_join_58 : decode cX2_join 58 = .ok (.iconst 1, 1) := kX2_join_55.1.1.1.2
theorem dX2_join_59 : decode cX2_join 59 = .ok (.iadd, 1) := kX2_join_55.1.1.2
theorem dX2_join_60 : decode cX2_join 60 = .ok (.putfield 9, 3) := kX2_join_55.1.2.1
theorem dX2_join_63 : decode cX2_join 63 = .ok (.aload_n 0, 1) := kX2_join_55.1.2.2
theorem dX2_join_64 : decode cX2_join 64 = .ok (.getfield 9, 3) := kX2_join_55.2.1.1
theorem dX2_join_67 : decode cX2_join 67 = .ok (.iconst 1, 1) := kX2_join_55.2.1.2
theorem dX2_join_68 : decode cX2_join 68 = .ok (.isub, 1) := kX2_join_55.2.2.1
theorem dX2_join_69 : decode cX2_join 69 = .ok (.ireturn, 1) := kX2_join_55.2.2.2
theorem kX2_has_0 : (((((decode cX2_has 0 = .ok (.iload_n 1, 1)) ∧ (decode cX2_has 1 = .ok (.ifCond .lt 15, 3))) ∧ (decode cX2_has 4 = .ok (.iload_n 1, 1))) ∧ ((decode cX2_has 5 = .ok (.aload_n 0, 1)) ∧ (decode cX2_has 6 = .ok (.getfield 9, 3)))) ∧ ((((decode cX2_has 9 = .ok (.if_icmp .ge 7, 3)) ∧ (decode cX2_has 12 = .ok (.iconst 1, 1))) ∧ (decode cX2_has 13 = .ok (.goto 4, 3))) ∧ ((decode cX2_has 16 = .ok (.iconst 0, 1)) ∧ (decode cX2_has 17 = .ok (.ireturn, 1))))) := by decide +kernel
theorem dX2_has_0 : decode cX2_has 0 = .ok (.iload_n 1, 1) := kX2_has_0.1.1.1.1
theorem dX2_has_1 : decode cX2_has 1 = .ok (.ifCond .lt 15, 3) := kX2_has_0.1.1.1.2
theorem dX2_has_4 : decode cX2_has 4 = .ok (.iload_n 1, 1) := kX2_has_0.1.1.2
theorem dX2_has_5 : decode cX2_has 5 = .ok (.aload_n 0, 1) := kX2_has_0.1.2.1
theorem dX2_has_6 : decode cX2_has 6 = .ok (.getfield 9, 3) := kX2_has_0.1.2.2
theorem dX2_has_9 : decode cX2_has 9 = .ok (.if_icmp .ge 7, 3) := kX2_has_0.2.1.1.1
theorem dX2_has_12 : decode cX2_has 12 = .ok (.iconst 1, 1) := kX2_has_0.2.1.1.2
theorem dX2_has_13 : decode cX2_has 13 = .ok (.goto 4, 3) := kX2_has_0.2.1.2
theorem dX2_has_16 : decode cX2_has 16 = .ok (.iconst 0, 1) := kX2_has_0.2.2.1
theorem dX2_has_17 : decode cX2_has 17 = .ok (.ireturn, 1) := kX2_has_0.2.2.2
theorem kX2_isStopped_0 : (((((decode cX2_isStopped 0 = .ok (.aload_n 0, 1)) ∧ (decode cX2_isStopped 1 = .ok (.getfield 19, 3))) ∧ (decode cX2_isStopped 4 = .ok (.iload_n 1, 1))) ∧ ((decode cX2_isStopped 5 = .ok (.iaload, 1)) ∧ (decode cX2_isStopped 6 = .ok (.ifCond .ne 7, 3)))) ∧ (((decode cX2_isStopped 9 = .ok (.iconst 1, 1)) ∧ (decode cX2_isStopped 10 = .ok (.goto 4, 3))) ∧ ((decode cX2_isStopped 13 = .ok (.iconst 0, 1)) ∧ (decode cX2_isStopped 14 = .ok (.ireturn, 1))))) := by decide +kernel
theorem dX2_isStopped_0 : decode cX2_isStopped 0 = .ok (.aload_n 0, 1) := kX2_isStopped_0.1.1.1.1
theorem dX2_isStopped_1 : decode cX2_isStopped 1 = .ok (.getfield 19, 3) := kX2_isStopped_0.1.1.1.2
theorem dX2_isStopped_4 : decode cX2_isStopped 4 = .ok (.iload_n 1, 1) := kX2_isStopped_0.1.1.2
theorem dX2_isStopped_5 : decode cX2_isStopped 5 = .ok (.iaload, 1) := kX2_isStopped_0.1.2.1
theorem dX2_isStopped_6 : decode cX2_isStopped 6 = .ok (.ifCond .ne 7, 3) := kX2_isStopped_0.1.2.2
theorem dX2_isStopped_9 : decode cX2_isStopped 9 = .ok (.iconst 1, 1) := kX2_isStopped_0.2.1.1
theorem dX2_isStopped_10 : decode cX2_isStopped 10 = .ok (.goto 4, 3) := kX2_isStopped_0.2.1.2
theorem dX2_isStopped_13 : decode cX2_isStopped 13 = .ok (.iconst 0, 1) := kX2_isStopped_0.2.2.1
theorem dX2_isStopped_14 : decode cX2_isStopped 14 = .ok (.ireturn, 1) := kX2_isStopped_0.2.2.2
theorem kX2_everybody_0 : ((((decode cX2_everybody 0 = .ok (.iconst 1, 1)) ∧ (decode cX2_everybody 1 = .ok (.aload_n 0, 1))) ∧ ((decode cX2_everybody 2 = .ok (.getfield 9, 3)) ∧ (decode cX2_everybody 5 = .ok (.ishl, 1)))) ∧ (((decode cX2_everybody 6 = .ok (.iconst 1, 1)) ∧ (decode cX2_everybody 7 = .ok (.isub, 1))) ∧ (decode cX2_everybody 8 = .ok (.ireturn, 1)))) := by decide +kernel
theorem dX2_everybody_0 : decode cX2_everybody 0 = .ok (.iconst 1, 1) := kX2_everybody_0.1.1.1
theorem dX2_everybody_1 : decode cX2_everybody 1 = .ok (.aload_n 0, 1) := kX2_everybody_0.1.1.2
theorem dX2_everybody_2 : decode cX2_everybody 2 = .ok (.getfield 9, 3) := kX2_everybody_0.1.2.1
theorem dX2_everybody_5 : decode cX2_everybody 5 = .ok (.ishl, 1) := kX2_everybody_0.1.2.2
theorem dX2_everybody_6 : decode cX2_everybody 6 = .ok (.iconst 1, 1) := kX2_everybody_0.2.1.1
theorem dX2_everybody_7 : decode cX2_everybody 7 = .ok (.isub, 1) := kX2_everybody_0.2.1.2
theorem dX2_everybody_8 : decode cX2_everybody 8 = .ok (.ireturn, 1) := kX2_everybody_0.2.2
set_option maxRecDepth 20000 in
theorem ggX2_stopped_X2_isStopped : GoodIn wsX2_stopped wsX2_isStopped := goodIn_r _ [6, 7, 8, 9, 10, 11, 12, 13, 14] rfl (by decide +kernel)
set_option maxRecDepth 20000 in
theorem gX2_stopped_X2_isStopped : GoodIn wsX2_stopped (wsV RX2 34 RX2 yX2_isStopped wsX2_isStopped) := goodIn_app (goodIn_of _ (by decide +kernel)) ggX2_stopped_X2_isStopped
theorem kX2_stopped_0 : (((((decode cX2_stopped 0 = .ok (.iconst 0, 1)) ∧ (decode cX2_stopped 1 = .ok (.istore_n 1, 1))) ∧ ((decode cX2_stopped 2 = .ok (.iconst 0, 1)) ∧ (decode cX2_stopped 3 = .ok (.istore_n 2, 1)))) ∧ (((decode cX2_stopped 4 = .ok (.iload_n 2, 1)) ∧ (decode cX2_stopped 5 = .ok (.aload_n 0, 1))) ∧ ((decode cX2_stopped 6 = .ok (.getfield 9, 3)) ∧ (decode cX2_stopped 9 = .ok (.if_icmp .ge 27, 3))))) ∧ ((((decode cX2_stopped 12 = .ok (.iload_n 1, 1)) ∧ (decode cX2_stopped 13 = .ok (.aload_n 0, 1))) ∧ ((decode cX2_stopped 14 = .ok (.iload_n 2, 1)) ∧ (decode cX2_stopped 15 = .ok (.invokevirtual 34, 3)))) ∧ (((decode cX2_stopped 18 = .ok (.ifCond .eq 9, 3)) ∧ (decode cX2_stopped 21 = .ok (.iconst 1, 1))) ∧ ((decode cX2_stopped 22 = .ok (.iload_n 2, 1)) ∧ (decode cX2_stopped 23 = .ok (.ishl, 1)))))) := by decide +kernel
theorem dX2_stopped_0 : decode cX2_stopped 0 = .ok (.iconst 0, 1) := kX2_stopped_0.1.1.1.1
theorem dX2_stopped_1 : decode cX2_stopped 1 = .ok (.istore_n 1, 1) := kX2_stopped_0.1.1.1.2
theorem dX2_stopped_2 : decode cX2_stopped 2 = .ok (.iconst 0, 1) := kX2_stopped_0.1.1.2.1
theorem dX2_stopped_3 : decode cX2_stopped 3 = .ok (.istore_n 2, 1) := kX2_stopped_0.1.1.2.2
theorem dX2_stopped_4 : decode cX2_stopped 4 = .ok (.iload_n 2, 1) := kX2_stopped_0.1.2.1.1
theorem dX2_stopped_5 : decode cX2_stopped 5 = .ok (.aload_n 0, 1) := kX2_stopped_0.1.2.1.2
theorem dX2_stopped_6 : decode cX2_stopped 6 = .ok (.getfield 9, 3) := kX2_stopped_0.1.2.2.1
theorem dX2_stopped_9 : decode cX2_stopped 9 = .ok (.if_icmp .ge 27, 3) := kX2_stopped_0.1.2.2.2
theorem dX2_stopped_12 : decode cX2_stopped 12 = .ok (.iload_n 1, 1) := kX2_stopped_0.2.1.1.1
theorem dX2_stopped_13 : decode cX2_stopped 13 = .ok (.aload_n 0, 1) := kX2_stopped_0.2.1.1.2
theorem dX2_stopped_14 : decode cX2_stopped 14 = .ok (.iload_n 2, 1) := kX2_stopped_0.2.1.2.1
theorem dX2_stopped_15 : decode cX2_stopped 15 = .ok (.invokevirtual 34, 3) := kX2_stopped_0.2.1.2.2
theorem dX2_stopped_18 : decode cX2_stopped 18 = .ok (.ifCond .eq 9, 3) := kX2_stopped_0.2.2.1.1
theorem dX2_stopped_21 : decode cX2_stopped 21 = .ok (.iconst 1, 1) := kX2_stopped_0.2.2.1.2
theorem dX2_stopped_22 : decode cX2_stopped 22 = .ok (.iload_n 2, 1) := kX2_stopped_0.2.2.2.1
theorem dX2_stopped_23 : decode cX2_stopped 23 = .ok (.ishl, 1) := kX2_stopped_0.2.2.2.2
theorem kX2_stopped_24 : ((((decode cX2_stopped 24 = .ok (.goto 4, 3)) ∧ (decode cX2_stopped 27 = .ok (.iconst 0, 1))) ∧ ((decode cX2_stopped 28 = .ok (.ior, 1)) ∧ (decode cX2_stopped 29 = .ok (.istore_n 1, 1)))) ∧ (((decode cX2_stopped 30 = .ok (.iinc 2 1, 3)) ∧ (decode cX2_stopped 33 = .ok (.goto (-29), 3))) ∧ ((decode cX2_stopped 36 = .ok (.iload_n 1, 1)) ∧ (decode cX2_stopped 37 = .ok (.ireturn, 1))))) := by decide +kernel
theorem dX2_stopped_24 : decode cX2_stopped 24 = .ok (.goto 4, 3) := kX2_stopped_24.1.1.1
theorem dX2_stopped_27 : decode cX2_stopped 27 = .ok (.iconst 0, 1) := kX2_stopped_24.1.1.2
theorem dX2_stopped_28 : decode cX2_stopped 28 = .ok (.ior, 1) := kX2_stopped_24.1.2.1
theorem dX2_stopped_29 : decode cX2_stopped 29 = .ok (.istore_n 1, 1) := kX2_stopped_24.1.2.2
theorem dX2_stopped_30 : decode cX2_stopped 30 = .ok (.iinc 2 1, 3) := kX2_stopped_24.2.1.1
theorem dX2_stopped_33 : decode cX2_stopped 33 = .ok (.goto (-29), 3) := kX2_stopped_24.2.1.2
theorem dX2_stopped_36 : decode cX2_stopped 36 = .ok (.iload_n 1, 1) := kX2_stopped_24.2.2.1
theorem dX2_stopped_37 : decode cX2_stopped 37 = .ok (.ireturn, 1) := kX2_stopped_24.2.2.2
theorem kX2_turnsTogether_0 : (((((decode cX2_turnsTogether 0 = .ok (.iconst 0, 1)) ∧ (decode cX2_turnsTogether 1 = .ok (.istore_n 1, 1))) ∧ ((decode cX2_turnsTogether 2 = .ok (.iconst 0, 1)) ∧ (decode cX2_turnsTogether 3 = .ok (.istore_n 2, 1)))) ∧ (((decode cX2_turnsTogether 4 = .ok (.iload_n 2, 1)) ∧ (decode cX2_turnsTogether 5 = .ok (.aload_n 0, 1))) ∧ ((decode cX2_turnsTogether 6 = .ok (.getfield 9, 3)) ∧ (decode cX2_turnsTogether 9 = .ok (.if_icmp .ge 18, 3))))) ∧ ((((decode cX2_turnsTogether 12 = .ok (.iload_n 1, 1)) ∧ (decode cX2_turnsTogether 13 = .ok (.aload_n 0, 1))) ∧ ((decode cX2_turnsTogether 14 = .ok (.getfield 19, 3)) ∧ (decode cX2_turnsTogether 17 = .ok (.iload_n 2, 1)))) ∧ (((decode cX2_turnsTogether 18 = .ok (.iaload, 1)) ∧ (decode cX2_turnsTogether 19 = .ok (.iadd, 1))) ∧ ((decode cX2_turnsTogether 20 = .ok (.istore_n 1, 1)) ∧ (decode cX2_turnsTogether 21 = .ok (.iinc 2 1, 3)))))) := by decide +kernel
theorem dX2_turnsTogether_0 : decode cX2_turnsTogether 0 = .ok (.iconst 0, 1) := kX2_turnsTogether_0.1.1.1.1
theorem dX2_turnsTogether_1 : decode cX2_turnsTogether 1 = .ok (.istore_n 1, 1) := kX2_turnsTogether_0.1.1.1.2
theorem dX2_turnsTogether_2 : decode cX2_turnsTogether 2 = .ok (.iconst 0, 1) := kX2_turnsTogether_0.1.1.2.1
theorem dX2_turnsTogether_3 : decode cX2_turnsTogether 3 = .ok (.istore_n 2, 1) := kX2_turnsTogether_0.1.1.2.2
theorem dX2_turnsTogether_4 : decode cX2_turnsTogether 4 = .ok (.iload_n 2, 1) := kX2_turnsTogether_0.1.2.1.1
theorem dX2_turnsTogether_5 : decode cX2_turnsTogether 5 = .ok (.aload_n 0, 1) := kX2_turnsTogether_0.1.2.1.2
theorem dX2_turnsTogether_6 : decode cX2_turnsTogether 6 = .ok (.getfield 9, 3) := kX2_turnsTogether_0.1.2.2.1
theorem dX2_turnsTogether_9 : decode cX2_turnsTogether 9 = .ok (.if_icmp .ge 18, 3) := kX2_turnsTogether_0.1.2.2.2
theorem dX2_turnsTogether_12 : decode cX2_turnsTogether 12 = .ok (.iload_n 1, 1) := kX2_turnsTogether_0.2.1.1.1
theorem dX2_turnsTogether_13 : decode cX2_turnsTogether 13 = .ok (.aload_n 0, 1) := kX2_turnsTogether_0.2.1.1.2
theorem dX2_turnsTogether_14 : decode cX2_turnsTogether 14 = .ok (.getfield 19, 3) := kX2_turnsTogether_0.2.1.2.1
theorem dX2_turnsTogether_17 : decode cX2_turnsTogether 17 = .ok (.iload_n 2, 1) := kX2_turnsTogether_0.2.1.2.2
theorem dX2_turnsTogether_18 : decode cX2_turnsTogether 18 = .ok (.iaload, 1) := kX2_turnsTogether_0.2.2.1.1
theorem dX2_turnsTogether_19 : decode cX2_turnsTogether 19 = .ok (.iadd, 1) := kX2_turnsTogether_0.2.2.1.2
theorem dX2_turnsTogether_20 : decode cX2_turnsTogether 20 = .ok (.istore_n 1, 1) := kX2_turnsTogether_0.2.2.2.1
theorem dX2_turnsTogether_21 : decode cX2_turnsTogether 21 = .ok (.iinc 2 1, 3) := kX2_turnsTogether_0.2.2.2.2
theorem kX2_turnsTogether_24 : (((decode cX2_turnsTogether 24 = .ok (.goto (-20), 3)) ∧ (decode cX2_turnsTogether 27 = .ok (.iload_n 1, 1))) ∧ (decode cX2_turnsTogether 28 = .ok (.ireturn, 1))) := by decide +kernel
theorem dX2_turnsTogether_24 : decode cX2_turnsTogether 24 = .ok (.goto (-20), 3) := kX2_turnsTogether_24.1.1
theorem dX2_turnsTogether_27 : decode cX2_turnsTogether 27 = .ok (.iload_n 1, 1) := kX2_turnsTogether_24.1.2
theorem dX2_turnsTogether_28 : decode cX2_turnsTogether 28 = .ok (.ireturn, 1) := kX2_turnsTogether_24.2
theorem kX2_hasTurnsOf_0 : (((((decode cX2_hasTurnsOf 0 = .ok (.iconst 0, 1)) ∧ (decode cX2_hasTurnsOf 1 = .ok (.istore_n 2, 1))) ∧ ((decode cX2_hasTurnsOf 2 = .ok (.iload_n 2, 1)) ∧ (decode cX2_hasTurnsOf 3 = .ok (.aload_n 0, 1)))) ∧ (((decode cX2_hasTurnsOf 4 = .ok (.getfield 9, 3)) ∧ (decode cX2_hasTurnsOf 7 = .ok (.if_icmp .ge 26, 3))) ∧ ((decode cX2_hasTurnsOf 10 = .ok (.aload_n 0, 1)) ∧ (decode cX2_hasTurnsOf 11 = .ok (.getfield 19, 3))))) ∧ ((((decode cX2_hasTurnsOf 14 = .ok (.iload_n 2, 1)) ∧ (decode cX2_hasTurnsOf 15 = .ok (.iaload, 1))) ∧ ((decode cX2_hasTurnsOf 16 = .ok (.aload_n 1, 1)) ∧ (decode cX2_hasTurnsOf 17 = .ok (.getfield 19, 3)))) ∧ (((decode cX2_hasTurnsOf 20 = .ok (.iload_n 2, 1)) ∧ (decode cX2_hasTurnsOf 21 = .ok (.iaload, 1))) ∧ ((decode cX2_hasTurnsOf 22 = .ok (.if_icmp .eq 5, 3)) ∧ (decode cX2_hasTurnsOf 25 = .ok (.iconst 0, 1)))))) := by decide +kernel
theorem dX2_hasTurnsOf_0 : decode cX2_hasTurnsOf 0 = .ok (.iconst 0, 1) := kX2_hasTurnsOf_0.1.1.1.1
theorem dX2_hasTurnsOf_1 : decode cX2_hasTurnsOf 1 = .ok (.istore_n 2, 1) := kX2_hasTurnsOf_0.1.1.1.2
theorem dX2_hasTurnsOf_2 : decode cX2_hasTurnsOf 2 = .ok (.iload_n 2, 1) := kX2_hasTurnsOf_0.1.1.2.1
theorem dX2_hasTurnsOf_3 : decode cX2_hasTurnsOf 3 = .ok (.aload_n 0, 1) := kX2_hasTurnsOf_0.1.1.2.2
theorem dX2_hasTurnsOf_4 : decode cX2_hasTurnsOf 4 = .ok (.getfield 9, 3) := kX2_hasTurnsOf_0.1.2.1.1
theorem dX2_hasTurnsOf_7 : decode cX2_hasTurnsOf 7 = .ok (.if_icmp .ge 26, 3) := kX2_hasTurnsOf_0.1.2.1.2
theorem dX2_hasTurnsOf_10 : decode cX2_hasTurnsOf 10 = .ok (.aload_n 0, 1) := kX2_hasTurnsOf_0.1.2.2.1
theorem dX2_hasTurnsOf_11 : decode cX2_hasTurnsOf 11 = .ok (.getfield 19, 3) := kX2_hasTurnsOf_0.1.2.2.2
theorem dX2_hasTurnsOf_14 : decode cX2_hasTurnsOf 14 = .ok (.iload_n 2, 1) := kX2_hasTurnsOf_0.2.1.1.1
theorem dX2_hasTurnsOf_15 : decode cX2_hasTurnsOf 15 = .ok (.iaload, 1) := kX2_hasTurnsOf_0.2.1.1.2
theorem dX2_hasTurnsOf_16 : decode cX2_hasTurnsOf 16 = .ok (.aload_n 1, 1) := kX2_hasTurnsOf_0.2.1.2.1
theorem dX2_hasTurnsOf_17 : decode cX2_hasTurnsOf 17 = .ok (.getfield 19, 3) := kX2_hasTurnsOf_0.2.1.2.2
theorem dX2_hasTurnsOf_20 : decode cX2_hasTurnsOf 20 = .ok (.iload_n 2, 1) := kX2_hasTurnsOf_0.2.2.1.1
theorem dX2_hasTurnsOf_21 : decode cX2_hasTurnsOf 21 = .ok (.iaload, 1) := kX2_hasTurnsOf_0.2.2.1.2
theorem dX2_hasTurnsOf_22 : decode cX2_hasTurnsOf 22 = .ok (.if_icmp .eq 5, 3) := kX2_hasTurnsOf_0.2.2.2.1
theorem dX2_hasTurnsOf_25 : decode cX2_hasTurnsOf 25 = .ok (.iconst 0, 1) := kX2_hasTurnsOf_0.2.2.2.2
theorem kX2_hasTurnsOf_26 : ((((decode cX2_hasTurnsOf 26 = .ok (.ireturn, 1)) ∧ (decode cX2_hasTurnsOf 27 = .ok (.iinc 2 1, 3))) ∧ (decode cX2_hasTurnsOf 30 = .ok (.goto (-28), 3))) ∧ ((decode cX2_hasTurnsOf 33 = .ok (.iconst 1, 1)) ∧ (decode cX2_hasTurnsOf 34 = .ok (.ireturn, 1)))) := by decide +kernel
theorem dX2_hasTurnsOf_26 : decode cX2_hasTurnsOf 26 = .ok (.ireturn, 1) := kX2_hasTurnsOf_26.1.1.1
theorem dX2_hasTurnsOf_27 : decode cX2_hasTurnsOf 27 = .ok (.iinc 2 1, 3) := kX2_hasTurnsOf_26.1.1.2
theorem dX2_hasTurnsOf_30 : decode cX2_hasTurnsOf 30 = .ok (.goto (-28), 3) := kX2_hasTurnsOf_26.1.2
theorem dX2_hasTurnsOf_33 : decode cX2_hasTurnsOf 33 = .ok (.iconst 1, 1) := kX2_hasTurnsOf_26.2.1
theorem dX2_hasTurnsOf_34 : decode cX2_hasTurnsOf 34 = .ok (.ireturn, 1) := kX2_hasTurnsOf_26.2.2
theorem kX2_woundBy_0 : (((((decode cX2_woundBy 0 = .ok (.iconst 0, 1)) ∧ (decode cX2_woundBy 1 = .ok (.istore_n 2, 1))) ∧ ((decode cX2_woundBy 2 = .ok (.iconst 0, 1)) ∧ (decode cX2_woundBy 3 = .ok (.istore_n 3, 1)))) ∧ (((decode cX2_woundBy 4 = .ok (.iload_n 3, 1)) ∧ (decode cX2_woundBy 5 = .ok (.aload_n 0, 1))) ∧ ((decode cX2_woundBy 6 = .ok (.getfield 9, 3)) ∧ (decode cX2_woundBy 9 = .ok (.if_icmp .ge 29, 3))))) ∧ ((((decode cX2_woundBy 12 = .ok (.iload_n 2, 1)) ∧ (decode cX2_woundBy 13 = .ok (.aload_n 0, 1))) ∧ ((decode cX2_woundBy 14 = .ok (.getfield 22, 3)) ∧ (decode cX2_woundBy 17 = .ok (.iload_n 3, 1)))) ∧ (((decode cX2_woundBy 18 = .ok (.iaload, 1)) ∧ (decode cX2_woundBy 19 = .ok (.iload_n 1, 1))) ∧ ((decode cX2_woundBy 20 = .ok (.if_icmp .ne 9, 3)) ∧ (decode cX2_woundBy 23 = .ok (.iconst 1, 1)))))) := by decide +kernel
theorem dX2_woundBy_0 : decode cX2_woundBy 0 = .ok (.iconst 0, 1) := kX2_woundBy_0.1.1.1.1
theorem dX2_woundBy_1 : decode cX2_woundBy 1 = .ok (.istore_n 2, 1) := kX2_woundBy_0.1.1.1.2
theorem dX2_woundBy_2 : decode cX2_woundBy 2 = .ok (.iconst 0, 1) := kX2_woundBy_0.1.1.2.1
theorem dX2_woundBy_3 : decode cX2_woundBy 3 = .ok (.istore_n 3, 1) := kX2_woundBy_0.1.1.2.2
theorem dX2_woundBy_4 : decode cX2_woundBy 4 = .ok (.iload_n 3, 1) := kX2_woundBy_0.1.2.1.1
theorem dX2_woundBy_5 : decode cX2_woundBy 5 = .ok (.aload_n 0, 1) := kX2_woundBy_0.1.2.1.2
theorem dX2_woundBy_6 : decode cX2_woundBy 6 = .ok (.getfield 9, 3) := kX2_woundBy_0.1.2.2.1
theorem dX2_woundBy_9 : decode cX2_woundBy 9 = .ok (.if_icmp .ge 29, 3) := kX2_woundBy_0.1.2.2.2
theorem dX2_woundBy_12 : decode cX2_woundBy 12 = .ok (.iload_n 2, 1) := kX2_woundBy_0.2.1.1.1
theorem dX2_woundBy_13 : decode cX2_woundBy 13 = .ok (.aload_n 0, 1) := kX2_woundBy_0.2.1.1.2
theorem dX2_woundBy_14 : decode cX2_woundBy 14 = .ok (.getfield 22, 3) := kX2_woundBy_0.2.1.2.1
theorem dX2_woundBy_17 : decode cX2_woundBy 17 = .ok (.iload_n 3, 1) := kX2_woundBy_0.2.1.2.2
theorem dX2_woundBy_18 : decode cX2_woundBy 18 = .ok (.iaload, 1) := kX2_woundBy_0.2.2.1.1
theorem dX2_woundBy_19 : decode cX2_woundBy 19 = .ok (.iload_n 1, 1) := kX2_woundBy_0.2.2.1.2
theorem dX2_woundBy_20 : decode cX2_woundBy 20 = .ok (.if_icmp .ne 9, 3) := kX2_woundBy_0.2.2.2.1
theorem dX2_woundBy_23 : decode cX2_woundBy 23 = .ok (.iconst 1, 1) := kX2_woundBy_0.2.2.2.2
theorem kX2_woundBy_24 : (((((decode cX2_woundBy 24 = .ok (.iload_n 3, 1)) ∧ (decode cX2_woundBy 25 = .ok (.ishl, 1))) ∧ (decode cX2_woundBy 26 = .ok (.goto 4, 3))) ∧ ((decode cX2_woundBy 29 = .ok (.iconst 0, 1)) ∧ (decode cX2_woundBy 30 = .ok (.ior, 1)))) ∧ ((((decode cX2_woundBy 31 = .ok (.istore_n 2, 1)) ∧ (decode cX2_woundBy 32 = .ok (.iinc 3 1, 3))) ∧ (decode cX2_woundBy 35 = .ok (.goto (-31), 3))) ∧ ((decode cX2_woundBy 38 = .ok (.iload_n 2, 1)) ∧ (decode cX2_woundBy 39 = .ok (.ireturn, 1))))) := by decide +kernel
theorem dX2_woundBy_24 : decode cX2_woundBy 24 = .ok (.iload_n 3, 1) := kX2_woundBy_24.1.1.1.1
theorem dX2_woundBy_25 : decode cX2_woundBy 25 = .ok (.ishl, 1) := kX2_woundBy_24.1.1.1.2
theorem dX2_woundBy_26 : decode cX2_woundBy 26 = .ok (.goto 4, 3) := kX2_woundBy_24.1.1.2
theorem dX2_woundBy_29 : decode cX2_woundBy 29 = .ok (.iconst 0, 1) := kX2_woundBy_24.1.2.1
theorem dX2_woundBy_30 : decode cX2_woundBy 30 = .ok (.ior, 1) := kX2_woundBy_24.1.2.2
theorem dX2_woundBy_31 : decode cX2_woundBy 31 = .ok (.istore_n 2, 1) := kX2_woundBy_24.2.1.1.1
theorem dX2_woundBy_32 : decode cX2_woundBy 32 = .ok (.iinc 3 1, 3) := kX2_woundBy_24.2.1.1.2
theorem dX2_woundBy_35 : decode cX2_woundBy 35 = .ok (.goto (-31), 3) := kX2_woundBy_24.2.1.2
theorem dX2_woundBy_38 : decode cX2_woundBy 38 = .ok (.iload_n 2, 1) := kX2_woundBy_24.2.2.1
theorem dX2_woundBy_39 : decode cX2_woundBy 39 = .ok (.ireturn, 1) := kX2_woundBy_24.2.2.2
set_option maxRecDepth 20000 in
theorem ggX2_without_X2_woundBy : GoodIn wsX2_without wsX2_woundBy := goodIn_r _ [6, 1, 7, 8, 9, 10, 11, 12, 13, 14] rfl (by decide +kernel)
set_option maxRecDepth 20000 in
theorem gX2_without_X2_woundBy : GoodIn wsX2_without (wsV RX2 38 RX2 yX2_woundBy wsX2_woundBy) := goodIn_app (goodIn_of _ (by decide +kernel)) ggX2_without_X2_woundBy
theorem kX2_without_0 : (((((decode cX2_without 0 = .ok (.iconst 0, 1)) ∧ (decode cX2_without 1 = .ok (.istore_n 1, 1))) ∧ ((decode cX2_without 2 = .ok (.iconst 0, 1)) ∧ (decode cX2_without 3 = .ok (.istore_n 2, 1)))) ∧ (((decode cX2_without 4 = .ok (.iload_n 2, 1)) ∧ (decode cX2_without 5 = .ok (.aload_n 0, 1))) ∧ ((decode cX2_without 6 = .ok (.getfield 9, 3)) ∧ (decode cX2_without 9 = .ok (.if_icmp .ge 25, 3))))) ∧ ((((decode cX2_without 12 = .ok (.iload_n 1, 1)) ∧ (decode cX2_without 13 = .ok (.aload_n 0, 1))) ∧ ((decode cX2_without 14 = .ok (.iload_n 2, 1)) ∧ (decode cX2_without 15 = .ok (.invokevirtual 38, 3)))) ∧ (((decode cX2_without 18 = .ok (.ifCond .ne 7, 3)) ∧ (decode cX2_without 21 = .ok (.iconst 1, 1))) ∧ ((decode cX2_without 22 = .ok (.goto 4, 3)) ∧ (decode cX2_without 25 = .ok (.iconst 0, 1)))))) := by decide +kernel
theorem dX2_without_0 : decode cX2_without 0 = .ok (.iconst 0, 1) := kX2_without_0.1.1.1.1
theorem dX2_without_1 : decode cX2_without 1 = .ok (.istore_n 1, 1) := kX2_without_0.1.1.1.2
theorem dX2_without_2 : decode cX2_without 2 = .ok (.iconst 0, 1) := kX2_without_0.1.1.2.1
theorem dX2_without_3 : decode cX2_without 3 = .ok (.istore_n 2, 1) := kX2_without_0.1.1.2.2
theorem dX2_without_4 : decode cX2_without 4 = .ok (.iload_n 2, 1) := kX2_without_0.1.2.1.1
theorem dX2_without_5 : decode cX2_without 5 = .ok (.aload_n 0, 1) := kX2_without_0.1.2.1.2
theorem dX2_without_6 : decode cX2_without 6 = .ok (.getfield 9, 3) := kX2_without_0.1.2.2.1
theorem dX2_without_9 : decode cX2_without 9 = .ok (.if_icmp .ge 25, 3) := kX2_without_0.1.2.2.2
theorem dX2_without_12 : decode cX2_without 12 = .ok (.iload_n 1, 1) := kX2_without_0.2.1.1.1
theorem dX2_without_13 : decode cX2_without 13 = .ok (.aload_n 0, 1) := kX2_without_0.2.1.1.2
theorem dX2_without_14 : decode cX2_without 14 = .ok (.iload_n 2, 1) := kX2_without_0.2.1.2.1
theorem dX2_without_15 : decode cX2_without 15 = .ok (.invokevirtual 38, 3) := kX2_without_0.2.1.2.2
theorem dX2_without_18 : decode cX2_without 18 = .ok (.ifCond .ne 7, 3) := kX2_without_0.2.2.1.1
theorem dX2_without_21 : decode cX2_without 21 = .ok (.iconst 1, 1) := kX2_without_0.2.2.1.2
theorem dX2_without_22 : decode cX2_without 22 = .ok (.goto 4, 3) := kX2_without_0.2.2.2.1
theorem dX2_without_25 : decode cX2_without 25 = .ok (.iconst 0, 1) := kX2_without_0.2.2.2.2
theorem kX2_without_26 : ((((decode cX2_without 26 = .ok (.iadd, 1)) ∧ (decode cX2_without 27 = .ok (.istore_n 1, 1))) ∧ (decode cX2_without 28 = .ok (.iinc 2 1, 3))) ∧ (((decode cX2_without 31 = .ok (.goto (-27), 3)) ∧ (decode cX2_without 34 = .ok (.iload_n 1, 1))) ∧ (decode cX2_without 35 = .ok (.ireturn, 1)))) := by decide +kernel
theorem dX2_without_26 : decode cX2_without 26 = .ok (.iadd, 1) := kX2_without_26.1.1.1
theorem dX2_without_27 : decode cX2_without 27 = .ok (.istore_n 1, 1) := kX2_without_26.1.1.2
theorem dX2_without_28 : decode cX2_without 28 = .ok (.iinc 2 1, 3) := kX2_without_26.1.2
theorem dX2_without_31 : decode cX2_without 31 = .ok (.goto (-27), 3) := kX2_without_26.2.1.1
theorem dX2_without_34 : decode cX2_without 34 = .ok (.iload_n 1, 1) := kX2_without_26.2.1.2
theorem dX2_without_35 : decode cX2_without 35 = .ok (.ireturn, 1) := kX2_without_26.2.2
set_option maxRecDepth 20000 in
theorem ggX2_behind_X2_has : GoodIn wsX2_behind wsX2_has := goodIn_r _ [7, 1, 8, 9, 10, 11, 12, 13, 14] rfl (by decide +kernel)
set_option maxRecDepth 20000 in
theorem gX2_behind_X2_has : GoodIn wsX2_behind (wsV RX2 42 RX2 yX2_has wsX2_has) := goodIn_app (goodIn_of _ (by decide +kernel)) ggX2_behind_X2_has
theorem kX2_behind_0 : (((((decode cX2_behind 0 = .ok (.iconst 0, 1)) ∧ (decode cX2_behind 1 = .ok (.istore_n 2, 1))) ∧ ((decode cX2_behind 2 = .ok (.iload_n 1, 1)) ∧ (decode cX2_behind 3 = .ok (.istore_n 3, 1)))) ∧ (((decode cX2_behind 4 = .ok (.iconst 0, 1)) ∧ (decode cX2_behind 5 = .ok (.istore 4, 2))) ∧ ((decode cX2_behind 7 = .ok (.iload 4, 2)) ∧ (decode cX2_behind 9 = .ok (.aload_n 0, 1))))) ∧ ((((decode cX2_behind 10 = .ok (.getfield 9, 3)) ∧ (decode cX2_behind 13 = .ok (.if_icmp .ge 35, 3))) ∧ ((decode cX2_behind 16 = .ok (.aload_n 0, 1)) ∧ (decode cX2_behind 17 = .ok (.aload_n 0, 1)))) ∧ (((decode cX2_behind 18 = .ok (.getfield 22, 3)) ∧ (decode cX2_behind 21 = .ok (.iload_n 3, 1))) ∧ ((decode cX2_behind 22 = .ok (.iaload, 1)) ∧ (decode cX2_behind 23 = .ok (.invokevirtual 42, 3)))))) := by decide +kernel
theorem dX2_behind_0 : decode cX2_behind 0 = .ok (.iconst 0, 1) := kX2_behind_0.1.1.1.1
theorem dX2_behind_1 : decode cX2_behind 1 = .ok (.istore_n 2, 1) := kX2_behind_0.1.1.1.2
theorem dX2_behind_2 : decode cX2_behind 2 = .ok (.iload_n 1, 1) := kX2_behind_0.1.1.2.1
theorem dX2_behind_3 : decode cX2_behind 3 = .ok (.istore_n 3, 1) := kX2_behind_0.1.1.2.2
theorem dX2_behind_4 : decode cX2_behind 4 = .ok (.iconst 0, 1) := kX2_behind_0.1.2.1.1
theorem dX2_behind_5 : decode cX2_behind 5 = .ok (.istore 4, 2) := kX2_behind_0.1.2.1.2
theorem dX2_behind_7 : decode cX2_behind 7 = .ok (.iload 4, 2) := kX2_behind_0.1.2.2.1
theorem dX2_behind_9 : decode cX2_behind 9 = .ok (.aload_n 0, 1) := kX2_behind_0.1.2.2.2
theorem dX2_behind_10 : decode cX2_behind 10 = .ok (.getfield 9, 3) := kX2_behind_0.2.1.1.1
theorem dX2_behind_13 : decode cX2_behind 13 = .ok (.if_icmp .ge 35, 3) := kX2_behind_0.2.1.1.2
theorem dX2_behind_16 : decode cX2_behind 16 = .ok (.aload_n 0, 1) := kX2_behind_0.2.1.2.1
theorem dX2_behind_17 : decode cX2_behind 17 = .ok (.aload_n 0, 1) := kX2_behind_0.2.1.2.2
theorem dX2_behind_18 : decode cX2_behind 18 = .ok (.getfield 22, 3) := kX2_behind_0.2.2.1.1
theorem dX2_behind_21 : decode cX2_behind 21 = .ok (.iload_n 3, 1) := kX2_behind_0.2.2.1.2
theorem dX2_behind_22 : decode cX2_behind 22 = .ok (.iaload, 1) := kX2_behind_0.2.2.2.1
theorem dX2_behind_23 : decode cX2_behind 23 = .ok (.invokevirtual 42, 3) := kX2_behind_0.2.2.2.2
theorem kX2_behind_26 : (((((decode cX2_behind 26 = .ok (.ifCond .eq 22, 3)) ∧ (decode cX2_behind 29 = .ok (.aload_n 0, 1))) ∧ ((decode cX2_behind 30 = .ok (.getfield 22, 3)) ∧ (decode cX2_behind 33 = .ok (.iload_n 3, 1)))) ∧ (((decode cX2_behind 34 = .ok (.iaload, 1)) ∧ (decode cX2_behind 35 = .ok (.istore_n 3, 1))) ∧ ((decode cX2_behind 36 = .ok (.iload_n 2, 1)) ∧ (decode cX2_behind 37 = .ok (.iconst 1, 1))))) ∧ ((((decode cX2_behind 38 = .ok (.iload_n 3, 1)) ∧ (decode cX2_behind 39 = .ok (.ishl, 1))) ∧ ((decode cX2_behind 40 = .ok (.ior, 1)) ∧ (decode cX2_behind 41 = .ok (.istore_n 2, 1)))) ∧ (((decode cX2_behind 42 = .ok (.iinc 4 1, 3)) ∧ (decode cX2_behind 45 = .ok (.goto (-38), 3))) ∧ ((decode cX2_behind 48 = .ok (.iload_n 2, 1)) ∧ (decode cX2_behind 49 = .ok (.ireturn, 1)))))) := by decide +kernel
theorem dX2_behind_26 : decode cX2_behind 26 = .ok (.ifCond .eq 22, 3) := kX2_behind_26.1.1.1.1
theorem dX2_behind_29 : decode cX2_behind 29 = .ok (.aload_n 0, 1) := kX2_behind_26.1.1.1.2
theorem dX2_behind_30 : decode cX2_behind 30 = .ok (.getfield 22, 3) := kX2_behind_26.1.1.2.1
theorem dX2_behind_33 : decode cX2_behind 33 = .ok (.iload_n 3, 1) := kX2_behind_26.1.1.2.2
theorem dX2_behind_34 : decode cX2_behind 34 = .ok (.iaload, 1) := kX2_behind_26.1.2.1.1
theorem dX2_behind_35 : decode cX2_behind 35 = .ok (.istore_n 3, 1) := kX2_behind_26.1.2.1.2
theorem dX2_behind_36 : decode cX2_behind 36 = .ok (.iload_n 2, 1) := kX2_behind_26.1.2.2.1
theorem dX2_behind_37 : decode cX2_behind 37 = .ok (.iconst 1, 1) := kX2_behind_26.1.2.2.2
theorem dX2_behind_38 : decode cX2_behind 38 = .ok (.iload_n 3, 1) := kX2_behind_26.2.1.1.1
theorem dX2_behind_39 : decode cX2_behind 39 = .ok (.ishl, 1) := kX2_behind_26.2.1.1.2
theorem dX2_behind_40 : decode cX2_behind 40 = .ok (.ior, 1) := kX2_behind_26.2.1.2.1
theorem dX2_behind_41 : decode cX2_behind 41 = .ok (.istore_n 2, 1) := kX2_behind_26.2.1.2.2
theorem dX2_behind_42 : decode cX2_behind 42 = .ok (.iinc 4 1, 3) := kX2_behind_26.2.2.1.1
theorem dX2_behind_45 : decode cX2_behind 45 = .ok (.goto (-38), 3) := kX2_behind_26.2.2.1.2
theorem dX2_behind_48 : decode cX2_behind 48 = .ok (.iload_n 2, 1) := kX2_behind_26.2.2.2.1
theorem dX2_behind_49 : decode cX2_behind 49 = .ok (.ireturn, 1) := kX2_behind_26.2.2.2.2
set_option maxRecDepth 20000 in
theorem ggX2_ring_X2_behind : GoodIn wsX2_ring wsX2_behind := goodIn_r _ [6, 1, 7, 8, 9, 10, 5, 11, 12, 13, 14, 15, 16, 17, 18] rfl (by decide +kernel)
set_option maxRecDepth 20000 in
theorem gX2_ring_X2_behind : GoodIn wsX2_ring (wsV RX2 45 RX2 yX2_behind wsX2_behind) := goodIn_app (goodIn_of _ (by decide +kernel)) ggX2_ring_X2_behind
theorem kX2_ring_0 : (((((decode cX2_ring 0 = .ok (.iconst 0, 1)) ∧ (decode cX2_ring 1 = .ok (.istore_n 1, 1))) ∧ ((decode cX2_ring 2 = .ok (.iconst 0, 1)) ∧ (decode cX2_ring 3 = .ok (.istore_n 2, 1)))) ∧ (((decode cX2_ring 4 = .ok (.iload_n 2, 1)) ∧ (decode cX2_ring 5 = .ok (.aload_n 0, 1))) ∧ ((decode cX2_ring 6 = .ok (.getfield 9, 3)) ∧ (decode cX2_ring 9 = .ok (.if_icmp .ge 21, 3))))) ∧ ((((decode cX2_ring 12 = .ok (.iload_n 1, 1)) ∧ (decode cX2_ring 13 = .ok (.aload_n 0, 1))) ∧ ((decode cX2_ring 14 = .ok (.iload_n 2, 1)) ∧ (decode cX2_ring 15 = .ok (.invokevirtual 45, 3)))) ∧ (((decode cX2_ring 18 = .ok (.iconst 1, 1)) ∧ (decode cX2_ring 19 = .ok (.iload_n 2, 1))) ∧ ((decode cX2_ring 20 = .ok (.ishl, 1)) ∧ (decode cX2_ring 21 = .ok (.iand, 1)))))) := by decide +kernel
theorem dX2_ring_0 : decode cX2_ring 0 = .ok (.iconst 0, 1) := kX2_ring_0.1.1.1.1
theorem dX2_ring_1 : decode cX2_ring 1 = .ok (.istore_n 1, 1) := kX2_ring_0.1.1.1.2
theorem dX2_ring_2 : decode cX2_ring 2 = .ok (.iconst 0, 1) := kX2_ring_0.1.1.2.1
theorem dX2_ring_3 : decode cX2_ring 3 = .ok (.istore_n 2, 1) := kX2_ring_0.1.1.2.2
theorem dX2_ring_4 : decode cX2_ring 4 = .ok (.iload_n 2, 1) := kX2_ring_0.1.2.1.1
theorem dX2_ring_5 : decode cX2_ring 5 = .ok (.aload_n 0, 1) := kX2_ring_0.1.2.1.2
theorem dX2_ring_6 : decode cX2_ring 6 = .ok (.getfield 9, 3) := kX2_ring_0.1.2.2.1
theorem dX2_ring_9 : decode cX2_ring 9 = .ok (.if_icmp .ge 21, 3) := kX2_ring_0.1.2.2.2
theorem dX2_ring_12 : decode cX2_ring 12 = .ok (.iload_n 1, 1) := kX2_ring_0.2.1.1.1
theorem dX2_ring_13 : decode cX2_ring 13 = .ok (.aload_n 0, 1) := kX2_ring_0.2.1.1.2
theorem dX2_ring_14 : decode cX2_ring 14 = .ok (.iload_n 2, 1) := kX2_ring_0.2.1.2.1
theorem dX2_ring_15 : decode cX2_ring 15 = .ok (.invokevirtual 45, 3) := kX2_ring_0.2.1.2.2
theorem dX2_ring_18 : decode cX2_ring 18 = .ok (.iconst 1, 1) := kX2_ring_0.2.2.1.1
theorem dX2_ring_19 : decode cX2_ring 19 = .ok (.iload_n 2, 1) := kX2_ring_0.2.2.1.2
theorem dX2_ring_20 : decode cX2_ring 20 = .ok (.ishl, 1) := kX2_ring_0.2.2.2.1
theorem dX2_ring_21 : decode cX2_ring 21 = .ok (.iand, 1) := kX2_ring_0.2.2.2.2
theorem kX2_ring_22 : ((((decode cX2_ring 22 = .ok (.ior, 1)) ∧ (decode cX2_ring 23 = .ok (.istore_n 1, 1))) ∧ (decode cX2_ring 24 = .ok (.iinc 2 1, 3))) ∧ (((decode cX2_ring 27 = .ok (.goto (-23), 3)) ∧ (decode cX2_ring 30 = .ok (.iload_n 1, 1))) ∧ (decode cX2_ring 31 = .ok (.ireturn, 1)))) := by decide +kernel
theorem dX2_ring_22 : decode cX2_ring 22 = .ok (.ior, 1) := kX2_ring_22.1.1.1
theorem dX2_ring_23 : decode cX2_ring 23 = .ok (.istore_n 1, 1) := kX2_ring_22.1.1.2
theorem dX2_ring_24 : decode cX2_ring 24 = .ok (.iinc 2 1, 3) := kX2_ring_22.1.2
theorem dX2_ring_27 : decode cX2_ring 27 = .ok (.goto (-23), 3) := kX2_ring_22.2.1.1
theorem dX2_ring_30 : decode cX2_ring 30 = .ok (.iload_n 1, 1) := kX2_ring_22.2.1.2
theorem dX2_ring_31 : decode cX2_ring 31 = .ok (.ireturn, 1) := kX2_ring_22.2.2
set_option maxRecDepth 20000 in
theorem ggX2_heads_X2_behind : GoodIn wsX2_heads wsX2_behind := goodIn_r _ [6, 1, 7, 8, 9, 10, 5, 11, 16, 17, 18, 19, 20, 21, 22] rfl (by decide +kernel)
set_option maxRecDepth 20000 in
theorem gX2_heads_X2_behind : GoodIn wsX2_heads (wsV RX2 45 RX2 yX2_behind wsX2_behind) := goodIn_app (goodIn_of _ (by decide +kernel)) ggX2_heads_X2_behind
set_option maxRecDepth 20000 in
theorem ggX2_heads_X2_woundBy : GoodIn wsX2_heads wsX2_woundBy := goodIn_r _ [15, 1, 7, 16, 17, 18, 19, 20, 21, 22] rfl (by decide +kernel)
set_option maxRecDepth 20000 in
theorem gX2_heads_X2_woundBy : GoodIn wsX2_heads (wsV RX2 38 RX2 yX2_woundBy wsX2_woundBy) := goodIn_app (goodIn_of _ (by decide +kernel)) ggX2_heads_X2_woundBy
theorem kX2_heads_0 : (((((decode cX2_heads 0 = .ok (.iconst 0, 1)) ∧ (decode cX2_heads 1 = .ok (.istore_n 2, 1))) ∧ ((decode cX2_heads 2 = .ok (.iconst 0, 1)) ∧ (decode cX2_heads 3 = .ok (.istore_n 3, 1)))) ∧ (((decode cX2_heads 4 = .ok (.iload_n 3, 1)) ∧ (decode cX2_heads 5 = .ok (.aload_n 0, 1))) ∧ ((decode cX2_heads 6 = .ok (.getfield 9, 3)) ∧ (decode cX2_heads 9 = .ok (.if_icmp .ge 56, 3))))) ∧ ((((decode cX2_heads 12 = .ok (.iload_n 3, 1)) ∧ (decode cX2_heads 13 = .ok (.iload_n 1, 1))) ∧ ((decode cX2_heads 14 = .ok (.if_icmp .eq 15, 3)) ∧ (decode cX2_heads 17 = .ok (.aload_n 0, 1)))) ∧ (((decode cX2_heads 18 = .ok (.iload_n 3, 1)) ∧ (decode cX2_heads 19 = .ok (.invokevirtual 45, 3))) ∧ ((decode cX2_heads 22 = .ok (.iconst 1, 1)) ∧ (decode cX2_heads 23 = .ok (.iload_n 1, 1)))))) := by decide +kernel
theorem dX2_heads_0 : decode cX2_heads 0 = .ok (.iconst 0, 1) := kX2_heads_0.1.1.1.1
theorem dX2_heads_1 : decode cX2_heads 1 = .ok (.istore_n 2, 1) := kX2_heads_0.1.1.1.2
theorem dX2_heads_2 : decode cX2_heads 2 = .ok (.iconst 0, 1) := kX2_heads_0.1.1.2.1
theorem dX2_heads_3 : decode cX2_heads 3 = .ok (.istore_n 3, 1) := kX2_heads_0.1.1.2.2
theorem dX2_heads_4 : decode cX2_heads 4 = .ok (.iload_n 3, 1) := kX2_heads_0.1.2.1.1
theorem dX2_heads_5 : decode cX2_heads 5 = .ok (.aload_n 0, 1) := kX2_heads_0.1.2.1.2
theorem dX2_heads_6 : decode cX2_heads 6 = .ok (.getfield 9, 3) := kX2_heads_0.1.2.2.1
theorem dX2_heads_9 : decode cX2_heads 9 = .ok (.if_icmp .ge 56, 3) := kX2_heads_0.1.2.2.2
theorem dX2_heads_12 : decode cX2_heads 12 = .ok (.iload_n 3, 1) := kX2_heads_0.2.1.1.1
theorem dX2_heads_13 : decode cX2_heads 13 = .ok (.iload_n 1, 1) := kX2_heads_0.2.1.1.2
theorem dX2_heads_14 : decode cX2_heads 14 = .ok (.if_icmp .eq 15, 3) := kX2_heads_0.2.1.2.1
theorem dX2_heads_17 : decode cX2_heads 17 = .ok (.aload_n 0, 1) := kX2_heads_0.2.1.2.2
theorem dX2_heads_18 : decode cX2_heads 18 = .ok (.iload_n 3, 1) := kX2_heads_0.2.2.1.1
theorem dX2_heads_19 : decode cX2_heads 19 = .ok (.invokevirtual 45, 3) := kX2_heads_0.2.2.1.2
theorem dX2_heads_22 : decode cX2_heads 22 = .ok (.iconst 1, 1) := kX2_heads_0.2.2.2.1
theorem dX2_heads_23 : decode cX2_heads 23 = .ok (.iload_n 1, 1) := kX2_heads_0.2.2.2.2
theorem kX2_heads_24 : (((((decode cX2_heads 24 = .ok (.ishl, 1)) ∧ (decode cX2_heads 25 = .ok (.iand, 1))) ∧ ((decode cX2_heads 26 = .ok (.ifCond .eq 7, 3)) ∧ (decode cX2_heads 29 = .ok (.iconst 1, 1)))) ∧ (((decode cX2_heads 30 = .ok (.goto 4, 3)) ∧ (decode cX2_heads 33 = .ok (.iconst 0, 1))) ∧ ((decode cX2_heads 34 = .ok (.istore 4, 2)) ∧ (decode cX2_heads 36 = .ok (.iload_n 2, 1))))) ∧ ((((decode cX2_heads 37 = .ok (.iload 4, 2)) ∧ (decode cX2_heads 39 = .ok (.ifCond .eq 17, 3))) ∧ ((decode cX2_heads 42 = .ok (.aload_n 0, 1)) ∧ (decode cX2_heads 43 = .ok (.iload_n 3, 1)))) ∧ (((decode cX2_heads 44 = .ok (.invokevirtual 38, 3)) ∧ (decode cX2_heads 47 = .ok (.ifCond .ne 9, 3))) ∧ ((decode cX2_heads 50 = .ok (.iconst 1, 1)) ∧ (decode cX2_heads 51 = .ok (.iload_n 3, 1)))))) := by decide +kernel
theorem dX2_heads_24 : decode cX2_heads 24 = .ok (.ishl, 1) := kX2_heads_24.1.1.1.1
theorem dX2_heads_25 : decode cX2_heads 25 = .ok (.iand, 1) := kX2_heads_24.1.1.1.2
theorem dX2_heads_26 : decode cX2_heads 26 = .ok (.ifCond .eq 7, 3) := kX2_heads_24.1.1.2.1
theorem dX2_heads_29 : decode cX2_heads 29 = .ok (.iconst 1, 1) := kX2_heads_24.1.1.2.2
theorem dX2_heads_30 : decode cX2_heads 30 = .ok (.goto 4, 3) := kX2_heads_24.1.2.1.1
theorem dX2_heads_33 : decode cX2_heads 33 = .ok (.iconst 0, 1) := kX2_heads_24.1.2.1.2
theorem dX2_heads_34 : decode cX2_heads 34 = .ok (.istore 4, 2) := kX2_heads_24.1.2.2.1
theorem dX2_heads_36 : decode cX2_heads 36 = .ok (.iload_n 2, 1) := kX2_heads_24.1.2.2.2
theorem dX2_heads_37 : decode cX2_heads 37 = .ok (.iload 4, 2) := kX2_heads_24.2.1.1.1
theorem dX2_heads_39 : decode cX2_heads 39 = .ok (.ifCond .eq 17, 3) := kX2_heads_24.2.1.1.2
theorem dX2_heads_42 : decode cX2_heads 42 = .ok (.aload_n 0, 1) := kX2_heads_24.2.1.2.1
theorem dX2_heads_43 : decode cX2_heads 43 = .ok (.iload_n 3, 1) := kX2_heads_24.2.1.2.2
theorem dX2_heads_44 : decode cX2_heads 44 = .ok (.invokevirtual 38, 3) := kX2_heads_24.2.2.1.1
theorem dX2_heads_47 : decode cX2_heads 47 = .ok (.ifCond .ne 9, 3) := kX2_heads_24.2.2.1.2
theorem dX2_heads_50 : decode cX2_heads 50 = .ok (.iconst 1, 1) := kX2_heads_24.2.2.2.1
theorem dX2_heads_51 : decode cX2_heads 51 = .ok (.iload_n 3, 1) := kX2_heads_24.2.2.2.2
theorem kX2_heads_52 : (((((decode cX2_heads 52 = .ok (.ishl, 1)) ∧ (decode cX2_heads 53 = .ok (.goto 4, 3))) ∧ (decode cX2_heads 56 = .ok (.iconst 0, 1))) ∧ ((decode cX2_heads 57 = .ok (.ior, 1)) ∧ (decode cX2_heads 58 = .ok (.istore_n 2, 1)))) ∧ (((decode cX2_heads 59 = .ok (.iinc 3 1, 3)) ∧ (decode cX2_heads 62 = .ok (.goto (-58), 3))) ∧ ((decode cX2_heads 65 = .ok (.iload_n 2, 1)) ∧ (decode cX2_heads 66 = .ok (.ireturn, 1))))) := by decide +kernel
theorem dX2_heads_52 : decode cX2_heads 52 = .ok (.ishl, 1) := kX2_heads_52.1.1.1.1
theorem dX2_heads_53 : decode cX2_heads 53 = .ok (.goto 4, 3) := kX2_heads_52.1.1.1.2
theorem dX2_heads_56 : decode cX2_heads 56 = .ok (.iconst 0, 1) := kX2_heads_52.1.1.2
theorem dX2_heads_57 : decode cX2_heads 57 = .ok (.ior, 1) := kX2_heads_52.1.2.1
theorem dX2_heads_58 : decode cX2_heads 58 = .ok (.istore_n 2, 1) := kX2_heads_52.1.2.2
theorem dX2_heads_59 : decode cX2_heads 59 = .ok (.iinc 3 1, 3) := kX2_heads_52.2.1.1
theorem dX2_heads_62 : decode cX2_heads 62 = .ok (.goto (-58), 3) := kX2_heads_52.2.1.2
theorem dX2_heads_65 : decode cX2_heads 65 = .ok (.iload_n 2, 1) := kX2_heads_52.2.2.1
theorem dX2_heads_66 : decode cX2_heads 66 = .ok (.ireturn, 1) := kX2_heads_52.2.2.2
theorem kX2_isWindingHour_0 : (((((decode cX2_isWindingHour 0 = .ok (.aload_n 0, 1)) ∧ (decode cX2_isWindingHour 1 = .ok (.getfield 28, 3))) ∧ (decode cX2_isWindingHour 4 = .ok (.bipush 8, 2))) ∧ ((decode cX2_isWindingHour 6 = .ok (.irem, 1)) ∧ (decode cX2_isWindingHour 7 = .ok (.ifCond .ne 7, 3)))) ∧ (((decode cX2_isWindingHour 10 = .ok (.iconst 1, 1)) ∧ (decode cX2_isWindingHour 11 = .ok (.goto 4, 3))) ∧ ((decode cX2_isWindingHour 14 = .ok (.iconst 0, 1)) ∧ (decode cX2_isWindingHour 15 = .ok (.ireturn, 1))))) := by decide +kernel
theorem dX2_isWindingHour_0 : decode cX2_isWindingHour 0 = .ok (.aload_n 0, 1) := kX2_isWindingHour_0.1.1.1.1
theorem dX2_isWindingHour_1 : decode cX2_isWindingHour 1 = .ok (.getfield 28, 3) := kX2_isWindingHour_0.1.1.1.2
theorem dX2_isWindingHour_4 : decode cX2_isWindingHour 4 = .ok (.bipush 8, 2) := kX2_isWindingHour_0.1.1.2
theorem dX2_isWindingHour_6 : decode cX2_isWindingHour 6 = .ok (.irem, 1) := kX2_isWindingHour_0.1.2.1
theorem dX2_isWindingHour_7 : decode cX2_isWindingHour 7 = .ok (.ifCond .ne 7, 3) := kX2_isWindingHour_0.1.2.2
theorem dX2_isWindingHour_10 : decode cX2_isWindingHour 10 = .ok (.iconst 1, 1) := kX2_isWindingHour_0.2.1.1
theorem dX2_isWindingHour_11 : decode cX2_isWindingHour 11 = .ok (.goto 4, 3) := kX2_isWindingHour_0.2.1.2
theorem dX2_isWindingHour_14 : decode cX2_isWindingHour 14 = .ok (.iconst 0, 1) := kX2_isWindingHour_0.2.2.1
theorem dX2_isWindingHour_15 : decode cX2_isWindingHour 15 = .ok (.ireturn, 1) := kX2_isWindingHour_0.2.2.2
set_option maxRecDepth 20000 in
theorem ggX2_winders_X2_isStopped : GoodIn wsX2_winders wsX2_isStopped := goodIn_r _ [7, 8, 13, 14, 15, 16, 17, 18, 19] rfl (by decide +kernel)
set_option maxRecDepth 20000 in
theorem gX2_winders_X2_isStopped : GoodIn wsX2_winders (wsV RX2 34 RX2 yX2_isStopped wsX2_isStopped) := goodIn_app (goodIn_of _ (by decide +kernel)) ggX2_winders_X2_isStopped
set_option maxRecDepth 20000 in
theorem ggX2_winders_X2_has : GoodIn wsX2_winders wsX2_has := goodIn_r _ [12, 1, 13, 14, 15, 16, 17, 18, 19] rfl (by decide +kernel)
set_option maxRecDepth 20000 in
theorem gX2_winders_X2_has : GoodIn wsX2_winders (wsV RX2 42 RX2 yX2_has wsX2_has) := goodIn_app (goodIn_of _ (by decide +kernel)) ggX2_winders_X2_has
theorem kX2_winders_0 : (((((decode cX2_winders 0 = .ok (.iconst 0, 1)) ∧ (decode cX2_winders 1 = .ok (.istore_n 1, 1))) ∧ ((decode cX2_winders 2 = .ok (.iconst 0, 1)) ∧ (decode cX2_winders 3 = .ok (.istore_n 2, 1)))) ∧ (((decode cX2_winders 4 = .ok (.iload_n 2, 1)) ∧ (decode cX2_winders 5 = .ok (.aload_n 0, 1))) ∧ ((decode cX2_winders 6 = .ok (.getfield 9, 3)) ∧ (decode cX2_winders 9 = .ok (.if_icmp .ge 40, 3))))) ∧ ((((decode cX2_winders 12 = .ok (.iload_n 1, 1)) ∧ (decode cX2_winders 13 = .ok (.aload_n 0, 1))) ∧ ((decode cX2_winders 14 = .ok (.iload_n 2, 1)) ∧ (decode cX2_winders 15 = .ok (.invokevirtual 34, 3)))) ∧ (((decode cX2_winders 18 = .ok (.ifCond .ne 22, 3)) ∧ (decode cX2_winders 21 = .ok (.aload_n 0, 1))) ∧ ((decode cX2_winders 22 = .ok (.aload_n 0, 1)) ∧ (decode cX2_winders 23 = .ok (.getfield 22, 3)))))) := by decide +kernel
theorem dX2_winders_0 : decode cX2_winders 0 = .ok (.iconst 0, 1) := kX2_winders_0.1.1.1.1
theorem dX2_winders_1 : decode cX2_winders 1 = .ok (.istore_n 1, 1) := kX2_winders_0.1.1.1.2
theorem dX2_winders_2 : decode cX2_winders 2 = .ok (.iconst 0, 1) := kX2_winders_0.1.1.2.1
theorem dX2_winders_3 : decode cX2_winders 3 = .ok (.istore_n 2, 1) := kX2_winders_0.1.1.2.2
theorem dX2_winders_4 : decode cX2_winders 4 = .ok (.iload_n 2, 1) := kX2_winders_0.1.2.1.1
theorem dX2_winders_5 : decode cX2_winders 5 = .ok (.aload_n 0, 1) := kX2_winders_0.1.2.1.2
theorem dX2_winders_6 : decode cX2_winders 6 = .ok (.getfield 9, 3) := kX2_winders_0.1.2.2.1
theorem dX2_winders_9 : decode cX2_winders 9 = .ok (.if_icmp .ge 40, 3) := kX2_winders_0.1.2.2.2
theorem dX2_winders_12 : decode cX2_winders 12 = .ok (.iload_n 1, 1) := kX2_winders_0.2.1.1.1
theorem dX2_winders_13 : decode cX2_winders 13 = .ok (.aload_n 0, 1) := kX2_winders_0.2.1.1.2
theorem dX2_winders_14 : decode cX2_winders 14 = .ok (.iload_n 2, 1) := kX2_winders_0.2.1.2.1
theorem dX2_winders_15 : decode cX2_winders 15 = .ok (.invokevirtual 34, 3) := kX2_winders_0.2.1.2.2
theorem dX2_winders_18 : decode cX2_winders 18 = .ok (.ifCond .ne 22, 3) := kX2_winders_0.2.2.1.1
theorem dX2_winders_21 : decode cX2_winders 21 = .ok (.aload_n 0, 1) := kX2_winders_0.2.2.1.2
theorem dX2_winders_22 : decode cX2_winders 22 = .ok (.aload_n 0, 1) := kX2_winders_0.2.2.2.1
theorem dX2_winders_23 : decode cX2_winders 23 = .ok (.getfield 22, 3) := kX2_winders_0.2.2.2.2
theorem kX2_winders_26 : (((((decode cX2_winders 26 = .ok (.iload_n 2, 1)) ∧ (decode cX2_winders 27 = .ok (.iaload, 1))) ∧ ((decode cX2_winders 28 = .ok (.invokevirtual 42, 3)) ∧ (decode cX2_winders 31 = .ok (.ifCond .eq 9, 3)))) ∧ (((decode cX2_winders 34 = .ok (.iconst 1, 1)) ∧ (decode cX2_winders 35 = .ok (.iload_n 2, 1))) ∧ ((decode cX2_winders 36 = .ok (.ishl, 1)) ∧ (decode cX2_winders 37 = .ok (.goto 4, 3))))) ∧ ((((decode cX2_winders 40 = .ok (.iconst 0, 1)) ∧ (decode cX2_winders 41 = .ok (.ior, 1))) ∧ ((decode cX2_winders 42 = .ok (.istore_n 1, 1)) ∧ (decode cX2_winders 43 = .ok (.iinc 2 1, 3)))) ∧ (((decode cX2_winders 46 = .ok (.goto (-42), 3)) ∧ (decode cX2_winders 49 = .ok (.iload_n 1, 1))) ∧ (decode cX2_winders 50 = .ok (.ireturn, 1))))) := by decide +kernel
theorem dX2_winders_26 : decode cX2_winders 26 = .ok (.iload_n 2, 1) := kX2_winders_26.1.1.1.1
theorem dX2_winders_27 : decode cX2_winders 27 = .ok (.iaload, 1) := kX2_winders_26.1.1.1.2
theorem dX2_winders_28 : decode cX2_winders 28 = .ok (.invokevirtual 42, 3) := kX2_winders_26.1.1.2.1
theorem dX2_winders_31 : decode cX2_winders 31 = .ok (.ifCond .eq 9, 3) := kX2_winders_26.1.1.2.2
theorem dX2_winders_34 : decode cX2_winders 34 = .ok (.iconst 1, 1) := kX2_winders_26.1.2.1.1
theorem dX2_winders_35 : decode cX2_winders 35 = .ok (.iload_n 2, 1) := kX2_winders_26.1.2.1.2
theorem dX2_winders_36 : decode cX2_winders 36 = .ok (.ishl, 1) := kX2_winders_26.1.2.2.1
theorem dX2_winders_37 : decode cX2_winders 37 = .ok (.goto 4, 3) := kX2_winders_26.1.2.2.2
theorem dX2_winders_40 : decode cX2_winders 40 = .ok (.iconst 0, 1) := kX2_winders_26.2.1.1.1
theorem dX2_winders_41 : decode cX2_winders 41 = .ok (.ior, 1) := kX2_winders_26.2.1.1.2
theorem dX2_winders_42 : decode cX2_winders 42 = .ok (.istore_n 1, 1) := kX2_winders_26.2.1.2.1
theorem dX2_winders_43 : decode cX2_winders 43 = .ok (.iinc 2 1, 3) := kX2_winders_26.2.1.2.2
theorem dX2_winders_46 : decode cX2_winders 46 = .ok (.goto (-42), 3) := kX2_winders_26.2.2.1.1
theorem dX2_winders_49 : decode cX2_winders 49 = .ok (.iload_n 1, 1) := kX2_winders_26.2.2.1.2
theorem dX2_winders_50 : decode cX2_winders 50 = .ok (.ireturn, 1) := kX2_winders_26.2.2.2
theorem kX2_addTurns_0 : (((((decode cX2_addTurns 0 = .ok (.aload_n 0, 1)) ∧ (decode cX2_addTurns 1 = .ok (.getfield 19, 3))) ∧ ((decode cX2_addTurns 4 = .ok (.iload_n 1, 1)) ∧ (decode cX2_addTurns 5 = .ok (.bipush 30, 2)))) ∧ (((decode cX2_addTurns 7 = .ok (.aload_n 0, 1)) ∧ (decode cX2_addTurns 8 = .ok (.getfield 19, 3))) ∧ (decode cX2_addTurns 11 = .ok (.iload_n 1, 1)))) ∧ ((((decode cX2_addTurns 12 = .ok (.iaload, 1)) ∧ (decode cX2_addTurns 13 = .ok (.iload_n 2, 1))) ∧ (decode cX2_addTurns 14 = .ok (.iadd, 1))) ∧ (((decode cX2_addTurns 15 = .ok (.invokestatic 48, 3)) ∧ (decode cX2_addTurns 18 = .ok (.iastore, 1))) ∧ (decode cX2_addTurns 19 = .ok (.return_, 1))))) := by decide +kernel
theorem dX2_addTurns_0 : decode cX2_addTurns 0 = .ok (.aload_n 0, 1) := kX2_addTurns_0.1.1.1.1
theorem dX2_addTurns_1 : decode cX2_addTurns 1 = .ok (.getfield 19, 3) := kX2_addTurns_0.1.1.1.2
theorem dX2_addTurns_4 : decode cX2_addTurns 4 = .ok (.iload_n 1, 1) := kX2_addTurns_0.1.1.2.1
theorem dX2_addTurns_5 : decode cX2_addTurns 5 = .ok (.bipush 30, 2) := kX2_addTurns_0.1.1.2.2
theorem dX2_addTurns_7 : decode cX2_addTurns 7 = .ok (.aload_n 0, 1) := kX2_addTurns_0.1.2.1.1
theorem dX2_addTurns_8 : decode cX2_addTurns 8 = .ok (.getfield 19, 3) := kX2_addTurns_0.1.2.1.2
theorem dX2_addTurns_11 : decode cX2_addTurns 11 = .ok (.iload_n 1, 1) := kX2_addTurns_0.1.2.2
theorem dX2_addTurns_12 : decode cX2_addTurns 12 = .ok (.iaload, 1) := kX2_addTurns_0.2.1.1.1
theorem dX2_addTurns_13 : decode cX2_addTurns 13 = .ok (.iload_n 2, 1) := kX2_addTurns_0.2.1.1.2
theorem dX2_addTurns_14 : decode cX2_addTurns 14 = .ok (.iadd, 1) := kX2_addTurns_0.2.1.2
theorem dX2_addTurns_15 : decode cX2_addTurns 15 = .ok (.invokestatic 48, 3) := kX2_addTurns_0.2.2.1.1
theorem dX2_addTurns_18 : decode cX2_addTurns 18 = .ok (.iastore, 1) := kX2_addTurns_0.2.2.1.2
theorem dX2_addTurns_19 : decode cX2_addTurns 19 = .ok (.return_, 1) := kX2_addTurns_0.2.2.2
set_option maxRecDepth 20000 in
theorem ggX2_wind_X2_has : GoodIn wsX2_wind wsX2_has := goodIn_r _ [8, 1, 18, 19, 20, 21, 22, 23, 24] rfl (by decide +kernel)
set_option maxRecDepth 20000 in
theorem gX2_wind_X2_has : GoodIn wsX2_wind (wsV RX2 42 RX2 yX2_has wsX2_has) := goodIn_app (goodIn_of _ (by decide +kernel)) ggX2_wind_X2_has
set_option maxRecDepth 20000 in
theorem ggX2_wind_X2_addTurns : GoodIn wsX2_wind wsX2_addTurns := goodIn_r _ [12, 13, 14, 15, 16, 17, 18, 19, 20, 21, 22, 23, 24] rfl (by decide +kernel)
set_option maxRecDepth 20000 in
theorem gX2_wind_X2_addTurns : GoodIn wsX2_wind (wsV RX2 54 RX2 yX2_addTurns wsX2_addTurns) := goodIn_app (goodIn_of _ (by decide +kernel)) ggX2_wind_X2_addTurns
theorem kX2_wind_0 : (((((decode cX2_wind 0 = .ok (.iconst 0, 1)) ∧ (decode cX2_wind 1 = .ok (.istore_n 2, 1))) ∧ ((decode cX2_wind 2 = .ok (.iload_n 2, 1)) ∧ (decode cX2_wind 3 = .ok (.aload_n 0, 1)))) ∧ (((decode cX2_wind 4 = .ok (.getfield 9, 3)) ∧ (decode cX2_wind 7 = .ok (.if_icmp .ge 46, 3))) ∧ ((decode cX2_wind 10 = .ok (.iload_n 1, 1)) ∧ (decode cX2_wind 11 = .ok (.iconst 1, 1))))) ∧ ((((decode cX2_wind 12 = .ok (.iload_n 2, 1)) ∧ (decode cX2_wind 13 = .ok (.ishl, 1))) ∧ ((decode cX2_wind 14 = .ok (.iand, 1)) ∧ (decode cX2_wind 15 = .ok (.ifCond .eq 32, 3)))) ∧ (((decode cX2_wind 18 = .ok (.aload_n 0, 1)) ∧ (decode cX2_wind 19 = .ok (.aload_n 0, 1))) ∧ ((decode cX2_wind 20 = .ok (.getfield 22, 3)) ∧ (decode cX2_wind 23 = .ok (.iload_n 2, 1)))))) := by decide +kernel
theorem dX2_wind_0 : decode cX2_wind 0 = .ok (.iconst 0, 1) := kX2_wind_0.1.1.1.1
theorem dX2_wind_1 : decode cX2_wind 1 = .ok (.istore_n 2, 1) := kX2_wind_0.1.1.1.2
theorem dX2_wind_2 : decode cX2_wind 2 = .ok (.iload_n 2, 1) := kX2_wind_0.1.1.2.1
theorem dX2_wind_3 : decode cX2_wind 3 = .ok (.aload_n 0, 1) := kX2_wind_0.1.1.2.2
theorem dX2_wind_4 : decode cX2_wind 4 = .ok (.getfield 9, 3) := kX2_wind_0.1.2.1.1
theorem dX2_wind_7 : decode cX2_wind 7 = .ok (.if_icmp .ge 46, 3) := kX2_wind_0.1.2.1.2
theorem dX2_wind_10 : decode cX2_wind 10 = .ok (.iload_n 1, 1) := kX2_wind_0.1.2.2.1
theorem dX2_wind_11 : decode cX2_wind 11 = .ok (.iconst 1, 1) := kX2_wind_0.1.2.2.2
theorem dX2_wind_12 : decode cX2_wind 12 = .ok (.iload_n 2, 1) := kX2_wind_0.2.1.1.1
theorem dX2_wind_13 : decode cX2_wind 13 = .ok (.ishl, 1) := kX2_wind_0.2.1.1.2
theorem dX2_wind_14 : decode cX2_wind 14 = .ok (.iand, 1) := kX2_wind_0.2.1.2.1
theorem dX2_wind_15 : decode cX2_wind 15 = .ok (.ifCond .eq 32, 3) := kX2_wind_0.2.1.2.2
theorem dX2_wind_18 : decode cX2_wind 18 = .ok (.aload_n 0, 1) := kX2_wind_0.2.2.1.1
theorem dX2_wind_19 : decode cX2_wind 19 = .ok (.aload_n 0, 1) := kX2_wind_0.2.2.1.2
theorem dX2_wind_20 : decode cX2_wind 20 = .ok (.getfield 22, 3) := kX2_wind_0.2.2.2.1
theorem dX2_wind_23 : decode cX2_wind 23 = .ok (.iload_n 2, 1) := kX2_wind_0.2.2.2.2
theorem kX2_wind_24 : (((((decode cX2_wind 24 = .ok (.iaload, 1)) ∧ (decode cX2_wind 25 = .ok (.invokevirtual 42, 3))) ∧ ((decode cX2_wind 28 = .ok (.ifCond .eq 19, 3)) ∧ (decode cX2_wind 31 = .ok (.aload_n 0, 1)))) ∧ (((decode cX2_wind 32 = .ok (.aload_n 0, 1)) ∧ (decode cX2_wind 33 = .ok (.getfield 22, 3))) ∧ ((decode cX2_wind 36 = .ok (.iload_n 2, 1)) ∧ (decode cX2_wind 37 = .ok (.iaload, 1))))) ∧ ((((decode cX2_wind 38 = .ok (.aload_n 0, 1)) ∧ (decode cX2_wind 39 = .ok (.getfield 25, 3))) ∧ ((decode cX2_wind 42 = .ok (.iload_n 2, 1)) ∧ (decode cX2_wind 43 = .ok (.iaload, 1)))) ∧ (((decode cX2_wind 44 = .ok (.invokevirtual 54, 3)) ∧ (decode cX2_wind 47 = .ok (.iinc 2 1, 3))) ∧ ((decode cX2_wind 50 = .ok (.goto (-48), 3)) ∧ (decode cX2_wind 53 = .ok (.return_, 1)))))) := by decide +kernel
theorem dX2_wind_24 : decode cX2_wind 24 = .ok (.iaload, 1) := kX2_wind_24.1.1.1.1
theorem dX2_wind_25 : decode cX2_wind 25 = .ok (.invokevirtual 42, 3) := kX2_wind_24.1.1.1.2
theorem dX2_wind_28 : decode cX2_wind 28 = .ok (.ifCond .eq 19, 3) := kX2_wind_24.1.1.2.1
theorem dX2_wind_31 : decode cX2_wind 31 = .ok (.aload_n 0, 1) := kX2_wind_24.1.1.2.2
theorem dX2_wind_32 : decode cX2_wind 32 = .ok (.aload_n 0, 1) := kX2_wind_24.1.2.1.1
theorem dX2_wind_33 : decode cX2_wind 33 = .ok (.getfield 22, 3) := kX2_wind_24.1.2.1.2
theorem dX2_wind_36 : decode cX2_wind 36 = .ok (.iload_n 2, 1) := kX2_wind_24.1.2.2.1
theorem dX2_wind_37 : decode cX2_wind 37 = .ok (.iaload, 1) := kX2_wind_24.1.2.2.2
theorem dX2_wind_38 : decode cX2_wind 38 = .ok (.aload_n 0, 1) := kX2_wind_24.2.1.1.1
theorem dX2_wind_39 : decode cX2_wind 39 = .ok (.getfield 25, 3) := kX2_wind_24.2.1.1.2
theorem dX2_wind_42 : decode cX2_wind 42 = .ok (.iload_n 2, 1) := kX2_wind_24.2.1.2.1
theorem dX2_wind_43 : decode cX2_wind 43 = .ok (.iaload, 1) := kX2_wind_24.2.1.2.2
theorem dX2_wind_44 : decode cX2_wind 44 = .ok (.invokevirtual 54, 3) := kX2_wind_24.2.2.1.1
theorem dX2_wind_47 : decode cX2_wind 47 = .ok (.iinc 2 1, 3) := kX2_wind_24.2.2.1.2
theorem dX2_wind_50 : decode cX2_wind 50 = .ok (.goto (-48), 3) := kX2_wind_24.2.2.2.1
theorem dX2_wind_53 : decode cX2_wind 53 = .ok (.return_, 1) := kX2_wind_24.2.2.2.2
set_option maxRecDepth 20000 in
theorem ggX2_run_X2_stopped : GoodIn wsX2_run wsX2_stopped := goodIn_r _ [12, 1, 13, 14, 15, 11, 16, 2, 39, 40, 41, 42, 43, 44, 45] rfl (by decide +kernel)
set_option maxRecDepth 20000 in
theorem gX2_run_X2_stopped : GoodIn wsX2_run (wsV RX2 58 RX2 yX2_stopped wsX2_stopped) := goodIn_app (goodIn_of _ (by decide +kernel)) ggX2_run_X2_stopped
set_option maxRecDepth 20000 in
theorem ggX2_run_X2_runsOff : GoodIn wsX2_run wsX2_runsOff := goodIn_r _ [20, 21, 22, 23, 24, 11, 25, 7, 26, 27, 28, 29, 30, 31, 32, 33, 34, 35, 36, 37, 38, 1, 39, 40, 41, 42, 43, 44, 45] rfl (by decide +kernel)
set_option maxRecDepth 20000 in
theorem gX2_run_X2_runsOff : GoodIn wsX2_run (wsV RX2 62 RX2 yX2_runsOff wsX2_runsOff) := goodIn_app (goodIn_of _ (by decide +kernel)) ggX2_run_X2_runsOff
theorem kX2_run_0 : (((((decode cX2_run 0 = .ok (.aload_n 0, 1)) ∧ (decode cX2_run 1 = .ok (.invokevirtual 58, 3))) ∧ ((decode cX2_run 4 = .ok (.istore_n 1, 1)) ∧ (decode cX2_run 5 = .ok (.iconst 0, 1)))) ∧ (((decode cX2_run 6 = .ok (.istore_n 2, 1)) ∧ (decode cX2_run 7 = .ok (.iload_n 2, 1))) ∧ ((decode cX2_run 8 = .ok (.aload_n 0, 1)) ∧ (decode cX2_run 9 = .ok (.getfield 9, 3))))) ∧ ((((decode cX2_run 12 = .ok (.if_icmp .ge 32, 3)) ∧ (decode cX2_run 15 = .ok (.aload_n 0, 1))) ∧ ((decode cX2_run 16 = .ok (.getfield 19, 3)) ∧ (decode cX2_run 19 = .ok (.iload_n 2, 1)))) ∧ (((decode cX2_run 20 = .ok (.iconst 0, 1)) ∧ (decode cX2_run 21 = .ok (.aload_n 0, 1))) ∧ ((decode cX2_run 22 = .ok (.getfield 19, 3)) ∧ (decode cX2_run 25 = .ok (.iload_n 2, 1)))))) := by decide +kernel
theorem dX2_run_0 : decode cX2_run 0 = .ok (.aload_n 0, 1) := kX2_run_0.1.1.1.1
theorem dX2_run_1 : decode cX2_run 1 = .ok (.invokevirtual 58, 3) := kX2_run_0.1.1.1.2
theorem dX2_run_4 : decode cX2_run 4 = .ok (.istore_n 1, 1) := kX2_run_0.1.1.2.1
theorem dX2_run_5 : decode cX2_run 5 = .ok (.iconst 0, 1) := kX2_run_0.1.1.2.2
theorem dX2_run_6 : decode cX2_run 6 = .ok (.istore_n 2, 1) := kX2_run_0.1.2.1.1
theorem dX2_run_7 : decode cX2_run 7 = .ok (.iload_n 2, 1) := kX2_run_0.1.2.1.2
theorem dX2_run_8 : decode cX2_run 8 = .ok (.aload_n 0, 1) := kX2_run_0.1.2.2.1
theorem dX2_run_9 : decode cX2_run 9 = .ok (.getfield 9, 3) := kX2_run_0.1.2.2.2
theorem dX2_run_12 : decode cX2_run 12 = .ok (.if_icmp .ge 32, 3) := kX2_run_0.2.1.1.1
theorem dX2_run_15 : decode cX2_run 15 = .ok (.aload_n 0, 1) := kX2_run_0.2.1.1.2
theorem dX2_run_16 : decode cX2_run 16 = .ok (.getfield 19, 3) := kX2_run_0.2.1.2.1
theorem dX2_run_19 : decode cX2_run 19 = .ok (.iload_n 2, 1) := kX2_run_0.2.1.2.2
theorem dX2_run_20 : decode cX2_run 20 = .ok (.iconst 0, 1) := kX2_run_0.2.2.1.1
theorem dX2_run_21 : decode cX2_run 21 = .ok (.aload_n 0, 1) := kX2_run_0.2.2.1.2
theorem dX2_run_22 : decode cX2_run 22 = .ok (.getfield 19, 3) := kX2_run_0.2.2.2.1
theorem dX2_run_25 : decode cX2_run 25 = .ok (.iload_n 2, 1) := kX2_run_0.2.2.2.2
theorem kX2_run_26 : (((((decode cX2_run 26 = .ok (.iaload, 1)) ∧ (decode cX2_run 27 = .ok (.aload_n 0, 1))) ∧ ((decode cX2_run 28 = .ok (.iload_n 2, 1)) ∧ (decode cX2_run 29 = .ok (.iload_n 1, 1)))) ∧ (((decode cX2_run 30 = .ok (.invokevirtual 62, 3)) ∧ (decode cX2_run 33 = .ok (.isub, 1))) ∧ ((decode cX2_run 34 = .ok (.invokestatic 65, 3)) ∧ (decode cX2_run 37 = .ok (.iastore, 1))))) ∧ ((((decode cX2_run 38 = .ok (.iinc 2 1, 3)) ∧ (decode cX2_run 41 = .ok (.goto (-34), 3))) ∧ ((decode cX2_run 44 = .ok (.aload_n 0, 1)) ∧ (decode cX2_run 45 = .ok (.dup, 1)))) ∧ (((decode cX2_run 46 = .ok (.getfield 28, 3)) ∧ (decode cX2_run 49 = .ok (.iconst 1, 1))) ∧ ((decode cX2_run 50 = .ok (.iadd, 1)) ∧ (decode cX2_run 51 = .ok (.putfield 28, 3)))))) := by decide +kernel
theorem dX2_run_26 : decode cX2_run 26 = .ok (.iaload, 1) := kX2_run_26.1.1.1.1
theorem dX2_run_27 : decode cX2_run 27 = .ok (.aload_n 0, 1) := kX2_run_26.1.1.1.2
theorem dX2_run_28 : decode cX2_run 28 = .ok (.iload_n 2, 1) := kX2_run_26.1.1.2.1
theorem dX2_run_29 : decode cX2_run 29 = .ok (.iload_n 1, 1) := kX2_run_26.1.1.2.2
theorem dX2_run_30 : decode cX2_run 30 = .ok (.invokevirtual 62, 3) := kX2_run_26.1.2.1.1
theorem dX2_run_33 : decode cX2_run 33 = .ok (.isub, 1) := kX2_run_26.1.2.1.2
theorem dX2_run_34 : decode cX2_run 34 = .ok (.invokestatic 65, 3) := kX2_run_26.1.2.2.1
theorem dX2_run_37 : decode cX2_run 37 = .ok (.iastore, 1) := kX2_run_26.1.2.2.2
theorem dX2_run_38 : decode cX2_run 38 = .ok (.iinc 2 1, 3) := kX2_run_26.2.1.1.1
theorem dX2_run_41 : decode cX2_run 41 = .ok (.goto (-34), 3) := kX2_run_26.2.1.1.2
theorem dX2_run_44 : decode cX2_run 44 = .ok (.aload_n 0, 1) := kX2_run_26.2.1.2.1
theorem dX2_run_45 : decode cX2_run 45 = .ok (.dup, 1) := kX2_run_26.2.1.2.2
theorem dX2_run_46 : decode cX2_run 46 = .ok (.getfield 28, 3) := kX2_run_26.2.2.1.1
theorem dX2_run_49 : decode cX2_run 49 = .ok (.iconst 1, 1) := kX2_run_26.2.2.1.2
theorem dX2_run_50 : decode cX2_run 50 = .ok (.iadd, 1) := kX2_run_26.2.2.2.1
theorem dX2_run_51 : decode cX2_run 51 = .ok (.putfield 28, 3) := kX2_run_26.2.2.2.2
theorem dX2_run_54 : decode cX2_run 54 = .ok (.return_, 1) := by decide +kernel
set_option maxRecDepth 20000 in
theorem ggX2_passHour_X2_isWindingHour : GoodIn wsX2_passHour wsX2_isWindingHour := goodIn_r _ [5, 6, 67, 68, 69, 70, 71, 72, 73] rfl (by decide +kernel)
set_option maxRecDepth 20000 in
theorem gX2_passHour_X2_isWindingHour : GoodIn wsX2_passHour (wsV RX2 68 RX2 yX2_isWindingHour wsX2_isWindingHour) := goodIn_app (goodIn_of _ (by decide +kernel)) ggX2_passHour_X2_isWindingHour
set_option maxRecDepth 20000 in
theorem ggX2_passHour_X2_winders : GoodIn wsX2_passHour wsX2_winders := goodIn_r _ [10, 11, 12, 13, 14, 15, 4, 16, 17, 18, 19, 20, 21, 67, 68, 69, 70, 71, 72, 73] rfl (by decide +kernel)
set_option maxRecDepth 20000 in
theorem gX2_passHour_X2_winders : GoodIn wsX2_passHour (wsV RX2 72 RX2 yX2_winders wsX2_winders) := goodIn_app (goodIn_of _ (by decide +kernel)) ggX2_passHour_X2_winders
set_option maxRecDepth 20000 in
theorem ggX2_passHour_X2_wind : GoodIn wsX2_passHour wsX2_wind := goodIn_r _ [25, 11, 12, 26, 18, 19, 20, 4, 21, 27, 28, 29, 30, 17, 31, 32, 33, 34, 67, 68, 69, 70, 71, 72, 73] rfl (by decide +kernel)
set_option maxRecDepth 20000 in
theorem gX2_passHour_X2_wind : GoodIn wsX2_passHour (wsV RX2 75 RX2 yX2_wind wsX2_wind) := goodIn_app (goodIn_of _ (by decide +kernel)) ggX2_passHour_X2_wind
set_option maxRecDepth 20000 in
theorem ggX2_passHour_X2_run : GoodIn wsX2_passHour wsX2_run := goodIn_r _ [38, 11, 17, 39, 40, 33, 41, 6, 42, 43, 44, 4, 45, 13, 14, 15, 16, 46, 47, 48, 49, 50, 51, 52, 53, 54, 55, 56, 57, 58, 59, 60, 61, 62, 12, 63, 64, 65, 66, 67, 68, 69, 70, 71, 72, 73] rfl (by decide +kernel)
set_option maxRecDepth 20000 in
theorem gX2_passHour_X2_run : GoodIn wsX2_passHour (wsV RX2 79 RX2 yX2_run wsX2_run) := goodIn_app (goodIn_of _ (by decide +kernel)) ggX2_passHour_X2_run
theorem kX2_passHour_0 : (((((decode cX2_passHour 0 = .ok (.aload_n 0, 1)) ∧ (decode cX2_passHour 1 = .ok (.invokevirtual 68, 3))) ∧ (decode cX2_passHour 4 = .ok (.ifCond .eq 11, 3))) ∧ ((decode cX2_passHour 7 = .ok (.aload_n 0, 1)) ∧ (decode cX2_passHour 8 = .ok (.aload_n 0, 1)))) ∧ ((((decode cX2_passHour 9 = .ok (.invokevirtual 72, 3)) ∧ (decode cX2_passHour 12 = .ok (.invokevirtual 75, 3))) ∧ (decode cX2_passHour 15 = .ok (.aload_n 0, 1))) ∧ ((decode cX2_passHour 16 = .ok (.invokevirtual 79, 3)) ∧ (decode cX2_passHour 19 = .ok (.return_, 1))))) := by decide +kernel
theorem dX2_passHour_0 : decode cX2_passHour 0 = .ok (.aload_n 0, 1) := kX2_passHour_0.1.1.1.1
theorem dX2_passHour_1 : decode cX2_passHour 1 = .ok (.invokevirtual 68, 3) := kX2_passHour_0.1.1.1.2
theorem dX2_passHour_4 : decode cX2_passHour 4 = .ok (.ifCond .eq 11, 3) := kX2_passHour_0.1.1.2
theorem dX2_passHour_7 : decode cX2_passHour 7 = .ok (.aload_n 0, 1) := kX2_passHour_0.1.2.1
theorem dX2_passHour_8 : decode cX2_passHour 8 = .ok (.aload_n 0, 1) := kX2_passHour_0.1.2.2
theorem dX2_passHour_9 : decode cX2_passHour 9 = .ok (.invokevirtual 72, 3) := kX2_passHour_0.2.1.1.1
theorem dX2_passHour_12 : decode cX2_passHour 12 = .ok (.invokevirtual 75, 3) := kX2_passHour_0.2.1.1.2
theorem dX2_passHour_15 : decode cX2_passHour 15 = .ok (.aload_n 0, 1) := kX2_passHour_0.2.1.2
theorem dX2_passHour_16 : decode cX2_passHour 16 = .ok (.invokevirtual 79, 3) := kX2_passHour_0.2.2.1
theorem dX2_passHour_19 : decode cX2_passHour 19 = .ok (.return_, 1) := kX2_passHour_0.2.2.2
set_option maxRecDepth 20000 in
theorem ggX2_passHours_X2_passHour : GoodIn wsX2_passHours wsX2_passHour := goodIn_r _ [5, 6, 7, 8, 4, 9, 10, 11, 12, 13, 14, 15, 16, 17, 18, 19, 20, 21, 22, 23, 24, 25, 26, 27, 28, 29, 30, 31, 32, 33, 34, 35, 36, 37, 38, 39, 40, 41, 42, 43, 44, 45, 46, 47, 48, 49, 50, 51, 52, 53, 54, 55, 56, 57, 58, 59, 60, 61, 62, 63, 64, 65, 66, 67, 68, 69, 70, 71, 72, 73, 74, 75, 76, 77] rfl (by decide +kernel)
set_option maxRecDepth 20000 in
theorem gX2_passHours_X2_passHour : GoodIn wsX2_passHours (wsV RX2 82 RX2 yX2_passHour wsX2_passHour) := goodIn_app (goodIn_of _ (by decide +kernel)) ggX2_passHours_X2_passHour
theorem kX2_passHours_0 : (((((decode cX2_passHours 0 = .ok (.iconst 0, 1)) ∧ (decode cX2_passHours 1 = .ok (.istore_n 2, 1))) ∧ (decode cX2_passHours 2 = .ok (.iload_n 2, 1))) ∧ ((decode cX2_passHours 3 = .ok (.iload_n 1, 1)) ∧ (decode cX2_passHours 4 = .ok (.if_icmp .ge 13, 3)))) ∧ ((((decode cX2_passHours 7 = .ok (.aload_n 0, 1)) ∧ (decode cX2_passHours 8 = .ok (.invokevirtual 82, 3))) ∧ (decode cX2_passHours 11 = .ok (.iinc 2 1, 3))) ∧ ((decode cX2_passHours 14 = .ok (.goto (-12), 3)) ∧ (decode cX2_passHours 17 = .ok (.return_, 1))))) := by decide +kernel
theorem dX2_passHours_0 : decode cX2_passHours 0 = .ok (.iconst 0, 1) := kX2_passHours_0.1.1.1.1
theorem dX2_passHours_1 : decode cX2_passHours 1 = .ok (.istore_n 2, 1) := kX2_passHours_0.1.1.1.2
theorem dX2_passHours_2 : decode cX2_passHours 2 = .ok (.iload_n 2, 1) := kX2_passHours_0.1.1.2
theorem dX2_passHours_3 : decode cX2_passHours 3 = .ok (.iload_n 1, 1) := kX2_passHours_0.1.2.1
theorem dX2_passHours_4 : decode cX2_passHours 4 = .ok (.if_icmp .ge 13, 3) := kX2_passHours_0.1.2.2
theorem dX2_passHours_7 : decode cX2_passHours 7 = .ok (.aload_n 0, 1) := kX2_passHours_0.2.1.1.1
theorem dX2_passHours_8 : decode cX2_passHours 8 = .ok (.invokevirtual 82, 3) := kX2_passHours_0.2.1.1.2
theorem dX2_passHours_11 : decode cX2_passHours 11 = .ok (.iinc 2 1, 3) := kX2_passHours_0.2.1.2
theorem dX2_passHours_14 : decode cX2_passHours 14 = .ok (.goto (-12), 3) := kX2_passHours_0.2.2.1
theorem dX2_passHours_17 : decode cX2_passHours 17 = .ok (.return_, 1) := kX2_passHours_0.2.2.2
set_option maxRecDepth 20000 in
theorem ggX2_passUntilStopped_X2_stopped : GoodIn wsX2_passUntilStopped wsX2_stopped := goodIn_r _ [5, 6, 7, 8, 9, 4, 10, 11, 71, 72, 73, 74, 75, 76, 77] rfl (by decide +kernel)
set_option maxRecDepth 20000 in
theorem gX2_passUntilStopped_X2_stopped : GoodIn wsX2_passUntilStopped (wsV RX2 58 RX2 yX2_stopped wsX2_stopped) := goodIn_app (goodIn_of _ (by decide +kernel)) ggX2_passUntilStopped_X2_stopped
set_option maxRecDepth 20000 in
theorem ggX2_passUntilStopped_X2_passHour : GoodIn wsX2_passUntilStopped wsX2_passHour := goodIn_r _ [15, 16, 17, 18, 4, 19, 20, 21, 22, 23, 24, 6, 25, 7, 8, 9, 10, 11, 26, 27, 28, 29, 30, 31, 32, 33, 34, 35, 36, 37, 38, 39, 40, 41, 42, 43, 44, 45, 46, 47, 48, 49, 1, 2, 3, 5, 50, 51, 52, 53, 54, 55, 56, 57, 58, 59, 60, 61, 62, 63, 64, 65, 66, 67, 68, 69, 70, 71, 72, 73, 74, 75, 76, 77] rfl (by decide +kernel)
set_option maxRecDepth 20000 in
theorem gX2_passUntilStopped_X2_passHour : GoodIn wsX2_passUntilStopped (wsV RX2 82 RX2 yX2_passHour wsX2_passHour) := goodIn_app (goodIn_of _ (by decide +kernel)) ggX2_passUntilStopped_X2_passHour
theorem kX2_passUntilStopped_0 : (((((decode cX2_passUntilStopped 0 = .ok (.iconst 0, 1)) ∧ (decode cX2_passUntilStopped 1 = .ok (.istore_n 3, 1))) ∧ ((decode cX2_passUntilStopped 2 = .ok (.iload_n 3, 1)) ∧ (decode cX2_passUntilStopped 3 = .ok (.iload_n 2, 1)))) ∧ (((decode cX2_passUntilStopped 4 = .ok (.if_icmp .ge 25, 3)) ∧ (decode cX2_passUntilStopped 7 = .ok (.aload_n 0, 1))) ∧ ((decode cX2_passUntilStopped 8 = .ok (.invokevirtual 58, 3)) ∧ (decode cX2_passUntilStopped 11 = .ok (.iload_n 1, 1))))) ∧ ((((decode cX2_passUntilStopped 12 = .ok (.iand, 1)) ∧ (decode cX2_passUntilStopped 13 = .ok (.iload_n 1, 1))) ∧ ((decode cX2_passUntilStopped 14 = .ok (.if_icmp .ne 5, 3)) ∧ (decode cX2_passUntilStopped 17 = .ok (.iload_n 3, 1)))) ∧ (((decode cX2_passUntilStopped 18 = .ok (.ireturn, 1)) ∧ (decode cX2_passUntilStopped 19 = .ok (.aload_n 0, 1))) ∧ ((decode cX2_passUntilStopped 20 = .ok (.invokevirtual 82, 3)) ∧ (decode cX2_passUntilStopped 23 = .ok (.iinc 3 1, 3)))))) := by decide +kernel
theorem dX2_passUntilStopped_0 : decode cX2_passUntilStopped 0 = .ok (.iconst 0, 1) := kX2_passUntilStopped_0.1.1.1.1
theorem dX2_passUntilStopped_1 : decode cX2_passUntilStopped 1 = .ok (.istore_n 3, 1) := kX2_passUntilStopped_0.1.1.1.2
theorem dX2_passUntilStopped_2 : decode cX2_passUntilStopped 2 = .ok (.iload_n 3, 1) := kX2_passUntilStopped_0.1.1.2.1
theorem dX2_passUntilStopped_3 : decode cX2_passUntilStopped 3 = .ok (.iload_n 2, 1) := kX2_passUntilStopped_0.1.1.2.2
theorem dX2_passUntilStopped_4 : decode cX2_passUntilStopped 4 = .ok (.if_icmp .ge 25, 3) := kX2_passUntilStopped_0.1.2.1.1
theorem dX2_passUntilStopped_7 : decode cX2_passUntilStopped 7 = .ok (.aload_n 0, 1) := kX2_passUntilStopped_0.1.2.1.2
theorem dX2_passUntilStopped_8 : decode cX2_passUntilStopped 8 = .ok (.invokevirtual 58, 3) := kX2_passUntilStopped_0.1.2.2.1
theorem dX2_passUntilStopped_11 : decode cX2_passUntilStopped 11 = .ok (.iload_n 1, 1) := kX2_passUntilStopped_0.1.2.2.2
theorem dX2_passUntilStopped_12 : decode cX2_passUntilStopped 12 = .ok (.iand, 1) := kX2_passUntilStopped_0.2.1.1.1
theorem dX2_passUntilStopped_13 : decode cX2_passUntilStopped 13 = .ok (.iload_n 1, 1) := kX2_passUntilStopped_0.2.1.1.2
theorem dX2_passUntilStopped_14 : decode cX2_passUntilStopped 14 = .ok (.if_icmp .ne 5, 3) := kX2_passUntilStopped_0.2.1.2.1
theorem dX2_passUntilStopped_17 : decode cX2_passUntilStopped 17 = .ok (.iload_n 3, 1) := kX2_passUntilStopped_0.2.1.2.2
theorem dX2_passUntilStopped_18 : decode cX2_passUntilStopped 18 = .ok (.ireturn, 1) := kX2_passUntilStopped_0.2.2.1.1
theorem dX2_passUntilStopped_19 : decode cX2_passUntilStopped 19 = .ok (.aload_n 0, 1) := kX2_passUntilStopped_0.2.2.1.2
theorem dX2_passUntilStopped_20 : decode cX2_passUntilStopped 20 = .ok (.invokevirtual 82, 3) := kX2_passUntilStopped_0.2.2.2.1
theorem dX2_passUntilStopped_23 : decode cX2_passUntilStopped 23 = .ok (.iinc 3 1, 3) := kX2_passUntilStopped_0.2.2.2.2
theorem kX2_passUntilStopped_26 : (((((decode cX2_passUntilStopped 26 = .ok (.goto (-24), 3)) ∧ (decode cX2_passUntilStopped 29 = .ok (.aload_n 0, 1))) ∧ (decode cX2_passUntilStopped 30 = .ok (.invokevirtual 58, 3))) ∧ (((decode cX2_passUntilStopped 33 = .ok (.iload_n 1, 1)) ∧ (decode cX2_passUntilStopped 34 = .ok (.iand, 1))) ∧ (decode cX2_passUntilStopped 35 = .ok (.iload_n 1, 1)))) ∧ ((((decode cX2_passUntilStopped 36 = .ok (.if_icmp .ne 7, 3)) ∧ (decode cX2_passUntilStopped 39 = .ok (.iload_n 2, 1))) ∧ (decode cX2_passUntilStopped 40 = .ok (.goto 5, 3))) ∧ ((decode cX2_passUntilStopped 43 = .ok (.bipush (-4), 2)) ∧ (decode cX2_passUntilStopped 45 = .ok (.ireturn, 1))))) := by decide +kernel
theorem dX2_passUntilStopped_26 : decode cX2_passUntilStopped 26 = .ok (.goto (-24), 3) := kX2_passUntilStopped_26.1.1.1.1
theorem dX2_passUntilStopped_29 : decode cX2_passUntilStopped 29 = .ok (.aload_n 0, 1) := kX2_passUntilStopped_26.1.1.1.2
theorem dX2_passUntilStopped_30 : decode cX2_passUntilStopped 30 = .ok (.invokevirtual 58, 3) := kX2_passUntilStopped_26.1.1.2
theorem dX2_passUntilStopped_33 : decode cX2_passUntilStopped 33 = .ok (.iload_n 1, 1) := kX2_passUntilStopped_26.1.2.1.1
theorem dX2_passUntilStopped_34 : decode cX2_passUntilStopped 34 = .ok (.iand, 1) := kX2_passUntilStopped_26.1.2.1.2
theorem dX2_passUntilStopped_35 : decode cX2_passUntilStopped 35 = .ok (.iload_n 1, 1) := kX2_passUntilStopped_26.1.2.2
theorem dX2_passUntilStopped_36 : decode cX2_passUntilStopped 36 = .ok (.if_icmp .ne 7, 3) := kX2_passUntilStopped_26.2.1.1.1
theorem dX2_passUntilStopped_39 : decode cX2_passUntilStopped 39 = .ok (.iload_n 2, 1) := kX2_passUntilStopped_26.2.1.1.2
theorem dX2_passUntilStopped_40 : decode cX2_passUntilStopped 40 = .ok (.goto 5, 3) := kX2_passUntilStopped_26.2.1.2
theorem dX2_passUntilStopped_43 : decode cX2_passUntilStopped 43 = .ok (.bipush (-4), 2) := kX2_passUntilStopped_26.2.2.1
theorem dX2_passUntilStopped_45 : decode cX2_passUntilStopped 45 = .ok (.ireturn, 1) := kX2_passUntilStopped_26.2.2.2
set_option maxRecDepth 20000 in
theorem ggX2_runsOff_X2_runsConcern : GoodIn wsX2_runsOff wsX2_runsConcern := goodIn_r _ [6, 7, 22, 23, 24, 25, 26, 27, 28] rfl (by decide +kernel)
set_option maxRecDepth 20000 in
theorem gX2_runsOff_X2_runsConcern : GoodIn wsX2_runsOff (wsV RX2 85 RX2 yX2_runsConcern wsX2_runsConcern) := goodIn_app (goodIn_of _ (by decide +kernel)) ggX2_runsOff_X2_runsConcern
set_option maxRecDepth 20000 in
theorem ggX2_runsOff_X2_runsTender : GoodIn wsX2_runsOff wsX2_runsTender := goodIn_r _ [11, 7, 22, 23, 24, 25, 26, 27, 28] rfl (by decide +kernel)
set_option maxRecDepth 20000 in
theorem gX2_runsOff_X2_runsTender : GoodIn wsX2_runsOff (wsV RX2 88 RX2 yX2_runsTender wsX2_runsTender) := goodIn_app (goodIn_of _ (by decide +kernel)) ggX2_runsOff_X2_runsTender
set_option maxRecDepth 20000 in
theorem ggX2_runsOff_X2_windsOneOf : GoodIn wsX2_runsOff wsX2_windsOneOf := goodIn_r _ [15, 16, 22, 23, 24, 25, 26, 27, 28] rfl (by decide +kernel)
set_option maxRecDepth 20000 in
theorem gX2_runsOff_X2_windsOneOf : GoodIn wsX2_runsOff (wsV RX2 91 RX2 yX2_windsOneOf wsX2_windsOneOf) := goodIn_app (goodIn_of _ (by decide +kernel)) ggX2_runsOff_X2_windsOneOf
set_option maxRecDepth 20000 in
theorem ggX2_runsOff_X2_woundBy : GoodIn wsX2_runsOff wsX2_woundBy := goodIn_r _ [20, 21, 16, 22, 23, 24, 25, 26, 27, 28] rfl (by decide +kernel)
set_option maxRecDepth 20000 in
theorem gX2_runsOff_X2_woundBy : GoodIn wsX2_runsOff (wsV RX2 38 RX2 yX2_woundBy wsX2_woundBy) := goodIn_app (goodIn_of _ (by decide +kernel)) ggX2_runsOff_X2_woundBy
theorem kX2_runsOff_0 : (((((decode cX2_runsOff 0 = .ok (.iload_n 2, 1)) ∧ (decode cX2_runsOff 1 = .ok (.iconst 1, 1))) ∧ ((decode cX2_runsOff 2 = .ok (.iload_n 1, 1)) ∧ (decode cX2_runsOff 3 = .ok (.ishl, 1)))) ∧ (((decode cX2_runsOff 4 = .ok (.iand, 1)) ∧ (decode cX2_runsOff 5 = .ok (.ifCond .eq 5, 3))) ∧ ((decode cX2_runsOff 8 = .ok (.iconst 0, 1)) ∧ (decode cX2_runsOff 9 = .ok (.ireturn, 1))))) ∧ ((((decode cX2_runsOff 10 = .ok (.aload_n 0, 1)) ∧ (decode cX2_runsOff 11 = .ok (.getfield 15, 3))) ∧ ((decode cX2_runsOff 14 = .ok (.iload_n 1, 1)) ∧ (decode cX2_runsOff 15 = .ok (.iaload, 1)))) ∧ (((decode cX2_runsOff 16 = .ok (.tableswitch 81 1 4 #[32, 37, 42, 62], 32)) ∧ (decode cX2_runsOff 48 = .ok (.aload_n 0, 1))) ∧ ((decode cX2_runsOff 49 = .ok (.invokevirtual 85, 3)) ∧ (decode cX2_runsOff 52 = .ok (.ireturn, 1)))))) := by decide +kernel
theorem dX2_runsOff_0 : decode cX2_runsOff 0 = .ok (.iload_n 2, 1) := kX2_runsOff_0.1.1.1.1
theorem dX2_runsOff_1 : decode cX2_runsOff 1 = .ok (.iconst 1, 1) := kX2_runsOff_0.1.1.1.2
theorem dX2_runsOff_2 : decode cX2_runsOff 2 = .ok (.iload_n 1, 1) := kX2_runsOff_0.1.1.2.1
theorem dX2_runsOff_3 : decode cX2_runsOff 3 = .ok (.ishl, 1) := kX2_runsOff_0.1.1.2.2
theorem dX2_runsOff_4 : decode cX2_runsOff 4 = .ok (.iand, 1) := kX2_runsOff_0.1.2.1.1
theorem dX2_runsOff_5 : decode cX2_runsOff 5 = .ok (.ifCond .eq 5, 3) := kX2_runsOff_0.1.2.1.2
theorem dX2_runsOff_8 : decode cX2_runsOff 8 = .ok (.iconst 0, 1) := kX2_runsOff_0.1.2.2.1
theorem dX2_runsOff_9 : decode cX2_runsOff 9 = .ok (.ireturn, 1) := kX2_runsOff_0.1.2.2.2
theorem dX2_runsOff_10 : decode cX2_runsOff 10 = .ok (.aload_n 0, 1) := kX2_runsOff_0.2.1.1.1
theorem dX2_runsOff_11 : decode cX2_runsOff 11 = .ok (.getfield 15, 3) := kX2_runsOff_0.2.1.1.2
theorem dX2_runsOff_14 : decode cX2_runsOff 14 = .ok (.iload_n 1, 1) := kX2_runsOff_0.2.1.2.1
theorem dX2_runsOff_15 : decode cX2_runsOff 15 = .ok (.iaload, 1) := kX2_runsOff_0.2.1.2.2
theorem dX2_runsOff_16 : decode cX2_runsOff 16 = .ok (.tableswitch 81 1 4 #[32, 37, 42, 62], 32) := kX2_runsOff_0.2.2.1.1
theorem dX2_runsOff_48 : decode cX2_runsOff 48 = .ok (.aload_n 0, 1) := kX2_runsOff_0.2.2.1.2
theorem dX2_runsOff_49 : decode cX2_runsOff 49 = .ok (.invokevirtual 85, 3) := kX2_runsOff_0.2.2.2.1
theorem dX2_runsOff_52 : decode cX2_runsOff 52 = .ok (.ireturn, 1) := kX2_runsOff_0.2.2.2.2
theorem kX2_runsOff_53 : (((((decode cX2_runsOff 53 = .ok (.aload_n 0, 1)) ∧ (decode cX2_runsOff 54 = .ok (.invokevirtual 88, 3))) ∧ ((decode cX2_runsOff 57 = .ok (.ireturn, 1)) ∧ (decode cX2_runsOff 58 = .ok (.aload_n 0, 1)))) ∧ (((decode cX2_runsOff 59 = .ok (.invokevirtual 85, 3)) ∧ (decode cX2_runsOff 62 = .ok (.aload_n 0, 1))) ∧ ((decode cX2_runsOff 63 = .ok (.iload_n 1, 1)) ∧ (decode cX2_runsOff 64 = .ok (.iload_n 2, 1))))) ∧ ((((decode cX2_runsOff 65 = .ok (.invokevirtual 91, 3)) ∧ (decode cX2_runsOff 68 = .ok (.ifCond .eq 7, 3))) ∧ ((decode cX2_runsOff 71 = .ok (.iconst 2, 1)) ∧ (decode cX2_runsOff 72 = .ok (.goto 4, 3)))) ∧ (((decode cX2_runsOff 75 = .ok (.iconst 0, 1)) ∧ (decode cX2_runsOff 76 = .ok (.iadd, 1))) ∧ ((decode cX2_runsOff 77 = .ok (.ireturn, 1)) ∧ (decode cX2_runsOff 78 = .ok (.aload_n 0, 1)))))) := by decide +kernel
theorem dX2_runsOff_53 : decode cX2_runsOff 53 = .ok (.aload_n 0, 1) := kX2_runsOff_53.1.1.1.1
theorem dX2_runsOff_54 : decode cX2_runsOff 54 = .ok (.invokevirtual 88, 3) := kX2_runsOff_53.1.1.1.2
theorem dX2_runsOff_57 : decode cX2_runsOff 57 = .ok (.ireturn, 1) := kX2_runsOff_53.1.1.2.1
theorem dX2_runsOff_58 : decode cX2_runsOff 58 = .ok (.aload_n 0, 1) := kX2_runsOff_53.1.1.2.2
theorem dX2_runsOff_59 : decode cX2_runsOff 59 = .ok (.invokevirtual 85, 3) := kX2_runsOff_53.1.2.1.1
theorem dX2_runsOff_62 : decode cX2_runsOff 62 = .ok (.aload_n 0, 1) := kX2_runsOff_53.1.2.1.2
theorem dX2_runsOff_63 : decode cX2_runsOff 63 = .ok (.iload_n 1, 1) := kX2_runsOff_53.1.2.2.1
theorem dX2_runsOff_64 : decode cX2_runsOff 64 = .ok (.iload_n 2, 1) := kX2_runsOff_53.1.2.2.2
theorem dX2_runsOff_65 : decode cX2_runsOff 65 = .ok (.invokevirtual 91, 3) := kX2_runsOff_53.2.1.1.1
theorem dX2_runsOff_68 : decode cX2_runsOff 68 = .ok (.ifCond .eq 7, 3) := kX2_runsOff_53.2.1.1.2
theorem dX2_runsOff_71 : decode cX2_runsOff 71 = .ok (.iconst 2, 1) := kX2_runsOff_53.2.1.2.1
theorem dX2_runsOff_72 : decode cX2_runsOff 72 = .ok (.goto 4, 3) := kX2_runsOff_53.2.1.2.2
theorem dX2_runsOff_75 : decode cX2_runsOff 75 = .ok (.iconst 0, 1) := kX2_runsOff_53.2.2.1.1
theorem dX2_runsOff_76 : decode cX2_runsOff 76 = .ok (.iadd, 1) := kX2_runsOff_53.2.2.1.2
theorem dX2_runsOff_77 : decode cX2_runsOff 77 = .ok (.ireturn, 1) := kX2_runsOff_53.2.2.2.1
theorem dX2_runsOff_78 : decode cX2_runsOff 78 = .ok (.aload_n 0, 1) := kX2_runsOff_53.2.2.2.2
theorem kX2_runsOff_79 : (((((decode cX2_runsOff 79 = .ok (.invokevirtual 88, 3)) ∧ (decode cX2_runsOff 82 = .ok (.aload_n 0, 1))) ∧ (decode cX2_runsOff 83 = .ok (.iload_n 1, 1))) ∧ (((decode cX2_runsOff 84 = .ok (.invokevirtual 38, 3)) ∧ (decode cX2_runsOff 87 = .ok (.ifCond .ne 7, 3))) ∧ (decode cX2_runsOff 90 = .ok (.iconst 2, 1)))) ∧ ((((decode cX2_runsOff 91 = .ok (.goto 4, 3)) ∧ (decode cX2_runsOff 94 = .ok (.iconst 1, 1))) ∧ (decode cX2_runsOff 95 = .ok (.imul, 1))) ∧ (((decode cX2_runsOff 96 = .ok (.ireturn, 1)) ∧ (decode cX2_runsOff 97 = .ok (.iconst 1, 1))) ∧ (decode cX2_runsOff 98 = .ok (.ireturn, 1))))) := by decide +kernel
theorem dX2_runsOff_79 : decode cX2_runsOff 79 = .ok (.invokevirtual 88, 3) := kX2_runsOff_79.1.1.1.1
theorem dX2_runsOff_82 : decode cX2_runsOff 82 = .ok (.aload_n 0, 1) := kX2_runsOff_79.1.1.1.2
theorem dX2_runsOff_83 : decode cX2_runsOff 83 = .ok (.iload_n 1, 1) := kX2_runsOff_79.1.1.2
theorem dX2_runsOff_84 : decode cX2_runsOff 84 = .ok (.invokevirtual 38, 3) := kX2_runsOff_79.1.2.1.1
theorem dX2_runsOff_87 : decode cX2_runsOff 87 = .ok (.ifCond .ne 7, 3) := kX2_runsOff_79.1.2.1.2
theorem dX2_runsOff_90 : decode cX2_runsOff 90 = .ok (.iconst 2, 1) := kX2_runsOff_79.1.2.2
theorem dX2_runsOff_91 : decode cX2_runsOff 91 = .ok (.goto 4, 3) := kX2_runsOff_79.2.1.1.1
theorem dX2_runsOff_94 : decode cX2_runsOff 94 = .ok (.iconst 1, 1) := kX2_runsOff_79.2.1.1.2
theorem dX2_runsOff_95 : decode cX2_runsOff 95 = .ok (.imul, 1) := kX2_runsOff_79.2.1.2
theorem dX2_runsOff_96 : decode cX2_runsOff 96 = .ok (.ireturn, 1) := kX2_runsOff_79.2.2.1.1
theorem dX2_runsOff_97 : decode cX2_runsOff 97 = .ok (.iconst 1, 1) := kX2_runsOff_79.2.2.1.2
theorem dX2_runsOff_98 : decode cX2_runsOff 98 = .ok (.ireturn, 1) := kX2_runsOff_79.2.2.2
theorem kX2_runsConcern_0 : (((((decode cX2_runsConcern 0 = .ok (.aload_n 0, 1)) ∧ (decode cX2_runsConcern 1 = .ok (.getfield 28, 3))) ∧ (decode cX2_runsConcern 4 = .ok (.iconst 2, 1))) ∧ ((decode cX2_runsConcern 5 = .ok (.irem, 1)) ∧ (decode cX2_runsConcern 6 = .ok (.ifCond .ne 7, 3)))) ∧ (((decode cX2_runsConcern 9 = .ok (.iconst 2, 1)) ∧ (decode cX2_runsConcern 10 = .ok (.goto 4, 3))) ∧ ((decode cX2_runsConcern 13 = .ok (.iconst 1, 1)) ∧ (decode cX2_runsConcern 14 = .ok (.ireturn, 1))))) := by decide +kernel
theorem dX2_runsConcern_0 : decode cX2_runsConcern 0 = .ok (.aload_n 0, 1) := kX2_runsConcern_0.1.1.1.1
theorem dX2_runsConcern_1 : decode cX2_runsConcern 1 = .ok (.getfield 28, 3) := kX2_runsConcern_0.1.1.1.2
theorem dX2_runsConcern_4 : decode cX2_runsConcern 4 = .ok (.iconst 2, 1) := kX2_runsConcern_0.1.1.2
theorem dX2_runsConcern_5 : decode cX2_runsConcern 5 = .ok (.irem, 1) := kX2_runsConcern_0.1.2.1
theorem dX2_runsConcern_6 : decode cX2_runsConcern 6 = .ok (.ifCond .ne 7, 3) := kX2_runsConcern_0.1.2.2
theorem dX2_runsConcern_9 : decode cX2_runsConcern 9 = .ok (.iconst 2, 1) := kX2_runsConcern_0.2.1.1
theorem dX2_runsConcern_10 : decode cX2_runsConcern 10 = .ok (.goto 4, 3) := kX2_runsConcern_0.2.1.2
theorem dX2_runsConcern_13 : decode cX2_runsConcern 13 = .ok (.iconst 1, 1) := kX2_runsConcern_0.2.2.1
theorem dX2_runsConcern_14 : decode cX2_runsConcern 14 = .ok (.ireturn, 1) := kX2_runsConcern_0.2.2.2
theorem kX2_runsTender_0 : (((((decode cX2_runsTender 0 = .ok (.aload_n 0, 1)) ∧ (decode cX2_runsTender 1 = .ok (.getfield 28, 3))) ∧ (decode cX2_runsTender 4 = .ok (.iconst 3, 1))) ∧ ((decode cX2_runsTender 5 = .ok (.irem, 1)) ∧ (decode cX2_runsTender 6 = .ok (.ifCond .ne 7, 3)))) ∧ (((decode cX2_runsTender 9 = .ok (.iconst 0, 1)) ∧ (decode cX2_runsTender 10 = .ok (.goto 4, 3))) ∧ ((decode cX2_runsTender 13 = .ok (.iconst 1, 1)) ∧ (decode cX2_runsTender 14 = .ok (.ireturn, 1))))) := by decide +kernel
theorem dX2_runsTender_0 : decode cX2_runsTender 0 = .ok (.aload_n 0, 1) := kX2_runsTender_0.1.1.1.1
theorem dX2_runsTender_1 : decode cX2_runsTender 1 = .ok (.getfield 28, 3) := kX2_runsTender_0.1.1.1.2
theorem dX2_runsTender_4 : decode cX2_runsTender 4 = .ok (.iconst 3, 1) := kX2_runsTender_0.1.1.2
theorem dX2_runsTender_5 : decode cX2_runsTender 5 = .ok (.irem, 1) := kX2_runsTender_0.1.2.1
theorem dX2_runsTender_6 : decode cX2_runsTender 6 = .ok (.ifCond .ne 7, 3) := kX2_runsTender_0.1.2.2
theorem dX2_runsTender_9 : decode cX2_runsTender 9 = .ok (.iconst 0, 1) := kX2_runsTender_0.2.1.1
theorem dX2_runsTender_10 : decode cX2_runsTender 10 = .ok (.goto 4, 3) := kX2_runsTender_0.2.1.2
theorem dX2_runsTender_13 : decode cX2_runsTender 13 = .ok (.iconst 1, 1) := kX2_runsTender_0.2.2.1
theorem dX2_runsTender_14 : decode cX2_runsTender 14 = .ok (.ireturn, 1) := kX2_runsTender_0.2.2.2
theorem kX2_windsOneOf_0 : (((((decode cX2_windsOneOf 0 = .ok (.aload_n 0, 1)) ∧ (decode cX2_windsOneOf 1 = .ok (.getfield 22, 3))) ∧ ((decode cX2_windsOneOf 4 = .ok (.iload_n 1, 1)) ∧ (decode cX2_windsOneOf 5 = .ok (.iaload, 1)))) ∧ (((decode cX2_windsOneOf 6 = .ok (.bipush (-4), 2)) ∧ (decode cX2_windsOneOf 8 = .ok (.if_icmp .eq 20, 3))) ∧ ((decode cX2_windsOneOf 11 = .ok (.iload_n 2, 1)) ∧ (decode cX2_windsOneOf 12 = .ok (.iconst 1, 1))))) ∧ ((((decode cX2_windsOneOf 13 = .ok (.aload_n 0, 1)) ∧ (decode cX2_windsOneOf 14 = .ok (.getfield 22, 3))) ∧ ((decode cX2_windsOneOf 17 = .ok (.iload_n 1, 1)) ∧ (decode cX2_windsOneOf 18 = .ok (.iaload, 1)))) ∧ (((decode cX2_windsOneOf 19 = .ok (.ishl, 1)) ∧ (decode cX2_windsOneOf 20 = .ok (.iand, 1))) ∧ ((decode cX2_windsOneOf 21 = .ok (.ifCond .eq 7, 3)) ∧ (decode cX2_windsOneOf 24 = .ok (.iconst 1, 1)))))) := by decide +kernel
theorem dX2_windsOneOf_0 : decode cX2_windsOneOf 0 = .ok (.aload_n 0, 1) := kX2_windsOneOf_0.1.1.1.1
theorem dX2_windsOneOf_1 : decode cX2_windsOneOf 1 = .ok (.getfield 22, 3) := kX2_windsOneOf_0.1.1.1.2
theorem dX2_windsOneOf_4 : decode cX2_windsOneOf 4 = .ok (.iload_n 1, 1) := kX2_windsOneOf_0.1.1.2.1
theorem dX2_windsOneOf_5 : decode cX2_windsOneOf 5 = .ok (.iaload, 1) := kX2_windsOneOf_0.1.1.2.2
theorem dX2_windsOneOf_6 : decode cX2_windsOneOf 6 = .ok (.bipush (-4), 2) := kX2_windsOneOf_0.1.2.1.1
theorem dX2_windsOneOf_8 : decode cX2_windsOneOf 8 = .ok (.if_icmp .eq 20, 3) := kX2_windsOneOf_0.1.2.1.2
theorem dX2_windsOneOf_11 : decode cX2_windsOneOf 11 = .ok (.iload_n 2, 1) := kX2_windsOneOf_0.1.2.2.1
theorem dX2_windsOneOf_12 : decode cX2_windsOneOf 12 = .ok (.iconst 1, 1) := kX2_windsOneOf_0.1.2.2.2
theorem dX2_windsOneOf_13 : decode cX2_windsOneOf 13 = .ok (.aload_n 0, 1) := kX2_windsOneOf_0.2.1.1.1
theorem dX2_windsOneOf_14 : decode cX2_windsOneOf 14 = .ok (.getfield 22, 3) := kX2_windsOneOf_0.2.1.1.2
theorem dX2_windsOneOf_17 : decode cX2_windsOneOf 17 = .ok (.iload_n 1, 1) := kX2_windsOneOf_0.2.1.2.1
theorem dX2_windsOneOf_18 : decode cX2_windsOneOf 18 = .ok (.iaload, 1) := kX2_windsOneOf_0.2.1.2.2
theorem dX2_windsOneOf_19 : decode cX2_windsOneOf 19 = .ok (.ishl, 1) := kX2_windsOneOf_0.2.2.1.1
theorem dX2_windsOneOf_20 : decode cX2_windsOneOf 20 = .ok (.iand, 1) := kX2_windsOneOf_0.2.2.1.2
theorem dX2_windsOneOf_21 : decode cX2_windsOneOf 21 = .ok (.ifCond .eq 7, 3) := kX2_windsOneOf_0.2.2.2.1
theorem dX2_windsOneOf_24 : decode cX2_windsOneOf 24 = .ok (.iconst 1, 1) := kX2_windsOneOf_0.2.2.2.2
theorem kX2_windsOneOf_25 : (((decode cX2_windsOneOf 25 = .ok (.goto 4, 3)) ∧ (decode cX2_windsOneOf 28 = .ok (.iconst 0, 1))) ∧ (decode cX2_windsOneOf 29 = .ok (.ireturn, 1))) := by decide +kernel
theorem dX2_windsOneOf_25 : decode cX2_windsOneOf 25 = .ok (.goto 4, 3) := kX2_windsOneOf_25.1.1
theorem dX2_windsOneOf_28 : decode cX2_windsOneOf 28 = .ok (.iconst 0, 1) := kX2_windsOneOf_25.1.2
theorem dX2_windsOneOf_29 : decode cX2_windsOneOf 29 = .ok (.ireturn, 1) := kX2_windsOneOf_25.2
set_option maxRecDepth 20000 in
theorem ggX2_lendByDraw_X2_addTurns : GoodIn wsX2_lendByDraw wsX2_addTurns := goodIn_r _ [10, 11, 12, 13, 14, 15, 16, 17, 18, 19, 20, 21, 22] rfl (by decide +kernel)
set_option maxRecDepth 20000 in
theorem gX2_lendByDraw_X2_addTurns : GoodIn wsX2_lendByDraw (wsV RX2 54 RX2 yX2_addTurns wsX2_addTurns) := goodIn_app (goodIn_of _ (by decide +kernel)) ggX2_lendByDraw_X2_addTurns
theorem kX2_lendByDraw_0 : (((((decode cX2_lendByDraw 0 = .ok (.aload_n 0, 1)) ∧ (decode cX2_lendByDraw 1 = .ok (.aload_n 0, 1))) ∧ ((decode cX2_lendByDraw 2 = .ok (.getfield 31, 3)) ∧ (decode cX2_lendByDraw 5 = .ok (.ldc 95, 2)))) ∧ (((decode cX2_lendByDraw 7 = .ok (.imul, 1)) ∧ (decode cX2_lendByDraw 8 = .ok (.sipush 12345, 3))) ∧ ((decode cX2_lendByDraw 11 = .ok (.iadd, 1)) ∧ (decode cX2_lendByDraw 12 = .ok (.ldc 96, 2))))) ∧ ((((decode cX2_lendByDraw 14 = .ok (.iand, 1)) ∧ (decode cX2_lendByDraw 15 = .ok (.putfield 31, 3))) ∧ ((decode cX2_lendByDraw 18 = .ok (.aload_n 0, 1)) ∧ (decode cX2_lendByDraw 19 = .ok (.getfield 9, 3)))) ∧ (((decode cX2_lendByDraw 22 = .ok (.ifCond .le 33, 3)) ∧ (decode cX2_lendByDraw 25 = .ok (.aload_n 0, 1))) ∧ ((decode cX2_lendByDraw 26 = .ok (.getfield 31, 3)) ∧ (decode cX2_lendByDraw 29 = .ok (.ldc 97, 2)))))) := by decide +kernel
theorem dX2_lendByDraw_0 : decode cX2_lendByDraw 0 = .ok (.aload_n 0, 1) := kX2_lendByDraw_0.1.1.1.1
theorem dX2_lendByDraw_1 : decode cX2_lendByDraw 1 = .ok (.aload_n 0, 1) := kX2_lendByDraw_0.1.1.1.2
theorem dX2_lendByDraw_2 : decode cX2_lendByDraw 2 = .ok (.getfield 31, 3) := kX2_lendByDraw_0.1.1.2.1
theorem dX2_lendByDraw_5 : decode cX2_lendByDraw 5 = .ok (.ldc 95, 2) := kX2_lendByDraw_0.1.1.2.2
theorem dX2_lendByDraw_7 : decode cX2_lendByDraw 7 = .ok (.imul, 1) := kX2_lendByDraw_0.1.2.1.1
theorem dX2_lendByDraw_8 : decode cX2_lendByDraw 8 = .ok (.sipush 12345, 3) := kX2_lendByDraw_0.1.2.1.2
theorem dX2_lendByDraw_11 : decode cX2_lendByDraw 11 = .ok (.iadd, 1) := kX2_lendByDraw_0.1.2.2.1
theorem dX2_lendByDraw_12 : decode cX2_lendByDraw 12 = .ok (.ldc 96, 2) := kX2_lendByDraw_0.1.2.2.2
theorem dX2_lendByDraw_14 : decode cX2_lendByDraw 14 = .ok (.iand, 1) := kX2_lendByDraw_0.2.1.1.1
theorem dX2_lendByDraw_15 : decode cX2_lendByDraw 15 = .ok (.putfield 31, 3) := kX2_lendByDraw_0.2.1.1.2
theorem dX2_lendByDraw_18 : decode cX2_lendByDraw 18 = .ok (.aload_n 0, 1) := kX2_lendByDraw_0.2.1.2.1
theorem dX2_lendByDraw_19 : decode cX2_lendByDraw 19 = .ok (.getfield 9, 3) := kX2_lendByDraw_0.2.1.2.2
theorem dX2_lendByDraw_22 : decode cX2_lendByDraw 22 = .ok (.ifCond .le 33, 3) := kX2_lendByDraw_0.2.2.1.1
theorem dX2_lendByDraw_25 : decode cX2_lendByDraw 25 = .ok (.aload_n 0, 1) := kX2_lendByDraw_0.2.2.1.2
theorem dX2_lendByDraw_26 : decode cX2_lendByDraw 26 = .ok (.getfield 31, 3) := kX2_lendByDraw_0.2.2.2.1
theorem dX2_lendByDraw_29 : decode cX2_lendByDraw 29 = .ok (.ldc 97, 2) := kX2_lendByDraw_0.2.2.2.2
theorem kX2_lendByDraw_31 : (((((decode cX2_lendByDraw 31 = .ok (.idiv, 1)) ∧ (decode cX2_lendByDraw 32 = .ok (.iconst 4, 1))) ∧ ((decode cX2_lendByDraw 33 = .ok (.irem, 1)) ∧ (decode cX2_lendByDraw 34 = .ok (.ifCond .ne 21, 3)))) ∧ (((decode cX2_lendByDraw 37 = .ok (.aload_n 0, 1)) ∧ (decode cX2_lendByDraw 38 = .ok (.aload_n 0, 1))) ∧ ((decode cX2_lendByDraw 39 = .ok (.getfield 31, 3)) ∧ (decode cX2_lendByDraw 42 = .ok (.sipush 128, 3))))) ∧ ((((decode cX2_lendByDraw 45 = .ok (.idiv, 1)) ∧ (decode cX2_lendByDraw 46 = .ok (.aload_n 0, 1))) ∧ ((decode cX2_lendByDraw 47 = .ok (.getfield 9, 3)) ∧ (decode cX2_lendByDraw 50 = .ok (.irem, 1)))) ∧ (((decode cX2_lendByDraw 51 = .ok (.iconst 3, 1)) ∧ (decode cX2_lendByDraw 52 = .ok (.invokevirtual 54, 3))) ∧ (decode cX2_lendByDraw 55 = .ok (.return_, 1))))) := by decide +kernel
theorem dX2_lendByDraw_31 : decode cX2_lendByDraw 31 = .ok (.idiv, 1) := kX2_lendByDraw_31.1.1.1.1
theorem dX2_lendByDraw_32 : decode cX2_lendByDraw 32 = .ok (.iconst 4, 1) := kX2_lendByDraw_31.1.1.1.2
theorem dX2_lendByDraw_33 : decode cX2_lendByDraw 33 = .ok (.irem, 1) := kX2_lendByDraw_31.1.1.2.1
theorem dX2_lendByDraw_34 : decode cX2_lendByDraw 34 = .ok (.ifCond .ne 21, 3) := kX2_lendByDraw_31.1.1.2.2
theorem dX2_lendByDraw_37 : decode cX2_lendByDraw 37 = .ok (.aload_n 0, 1) := kX2_lendByDraw_31.1.2.1.1
theorem dX2_lendByDraw_38 : decode cX2_lendByDraw 38 = .ok (.aload_n 0, 1) := kX2_lendByDraw_31.1.2.1.2
theorem dX2_lendByDraw_39 : decode cX2_lendByDraw 39 = .ok (.getfield 31, 3) := kX2_lendByDraw_31.1.2.2.1
theorem dX2_lendByDraw_42 : decode cX2_lendByDraw 42 = .ok (.sipush 128, 3) := kX2_lendByDraw_31.1.2.2.2
theorem dX2_lendByDraw_45 : decode cX2_lendByDraw 45 = .ok (.idiv, 1) := kX2_lendByDraw_31.2.1.1.1
theorem dX2_lendByDraw_46 : decode cX2_lendByDraw 46 = .ok (.aload_n 0, 1) := kX2_lendByDraw_31.2.1.1.2
theorem dX2_lendByDraw_47 : decode cX2_lendByDraw 47 = .ok (.getfield 9, 3) := kX2_lendByDraw_31.2.1.2.1
theorem dX2_lendByDraw_50 : decode cX2_lendByDraw 50 = .ok (.irem, 1) := kX2_lendByDraw_31.2.1.2.2
theorem dX2_lendByDraw_51 : decode cX2_lendByDraw 51 = .ok (.iconst 3, 1) := kX2_lendByDraw_31.2.2.1.1
theorem dX2_lendByDraw_52 : decode cX2_lendByDraw 52 = .ok (.invokevirtual 54, 3) := kX2_lendByDraw_31.2.2.1.2
theorem dX2_lendByDraw_55 : decode cX2_lendByDraw 55 = .ok (.return_, 1) := kX2_lendByDraw_31.2.2.2
