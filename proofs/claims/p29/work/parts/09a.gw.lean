theorem gl_nil {big : List Cond} : GoodIn big [] := fun _ h => absurd h List.not_mem_nil
noncomputable def GW1 (big : List Cond) (w : Cond) : Prop := w ∈ big ∧ ((w.onTables && w.keeps) = true ∨ ∃ ty, w = .arrayClass ty)
theorem gl_cons {big l : List Cond} {w : Cond} (h : GW1 big w) (hl : GoodIn big l) : GoodIn big (w :: l) := fun v hv => (List.mem_cons.mp hv).elim (fun e => by rw [e]; exact h) (hl v)
theorem gw_r1_0 : GW1 wsL_law (Cond.classLink RL 7 RX5) := ⟨ckm_wsL_law_r1 _ (List.mem_of_getElem? (i := 0) rfl), good_of_word rfl⟩
theorem gw_r1_1 : GW1 wsL_law (Cond.instantiable RX5 9) := ⟨ckm_wsL_law_r1 _ (List.mem_of_getElem? (i := 1) rfl), good_of_word rfl⟩
theorem gw_r1_2 : GW1 wsL_law (Cond.initialized RX5) := ⟨ckm_wsL_law_r1 _ (List.mem_of_getElem? (i := 2) rfl), good_of_word rfl⟩
theorem gw_r1_3 : GW1 wsL_law (Cond.classLink RL 10 RX6) := ⟨ckm_wsL_law_r1 _ (List.mem_of_getElem? (i := 3) rfl), good_of_word rfl⟩
theorem gw_r1_4 : GW1 wsL_law (Cond.instantiable RX6 19) := ⟨ckm_wsL_law_r1 _ (List.mem_of_getElem? (i := 4) rfl), good_of_word rfl⟩
theorem gw_r1_5 : GW1 wsL_law (Cond.initialized RX6) := ⟨ckm_wsL_law_r1 _ (List.mem_of_getElem? (i := 5) rfl), good_of_word rfl⟩
theorem gw_r1_6 : GW1 wsL_law (Cond.constantLong RL 139 (4294967295)) := ⟨ckm_wsL_law_r1 _ (List.mem_of_getElem? (i := 6) rfl), good_of_word rfl⟩
theorem gw_r1_7 : GW1 wsL_law (Cond.methodLink RL 9 yX5_init) := ⟨ckm_wsL_law_r1 _ (List.mem_of_getElem? (i := 7) rfl), good_of_word rfl⟩
theorem gw_r1_8 : GW1 wsL_law (Cond.instanceMethod yX5_init) := ⟨ckm_wsL_law_r1 _ (List.mem_of_getElem? (i := 8) rfl), good_of_word rfl⟩
theorem gw_r1_9 : GW1 wsL_law (Cond.code yX5_init cX5_init 2 none) := ⟨ckm_wsL_law_r1 _ (List.mem_of_getElem? (i := 9) rfl), good_of_word rfl⟩
theorem gw_r1_10 : GW1 wsL_law (Cond.methodLink RX5 1 objectInit) := ⟨ckm_wsL_law_r1 _ (List.mem_of_getElem? (i := 10) rfl), good_of_word rfl⟩
theorem gw_r1_11 : GW1 wsL_law (Cond.instanceMethod objectInit) := ⟨ckm_wsL_law_r1 _ (List.mem_of_getElem? (i := 11) rfl), good_of_word rfl⟩
theorem gw_r1_12 : GW1 wsL_law (Cond.code objectInit ⟨#[0xb1]⟩ 1 none) := ⟨ckm_wsL_law_r1 _ (List.mem_of_getElem? (i := 12) rfl), good_of_word rfl⟩
theorem gw_r1_13 : GW1 wsL_law (Cond.classLink RX5 7 RX2) := ⟨ckm_wsL_law_r1 _ (List.mem_of_getElem? (i := 13) rfl), good_of_word rfl⟩
theorem gw_r1_14 : GW1 wsL_law (Cond.instantiable RX2 7) := ⟨ckm_wsL_law_r1 _ (List.mem_of_getElem? (i := 14) rfl), good_of_word rfl⟩
theorem gw_r1_15 : GW1 wsL_law (Cond.initialized RX2) := ⟨ckm_wsL_law_r1 _ (List.mem_of_getElem? (i := 15) rfl), good_of_word rfl⟩
theorem gw_r1_16 : GW1 wsL_law (Cond.fieldLink RX5 10 "KeyedFeelings" "now" "LKeyedFeelings$People;") := ⟨ckm_wsL_law_r1 _ (List.mem_of_getElem? (i := 16) rfl), good_of_word rfl⟩
theorem gw_r1_17 : GW1 wsL_law (Cond.classLink RX5 16 RX1) := ⟨ckm_wsL_law_r1 _ (List.mem_of_getElem? (i := 17) rfl), good_of_word rfl⟩
theorem gw_r1_18 : GW1 wsL_law (Cond.instantiable RX1 3) := ⟨ckm_wsL_law_r1 _ (List.mem_of_getElem? (i := 18) rfl), good_of_word rfl⟩
theorem gw_r1_19 : GW1 wsL_law (Cond.initialized RX1) := ⟨ckm_wsL_law_r1 _ (List.mem_of_getElem? (i := 19) rfl), good_of_word rfl⟩
theorem gw_r1_20 : GW1 wsL_law (Cond.fieldLink RX5 19 "KeyedFeelings" "past" "LKeyedFeelings$Past;") := ⟨ckm_wsL_law_r1 _ (List.mem_of_getElem? (i := 20) rfl), good_of_word rfl⟩
theorem gw_r1_21 : GW1 wsL_law (Cond.fieldLink RX5 23 "KeyedFeelings" "keptNow" "LKeyedFeelings$People;") := ⟨ckm_wsL_law_r1 _ (List.mem_of_getElem? (i := 21) rfl), good_of_word rfl⟩
theorem gw_r1_22 : GW1 wsL_law (Cond.fieldLink RX5 26 "KeyedFeelings" "keptPast" "LKeyedFeelings$Past;") := ⟨ckm_wsL_law_r1 _ (List.mem_of_getElem? (i := 22) rfl), good_of_word rfl⟩
theorem gw_r1_23 : GW1 wsL_law (Cond.fieldLink RX5 29 "KeyedFeelings" "isKept" "Z") := ⟨ckm_wsL_law_r1 _ (List.mem_of_getElem? (i := 23) rfl), good_of_word rfl⟩
theorem gw_r2_0 : GW1 wsL_law (Cond.fieldLink RX5 33 "KeyedFeelings" "trial" "LKeyedFeelings$People;") := ⟨ckm_wsL_law_r2 _ (List.mem_of_getElem? (i := 0) rfl), good_of_word rfl⟩
theorem gw_r2_1 : GW1 wsL_law (Cond.classLink RX5 36 RX4) := ⟨ckm_wsL_law_r2 _ (List.mem_of_getElem? (i := 1) rfl), good_of_word rfl⟩
theorem gw_r2_2 : GW1 wsL_law (Cond.instantiable RX4 3) := ⟨ckm_wsL_law_r2 _ (List.mem_of_getElem? (i := 2) rfl), good_of_word rfl⟩
theorem gw_r2_3 : GW1 wsL_law (Cond.initialized RX4) := ⟨ckm_wsL_law_r2 _ (List.mem_of_getElem? (i := 3) rfl), good_of_word rfl⟩
theorem gw_r2_4 : GW1 wsL_law (Cond.fieldLink RX5 39 "KeyedFeelings" "tape" "LKeyedFeelings$Tape;") := ⟨ckm_wsL_law_r2 _ (List.mem_of_getElem? (i := 4) rfl), good_of_word rfl⟩
theorem gw_r2_5 : GW1 wsL_law (Cond.classLink RX5 43 RX0) := ⟨ckm_wsL_law_r2 _ (List.mem_of_getElem? (i := 5) rfl), good_of_word rfl⟩
theorem gw_r2_6 : GW1 wsL_law (Cond.instantiable RX0 3) := ⟨ckm_wsL_law_r2 _ (List.mem_of_getElem? (i := 6) rfl), good_of_word rfl⟩
theorem gw_r2_7 : GW1 wsL_law (Cond.initialized RX0) := ⟨ckm_wsL_law_r2 _ (List.mem_of_getElem? (i := 7) rfl), good_of_word rfl⟩
theorem gw_r2_8 : GW1 wsL_law (Cond.fieldLink RX5 46 "KeyedFeelings" "matching" "LKeyedFeelings$Matching;") := ⟨ckm_wsL_law_r2 _ (List.mem_of_getElem? (i := 8) rfl), good_of_word rfl⟩
theorem gw_r2_9 : GW1 wsL_law (Cond.classLink RX5 50 RX3) := ⟨ckm_wsL_law_r2 _ (List.mem_of_getElem? (i := 9) rfl), good_of_word rfl⟩
theorem gw_r2_10 : GW1 wsL_law (Cond.fieldLink RX5 52 "KeyedFeelings" "sheets" "[LKeyedFeelings$Sheet;") := ⟨ckm_wsL_law_r2 _ (List.mem_of_getElem? (i := 10) rfl), good_of_word rfl⟩
theorem gw_r2_11 : GW1 wsL_law (Cond.instantiable RX3 3) := ⟨ckm_wsL_law_r2 _ (List.mem_of_getElem? (i := 11) rfl), good_of_word rfl⟩
theorem gw_r2_12 : GW1 wsL_law (Cond.initialized RX3) := ⟨ckm_wsL_law_r2 _ (List.mem_of_getElem? (i := 12) rfl), good_of_word rfl⟩
theorem gw_r2_13 : GW1 wsL_law (Cond.instanceMethod yX2_init) := ⟨ckm_wsL_law_r2 _ (List.mem_of_getElem? (i := 13) rfl), good_of_word rfl⟩
theorem gw_r2_14 : GW1 wsL_law (Cond.code yX2_init cX2_init 1 none) := ⟨ckm_wsL_law_r2 _ (List.mem_of_getElem? (i := 14) rfl), good_of_word rfl⟩
theorem gw_r2_15 : GW1 wsL_law (Cond.methodLink RX2 3 objectInit) := ⟨ckm_wsL_law_r2 _ (List.mem_of_getElem? (i := 15) rfl), good_of_word rfl⟩
theorem gw_r2_16 : GW1 wsL_law (Cond.fieldLink RX2 9 "KeyedFeelings$People" "size" "I") := ⟨ckm_wsL_law_r2 _ (List.mem_of_getElem? (i := 16) rfl), good_of_word rfl⟩
theorem gw_r2_17 : GW1 wsL_law (Cond.arrayClass .int) := ⟨ckm_wsL_law_r2 _ (List.mem_of_getElem? (i := 17) rfl), good_of_word rfl⟩
theorem gw_r2_18 : GW1 wsL_law (Cond.fieldLink RX2 15 "KeyedFeelings$People" "kinds" "[I") := ⟨ckm_wsL_law_r2 _ (List.mem_of_getElem? (i := 18) rfl), good_of_word rfl⟩
theorem gw_r2_19 : GW1 wsL_law (Cond.fieldLink RX2 19 "KeyedFeelings$People" "turns" "[I") := ⟨ckm_wsL_law_r2 _ (List.mem_of_getElem? (i := 19) rfl), good_of_word rfl⟩
theorem gw_r2_20 : GW1 wsL_law (Cond.fieldLink RX2 22 "KeyedFeelings$People" "winds" "[I") := ⟨ckm_wsL_law_r2 _ (List.mem_of_getElem? (i := 20) rfl), good_of_word rfl⟩
theorem gw_r2_21 : GW1 wsL_law (Cond.fieldLink RX2 25 "KeyedFeelings$People" "keys" "[I") := ⟨ckm_wsL_law_r2 _ (List.mem_of_getElem? (i := 21) rfl), good_of_word rfl⟩
theorem gw_r2_22 : GW1 wsL_law (Cond.fieldLink RX2 28 "KeyedFeelings$People" "hour" "I") := ⟨ckm_wsL_law_r2 _ (List.mem_of_getElem? (i := 22) rfl), good_of_word rfl⟩
theorem gw_r2_23 : GW1 wsL_law (Cond.fieldLink RX2 31 "KeyedFeelings$People" "draw" "I") := ⟨ckm_wsL_law_r2 _ (List.mem_of_getElem? (i := 23) rfl), good_of_word rfl⟩
theorem gw_r3_0 : GW1 wsL_law (Cond.instanceMethod yX1_init) := ⟨ckm_wsL_law_r3 _ (List.mem_of_getElem? (i := 0) rfl), good_of_word rfl⟩
theorem gw_r3_1 : GW1 wsL_law (Cond.code yX1_init cX1_init 2 none) := ⟨ckm_wsL_law_r3 _ (List.mem_of_getElem? (i := 1) rfl), good_of_word rfl⟩
theorem gw_r3_2 : GW1 wsL_law (Cond.methodLink RX1 1 objectInit) := ⟨ckm_wsL_law_r3 _ (List.mem_of_getElem? (i := 2) rfl), good_of_word rfl⟩
theorem gw_r3_3 : GW1 wsL_law (Cond.fieldLink RX1 7 "KeyedFeelings$Past" "size" "I") := ⟨ckm_wsL_law_r3 _ (List.mem_of_getElem? (i := 3) rfl), good_of_word rfl⟩
theorem gw_r3_4 : GW1 wsL_law (Cond.fieldLink RX1 13 "KeyedFeelings$Past" "next" "I") := ⟨ckm_wsL_law_r3 _ (List.mem_of_getElem? (i := 4) rfl), good_of_word rfl⟩
theorem gw_r3_5 : GW1 wsL_law (Cond.classLink RX1 16 RX2) := ⟨ckm_wsL_law_r3 _ (List.mem_of_getElem? (i := 5) rfl), good_of_word rfl⟩
theorem gw_r3_6 : GW1 wsL_law (Cond.fieldLink RX1 18 "KeyedFeelings$Past" "moments" "[LKeyedFeelings$People;") := ⟨ckm_wsL_law_r3 _ (List.mem_of_getElem? (i := 6) rfl), good_of_word rfl⟩
theorem gw_r3_7 : GW1 wsL_law (Cond.instanceMethod yX4_init) := ⟨ckm_wsL_law_r3 _ (List.mem_of_getElem? (i := 7) rfl), good_of_word rfl⟩
theorem gw_r3_8 : GW1 wsL_law (Cond.code yX4_init cX4_init 1 none) := ⟨ckm_wsL_law_r3 _ (List.mem_of_getElem? (i := 8) rfl), good_of_word rfl⟩
theorem gw_r3_9 : GW1 wsL_law (Cond.methodLink RX4 3 objectInit) := ⟨ckm_wsL_law_r3 _ (List.mem_of_getElem? (i := 9) rfl), good_of_word rfl⟩
theorem gw_r3_10 : GW1 wsL_law (Cond.fieldLink RX4 11 "KeyedFeelings$Tape" "letters" "[I") := ⟨ckm_wsL_law_r3 _ (List.mem_of_getElem? (i := 10) rfl), good_of_word rfl⟩
theorem gw_r3_11 : GW1 wsL_law (Cond.fieldLink RX4 15 "KeyedFeelings$Tape" "size" "I") := ⟨ckm_wsL_law_r3 _ (List.mem_of_getElem? (i := 11) rfl), good_of_word rfl⟩
theorem gw_r3_12 : GW1 wsL_law (Cond.fieldLink RX4 19 "KeyedFeelings$Tape" "place" "I") := ⟨ckm_wsL_law_r3 _ (List.mem_of_getElem? (i := 12) rfl), good_of_word rfl⟩
theorem gw_r3_13 : GW1 wsL_law (Cond.instanceMethod yX0_init) := ⟨ckm_wsL_law_r3 _ (List.mem_of_getElem? (i := 13) rfl), good_of_word rfl⟩
theorem gw_r3_14 : GW1 wsL_law (Cond.code yX0_init cX0_init 1 none) := ⟨ckm_wsL_law_r3 _ (List.mem_of_getElem? (i := 14) rfl), good_of_word rfl⟩
theorem gw_r3_15 : GW1 wsL_law (Cond.methodLink RX0 3 objectInit) := ⟨ckm_wsL_law_r3 _ (List.mem_of_getElem? (i := 15) rfl), good_of_word rfl⟩
theorem gw_r3_16 : GW1 wsL_law (Cond.fieldLink RX0 9 "KeyedFeelings$Matching" "fewest" "I") := ⟨ckm_wsL_law_r3 _ (List.mem_of_getElem? (i := 16) rfl), good_of_word rfl⟩
theorem gw_r3_17 : GW1 wsL_law (Cond.fieldLink RX0 15 "KeyedFeelings$Matching" "best" "[I") := ⟨ckm_wsL_law_r3 _ (List.mem_of_getElem? (i := 17) rfl), good_of_word rfl⟩
theorem gw_r3_18 : GW1 wsL_law (Cond.fieldLink RX0 19 "KeyedFeelings$Matching" "telling" "[I") := ⟨ckm_wsL_law_r3 _ (List.mem_of_getElem? (i := 18) rfl), good_of_word rfl⟩
theorem gw_r3_19 : GW1 wsL_law (Cond.instanceMethod yX3_init) := ⟨ckm_wsL_law_r3 _ (List.mem_of_getElem? (i := 19) rfl), good_of_word rfl⟩
theorem gw_r3_20 : GW1 wsL_law (Cond.code yX3_init cX3_init 1 none) := ⟨ckm_wsL_law_r3 _ (List.mem_of_getElem? (i := 20) rfl), good_of_word rfl⟩
theorem gw_r3_21 : GW1 wsL_law (Cond.methodLink RX3 3 objectInit) := ⟨ckm_wsL_law_r3 _ (List.mem_of_getElem? (i := 21) rfl), good_of_word rfl⟩
theorem gw_r3_22 : GW1 wsL_law (Cond.fieldLink RX3 9 "KeyedFeelings$Sheet" "lane" "I") := ⟨ckm_wsL_law_r3 _ (List.mem_of_getElem? (i := 22) rfl), good_of_word rfl⟩
theorem gw_r3_23 : GW1 wsL_law (Cond.fieldLink RX3 15 "KeyedFeelings$Sheet" "size" "I") := ⟨ckm_wsL_law_r3 _ (List.mem_of_getElem? (i := 23) rfl), good_of_word rfl⟩
theorem gw_r4_0 : GW1 wsL_law (Cond.arrayClass .long) := ⟨ckm_wsL_law_r4 _ (List.mem_of_getElem? (i := 0) rfl), good_of_word rfl⟩
theorem gw_r4_1 : GW1 wsL_law (Cond.fieldLink RX3 18 "KeyedFeelings$Sheet" "items" "[J") := ⟨ckm_wsL_law_r4 _ (List.mem_of_getElem? (i := 1) rfl), good_of_word rfl⟩
theorem gw_r4_2 : GW1 wsL_law (Cond.methodLink RL 12 yX6_init) := ⟨ckm_wsL_law_r4 _ (List.mem_of_getElem? (i := 2) rfl), good_of_word rfl⟩
theorem gw_r4_3 : GW1 wsL_law (Cond.instanceMethod yX6_init) := ⟨ckm_wsL_law_r4 _ (List.mem_of_getElem? (i := 3) rfl), good_of_word rfl⟩
theorem gw_r4_4 : GW1 wsL_law (Cond.code yX6_init cX6_init 2 none) := ⟨ckm_wsL_law_r4 _ (List.mem_of_getElem? (i := 4) rfl), good_of_word rfl⟩
theorem gw_r4_5 : GW1 wsL_law (Cond.methodLink RX6 1 objectInit) := ⟨ckm_wsL_law_r4 _ (List.mem_of_getElem? (i := 5) rfl), good_of_word rfl⟩
theorem gw_r4_6 : GW1 wsL_law (Cond.fieldLink RX6 7 "KeyedFeelingsModel" "now" "[I") := ⟨ckm_wsL_law_r4 _ (List.mem_of_getElem? (i := 6) rfl), good_of_word rfl⟩
theorem gw_r4_7 : GW1 wsL_law (Cond.fieldLink RX6 13 "KeyedFeelingsModel" "change" "[I") := ⟨ckm_wsL_law_r4 _ (List.mem_of_getElem? (i := 7) rfl), good_of_word rfl⟩
theorem gw_r4_8 : GW1 wsL_law (Cond.fieldLink RX6 16 "KeyedFeelingsModel" "tape" "[I") := ⟨ckm_wsL_law_r4 _ (List.mem_of_getElem? (i := 8) rfl), good_of_word rfl⟩
theorem gw_r4_9 : GW1 wsL_law (Cond.fieldLink RX6 19 "KeyedFeelingsModel" "read" "[I") := ⟨ckm_wsL_law_r4 _ (List.mem_of_getElem? (i := 9) rfl), good_of_word rfl⟩
theorem gw_r4_10 : GW1 wsL_law (Cond.fieldLink RX6 22 "KeyedFeelingsModel" "undone" "[I") := ⟨ckm_wsL_law_r4 _ (List.mem_of_getElem? (i := 10) rfl), good_of_word rfl⟩
theorem gw_r4_11 : GW1 wsL_law (Cond.fieldLink RX6 25 "KeyedFeelingsModel" "aside" "[I") := ⟨ckm_wsL_law_r4 _ (List.mem_of_getElem? (i := 11) rfl), good_of_word rfl⟩
theorem gw_r4_12 : GW1 wsL_law (Cond.fieldLink RX6 28 "KeyedFeelingsModel" "would" "[I") := ⟨ckm_wsL_law_r4 _ (List.mem_of_getElem? (i := 12) rfl), good_of_word rfl⟩
theorem gw_r4_13 : GW1 wsL_law (Cond.fieldLink RX6 31 "KeyedFeelingsModel" "best" "[I") := ⟨ckm_wsL_law_r4 _ (List.mem_of_getElem? (i := 13) rfl), good_of_word rfl⟩
theorem gw_r4_14 : GW1 wsL_law (Cond.fieldLink RX6 34 "KeyedFeelingsModel" "kept" "[I") := ⟨ckm_wsL_law_r4 _ (List.mem_of_getElem? (i := 14) rfl), good_of_word rfl⟩
theorem gw_r4_15 : GW1 wsL_law (Cond.fieldLink RX6 37 "KeyedFeelingsModel" "lanes" "[I") := ⟨ckm_wsL_law_r4 _ (List.mem_of_getElem? (i := 15) rfl), good_of_word rfl⟩
theorem gw_r4_16 : GW1 wsL_law (Cond.fieldLink RX6 40 "KeyedFeelingsModel" "sizes" "[I") := ⟨ckm_wsL_law_r4 _ (List.mem_of_getElem? (i := 16) rfl), good_of_word rfl⟩
theorem gw_r4_17 : GW1 wsL_law (Cond.fieldLink RX6 43 "KeyedFeelingsModel" "items" "[J") := ⟨ckm_wsL_law_r4 _ (List.mem_of_getElem? (i := 17) rfl), good_of_word rfl⟩
theorem gw_r4_18 : GW1 wsL_law (Cond.fieldLink RX6 47 "KeyedFeelingsModel" "moved" "[J") := ⟨ckm_wsL_law_r4 _ (List.mem_of_getElem? (i := 18) rfl), good_of_word rfl⟩
theorem gw_r4_19 : GW1 wsL_law (Cond.methodLink RL 13 yX5_person) := ⟨ckm_wsL_law_r4 _ (List.mem_of_getElem? (i := 19) rfl), good_of_word rfl⟩
theorem gw_r4_20 : GW1 wsL_law (Cond.instanceMethod yX5_person) := ⟨ckm_wsL_law_r4 _ (List.mem_of_getElem? (i := 20) rfl), good_of_word rfl⟩
theorem gw_r4_21 : GW1 wsL_law (Cond.selects RX5 yX5_person yX5_person) := ⟨ckm_wsL_law_r4 _ (List.mem_of_getElem? (i := 21) rfl), good_of_word rfl⟩
theorem gw_r4_22 : GW1 wsL_law (Cond.code yX5_person cX5_person 3 (some .int)) := ⟨ckm_wsL_law_r4 _ (List.mem_of_getElem? (i := 22) rfl), good_of_word rfl⟩
theorem gw_r4_23 : GW1 wsL_law (Cond.instanceMethod yX1_empty) := ⟨ckm_wsL_law_r4 _ (List.mem_of_getElem? (i := 23) rfl), good_of_word rfl⟩
theorem gw_r5_0 : GW1 wsL_law (Cond.selects RX1 yX1_empty yX1_empty) := ⟨ckm_wsL_law_r5 _ (List.mem_of_getElem? (i := 0) rfl), good_of_word rfl⟩
theorem gw_r5_1 : GW1 wsL_law (Cond.code yX1_empty cX1_empty 1 none) := ⟨ckm_wsL_law_r5 _ (List.mem_of_getElem? (i := 1) rfl), good_of_word rfl⟩
theorem gw_r5_2 : GW1 wsL_law (Cond.instanceMethod yX2_join) := ⟨ckm_wsL_law_r5 _ (List.mem_of_getElem? (i := 2) rfl), good_of_word rfl⟩
theorem gw_r5_3 : GW1 wsL_law (Cond.selects RX2 yX2_join yX2_join) := ⟨ckm_wsL_law_r5 _ (List.mem_of_getElem? (i := 3) rfl), good_of_word rfl⟩
theorem gw_r5_4 : GW1 wsL_law (Cond.code yX2_join cX2_join 3 (some .int)) := ⟨ckm_wsL_law_r5 _ (List.mem_of_getElem? (i := 4) rfl), good_of_word rfl⟩
theorem gw_r5_5 : GW1 wsL_law (Cond.methodLink RL 17 yX6_person) := ⟨ckm_wsL_law_r5 _ (List.mem_of_getElem? (i := 5) rfl), good_of_word rfl⟩
theorem gw_r5_6 : GW1 wsL_law (Cond.instanceMethod yX6_person) := ⟨ckm_wsL_law_r5 _ (List.mem_of_getElem? (i := 6) rfl), good_of_word rfl⟩
theorem gw_r5_7 : GW1 wsL_law (Cond.selects RX6 yX6_person yX6_person) := ⟨ckm_wsL_law_r5 _ (List.mem_of_getElem? (i := 7) rfl), good_of_word rfl⟩
theorem gw_r5_8 : GW1 wsL_law (Cond.code yX6_person cX6_person 3 (some .int)) := ⟨ckm_wsL_law_r5 _ (List.mem_of_getElem? (i := 8) rfl), good_of_word rfl⟩
theorem gw_r5_9 : GW1 wsL_law (Cond.constantLong RX6 94 (4)) := ⟨ckm_wsL_law_r5 _ (List.mem_of_getElem? (i := 9) rfl), good_of_word rfl⟩
theorem gw_r5_10 : GW1 wsL_law (Cond.constantLong RX6 96 (30)) := ⟨ckm_wsL_law_r5 _ (List.mem_of_getElem? (i := 10) rfl), good_of_word rfl⟩
theorem gw_r5_11 : GW1 wsL_law (Cond.methodLink RX6 50 yX6_in) := ⟨ckm_wsL_law_r5 _ (List.mem_of_getElem? (i := 11) rfl), good_of_word rfl⟩
theorem gw_r5_12 : GW1 wsL_law (Cond.static yX6_in) := ⟨ckm_wsL_law_r5 _ (List.mem_of_getElem? (i := 12) rfl), good_of_word rfl⟩
theorem gw_r5_13 : GW1 wsL_law (Cond.code yX6_in cX6_in 6 (some .boolean)) := ⟨ckm_wsL_law_r5 _ (List.mem_of_getElem? (i := 13) rfl), good_of_word rfl⟩
theorem gw_r5_14 : GW1 wsL_law (Cond.methodLink RX6 98 yX6_personComes) := ⟨ckm_wsL_law_r5 _ (List.mem_of_getElem? (i := 14) rfl), good_of_word rfl⟩
theorem gw_r5_15 : GW1 wsL_law (Cond.instanceMethod yX6_personComes) := ⟨ckm_wsL_law_r5 _ (List.mem_of_getElem? (i := 15) rfl), good_of_word rfl⟩
theorem gw_r5_16 : GW1 wsL_law (Cond.selects RX6 yX6_personComes yX6_personComes) := ⟨ckm_wsL_law_r5 _ (List.mem_of_getElem? (i := 16) rfl), good_of_word rfl⟩
theorem gw_r5_17 : GW1 wsL_law (Cond.code yX6_personComes cX6_personComes 6 none) := ⟨ckm_wsL_law_r5 _ (List.mem_of_getElem? (i := 17) rfl), good_of_word rfl⟩
theorem gw_r5_18 : GW1 wsL_law (Cond.fieldLink RX6 90 "KeyedFeelingsModel" "undos" "I") := ⟨ckm_wsL_law_r5 _ (List.mem_of_getElem? (i := 18) rfl), good_of_word rfl⟩
theorem gw_r5_19 : GW1 wsL_law (Cond.methodLink RX6 72 yX6_tells) := ⟨ckm_wsL_law_r5 _ (List.mem_of_getElem? (i := 19) rfl), good_of_word rfl⟩
theorem gw_r5_20 : GW1 wsL_law (Cond.instanceMethod yX6_tells) := ⟨ckm_wsL_law_r5 _ (List.mem_of_getElem? (i := 20) rfl), good_of_word rfl⟩
theorem gw_r5_21 : GW1 wsL_law (Cond.selects RX6 yX6_tells yX6_tells) := ⟨ckm_wsL_law_r5 _ (List.mem_of_getElem? (i := 21) rfl), good_of_word rfl⟩
theorem gw_r5_22 : GW1 wsL_law (Cond.code yX6_tells cX6_tells 4 none) := ⟨ckm_wsL_law_r5 _ (List.mem_of_getElem? (i := 22) rfl), good_of_word rfl⟩
theorem gw_r5_23 : GW1 wsL_law (Cond.methodLink RL 18 yX5_of) := ⟨ckm_wsL_law_r5 _ (List.mem_of_getElem? (i := 23) rfl), good_of_word rfl⟩
theorem gw_r6_0 : GW1 wsL_law (Cond.instanceMethod yX5_of) := ⟨ckm_wsL_law_r6 _ (List.mem_of_getElem? (i := 0) rfl), good_of_word rfl⟩
theorem gw_r6_1 : GW1 wsL_law (Cond.selects RX5 yX5_of yX5_of) := ⟨ckm_wsL_law_r6 _ (List.mem_of_getElem? (i := 1) rfl), good_of_word rfl⟩
theorem gw_r6_2 : GW1 wsL_law (Cond.code yX5_of cX5_of 3 (some .int)) := ⟨ckm_wsL_law_r6 _ (List.mem_of_getElem? (i := 2) rfl), good_of_word rfl⟩
theorem gw_r6_3 : GW1 wsL_law (Cond.instanceMethod yX2_has) := ⟨ckm_wsL_law_r6 _ (List.mem_of_getElem? (i := 3) rfl), good_of_word rfl⟩
theorem gw_r6_4 : GW1 wsL_law (Cond.selects RX2 yX2_has yX2_has) := ⟨ckm_wsL_law_r6 _ (List.mem_of_getElem? (i := 4) rfl), good_of_word rfl⟩
theorem gw_r6_5 : GW1 wsL_law (Cond.code yX2_has cX2_has 2 (some .boolean)) := ⟨ckm_wsL_law_r6 _ (List.mem_of_getElem? (i := 5) rfl), good_of_word rfl⟩
theorem gw_r6_6 : GW1 wsL_law (Cond.instanceMethod yX2_stopped) := ⟨ckm_wsL_law_r6 _ (List.mem_of_getElem? (i := 6) rfl), good_of_word rfl⟩
theorem gw_r6_7 : GW1 wsL_law (Cond.selects RX2 yX2_stopped yX2_stopped) := ⟨ckm_wsL_law_r6 _ (List.mem_of_getElem? (i := 7) rfl), good_of_word rfl⟩
theorem gw_r6_8 : GW1 wsL_law (Cond.code yX2_stopped cX2_stopped 3 (some .int)) := ⟨ckm_wsL_law_r6 _ (List.mem_of_getElem? (i := 8) rfl), good_of_word rfl⟩
theorem gw_r6_9 : GW1 wsL_law (Cond.methodLink RX2 34 yX2_isStopped) := ⟨ckm_wsL_law_r6 _ (List.mem_of_getElem? (i := 9) rfl), good_of_word rfl⟩
theorem gw_r6_10 : GW1 wsL_law (Cond.instanceMethod yX2_isStopped) := ⟨ckm_wsL_law_r6 _ (List.mem_of_getElem? (i := 10) rfl), good_of_word rfl⟩
theorem gw_r6_11 : GW1 wsL_law (Cond.selects RX2 yX2_isStopped yX2_isStopped) := ⟨ckm_wsL_law_r6 _ (List.mem_of_getElem? (i := 11) rfl), good_of_word rfl⟩
theorem gw_r6_12 : GW1 wsL_law (Cond.code yX2_isStopped cX2_isStopped 2 (some .boolean)) := ⟨ckm_wsL_law_r6 _ (List.mem_of_getElem? (i := 12) rfl), good_of_word rfl⟩
theorem gw_r6_13 : GW1 wsL_law (Cond.instanceMethod yX2_runsOff) := ⟨ckm_wsL_law_r6 _ (List.mem_of_getElem? (i := 13) rfl), good_of_word rfl⟩
theorem gw_r6_14 : GW1 wsL_law (Cond.selects RX2 yX2_runsOff yX2_runsOff) := ⟨ckm_wsL_law_r6 _ (List.mem_of_getElem? (i := 14) rfl), good_of_word rfl⟩
theorem gw_r6_15 : GW1 wsL_law (Cond.code yX2_runsOff cX2_runsOff 3 (some .int)) := ⟨ckm_wsL_law_r6 _ (List.mem_of_getElem? (i := 15) rfl), good_of_word rfl⟩
theorem gw_r6_16 : GW1 wsL_law (Cond.methodLink RX2 85 yX2_runsConcern) := ⟨ckm_wsL_law_r6 _ (List.mem_of_getElem? (i := 16) rfl), good_of_word rfl⟩
theorem gw_r6_17 : GW1 wsL_law (Cond.instanceMethod yX2_runsConcern) := ⟨ckm_wsL_law_r6 _ (List.mem_of_getElem? (i := 17) rfl), good_of_word rfl⟩
theorem gw_r6_18 : GW1 wsL_law (Cond.selects RX2 yX2_runsConcern yX2_runsConcern) := ⟨ckm_wsL_law_r6 _ (List.mem_of_getElem? (i := 18) rfl), good_of_word rfl⟩
theorem gw_r6_19 : GW1 wsL_law (Cond.code yX2_runsConcern cX2_runsConcern 1 (some .int)) := ⟨ckm_wsL_law_r6 _ (List.mem_of_getElem? (i := 19) rfl), good_of_word rfl⟩
theorem gw_r6_20 : GW1 wsL_law (Cond.methodLink RX2 88 yX2_runsTender) := ⟨ckm_wsL_law_r6 _ (List.mem_of_getElem? (i := 20) rfl), good_of_word rfl⟩
theorem gw_r6_21 : GW1 wsL_law (Cond.instanceMethod yX2_runsTender) := ⟨ckm_wsL_law_r6 _ (List.mem_of_getElem? (i := 21) rfl), good_of_word rfl⟩
theorem gw_r6_22 : GW1 wsL_law (Cond.selects RX2 yX2_runsTender yX2_runsTender) := ⟨ckm_wsL_law_r6 _ (List.mem_of_getElem? (i := 22) rfl), good_of_word rfl⟩
theorem gw_r6_23 : GW1 wsL_law (Cond.code yX2_runsTender cX2_runsTender 1 (some .int)) := ⟨ckm_wsL_law_r6 _ (List.mem_of_getElem? (i := 23) rfl), good_of_word rfl⟩
theorem gw_r7_0 : GW1 wsL_law (Cond.methodLink RX2 91 yX2_windsOneOf) := ⟨ckm_wsL_law_r7 _ (List.mem_of_getElem? (i := 0) rfl), good_of_word rfl⟩
theorem gw_r7_1 : GW1 wsL_law (Cond.instanceMethod yX2_windsOneOf) := ⟨ckm_wsL_law_r7 _ (List.mem_of_getElem? (i := 1) rfl), good_of_word rfl⟩
theorem gw_r7_2 : GW1 wsL_law (Cond.selects RX2 yX2_windsOneOf yX2_windsOneOf) := ⟨ckm_wsL_law_r7 _ (List.mem_of_getElem? (i := 2) rfl), good_of_word rfl⟩
theorem gw_r7_3 : GW1 wsL_law (Cond.code yX2_windsOneOf cX2_windsOneOf 3 (some .boolean)) := ⟨ckm_wsL_law_r7 _ (List.mem_of_getElem? (i := 3) rfl), good_of_word rfl⟩
theorem gw_r7_4 : GW1 wsL_law (Cond.methodLink RX2 38 yX2_woundBy) := ⟨ckm_wsL_law_r7 _ (List.mem_of_getElem? (i := 4) rfl), good_of_word rfl⟩
theorem gw_r7_5 : GW1 wsL_law (Cond.instanceMethod yX2_woundBy) := ⟨ckm_wsL_law_r7 _ (List.mem_of_getElem? (i := 5) rfl), good_of_word rfl⟩
theorem gw_r7_6 : GW1 wsL_law (Cond.selects RX2 yX2_woundBy yX2_woundBy) := ⟨ckm_wsL_law_r7 _ (List.mem_of_getElem? (i := 6) rfl), good_of_word rfl⟩
theorem gw_r7_7 : GW1 wsL_law (Cond.code yX2_woundBy cX2_woundBy 4 (some .int)) := ⟨ckm_wsL_law_r7 _ (List.mem_of_getElem? (i := 7) rfl), good_of_word rfl⟩
theorem gw_r7_8 : GW1 wsL_law (Cond.methodLink RL 21 yX6_of) := ⟨ckm_wsL_law_r7 _ (List.mem_of_getElem? (i := 8) rfl), good_of_word rfl⟩
theorem gw_r7_9 : GW1 wsL_law (Cond.instanceMethod yX6_of) := ⟨ckm_wsL_law_r7 _ (List.mem_of_getElem? (i := 9) rfl), good_of_word rfl⟩
theorem gw_r7_10 : GW1 wsL_law (Cond.selects RX6 yX6_of yX6_of) := ⟨ckm_wsL_law_r7 _ (List.mem_of_getElem? (i := 10) rfl), good_of_word rfl⟩
theorem gw_r7_11 : GW1 wsL_law (Cond.code yX6_of cX6_of 3 (some .int)) := ⟨ckm_wsL_law_r7 _ (List.mem_of_getElem? (i := 11) rfl), good_of_word rfl⟩
theorem gw_r7_12 : GW1 wsL_law (Cond.constantLong RX6 105 (5)) := ⟨ckm_wsL_law_r7 _ (List.mem_of_getElem? (i := 12) rfl), good_of_word rfl⟩
theorem gw_r7_13 : GW1 wsL_law (Cond.methodLink RX6 102 yX6_isPerson) := ⟨ckm_wsL_law_r7 _ (List.mem_of_getElem? (i := 13) rfl), good_of_word rfl⟩
theorem gw_r7_14 : GW1 wsL_law (Cond.instanceMethod yX6_isPerson) := ⟨ckm_wsL_law_r7 _ (List.mem_of_getElem? (i := 14) rfl), good_of_word rfl⟩
theorem gw_r7_15 : GW1 wsL_law (Cond.selects RX6 yX6_isPerson yX6_isPerson) := ⟨ckm_wsL_law_r7 _ (List.mem_of_getElem? (i := 15) rfl), good_of_word rfl⟩
theorem gw_r7_16 : GW1 wsL_law (Cond.code yX6_isPerson cX6_isPerson 2 (some .boolean)) := ⟨ckm_wsL_law_r7 _ (List.mem_of_getElem? (i := 16) rfl), good_of_word rfl⟩
theorem gw_r7_17 : GW1 wsL_law (Cond.methodLink RX6 54 yX6_told) := ⟨ckm_wsL_law_r7 _ (List.mem_of_getElem? (i := 17) rfl), good_of_word rfl⟩
theorem gw_r7_18 : GW1 wsL_law (Cond.instanceMethod yX6_told) := ⟨ckm_wsL_law_r7 _ (List.mem_of_getElem? (i := 18) rfl), good_of_word rfl⟩
theorem gw_r7_19 : GW1 wsL_law (Cond.selects RX6 yX6_told yX6_told) := ⟨ckm_wsL_law_r7 _ (List.mem_of_getElem? (i := 19) rfl), good_of_word rfl⟩
theorem gw_r7_20 : GW1 wsL_law (Cond.code yX6_told cX6_told 3 (some .int)) := ⟨ckm_wsL_law_r7 _ (List.mem_of_getElem? (i := 20) rfl), good_of_word rfl⟩
theorem gw_r7_21 : GW1 wsL_law (Cond.methodLink RX6 84 yX6_runs) := ⟨ckm_wsL_law_r7 _ (List.mem_of_getElem? (i := 21) rfl), good_of_word rfl⟩
theorem gw_r7_22 : GW1 wsL_law (Cond.instanceMethod yX6_runs) := ⟨ckm_wsL_law_r7 _ (List.mem_of_getElem? (i := 22) rfl), good_of_word rfl⟩
theorem gw_r7_23 : GW1 wsL_law (Cond.selects RX6 yX6_runs yX6_runs) := ⟨ckm_wsL_law_r7 _ (List.mem_of_getElem? (i := 23) rfl), good_of_word rfl⟩
theorem gw_r8_0 : GW1 wsL_law (Cond.code yX6_runs cX6_runs 4 (some .int)) := ⟨ckm_wsL_law_r8 _ (List.mem_of_getElem? (i := 0) rfl), good_of_word rfl⟩
theorem gw_r8_1 : GW1 wsL_law (Cond.methodLink RX6 65 yX6_isStopped) := ⟨ckm_wsL_law_r8 _ (List.mem_of_getElem? (i := 1) rfl), good_of_word rfl⟩
theorem gw_r8_2 : GW1 wsL_law (Cond.instanceMethod yX6_isStopped) := ⟨ckm_wsL_law_r8 _ (List.mem_of_getElem? (i := 2) rfl), good_of_word rfl⟩
theorem gw_r8_3 : GW1 wsL_law (Cond.selects RX6 yX6_isStopped yX6_isStopped) := ⟨ckm_wsL_law_r8 _ (List.mem_of_getElem? (i := 3) rfl), good_of_word rfl⟩
theorem gw_r8_4 : GW1 wsL_law (Cond.code yX6_isStopped cX6_isStopped 2 (some .boolean)) := ⟨ckm_wsL_law_r8 _ (List.mem_of_getElem? (i := 4) rfl), good_of_word rfl⟩
theorem gw_r8_5 : GW1 wsL_law (Cond.methodLink RX6 58 yX6_turns) := ⟨ckm_wsL_law_r8 _ (List.mem_of_getElem? (i := 5) rfl), good_of_word rfl⟩
theorem gw_r8_6 : GW1 wsL_law (Cond.instanceMethod yX6_turns) := ⟨ckm_wsL_law_r8 _ (List.mem_of_getElem? (i := 6) rfl), good_of_word rfl⟩
theorem gw_r8_7 : GW1 wsL_law (Cond.selects RX6 yX6_turns yX6_turns) := ⟨ckm_wsL_law_r8 _ (List.mem_of_getElem? (i := 7) rfl), good_of_word rfl⟩
theorem gw_r8_8 : GW1 wsL_law (Cond.code yX6_turns cX6_turns 2 (some .int)) := ⟨ckm_wsL_law_r8 _ (List.mem_of_getElem? (i := 8) rfl), good_of_word rfl⟩
theorem gw_r8_9 : GW1 wsL_law (Cond.methodLink RX6 62 yX6_whom) := ⟨ckm_wsL_law_r8 _ (List.mem_of_getElem? (i := 9) rfl), good_of_word rfl⟩
theorem gw_r8_10 : GW1 wsL_law (Cond.instanceMethod yX6_whom) := ⟨ckm_wsL_law_r8 _ (List.mem_of_getElem? (i := 10) rfl), good_of_word rfl⟩
theorem gw_r8_11 : GW1 wsL_law (Cond.selects RX6 yX6_whom yX6_whom) := ⟨ckm_wsL_law_r8 _ (List.mem_of_getElem? (i := 11) rfl), good_of_word rfl⟩
theorem gw_r8_12 : GW1 wsL_law (Cond.code yX6_whom cX6_whom 2 (some .int)) := ⟨ckm_wsL_law_r8 _ (List.mem_of_getElem? (i := 12) rfl), good_of_word rfl⟩
theorem gw_r8_13 : GW1 wsL_law (Cond.methodLink RX6 69 yX6_windersOf) := ⟨ckm_wsL_law_r8 _ (List.mem_of_getElem? (i := 13) rfl), good_of_word rfl⟩
theorem gw_r8_14 : GW1 wsL_law (Cond.instanceMethod yX6_windersOf) := ⟨ckm_wsL_law_r8 _ (List.mem_of_getElem? (i := 14) rfl), good_of_word rfl⟩
theorem gw_r8_15 : GW1 wsL_law (Cond.selects RX6 yX6_windersOf yX6_windersOf) := ⟨ckm_wsL_law_r8 _ (List.mem_of_getElem? (i := 15) rfl), good_of_word rfl⟩
theorem gw_r8_16 : GW1 wsL_law (Cond.code yX6_windersOf cX6_windersOf 4 (some .int)) := ⟨ckm_wsL_law_r8 _ (List.mem_of_getElem? (i := 16) rfl), good_of_word rfl⟩
theorem gw_r8_17 : GW1 wsL_law (Cond.methodLink RL 22 yX5_type) := ⟨ckm_wsL_law_r8 _ (List.mem_of_getElem? (i := 17) rfl), good_of_word rfl⟩
theorem gw_r8_18 : GW1 wsL_law (Cond.instanceMethod yX5_type) := ⟨ckm_wsL_law_r8 _ (List.mem_of_getElem? (i := 18) rfl), good_of_word rfl⟩
theorem gw_r8_19 : GW1 wsL_law (Cond.selects RX5 yX5_type yX5_type) := ⟨ckm_wsL_law_r8 _ (List.mem_of_getElem? (i := 19) rfl), good_of_word rfl⟩
theorem gw_r8_20 : GW1 wsL_law (Cond.code yX5_type cX5_type 2 (some .int)) := ⟨ckm_wsL_law_r8 _ (List.mem_of_getElem? (i := 20) rfl), good_of_word rfl⟩
theorem gw_r8_21 : GW1 wsL_law (Cond.instanceMethod yX4_isFull) := ⟨ckm_wsL_law_r8 _ (List.mem_of_getElem? (i := 21) rfl), good_of_word rfl⟩
theorem gw_r8_22 : GW1 wsL_law (Cond.selects RX4 yX4_isFull yX4_isFull) := ⟨ckm_wsL_law_r8 _ (List.mem_of_getElem? (i := 22) rfl), good_of_word rfl⟩
theorem gw_r8_23 : GW1 wsL_law (Cond.code yX4_isFull cX4_isFull 1 (some .boolean)) := ⟨ckm_wsL_law_r8 _ (List.mem_of_getElem? (i := 23) rfl), good_of_word rfl⟩
theorem gw_r9_0 : GW1 wsL_law (Cond.instanceMethod yX4_append) := ⟨ckm_wsL_law_r9 _ (List.mem_of_getElem? (i := 0) rfl), good_of_word rfl⟩
theorem gw_r9_1 : GW1 wsL_law (Cond.selects RX4 yX4_append yX4_append) := ⟨ckm_wsL_law_r9 _ (List.mem_of_getElem? (i := 1) rfl), good_of_word rfl⟩
theorem gw_r9_2 : GW1 wsL_law (Cond.code yX4_append cX4_append 2 (some .int)) := ⟨ckm_wsL_law_r9 _ (List.mem_of_getElem? (i := 2) rfl), good_of_word rfl⟩
theorem gw_r9_3 : GW1 wsL_law (Cond.methodLink RL 26 yX6_type) := ⟨ckm_wsL_law_r9 _ (List.mem_of_getElem? (i := 3) rfl), good_of_word rfl⟩
theorem gw_r9_4 : GW1 wsL_law (Cond.instanceMethod yX6_type) := ⟨ckm_wsL_law_r9 _ (List.mem_of_getElem? (i := 4) rfl), good_of_word rfl⟩
theorem gw_r9_5 : GW1 wsL_law (Cond.selects RX6 yX6_type yX6_type) := ⟨ckm_wsL_law_r9 _ (List.mem_of_getElem? (i := 5) rfl), good_of_word rfl⟩
theorem gw_r9_6 : GW1 wsL_law (Cond.code yX6_type cX6_type 2 (some .int)) := ⟨ckm_wsL_law_r9 _ (List.mem_of_getElem? (i := 6) rfl), good_of_word rfl⟩
theorem gw_r9_7 : GW1 wsL_law (Cond.constantLong RX6 123 (32)) := ⟨ckm_wsL_law_r9 _ (List.mem_of_getElem? (i := 7) rfl), good_of_word rfl⟩
theorem gw_r9_8 : GW1 wsL_law (Cond.constantLong RX6 125 (126)) := ⟨ckm_wsL_law_r9 _ (List.mem_of_getElem? (i := 8) rfl), good_of_word rfl⟩
theorem gw_r9_9 : GW1 wsL_law (Cond.fieldLink RX6 127 "KeyedFeelingsModel" "typed" "I") := ⟨ckm_wsL_law_r9 _ (List.mem_of_getElem? (i := 9) rfl), good_of_word rfl⟩
theorem gw_r9_10 : GW1 wsL_law (Cond.methodLink RL 27 yX5_close) := ⟨ckm_wsL_law_r9 _ (List.mem_of_getElem? (i := 10) rfl), good_of_word rfl⟩
theorem gw_r9_11 : GW1 wsL_law (Cond.instanceMethod yX5_close) := ⟨ckm_wsL_law_r9 _ (List.mem_of_getElem? (i := 11) rfl), good_of_word rfl⟩
theorem gw_r9_12 : GW1 wsL_law (Cond.selects RX5 yX5_close yX5_close) := ⟨ckm_wsL_law_r9 _ (List.mem_of_getElem? (i := 12) rfl), good_of_word rfl⟩
theorem gw_r9_13 : GW1 wsL_law (Cond.code yX5_close cX5_close 3 (some .int)) := ⟨ckm_wsL_law_r9 _ (List.mem_of_getElem? (i := 13) rfl), good_of_word rfl⟩
theorem gw_r9_14 : GW1 wsL_law (Cond.instanceMethod yX2_empty) := ⟨ckm_wsL_law_r9 _ (List.mem_of_getElem? (i := 14) rfl), good_of_word rfl⟩
theorem gw_r9_15 : GW1 wsL_law (Cond.selects RX2 yX2_empty yX2_empty) := ⟨ckm_wsL_law_r9 _ (List.mem_of_getElem? (i := 15) rfl), good_of_word rfl⟩
theorem gw_r9_16 : GW1 wsL_law (Cond.code yX2_empty cX2_empty 1 none) := ⟨ckm_wsL_law_r9 _ (List.mem_of_getElem? (i := 16) rfl), good_of_word rfl⟩
theorem gw_r9_17 : GW1 wsL_law (Cond.instanceMethod yX4_readClose) := ⟨ckm_wsL_law_r9 _ (List.mem_of_getElem? (i := 17) rfl), good_of_word rfl⟩
theorem gw_r9_18 : GW1 wsL_law (Cond.selects RX4 yX4_readClose yX4_readClose) := ⟨ckm_wsL_law_r9 _ (List.mem_of_getElem? (i := 18) rfl), good_of_word rfl⟩
theorem gw_r9_19 : GW1 wsL_law (Cond.code yX4_readClose cX4_readClose 3 (some .boolean)) := ⟨ckm_wsL_law_r9 _ (List.mem_of_getElem? (i := 19) rfl), good_of_word rfl⟩
theorem gw_r9_20 : GW1 wsL_law (Cond.methodLink RX4 22 yX4_take) := ⟨ckm_wsL_law_r9 _ (List.mem_of_getElem? (i := 20) rfl), good_of_word rfl⟩
theorem gw_r9_21 : GW1 wsL_law (Cond.instanceMethod yX4_take) := ⟨ckm_wsL_law_r9 _ (List.mem_of_getElem? (i := 21) rfl), good_of_word rfl⟩
theorem gw_r9_22 : GW1 wsL_law (Cond.selects RX4 yX4_take yX4_take) := ⟨ckm_wsL_law_r9 _ (List.mem_of_getElem? (i := 22) rfl), good_of_word rfl⟩
theorem gw_r9_23 : GW1 wsL_law (Cond.code yX4_take cX4_take 3 (some .boolean)) := ⟨ckm_wsL_law_r9 _ (List.mem_of_getElem? (i := 23) rfl), good_of_word rfl⟩
theorem gw_r10_0 : GW1 wsL_law (Cond.methodLink RX4 30 yX4_letterHere) := ⟨ckm_wsL_law_r10 _ (List.mem_of_getElem? (i := 0) rfl), good_of_word rfl⟩
theorem gw_r10_1 : GW1 wsL_law (Cond.instanceMethod yX4_letterHere) := ⟨ckm_wsL_law_r10 _ (List.mem_of_getElem? (i := 1) rfl), good_of_word rfl⟩
theorem gw_r10_2 : GW1 wsL_law (Cond.selects RX4 yX4_letterHere yX4_letterHere) := ⟨ckm_wsL_law_r10 _ (List.mem_of_getElem? (i := 2) rfl), good_of_word rfl⟩
theorem gw_r10_3 : GW1 wsL_law (Cond.code yX4_letterHere cX4_letterHere 1 (some .int)) := ⟨ckm_wsL_law_r10 _ (List.mem_of_getElem? (i := 3) rfl), good_of_word rfl⟩
theorem gw_r10_4 : GW1 wsL_law (Cond.methodLink RX4 26 yX4_readPerson) := ⟨ckm_wsL_law_r10 _ (List.mem_of_getElem? (i := 4) rfl), good_of_word rfl⟩
theorem gw_r10_5 : GW1 wsL_law (Cond.instanceMethod yX4_readPerson) := ⟨ckm_wsL_law_r10 _ (List.mem_of_getElem? (i := 5) rfl), good_of_word rfl⟩
theorem gw_r10_6 : GW1 wsL_law (Cond.selects RX4 yX4_readPerson yX4_readPerson) := ⟨ckm_wsL_law_r10 _ (List.mem_of_getElem? (i := 6) rfl), good_of_word rfl⟩
theorem gw_r10_7 : GW1 wsL_law (Cond.code yX4_readPerson cX4_readPerson 5 (some .boolean)) := ⟨ckm_wsL_law_r10 _ (List.mem_of_getElem? (i := 7) rfl), good_of_word rfl⟩
theorem gw_r10_8 : GW1 wsL_law (Cond.methodLink RX4 37 yX4_kindOf) := ⟨ckm_wsL_law_r10 _ (List.mem_of_getElem? (i := 8) rfl), good_of_word rfl⟩
theorem gw_r10_9 : GW1 wsL_law (Cond.static yX4_kindOf) := ⟨ckm_wsL_law_r10 _ (List.mem_of_getElem? (i := 9) rfl), good_of_word rfl⟩
theorem gw_r10_10 : GW1 wsL_law (Cond.code yX4_kindOf cX4_kindOf 2 (some .int)) := ⟨ckm_wsL_law_r10 _ (List.mem_of_getElem? (i := 10) rfl), good_of_word rfl⟩
theorem gw_r10_11 : GW1 wsL_law (Cond.methodLink RX4 66 yJ0_length_8abf5) := ⟨ckm_wsL_law_r10 _ (List.mem_of_getElem? (i := 11) rfl), good_of_word rfl⟩
theorem gw_r10_12 : GW1 wsL_law (Cond.instanceMethod yJ0_length_8abf5) := ⟨ckm_wsL_law_r10 _ (List.mem_of_getElem? (i := 12) rfl), good_of_word rfl⟩
theorem gw_r10_13 : GW1 wsL_law (Cond.selects RJ0 yJ0_length_8abf5 yJ0_length_8abf5) := ⟨ckm_wsL_law_r10 _ (List.mem_of_getElem? (i := 13) rfl), good_of_word rfl⟩
theorem gw_r10_14 : GW1 wsL_law (Cond.initialized RJ0) := ⟨ckm_wsL_law_r10 _ (List.mem_of_getElem? (i := 14) rfl), good_of_word rfl⟩
theorem gw_r10_15 : GW1 wsL_law (Cond.code yJ0_length_8abf5 cJ0_length_8abf5 1 (some .int)) := ⟨ckm_wsL_law_r10 _ (List.mem_of_getElem? (i := 15) rfl), good_of_word rfl⟩
theorem gw_r10_16 : GW1 wsL_law (Cond.fieldLink RJ0 9 "java/lang/String" "value" "[B") := ⟨ckm_wsL_law_r10 _ (List.mem_of_getElem? (i := 16) rfl), good_of_word rfl⟩
theorem gw_r10_17 : GW1 wsL_law (Cond.methodLink RJ0 335 yJ0_coder_7d493) := ⟨ckm_wsL_law_r10 _ (List.mem_of_getElem? (i := 17) rfl), good_of_word rfl⟩
theorem gw_r10_18 : GW1 wsL_law (Cond.instanceMethod yJ0_coder_7d493) := ⟨ckm_wsL_law_r10 _ (List.mem_of_getElem? (i := 18) rfl), good_of_word rfl⟩
theorem gw_r10_19 : GW1 wsL_law (Cond.selects RJ0 yJ0_coder_7d493 yJ0_coder_7d493) := ⟨ckm_wsL_law_r10 _ (List.mem_of_getElem? (i := 19) rfl), good_of_word rfl⟩
theorem gw_r10_20 : GW1 wsL_law (Cond.code yJ0_coder_7d493 cJ0_coder_7d493 1 (some .byte)) := ⟨ckm_wsL_law_r10 _ (List.mem_of_getElem? (i := 20) rfl), good_of_word rfl⟩
theorem gw_r10_21 : GW1 wsL_law (Cond.fieldLink RJ0 38 "java/lang/String" "COMPACT_STRINGS" "Z") := ⟨ckm_wsL_law_r10 _ (List.mem_of_getElem? (i := 21) rfl), good_of_word rfl⟩
theorem gw_r10_22 : GW1 wsL_law (Cond.fieldLink RJ0 15 "java/lang/String" "coder" "B") := ⟨ckm_wsL_law_r10 _ (List.mem_of_getElem? (i := 22) rfl), good_of_word rfl⟩
theorem gw_r10_23 : GW1 wsL_law (Cond.methodLink RX4 71 yJ0_charAt_5068e) := ⟨ckm_wsL_law_r10 _ (List.mem_of_getElem? (i := 23) rfl), good_of_word rfl⟩
theorem gw_r11_0 : GW1 wsL_law (Cond.instanceMethod yJ0_charAt_5068e) := ⟨ckm_wsL_law_r11 _ (List.mem_of_getElem? (i := 0) rfl), good_of_word rfl⟩
theorem gw_r11_1 : GW1 wsL_law (Cond.selects RJ0 yJ0_charAt_5068e yJ0_charAt_5068e) := ⟨ckm_wsL_law_r11 _ (List.mem_of_getElem? (i := 1) rfl), good_of_word rfl⟩
theorem gw_r11_2 : GW1 wsL_law (Cond.code yJ0_charAt_5068e cJ0_charAt_5068e 2 (some .char)) := ⟨ckm_wsL_law_r11 _ (List.mem_of_getElem? (i := 2) rfl), good_of_word rfl⟩
theorem gw_r11_3 : GW1 wsL_law (Cond.methodLink RJ0 492 yJ0_isLatin1_aae02) := ⟨ckm_wsL_law_r11 _ (List.mem_of_getElem? (i := 3) rfl), good_of_word rfl⟩
theorem gw_r11_4 : GW1 wsL_law (Cond.instanceMethod yJ0_isLatin1_aae02) := ⟨ckm_wsL_law_r11 _ (List.mem_of_getElem? (i := 4) rfl), good_of_word rfl⟩
theorem gw_r11_5 : GW1 wsL_law (Cond.selects RJ0 yJ0_isLatin1_aae02 yJ0_isLatin1_aae02) := ⟨ckm_wsL_law_r11 _ (List.mem_of_getElem? (i := 5) rfl), good_of_word rfl⟩
theorem gw_r11_6 : GW1 wsL_law (Cond.code yJ0_isLatin1_aae02 cJ0_isLatin1_aae02 1 (some .boolean)) := ⟨ckm_wsL_law_r11 _ (List.mem_of_getElem? (i := 6) rfl), good_of_word rfl⟩
theorem gw_r11_7 : GW1 wsL_law (Cond.methodLink RJ0 495 yJ1_charAt_3b067) := ⟨ckm_wsL_law_r11 _ (List.mem_of_getElem? (i := 7) rfl), good_of_word rfl⟩
theorem gw_r11_8 : GW1 wsL_law (Cond.static yJ1_charAt_3b067) := ⟨ckm_wsL_law_r11 _ (List.mem_of_getElem? (i := 8) rfl), good_of_word rfl⟩
theorem gw_r11_9 : GW1 wsL_law (Cond.initialized RJ1) := ⟨ckm_wsL_law_r11 _ (List.mem_of_getElem? (i := 9) rfl), good_of_word rfl⟩
theorem gw_r11_10 : GW1 wsL_law (Cond.code yJ1_charAt_3b067 cJ1_charAt_3b067 2 (some .char)) := ⟨ckm_wsL_law_r11 _ (List.mem_of_getElem? (i := 10) rfl), good_of_word rfl⟩
theorem gw_r11_11 : GW1 wsL_law (Cond.methodLink RJ1 9 yJ0_checkIndex_df160) := ⟨ckm_wsL_law_r11 _ (List.mem_of_getElem? (i := 11) rfl), good_of_word rfl⟩
theorem gw_r11_12 : GW1 wsL_law (Cond.static yJ0_checkIndex_df160) := ⟨ckm_wsL_law_r11 _ (List.mem_of_getElem? (i := 12) rfl), good_of_word rfl⟩
theorem gw_r11_13 : GW1 wsL_law (Cond.code yJ0_checkIndex_df160 cJ0_checkIndex_df160 2 none) := ⟨ckm_wsL_law_r11 _ (List.mem_of_getElem? (i := 13) rfl), good_of_word rfl⟩
theorem gw_r11_14 : GW1 wsL_law (Cond.fieldLink RJ0 1053 "jdk/internal/util/Preconditions" "SIOOBE_FORMATTER" "Ljava/util/function/BiFunction;") := ⟨ckm_wsL_law_r11 _ (List.mem_of_getElem? (i := 14) rfl), good_of_word rfl⟩
theorem gw_r11_15 : GW1 wsL_law (Cond.methodLink RJ0 1059 yJ3_checkIndex_8e157) := ⟨ckm_wsL_law_r11 _ (List.mem_of_getElem? (i := 15) rfl), good_of_word rfl⟩
theorem gw_r11_16 : GW1 wsL_law (Cond.static yJ3_checkIndex_8e157) := ⟨ckm_wsL_law_r11 _ (List.mem_of_getElem? (i := 16) rfl), good_of_word rfl⟩
theorem gw_r11_17 : GW1 wsL_law (Cond.initialized RJ3) := ⟨ckm_wsL_law_r11 _ (List.mem_of_getElem? (i := 17) rfl), good_of_word rfl⟩
theorem gw_r11_18 : GW1 wsL_law (Cond.code yJ3_checkIndex_8e157 cJ3_checkIndex_8e157 3 (some .int)) := ⟨ckm_wsL_law_r11 _ (List.mem_of_getElem? (i := 18) rfl), good_of_word rfl⟩
theorem gw_r11_19 : GW1 wsL_law (Cond.methodLink RJ0 498 yJ2_charAt_3b067) := ⟨ckm_wsL_law_r11 _ (List.mem_of_getElem? (i := 19) rfl), good_of_word rfl⟩
theorem gw_r11_20 : GW1 wsL_law (Cond.static yJ2_charAt_3b067) := ⟨ckm_wsL_law_r11 _ (List.mem_of_getElem? (i := 20) rfl), good_of_word rfl⟩
theorem gw_r11_21 : GW1 wsL_law (Cond.initialized RJ2) := ⟨ckm_wsL_law_r11 _ (List.mem_of_getElem? (i := 21) rfl), good_of_word rfl⟩
theorem gw_r11_22 : GW1 wsL_law (Cond.code yJ2_charAt_3b067 cJ2_charAt_3b067 2 (some .char)) := ⟨ckm_wsL_law_r11 _ (List.mem_of_getElem? (i := 22) rfl), good_of_word rfl⟩
theorem gw_r11_23 : GW1 wsL_law (Cond.methodLink RJ2 67 yJ2_checkIndex_2214a) := ⟨ckm_wsL_law_r11 _ (List.mem_of_getElem? (i := 23) rfl), good_of_word rfl⟩
theorem gw_r12_0 : GW1 wsL_law (Cond.static yJ2_checkIndex_2214a) := ⟨ckm_wsL_law_r12 _ (List.mem_of_getElem? (i := 0) rfl), good_of_word rfl⟩
theorem gw_r12_1 : GW1 wsL_law (Cond.code yJ2_checkIndex_2214a cJ2_checkIndex_2214a 2 none) := ⟨ckm_wsL_law_r12 _ (List.mem_of_getElem? (i := 1) rfl), good_of_word rfl⟩
theorem gw_r12_2 : GW1 wsL_law (Cond.methodLink RJ2 48 yJ2_length_9d52b) := ⟨ckm_wsL_law_r12 _ (List.mem_of_getElem? (i := 2) rfl), good_of_word rfl⟩
theorem gw_r12_3 : GW1 wsL_law (Cond.static yJ2_length_9d52b) := ⟨ckm_wsL_law_r12 _ (List.mem_of_getElem? (i := 3) rfl), good_of_word rfl⟩
theorem gw_r12_4 : GW1 wsL_law (Cond.code yJ2_length_9d52b cJ2_length_9d52b 1 (some .int)) := ⟨ckm_wsL_law_r12 _ (List.mem_of_getElem? (i := 4) rfl), good_of_word rfl⟩
theorem gw_r12_5 : GW1 wsL_law (Cond.methodLink RJ2 414 yJ0_checkIndex_df160) := ⟨ckm_wsL_law_r12 _ (List.mem_of_getElem? (i := 5) rfl), good_of_word rfl⟩
theorem gw_r12_6 : GW1 wsL_law (Cond.methodLink RJ2 71 yJ2_getChar_3b067) := ⟨ckm_wsL_law_r12 _ (List.mem_of_getElem? (i := 6) rfl), good_of_word rfl⟩
theorem gw_r12_7 : GW1 wsL_law (Cond.static yJ2_getChar_3b067) := ⟨ckm_wsL_law_r12 _ (List.mem_of_getElem? (i := 7) rfl), good_of_word rfl⟩
theorem gw_r12_8 : GW1 wsL_law (Cond.code yJ2_getChar_3b067 cJ2_getChar_3b067 2 (some .char)) := ⟨ckm_wsL_law_r12 _ (List.mem_of_getElem? (i := 8) rfl), good_of_word rfl⟩
theorem gw_r12_9 : GW1 wsL_law (Cond.fieldLink RJ2 44 "java/lang/StringUTF16" "$assertionsDisabled" "Z") := ⟨ckm_wsL_law_r12 _ (List.mem_of_getElem? (i := 9) rfl), good_of_word rfl⟩
theorem gw_r12_10 : GW1 wsL_law (Cond.fieldLink RJ2 59 "java/lang/StringUTF16" "HI_BYTE_SHIFT" "I") := ⟨ckm_wsL_law_r12 _ (List.mem_of_getElem? (i := 10) rfl), good_of_word rfl⟩
theorem gw_r12_11 : GW1 wsL_law (Cond.fieldLink RJ2 63 "java/lang/StringUTF16" "LO_BYTE_SHIFT" "I") := ⟨ckm_wsL_law_r12 _ (List.mem_of_getElem? (i := 11) rfl), good_of_word rfl⟩
theorem gw_r12_12 : GW1 wsL_law (Cond.methodLink RX4 41 yX4_takeNumber) := ⟨ckm_wsL_law_r12 _ (List.mem_of_getElem? (i := 12) rfl), good_of_word rfl⟩
theorem gw_r12_13 : GW1 wsL_law (Cond.instanceMethod yX4_takeNumber) := ⟨ckm_wsL_law_r12 _ (List.mem_of_getElem? (i := 13) rfl), good_of_word rfl⟩
theorem gw_r12_14 : GW1 wsL_law (Cond.selects RX4 yX4_takeNumber yX4_takeNumber) := ⟨ckm_wsL_law_r12 _ (List.mem_of_getElem? (i := 14) rfl), good_of_word rfl⟩
theorem gw_r12_15 : GW1 wsL_law (Cond.code yX4_takeNumber cX4_takeNumber 6 (some .int)) := ⟨ckm_wsL_law_r12 _ (List.mem_of_getElem? (i := 15) rfl), good_of_word rfl⟩
theorem gw_r12_16 : GW1 wsL_law (Cond.methodLink RX4 75 yX4_takeDigit) := ⟨ckm_wsL_law_r12 _ (List.mem_of_getElem? (i := 16) rfl), good_of_word rfl⟩
theorem gw_r12_17 : GW1 wsL_law (Cond.instanceMethod yX4_takeDigit) := ⟨ckm_wsL_law_r12 _ (List.mem_of_getElem? (i := 17) rfl), good_of_word rfl⟩
theorem gw_r12_18 : GW1 wsL_law (Cond.selects RX4 yX4_takeDigit yX4_takeDigit) := ⟨ckm_wsL_law_r12 _ (List.mem_of_getElem? (i := 18) rfl), good_of_word rfl⟩
theorem gw_r12_19 : GW1 wsL_law (Cond.code yX4_takeDigit cX4_takeDigit 1 (some .int)) := ⟨ckm_wsL_law_r12 _ (List.mem_of_getElem? (i := 19) rfl), good_of_word rfl⟩
theorem gw_r12_20 : GW1 wsL_law (Cond.methodLink RX4 50 yX4_readWinding) := ⟨ckm_wsL_law_r12 _ (List.mem_of_getElem? (i := 20) rfl), good_of_word rfl⟩
theorem gw_r12_21 : GW1 wsL_law (Cond.instanceMethod yX4_readWinding) := ⟨ckm_wsL_law_r12 _ (List.mem_of_getElem? (i := 21) rfl), good_of_word rfl⟩
theorem gw_r12_22 : GW1 wsL_law (Cond.selects RX4 yX4_readWinding yX4_readWinding) := ⟨ckm_wsL_law_r12 _ (List.mem_of_getElem? (i := 22) rfl), good_of_word rfl⟩
theorem gw_r12_23 : GW1 wsL_law (Cond.code yX4_readWinding cX4_readWinding 5 (some .boolean)) := ⟨ckm_wsL_law_r12 _ (List.mem_of_getElem? (i := 23) rfl), good_of_word rfl⟩
theorem gw_r13_0 : GW1 wsL_law (Cond.methodLink RX4 34 yX4_allWoundAreThere) := ⟨ckm_wsL_law_r13 _ (List.mem_of_getElem? (i := 0) rfl), good_of_word rfl⟩
theorem gw_r13_1 : GW1 wsL_law (Cond.static yX4_allWoundAreThere) := ⟨ckm_wsL_law_r13 _ (List.mem_of_getElem? (i := 1) rfl), good_of_word rfl⟩
theorem gw_r13_2 : GW1 wsL_law (Cond.code yX4_allWoundAreThere cX4_allWoundAreThere 2 (some .boolean)) := ⟨ckm_wsL_law_r13 _ (List.mem_of_getElem? (i := 2) rfl), good_of_word rfl⟩
theorem gw_r13_3 : GW1 wsL_law (Cond.instanceMethod yX4_empty) := ⟨ckm_wsL_law_r13 _ (List.mem_of_getElem? (i := 3) rfl), good_of_word rfl⟩
theorem gw_r13_4 : GW1 wsL_law (Cond.selects RX4 yX4_empty yX4_empty) := ⟨ckm_wsL_law_r13 _ (List.mem_of_getElem? (i := 4) rfl), good_of_word rfl⟩
theorem gw_r13_5 : GW1 wsL_law (Cond.code yX4_empty cX4_empty 1 none) := ⟨ckm_wsL_law_r13 _ (List.mem_of_getElem? (i := 5) rfl), good_of_word rfl⟩
theorem gw_r13_6 : GW1 wsL_law (Cond.instanceMethod yX2_become) := ⟨ckm_wsL_law_r13 _ (List.mem_of_getElem? (i := 6) rfl), good_of_word rfl⟩
theorem gw_r13_7 : GW1 wsL_law (Cond.selects RX2 yX2_become yX2_become) := ⟨ckm_wsL_law_r13 _ (List.mem_of_getElem? (i := 7) rfl), good_of_word rfl⟩
theorem gw_r13_8 : GW1 wsL_law (Cond.code yX2_become cX2_become 3 none) := ⟨ckm_wsL_law_r13 _ (List.mem_of_getElem? (i := 8) rfl), good_of_word rfl⟩
theorem gw_r13_9 : GW1 wsL_law (Cond.methodLink RL 31 yX6_close) := ⟨ckm_wsL_law_r13 _ (List.mem_of_getElem? (i := 9) rfl), good_of_word rfl⟩
theorem gw_r13_10 : GW1 wsL_law (Cond.instanceMethod yX6_close) := ⟨ckm_wsL_law_r13 _ (List.mem_of_getElem? (i := 10) rfl), good_of_word rfl⟩
theorem gw_r13_11 : GW1 wsL_law (Cond.selects RX6 yX6_close yX6_close) := ⟨ckm_wsL_law_r13 _ (List.mem_of_getElem? (i := 11) rfl), good_of_word rfl⟩
theorem gw_r13_12 : GW1 wsL_law (Cond.code yX6_close cX6_close 3 (some .int)) := ⟨ckm_wsL_law_r13 _ (List.mem_of_getElem? (i := 12) rfl), good_of_word rfl⟩
theorem gw_r13_13 : GW1 wsL_law (Cond.fieldLink RX6 130 "KeyedFeelingsModel" "place" "I") := ⟨ckm_wsL_law_r13 _ (List.mem_of_getElem? (i := 13) rfl), good_of_word rfl⟩
theorem gw_r13_14 : GW1 wsL_law (Cond.fieldLink RX6 133 "KeyedFeelingsModel" "isFault" "Z") := ⟨ckm_wsL_law_r13 _ (List.mem_of_getElem? (i := 14) rfl), good_of_word rfl⟩
theorem gw_r13_15 : GW1 wsL_law (Cond.methodLink RX6 151 yX6_peopleRead) := ⟨ckm_wsL_law_r13 _ (List.mem_of_getElem? (i := 15) rfl), good_of_word rfl⟩
theorem gw_r13_16 : GW1 wsL_law (Cond.instanceMethod yX6_peopleRead) := ⟨ckm_wsL_law_r13 _ (List.mem_of_getElem? (i := 16) rfl), good_of_word rfl⟩
theorem gw_r13_17 : GW1 wsL_law (Cond.selects RX6 yX6_peopleRead yX6_peopleRead) := ⟨ckm_wsL_law_r13 _ (List.mem_of_getElem? (i := 17) rfl), good_of_word rfl⟩
theorem gw_r13_18 : GW1 wsL_law (Cond.code yX6_peopleRead cX6_peopleRead 7 (some .int)) := ⟨ckm_wsL_law_r13 _ (List.mem_of_getElem? (i := 18) rfl), good_of_word rfl⟩
theorem gw_r13_19 : GW1 wsL_law (Cond.methodLink RX6 137 yX6_here) := ⟨ckm_wsL_law_r13 _ (List.mem_of_getElem? (i := 19) rfl), good_of_word rfl⟩
theorem gw_r13_20 : GW1 wsL_law (Cond.instanceMethod yX6_here) := ⟨ckm_wsL_law_r13 _ (List.mem_of_getElem? (i := 20) rfl), good_of_word rfl⟩
theorem gw_r13_21 : GW1 wsL_law (Cond.selects RX6 yX6_here yX6_here) := ⟨ckm_wsL_law_r13 _ (List.mem_of_getElem? (i := 21) rfl), good_of_word rfl⟩
theorem gw_r13_22 : GW1 wsL_law (Cond.code yX6_here cX6_here 1 (some .int)) := ⟨ckm_wsL_law_r13 _ (List.mem_of_getElem? (i := 22) rfl), good_of_word rfl⟩
theorem gw_r13_23 : GW1 wsL_law (Cond.methodLink RX6 144 yX6_must) := ⟨ckm_wsL_law_r13 _ (List.mem_of_getElem? (i := 23) rfl), good_of_word rfl⟩
theorem gw_r14_0 : GW1 wsL_law (Cond.instanceMethod yX6_must) := ⟨ckm_wsL_law_r14 _ (List.mem_of_getElem? (i := 0) rfl), good_of_word rfl⟩
theorem gw_r14_1 : GW1 wsL_law (Cond.selects RX6 yX6_must yX6_must) := ⟨ckm_wsL_law_r14 _ (List.mem_of_getElem? (i := 1) rfl), good_of_word rfl⟩
theorem gw_r14_2 : GW1 wsL_law (Cond.code yX6_must cX6_must 2 none) := ⟨ckm_wsL_law_r14 _ (List.mem_of_getElem? (i := 2) rfl), good_of_word rfl⟩
theorem gw_r14_3 : GW1 wsL_law (Cond.methodLink RX6 148 yX6_number) := ⟨ckm_wsL_law_r14 _ (List.mem_of_getElem? (i := 3) rfl), good_of_word rfl⟩
theorem gw_r14_4 : GW1 wsL_law (Cond.instanceMethod yX6_number) := ⟨ckm_wsL_law_r14 _ (List.mem_of_getElem? (i := 4) rfl), good_of_word rfl⟩
theorem gw_r14_5 : GW1 wsL_law (Cond.selects RX6 yX6_number yX6_number) := ⟨ckm_wsL_law_r14 _ (List.mem_of_getElem? (i := 5) rfl), good_of_word rfl⟩
theorem gw_r14_6 : GW1 wsL_law (Cond.code yX6_number cX6_number 6 (some .int)) := ⟨ckm_wsL_law_r14 _ (List.mem_of_getElem? (i := 6) rfl), good_of_word rfl⟩
theorem gw_r14_7 : GW1 wsL_law (Cond.constantLong RX6 140 (48)) := ⟨ckm_wsL_law_r14 _ (List.mem_of_getElem? (i := 7) rfl), good_of_word rfl⟩
theorem gw_r14_8 : GW1 wsL_law (Cond.constantLong RX6 142 (57)) := ⟨ckm_wsL_law_r14 _ (List.mem_of_getElem? (i := 8) rfl), good_of_word rfl⟩
theorem gw_r14_9 : GW1 wsL_law (Cond.methodLink RX6 154 yX6_areThere) := ⟨ckm_wsL_law_r14 _ (List.mem_of_getElem? (i := 9) rfl), good_of_word rfl⟩
theorem gw_r14_10 : GW1 wsL_law (Cond.instanceMethod yX6_areThere) := ⟨ckm_wsL_law_r14 _ (List.mem_of_getElem? (i := 10) rfl), good_of_word rfl⟩
theorem gw_r14_11 : GW1 wsL_law (Cond.selects RX6 yX6_areThere yX6_areThere) := ⟨ckm_wsL_law_r14 _ (List.mem_of_getElem? (i := 11) rfl), good_of_word rfl⟩
theorem gw_r14_12 : GW1 wsL_law (Cond.code yX6_areThere cX6_areThere 4 (some .boolean)) := ⟨ckm_wsL_law_r14 _ (List.mem_of_getElem? (i := 12) rfl), good_of_word rfl⟩
theorem gw_r14_13 : GW1 wsL_law (Cond.methodLink RL 32 yX5_count) := ⟨ckm_wsL_law_r14 _ (List.mem_of_getElem? (i := 13) rfl), good_of_word rfl⟩
theorem gw_r14_14 : GW1 wsL_law (Cond.instanceMethod yX5_count) := ⟨ckm_wsL_law_r14 _ (List.mem_of_getElem? (i := 14) rfl), good_of_word rfl⟩
theorem gw_r14_15 : GW1 wsL_law (Cond.selects RX5 yX5_count yX5_count) := ⟨ckm_wsL_law_r14 _ (List.mem_of_getElem? (i := 15) rfl), good_of_word rfl⟩
theorem gw_r14_16 : GW1 wsL_law (Cond.code yX5_count cX5_count 2 (some .int)) := ⟨ckm_wsL_law_r14 _ (List.mem_of_getElem? (i := 16) rfl), good_of_word rfl⟩
theorem gw_r14_17 : GW1 wsL_law (Cond.instanceMethod yX2_turnsTogether) := ⟨ckm_wsL_law_r14 _ (List.mem_of_getElem? (i := 17) rfl), good_of_word rfl⟩
theorem gw_r14_18 : GW1 wsL_law (Cond.selects RX2 yX2_turnsTogether yX2_turnsTogether) := ⟨ckm_wsL_law_r14 _ (List.mem_of_getElem? (i := 18) rfl), good_of_word rfl⟩
theorem gw_r14_19 : GW1 wsL_law (Cond.code yX2_turnsTogether cX2_turnsTogether 3 (some .int)) := ⟨ckm_wsL_law_r14 _ (List.mem_of_getElem? (i := 19) rfl), good_of_word rfl⟩
theorem gw_r14_20 : GW1 wsL_law (Cond.instanceMethod yX2_ring) := ⟨ckm_wsL_law_r14 _ (List.mem_of_getElem? (i := 20) rfl), good_of_word rfl⟩
theorem gw_r14_21 : GW1 wsL_law (Cond.selects RX2 yX2_ring yX2_ring) := ⟨ckm_wsL_law_r14 _ (List.mem_of_getElem? (i := 21) rfl), good_of_word rfl⟩
theorem gw_r14_22 : GW1 wsL_law (Cond.code yX2_ring cX2_ring 3 (some .int)) := ⟨ckm_wsL_law_r14 _ (List.mem_of_getElem? (i := 22) rfl), good_of_word rfl⟩
theorem gw_r14_23 : GW1 wsL_law (Cond.methodLink RX2 45 yX2_behind) := ⟨ckm_wsL_law_r14 _ (List.mem_of_getElem? (i := 23) rfl), good_of_word rfl⟩
theorem gw_r15_0 : GW1 wsL_law (Cond.instanceMethod yX2_behind) := ⟨ckm_wsL_law_r15 _ (List.mem_of_getElem? (i := 0) rfl), good_of_word rfl⟩
theorem gw_r15_1 : GW1 wsL_law (Cond.selects RX2 yX2_behind yX2_behind) := ⟨ckm_wsL_law_r15 _ (List.mem_of_getElem? (i := 1) rfl), good_of_word rfl⟩
theorem gw_r15_2 : GW1 wsL_law (Cond.code yX2_behind cX2_behind 5 (some .int)) := ⟨ckm_wsL_law_r15 _ (List.mem_of_getElem? (i := 2) rfl), good_of_word rfl⟩
theorem gw_r15_3 : GW1 wsL_law (Cond.methodLink RX2 42 yX2_has) := ⟨ckm_wsL_law_r15 _ (List.mem_of_getElem? (i := 3) rfl), good_of_word rfl⟩
theorem gw_r15_4 : GW1 wsL_law (Cond.instanceMethod yX2_without) := ⟨ckm_wsL_law_r15 _ (List.mem_of_getElem? (i := 4) rfl), good_of_word rfl⟩
theorem gw_r15_5 : GW1 wsL_law (Cond.selects RX2 yX2_without yX2_without) := ⟨ckm_wsL_law_r15 _ (List.mem_of_getElem? (i := 5) rfl), good_of_word rfl⟩
theorem gw_r15_6 : GW1 wsL_law (Cond.code yX2_without cX2_without 3 (some .int)) := ⟨ckm_wsL_law_r15 _ (List.mem_of_getElem? (i := 6) rfl), good_of_word rfl⟩
theorem gw_r15_7 : GW1 wsL_law (Cond.instanceMethod yX2_isWindingHour) := ⟨ckm_wsL_law_r15 _ (List.mem_of_getElem? (i := 7) rfl), good_of_word rfl⟩
theorem gw_r15_8 : GW1 wsL_law (Cond.selects RX2 yX2_isWindingHour yX2_isWindingHour) := ⟨ckm_wsL_law_r15 _ (List.mem_of_getElem? (i := 8) rfl), good_of_word rfl⟩
theorem gw_r15_9 : GW1 wsL_law (Cond.code yX2_isWindingHour cX2_isWindingHour 1 (some .boolean)) := ⟨ckm_wsL_law_r15 _ (List.mem_of_getElem? (i := 9) rfl), good_of_word rfl⟩
theorem gw_r15_10 : GW1 wsL_law (Cond.methodLink RL 35 yX6_count) := ⟨ckm_wsL_law_r15 _ (List.mem_of_getElem? (i := 10) rfl), good_of_word rfl⟩
theorem gw_r15_11 : GW1 wsL_law (Cond.instanceMethod yX6_count) := ⟨ckm_wsL_law_r15 _ (List.mem_of_getElem? (i := 11) rfl), good_of_word rfl⟩
theorem gw_r15_12 : GW1 wsL_law (Cond.selects RX6 yX6_count yX6_count) := ⟨ckm_wsL_law_r15 _ (List.mem_of_getElem? (i := 12) rfl), good_of_word rfl⟩
theorem gw_r15_13 : GW1 wsL_law (Cond.code yX6_count cX6_count 2 (some .int)) := ⟨ckm_wsL_law_r15 _ (List.mem_of_getElem? (i := 13) rfl), good_of_word rfl⟩
theorem gw_r15_14 : GW1 wsL_law (Cond.methodLink RX6 110 yX6_stopped) := ⟨ckm_wsL_law_r15 _ (List.mem_of_getElem? (i := 14) rfl), good_of_word rfl⟩
theorem gw_r15_15 : GW1 wsL_law (Cond.instanceMethod yX6_stopped) := ⟨ckm_wsL_law_r15 _ (List.mem_of_getElem? (i := 15) rfl), good_of_word rfl⟩
theorem gw_r15_16 : GW1 wsL_law (Cond.selects RX6 yX6_stopped yX6_stopped) := ⟨ckm_wsL_law_r15 _ (List.mem_of_getElem? (i := 16) rfl), good_of_word rfl⟩
theorem gw_r15_17 : GW1 wsL_law (Cond.code yX6_stopped cX6_stopped 3 (some .int)) := ⟨ckm_wsL_law_r15 _ (List.mem_of_getElem? (i := 17) rfl), good_of_word rfl⟩
theorem gw_r15_18 : GW1 wsL_law (Cond.methodLink RX6 114 yX6_turnsAll) := ⟨ckm_wsL_law_r15 _ (List.mem_of_getElem? (i := 18) rfl), good_of_word rfl⟩
theorem gw_r15_19 : GW1 wsL_law (Cond.instanceMethod yX6_turnsAll) := ⟨ckm_wsL_law_r15 _ (List.mem_of_getElem? (i := 19) rfl), good_of_word rfl⟩
theorem gw_r15_20 : GW1 wsL_law (Cond.selects RX6 yX6_turnsAll yX6_turnsAll) := ⟨ckm_wsL_law_r15 _ (List.mem_of_getElem? (i := 20) rfl), good_of_word rfl⟩
theorem gw_r15_21 : GW1 wsL_law (Cond.code yX6_turnsAll cX6_turnsAll 3 (some .int)) := ⟨ckm_wsL_law_r15 _ (List.mem_of_getElem? (i := 21) rfl), good_of_word rfl⟩
theorem gw_r15_22 : GW1 wsL_law (Cond.methodLink RX6 117 yX6_ring) := ⟨ckm_wsL_law_r15 _ (List.mem_of_getElem? (i := 22) rfl), good_of_word rfl⟩
theorem gw_r15_23 : GW1 wsL_law (Cond.instanceMethod yX6_ring) := ⟨ckm_wsL_law_r15 _ (List.mem_of_getElem? (i := 23) rfl), good_of_word rfl⟩
theorem gw_r16_0 : GW1 wsL_law (Cond.selects RX6 yX6_ring yX6_ring) := ⟨ckm_wsL_law_r16 _ (List.mem_of_getElem? (i := 0) rfl), good_of_word rfl⟩
theorem gw_r16_1 : GW1 wsL_law (Cond.code yX6_ring cX6_ring 3 (some .int)) := ⟨ckm_wsL_law_r16 _ (List.mem_of_getElem? (i := 1) rfl), good_of_word rfl⟩
theorem gw_r16_2 : GW1 wsL_law (Cond.methodLink RX6 107 yX6_behind) := ⟨ckm_wsL_law_r16 _ (List.mem_of_getElem? (i := 2) rfl), good_of_word rfl⟩
theorem gw_r16_3 : GW1 wsL_law (Cond.instanceMethod yX6_behind) := ⟨ckm_wsL_law_r16 _ (List.mem_of_getElem? (i := 3) rfl), good_of_word rfl⟩
theorem gw_r16_4 : GW1 wsL_law (Cond.selects RX6 yX6_behind yX6_behind) := ⟨ckm_wsL_law_r16 _ (List.mem_of_getElem? (i := 4) rfl), good_of_word rfl⟩
theorem gw_r16_5 : GW1 wsL_law (Cond.code yX6_behind cX6_behind 4 (some .int)) := ⟨ckm_wsL_law_r16 _ (List.mem_of_getElem? (i := 5) rfl), good_of_word rfl⟩
theorem gw_r16_6 : GW1 wsL_law (Cond.methodLink RX6 120 yX6_without) := ⟨ckm_wsL_law_r16 _ (List.mem_of_getElem? (i := 6) rfl), good_of_word rfl⟩
theorem gw_r16_7 : GW1 wsL_law (Cond.instanceMethod yX6_without) := ⟨ckm_wsL_law_r16 _ (List.mem_of_getElem? (i := 7) rfl), good_of_word rfl⟩
theorem gw_r16_8 : GW1 wsL_law (Cond.selects RX6 yX6_without yX6_without) := ⟨ckm_wsL_law_r16 _ (List.mem_of_getElem? (i := 8) rfl), good_of_word rfl⟩
theorem gw_r16_9 : GW1 wsL_law (Cond.code yX6_without cX6_without 3 (some .int)) := ⟨ckm_wsL_law_r16 _ (List.mem_of_getElem? (i := 9) rfl), good_of_word rfl⟩
theorem gw_r16_10 : GW1 wsL_law (Cond.methodLink RX6 76 yX6_isWinding) := ⟨ckm_wsL_law_r16 _ (List.mem_of_getElem? (i := 10) rfl), good_of_word rfl⟩
theorem gw_r16_11 : GW1 wsL_law (Cond.instanceMethod yX6_isWinding) := ⟨ckm_wsL_law_r16 _ (List.mem_of_getElem? (i := 11) rfl), good_of_word rfl⟩
theorem gw_r16_12 : GW1 wsL_law (Cond.selects RX6 yX6_isWinding yX6_isWinding) := ⟨ckm_wsL_law_r16 _ (List.mem_of_getElem? (i := 12) rfl), good_of_word rfl⟩
theorem gw_r16_13 : GW1 wsL_law (Cond.code yX6_isWinding cX6_isWinding 1 (some .boolean)) := ⟨ckm_wsL_law_r16 _ (List.mem_of_getElem? (i := 13) rfl), good_of_word rfl⟩
theorem gw_r16_14 : GW1 wsL_law (Cond.methodLink RL 36 yX5_hours) := ⟨ckm_wsL_law_r16 _ (List.mem_of_getElem? (i := 14) rfl), good_of_word rfl⟩
theorem gw_r16_15 : GW1 wsL_law (Cond.instanceMethod yX5_hours) := ⟨ckm_wsL_law_r16 _ (List.mem_of_getElem? (i := 15) rfl), good_of_word rfl⟩
theorem gw_r16_16 : GW1 wsL_law (Cond.selects RX5 yX5_hours yX5_hours) := ⟨ckm_wsL_law_r16 _ (List.mem_of_getElem? (i := 16) rfl), good_of_word rfl⟩
theorem gw_r16_17 : GW1 wsL_law (Cond.code yX5_hours cX5_hours 2 (some .int)) := ⟨ckm_wsL_law_r16 _ (List.mem_of_getElem? (i := 17) rfl), good_of_word rfl⟩
theorem gw_r16_18 : GW1 wsL_law (Cond.methodLink RX5 135 yX5_spend) := ⟨ckm_wsL_law_r16 _ (List.mem_of_getElem? (i := 18) rfl), good_of_word rfl⟩
theorem gw_r16_19 : GW1 wsL_law (Cond.instanceMethod yX5_spend) := ⟨ckm_wsL_law_r16 _ (List.mem_of_getElem? (i := 19) rfl), good_of_word rfl⟩
theorem gw_r16_20 : GW1 wsL_law (Cond.selects RX5 yX5_spend yX5_spend) := ⟨ckm_wsL_law_r16 _ (List.mem_of_getElem? (i := 20) rfl), good_of_word rfl⟩
theorem gw_r16_21 : GW1 wsL_law (Cond.code yX5_spend cX5_spend 4 (some .int)) := ⟨ckm_wsL_law_r16 _ (List.mem_of_getElem? (i := 21) rfl), good_of_word rfl⟩
theorem gw_r16_22 : GW1 wsL_law (Cond.instanceMethod yX1_keep) := ⟨ckm_wsL_law_r16 _ (List.mem_of_getElem? (i := 22) rfl), good_of_word rfl⟩
theorem gw_r16_23 : GW1 wsL_law (Cond.selects RX1 yX1_keep yX1_keep) := ⟨ckm_wsL_law_r16 _ (List.mem_of_getElem? (i := 23) rfl), good_of_word rfl⟩
theorem gw_r17_0 : GW1 wsL_law (Cond.code yX1_keep cX1_keep 2 none) := ⟨ckm_wsL_law_r17 _ (List.mem_of_getElem? (i := 0) rfl), good_of_word rfl⟩
theorem gw_r17_1 : GW1 wsL_law (Cond.methodLink RX1 27 Lib.Math.min.name) := ⟨ckm_wsL_law_r17 _ (List.mem_of_getElem? (i := 1) rfl), good_of_word rfl⟩
theorem gw_r17_2 : GW1 wsL_law (Cond.static Lib.Math.min.name) := ⟨ckm_wsL_law_r17 _ (List.mem_of_getElem? (i := 2) rfl), good_of_word rfl⟩
theorem gw_r17_3 : GW1 wsL_law (Cond.initialized "java/lang/Math") := ⟨ckm_wsL_law_r17 _ (List.mem_of_getElem? (i := 3) rfl), good_of_word rfl⟩
theorem gw_r17_4 : GW1 wsL_law (Cond.code Lib.Math.min.name Lib.Math.min.code 2 (some .int)) := ⟨ckm_wsL_law_r17 _ (List.mem_of_getElem? (i := 4) rfl), good_of_word rfl⟩
theorem gw_r17_5 : GW1 wsL_law (Cond.instanceMethod yX2_lendByDraw) := ⟨ckm_wsL_law_r17 _ (List.mem_of_getElem? (i := 5) rfl), good_of_word rfl⟩
theorem gw_r17_6 : GW1 wsL_law (Cond.selects RX2 yX2_lendByDraw yX2_lendByDraw) := ⟨ckm_wsL_law_r17 _ (List.mem_of_getElem? (i := 6) rfl), good_of_word rfl⟩
theorem gw_r17_7 : GW1 wsL_law (Cond.code yX2_lendByDraw cX2_lendByDraw 1 none) := ⟨ckm_wsL_law_r17 _ (List.mem_of_getElem? (i := 7) rfl), good_of_word rfl⟩
theorem gw_r17_8 : GW1 wsL_law (Cond.constant RX2 95 (1103515245)) := ⟨ckm_wsL_law_r17 _ (List.mem_of_getElem? (i := 8) rfl), good_of_word rfl⟩
theorem gw_r17_9 : GW1 wsL_law (Cond.constant RX2 96 (2147483647)) := ⟨ckm_wsL_law_r17 _ (List.mem_of_getElem? (i := 9) rfl), good_of_word rfl⟩
theorem gw_r17_10 : GW1 wsL_law (Cond.constant RX2 97 (65536)) := ⟨ckm_wsL_law_r17 _ (List.mem_of_getElem? (i := 10) rfl), good_of_word rfl⟩
theorem gw_r17_11 : GW1 wsL_law (Cond.methodLink RX2 54 yX2_addTurns) := ⟨ckm_wsL_law_r17 _ (List.mem_of_getElem? (i := 11) rfl), good_of_word rfl⟩
theorem gw_r17_12 : GW1 wsL_law (Cond.instanceMethod yX2_addTurns) := ⟨ckm_wsL_law_r17 _ (List.mem_of_getElem? (i := 12) rfl), good_of_word rfl⟩
theorem gw_r17_13 : GW1 wsL_law (Cond.selects RX2 yX2_addTurns yX2_addTurns) := ⟨ckm_wsL_law_r17 _ (List.mem_of_getElem? (i := 13) rfl), good_of_word rfl⟩
theorem gw_r17_14 : GW1 wsL_law (Cond.code yX2_addTurns cX2_addTurns 3 none) := ⟨ckm_wsL_law_r17 _ (List.mem_of_getElem? (i := 14) rfl), good_of_word rfl⟩
theorem gw_r17_15 : GW1 wsL_law (Cond.methodLink RX2 48 Lib.Math.min.name) := ⟨ckm_wsL_law_r17 _ (List.mem_of_getElem? (i := 15) rfl), good_of_word rfl⟩
theorem gw_r17_16 : GW1 wsL_law (Cond.instanceMethod yX2_passHour) := ⟨ckm_wsL_law_r17 _ (List.mem_of_getElem? (i := 16) rfl), good_of_word rfl⟩
theorem gw_r17_17 : GW1 wsL_law (Cond.selects RX2 yX2_passHour yX2_passHour) := ⟨ckm_wsL_law_r17 _ (List.mem_of_getElem? (i := 17) rfl), good_of_word rfl⟩
theorem gw_r17_18 : GW1 wsL_law (Cond.code yX2_passHour cX2_passHour 1 none) := ⟨ckm_wsL_law_r17 _ (List.mem_of_getElem? (i := 18) rfl), good_of_word rfl⟩
theorem gw_r17_19 : GW1 wsL_law (Cond.methodLink RX2 68 yX2_isWindingHour) := ⟨ckm_wsL_law_r17 _ (List.mem_of_getElem? (i := 19) rfl), good_of_word rfl⟩
theorem gw_r17_20 : GW1 wsL_law (Cond.methodLink RX2 72 yX2_winders) := ⟨ckm_wsL_law_r17 _ (List.mem_of_getElem? (i := 20) rfl), good_of_word rfl⟩
theorem gw_r17_21 : GW1 wsL_law (Cond.instanceMethod yX2_winders) := ⟨ckm_wsL_law_r17 _ (List.mem_of_getElem? (i := 21) rfl), good_of_word rfl⟩
theorem gw_r17_22 : GW1 wsL_law (Cond.selects RX2 yX2_winders yX2_winders) := ⟨ckm_wsL_law_r17 _ (List.mem_of_getElem? (i := 22) rfl), good_of_word rfl⟩
theorem gw_r17_23 : GW1 wsL_law (Cond.code yX2_winders cX2_winders 3 (some .int)) := ⟨ckm_wsL_law_r17 _ (List.mem_of_getElem? (i := 23) rfl), good_of_word rfl⟩
theorem gw_r18_0 : GW1 wsL_law (Cond.methodLink RX2 75 yX2_wind) := ⟨ckm_wsL_law_r18 _ (List.mem_of_getElem? (i := 0) rfl), good_of_word rfl⟩
theorem gw_r18_1 : GW1 wsL_law (Cond.instanceMethod yX2_wind) := ⟨ckm_wsL_law_r18 _ (List.mem_of_getElem? (i := 1) rfl), good_of_word rfl⟩
theorem gw_r18_2 : GW1 wsL_law (Cond.selects RX2 yX2_wind yX2_wind) := ⟨ckm_wsL_law_r18 _ (List.mem_of_getElem? (i := 2) rfl), good_of_word rfl⟩
theorem gw_r18_3 : GW1 wsL_law (Cond.code yX2_wind cX2_wind 3 none) := ⟨ckm_wsL_law_r18 _ (List.mem_of_getElem? (i := 3) rfl), good_of_word rfl⟩
theorem gw_r18_4 : GW1 wsL_law (Cond.methodLink RX2 79 yX2_run) := ⟨ckm_wsL_law_r18 _ (List.mem_of_getElem? (i := 4) rfl), good_of_word rfl⟩
theorem gw_r18_5 : GW1 wsL_law (Cond.instanceMethod yX2_run) := ⟨ckm_wsL_law_r18 _ (List.mem_of_getElem? (i := 5) rfl), good_of_word rfl⟩
theorem gw_r18_6 : GW1 wsL_law (Cond.selects RX2 yX2_run yX2_run) := ⟨ckm_wsL_law_r18 _ (List.mem_of_getElem? (i := 6) rfl), good_of_word rfl⟩
theorem gw_r18_7 : GW1 wsL_law (Cond.code yX2_run cX2_run 3 none) := ⟨ckm_wsL_law_r18 _ (List.mem_of_getElem? (i := 7) rfl), good_of_word rfl⟩
theorem gw_r18_8 : GW1 wsL_law (Cond.methodLink RX2 65 Lib.Math.max.name) := ⟨ckm_wsL_law_r18 _ (List.mem_of_getElem? (i := 8) rfl), good_of_word rfl⟩
theorem gw_r18_9 : GW1 wsL_law (Cond.static Lib.Math.max.name) := ⟨ckm_wsL_law_r18 _ (List.mem_of_getElem? (i := 9) rfl), good_of_word rfl⟩
theorem gw_r18_10 : GW1 wsL_law (Cond.code Lib.Math.max.name Lib.Math.max.code 2 (some .int)) := ⟨ckm_wsL_law_r18 _ (List.mem_of_getElem? (i := 10) rfl), good_of_word rfl⟩
theorem gw_r18_11 : GW1 wsL_law (Cond.methodLink RX2 58 yX2_stopped) := ⟨ckm_wsL_law_r18 _ (List.mem_of_getElem? (i := 11) rfl), good_of_word rfl⟩
theorem gw_r18_12 : GW1 wsL_law (Cond.methodLink RX2 62 yX2_runsOff) := ⟨ckm_wsL_law_r18 _ (List.mem_of_getElem? (i := 12) rfl), good_of_word rfl⟩
theorem gw_r18_13 : GW1 wsL_law (Cond.methodLink RL 39 yX6_hours) := ⟨ckm_wsL_law_r18 _ (List.mem_of_getElem? (i := 13) rfl), good_of_word rfl⟩
theorem gw_r18_14 : GW1 wsL_law (Cond.instanceMethod yX6_hours) := ⟨ckm_wsL_law_r18 _ (List.mem_of_getElem? (i := 14) rfl), good_of_word rfl⟩
theorem gw_r18_15 : GW1 wsL_law (Cond.selects RX6 yX6_hours yX6_hours) := ⟨ckm_wsL_law_r18 _ (List.mem_of_getElem? (i := 15) rfl), good_of_word rfl⟩
theorem gw_r18_16 : GW1 wsL_law (Cond.code yX6_hours cX6_hours 3 (some .int)) := ⟨ckm_wsL_law_r18 _ (List.mem_of_getElem? (i := 16) rfl), good_of_word rfl⟩
theorem gw_r18_17 : GW1 wsL_law (Cond.methodLink RX6 157 yX6_notes) := ⟨ckm_wsL_law_r18 _ (List.mem_of_getElem? (i := 17) rfl), good_of_word rfl⟩
theorem gw_r18_18 : GW1 wsL_law (Cond.instanceMethod yX6_notes) := ⟨ckm_wsL_law_r18 _ (List.mem_of_getElem? (i := 18) rfl), good_of_word rfl⟩
theorem gw_r18_19 : GW1 wsL_law (Cond.selects RX6 yX6_notes yX6_notes) := ⟨ckm_wsL_law_r18 _ (List.mem_of_getElem? (i := 19) rfl), good_of_word rfl⟩
theorem gw_r18_20 : GW1 wsL_law (Cond.code yX6_notes cX6_notes 2 none) := ⟨ckm_wsL_law_r18 _ (List.mem_of_getElem? (i := 20) rfl), good_of_word rfl⟩
theorem gw_r18_21 : GW1 wsL_law (Cond.methodLink RX6 87 yX6_goesBy) := ⟨ckm_wsL_law_r18 _ (List.mem_of_getElem? (i := 21) rfl), good_of_word rfl⟩
theorem gw_r18_22 : GW1 wsL_law (Cond.instanceMethod yX6_goesBy) := ⟨ckm_wsL_law_r18 _ (List.mem_of_getElem? (i := 22) rfl), good_of_word rfl⟩
theorem gw_r18_23 : GW1 wsL_law (Cond.selects RX6 yX6_goesBy yX6_goesBy) := ⟨ckm_wsL_law_r18 _ (List.mem_of_getElem? (i := 23) rfl), good_of_word rfl⟩
theorem gw_r19_0 : GW1 wsL_law (Cond.code yX6_goesBy cX6_goesBy 4 none) := ⟨ckm_wsL_law_r19 _ (List.mem_of_getElem? (i := 0) rfl), good_of_word rfl⟩
theorem gw_r19_1 : GW1 wsL_law (Cond.methodLink RX6 80 yX6_winds) := ⟨ckm_wsL_law_r19 _ (List.mem_of_getElem? (i := 1) rfl), good_of_word rfl⟩
theorem gw_r19_2 : GW1 wsL_law (Cond.instanceMethod yX6_winds) := ⟨ckm_wsL_law_r19 _ (List.mem_of_getElem? (i := 2) rfl), good_of_word rfl⟩
theorem gw_r19_3 : GW1 wsL_law (Cond.selects RX6 yX6_winds yX6_winds) := ⟨ckm_wsL_law_r19 _ (List.mem_of_getElem? (i := 3) rfl), good_of_word rfl⟩
theorem gw_r19_4 : GW1 wsL_law (Cond.code yX6_winds cX6_winds 4 none) := ⟨ckm_wsL_law_r19 _ (List.mem_of_getElem? (i := 4) rfl), good_of_word rfl⟩
theorem gw_r19_5 : GW1 wsL_law (Cond.methodLink RL 40 yX5_lend) := ⟨ckm_wsL_law_r19 _ (List.mem_of_getElem? (i := 5) rfl), good_of_word rfl⟩
theorem gw_r19_6 : GW1 wsL_law (Cond.instanceMethod yX5_lend) := ⟨ckm_wsL_law_r19 _ (List.mem_of_getElem? (i := 6) rfl), good_of_word rfl⟩
theorem gw_r19_7 : GW1 wsL_law (Cond.selects RX5 yX5_lend yX5_lend) := ⟨ckm_wsL_law_r19 _ (List.mem_of_getElem? (i := 7) rfl), good_of_word rfl⟩
theorem gw_r19_8 : GW1 wsL_law (Cond.code yX5_lend cX5_lend 3 (some .int)) := ⟨ckm_wsL_law_r19 _ (List.mem_of_getElem? (i := 8) rfl), good_of_word rfl⟩
theorem gw_r19_9 : GW1 wsL_law (Cond.methodLink RL 43 yX6_lend) := ⟨ckm_wsL_law_r19 _ (List.mem_of_getElem? (i := 9) rfl), good_of_word rfl⟩
theorem gw_r19_10 : GW1 wsL_law (Cond.instanceMethod yX6_lend) := ⟨ckm_wsL_law_r19 _ (List.mem_of_getElem? (i := 10) rfl), good_of_word rfl⟩
theorem gw_r19_11 : GW1 wsL_law (Cond.selects RX6 yX6_lend yX6_lend) := ⟨ckm_wsL_law_r19 _ (List.mem_of_getElem? (i := 11) rfl), good_of_word rfl⟩
theorem gw_r19_12 : GW1 wsL_law (Cond.code yX6_lend cX6_lend 3 (some .int)) := ⟨ckm_wsL_law_r19 _ (List.mem_of_getElem? (i := 12) rfl), good_of_word rfl⟩
theorem gw_r19_13 : GW1 wsL_law (Cond.methodLink RX6 160 yX6_lent) := ⟨ckm_wsL_law_r19 _ (List.mem_of_getElem? (i := 13) rfl), good_of_word rfl⟩
theorem gw_r19_14 : GW1 wsL_law (Cond.instanceMethod yX6_lent) := ⟨ckm_wsL_law_r19 _ (List.mem_of_getElem? (i := 14) rfl), good_of_word rfl⟩
theorem gw_r19_15 : GW1 wsL_law (Cond.selects RX6 yX6_lent yX6_lent) := ⟨ckm_wsL_law_r19 _ (List.mem_of_getElem? (i := 15) rfl), good_of_word rfl⟩
theorem gw_r19_16 : GW1 wsL_law (Cond.code yX6_lent cX6_lent 4 none) := ⟨ckm_wsL_law_r19 _ (List.mem_of_getElem? (i := 16) rfl), good_of_word rfl⟩
theorem gw_r19_17 : GW1 wsL_law (Cond.methodLink RL 44 yX5_tell) := ⟨ckm_wsL_law_r19 _ (List.mem_of_getElem? (i := 17) rfl), good_of_word rfl⟩
theorem gw_r19_18 : GW1 wsL_law (Cond.instanceMethod yX5_tell) := ⟨ckm_wsL_law_r19 _ (List.mem_of_getElem? (i := 18) rfl), good_of_word rfl⟩
theorem gw_r19_19 : GW1 wsL_law (Cond.selects RX5 yX5_tell yX5_tell) := ⟨ckm_wsL_law_r19 _ (List.mem_of_getElem? (i := 19) rfl), good_of_word rfl⟩
theorem gw_r19_20 : GW1 wsL_law (Cond.code yX5_tell cX5_tell 4 (some .int)) := ⟨ckm_wsL_law_r19 _ (List.mem_of_getElem? (i := 20) rfl), good_of_word rfl⟩
theorem gw_r19_21 : GW1 wsL_law (Cond.methodLink RL 47 yX6_tell) := ⟨ckm_wsL_law_r19 _ (List.mem_of_getElem? (i := 21) rfl), good_of_word rfl⟩
theorem gw_r19_22 : GW1 wsL_law (Cond.instanceMethod yX6_tell) := ⟨ckm_wsL_law_r19 _ (List.mem_of_getElem? (i := 22) rfl), good_of_word rfl⟩
theorem gw_r19_23 : GW1 wsL_law (Cond.selects RX6 yX6_tell yX6_tell) := ⟨ckm_wsL_law_r19 _ (List.mem_of_getElem? (i := 23) rfl), good_of_word rfl⟩
theorem gw_r20_0 : GW1 wsL_law (Cond.code yX6_tell cX6_tell 4 (some .int)) := ⟨ckm_wsL_law_r20 _ (List.mem_of_getElem? (i := 0) rfl), good_of_word rfl⟩
theorem gw_r20_1 : GW1 wsL_law (Cond.methodLink RL 48 yX5_cut) := ⟨ckm_wsL_law_r20 _ (List.mem_of_getElem? (i := 1) rfl), good_of_word rfl⟩
theorem gw_r20_2 : GW1 wsL_law (Cond.instanceMethod yX5_cut) := ⟨ckm_wsL_law_r20 _ (List.mem_of_getElem? (i := 2) rfl), good_of_word rfl⟩
theorem gw_r20_3 : GW1 wsL_law (Cond.selects RX5 yX5_cut yX5_cut) := ⟨ckm_wsL_law_r20 _ (List.mem_of_getElem? (i := 3) rfl), good_of_word rfl⟩
theorem gw_r20_4 : GW1 wsL_law (Cond.code yX5_cut cX5_cut 4 (some .int)) := ⟨ckm_wsL_law_r20 _ (List.mem_of_getElem? (i := 4) rfl), good_of_word rfl⟩
theorem gw_r20_5 : GW1 wsL_law (Cond.methodLink RL 51 yX6_cut) := ⟨ckm_wsL_law_r20 _ (List.mem_of_getElem? (i := 5) rfl), good_of_word rfl⟩
theorem gw_r20_6 : GW1 wsL_law (Cond.instanceMethod yX6_cut) := ⟨ckm_wsL_law_r20 _ (List.mem_of_getElem? (i := 6) rfl), good_of_word rfl⟩
theorem gw_r20_7 : GW1 wsL_law (Cond.selects RX6 yX6_cut yX6_cut) := ⟨ckm_wsL_law_r20 _ (List.mem_of_getElem? (i := 7) rfl), good_of_word rfl⟩
theorem gw_r20_8 : GW1 wsL_law (Cond.code yX6_cut cX6_cut 4 (some .int)) := ⟨ckm_wsL_law_r20 _ (List.mem_of_getElem? (i := 8) rfl), good_of_word rfl⟩
theorem gw_r20_9 : GW1 wsL_law (Cond.constantLong RX6 164 (12)) := ⟨ckm_wsL_law_r20 _ (List.mem_of_getElem? (i := 9) rfl), good_of_word rfl⟩
theorem gw_r20_10 : GW1 wsL_law (Cond.methodLink RL 52 yX5_drift) := ⟨ckm_wsL_law_r20 _ (List.mem_of_getElem? (i := 10) rfl), good_of_word rfl⟩
theorem gw_r20_11 : GW1 wsL_law (Cond.instanceMethod yX5_drift) := ⟨ckm_wsL_law_r20 _ (List.mem_of_getElem? (i := 11) rfl), good_of_word rfl⟩
theorem gw_r20_12 : GW1 wsL_law (Cond.selects RX5 yX5_drift yX5_drift) := ⟨ckm_wsL_law_r20 _ (List.mem_of_getElem? (i := 12) rfl), good_of_word rfl⟩
theorem gw_r20_13 : GW1 wsL_law (Cond.code yX5_drift cX5_drift 2 (some .int)) := ⟨ckm_wsL_law_r20 _ (List.mem_of_getElem? (i := 13) rfl), good_of_word rfl⟩
theorem gw_r20_14 : GW1 wsL_law (Cond.methodLink RL 55 yX6_drift) := ⟨ckm_wsL_law_r20 _ (List.mem_of_getElem? (i := 14) rfl), good_of_word rfl⟩
theorem gw_r20_15 : GW1 wsL_law (Cond.instanceMethod yX6_drift) := ⟨ckm_wsL_law_r20 _ (List.mem_of_getElem? (i := 15) rfl), good_of_word rfl⟩
theorem gw_r20_16 : GW1 wsL_law (Cond.selects RX6 yX6_drift yX6_drift) := ⟨ckm_wsL_law_r20 _ (List.mem_of_getElem? (i := 16) rfl), good_of_word rfl⟩
theorem gw_r20_17 : GW1 wsL_law (Cond.code yX6_drift cX6_drift 3 (some .int)) := ⟨ckm_wsL_law_r20 _ (List.mem_of_getElem? (i := 17) rfl), good_of_word rfl⟩
theorem gw_r20_18 : GW1 wsL_law (Cond.constantLong RX6 166 (1103515245)) := ⟨ckm_wsL_law_r20 _ (List.mem_of_getElem? (i := 18) rfl), good_of_word rfl⟩
theorem gw_r20_19 : GW1 wsL_law (Cond.constantLong RX6 168 (12345)) := ⟨ckm_wsL_law_r20 _ (List.mem_of_getElem? (i := 19) rfl), good_of_word rfl⟩
theorem gw_r20_20 : GW1 wsL_law (Cond.constantLong RX6 170 (2147483647)) := ⟨ckm_wsL_law_r20 _ (List.mem_of_getElem? (i := 20) rfl), good_of_word rfl⟩
theorem gw_r20_21 : GW1 wsL_law (Cond.constant RX6 172 (65536)) := ⟨ckm_wsL_law_r20 _ (List.mem_of_getElem? (i := 21) rfl), good_of_word rfl⟩
theorem gw_r20_22 : GW1 wsL_law (Cond.methodLink RL 56 yX5_undo) := ⟨ckm_wsL_law_r20 _ (List.mem_of_getElem? (i := 22) rfl), good_of_word rfl⟩
theorem gw_r20_23 : GW1 wsL_law (Cond.instanceMethod yX5_undo) := ⟨ckm_wsL_law_r20 _ (List.mem_of_getElem? (i := 23) rfl), good_of_word rfl⟩
theorem gw_r21_0 : GW1 wsL_law (Cond.selects RX5 yX5_undo yX5_undo) := ⟨ckm_wsL_law_r21 _ (List.mem_of_getElem? (i := 0) rfl), good_of_word rfl⟩
theorem gw_r21_1 : GW1 wsL_law (Cond.code yX5_undo cX5_undo 1 (some .int)) := ⟨ckm_wsL_law_r21 _ (List.mem_of_getElem? (i := 1) rfl), good_of_word rfl⟩
theorem gw_r21_2 : GW1 wsL_law (Cond.instanceMethod yX1_takeBack) := ⟨ckm_wsL_law_r21 _ (List.mem_of_getElem? (i := 2) rfl), good_of_word rfl⟩
theorem gw_r21_3 : GW1 wsL_law (Cond.selects RX1 yX1_takeBack yX1_takeBack) := ⟨ckm_wsL_law_r21 _ (List.mem_of_getElem? (i := 3) rfl), good_of_word rfl⟩
theorem gw_r21_4 : GW1 wsL_law (Cond.code yX1_takeBack cX1_takeBack 2 none) := ⟨ckm_wsL_law_r21 _ (List.mem_of_getElem? (i := 4) rfl), good_of_word rfl⟩
theorem gw_r21_5 : GW1 wsL_law (Cond.methodLink RX1 33 Lib.Math.max.name) := ⟨ckm_wsL_law_r21 _ (List.mem_of_getElem? (i := 5) rfl), good_of_word rfl⟩
theorem gw_r21_6 : GW1 wsL_law (Cond.methodLink RL 59 yX6_undo) := ⟨ckm_wsL_law_r21 _ (List.mem_of_getElem? (i := 6) rfl), good_of_word rfl⟩
theorem gw_r21_7 : GW1 wsL_law (Cond.instanceMethod yX6_undo) := ⟨ckm_wsL_law_r21 _ (List.mem_of_getElem? (i := 7) rfl), good_of_word rfl⟩
theorem gw_r21_8 : GW1 wsL_law (Cond.selects RX6 yX6_undo yX6_undo) := ⟨ckm_wsL_law_r21 _ (List.mem_of_getElem? (i := 8) rfl), good_of_word rfl⟩
theorem gw_r21_9 : GW1 wsL_law (Cond.code yX6_undo cX6_undo 2 (some .int)) := ⟨ckm_wsL_law_r21 _ (List.mem_of_getElem? (i := 9) rfl), good_of_word rfl⟩
theorem gw_r21_10 : GW1 wsL_law (Cond.methodLink RL 60 yX5_seed) := ⟨ckm_wsL_law_r21 _ (List.mem_of_getElem? (i := 10) rfl), good_of_word rfl⟩
theorem gw_r21_11 : GW1 wsL_law (Cond.instanceMethod yX5_seed) := ⟨ckm_wsL_law_r21 _ (List.mem_of_getElem? (i := 11) rfl), good_of_word rfl⟩
theorem gw_r21_12 : GW1 wsL_law (Cond.selects RX5 yX5_seed yX5_seed) := ⟨ckm_wsL_law_r21 _ (List.mem_of_getElem? (i := 12) rfl), good_of_word rfl⟩
theorem gw_r21_13 : GW1 wsL_law (Cond.code yX5_seed cX5_seed 3 (some .int)) := ⟨ckm_wsL_law_r21 _ (List.mem_of_getElem? (i := 13) rfl), good_of_word rfl⟩
theorem gw_r21_14 : GW1 wsL_law (Cond.methodLink RL 63 yX6_seed) := ⟨ckm_wsL_law_r21 _ (List.mem_of_getElem? (i := 14) rfl), good_of_word rfl⟩
theorem gw_r21_15 : GW1 wsL_law (Cond.instanceMethod yX6_seed) := ⟨ckm_wsL_law_r21 _ (List.mem_of_getElem? (i := 15) rfl), good_of_word rfl⟩
theorem gw_r21_16 : GW1 wsL_law (Cond.selects RX6 yX6_seed yX6_seed) := ⟨ckm_wsL_law_r21 _ (List.mem_of_getElem? (i := 16) rfl), good_of_word rfl⟩
theorem gw_r21_17 : GW1 wsL_law (Cond.code yX6_seed cX6_seed 3 (some .int)) := ⟨ckm_wsL_law_r21 _ (List.mem_of_getElem? (i := 17) rfl), good_of_word rfl⟩
theorem gw_r21_18 : GW1 wsL_law (Cond.methodLink RL 64 yX5_ahead) := ⟨ckm_wsL_law_r21 _ (List.mem_of_getElem? (i := 18) rfl), good_of_word rfl⟩
theorem gw_r21_19 : GW1 wsL_law (Cond.instanceMethod yX5_ahead) := ⟨ckm_wsL_law_r21 _ (List.mem_of_getElem? (i := 19) rfl), good_of_word rfl⟩
theorem gw_r21_20 : GW1 wsL_law (Cond.selects RX5 yX5_ahead yX5_ahead) := ⟨ckm_wsL_law_r21 _ (List.mem_of_getElem? (i := 20) rfl), good_of_word rfl⟩
theorem gw_r21_21 : GW1 wsL_law (Cond.code yX5_ahead cX5_ahead 3 (some .int)) := ⟨ckm_wsL_law_r21 _ (List.mem_of_getElem? (i := 21) rfl), good_of_word rfl⟩
theorem gw_r21_22 : GW1 wsL_law (Cond.instanceMethod yX2_passHours) := ⟨ckm_wsL_law_r21 _ (List.mem_of_getElem? (i := 22) rfl), good_of_word rfl⟩
theorem gw_r21_23 : GW1 wsL_law (Cond.selects RX2 yX2_passHours yX2_passHours) := ⟨ckm_wsL_law_r21 _ (List.mem_of_getElem? (i := 23) rfl), good_of_word rfl⟩
theorem gw_r22_0 : GW1 wsL_law (Cond.code yX2_passHours cX2_passHours 3 none) := ⟨ckm_wsL_law_r22 _ (List.mem_of_getElem? (i := 0) rfl), good_of_word rfl⟩
theorem gw_r22_1 : GW1 wsL_law (Cond.methodLink RX2 82 yX2_passHour) := ⟨ckm_wsL_law_r22 _ (List.mem_of_getElem? (i := 1) rfl), good_of_word rfl⟩
theorem gw_r22_2 : GW1 wsL_law (Cond.methodLink RL 67 yX6_ahead) := ⟨ckm_wsL_law_r22 _ (List.mem_of_getElem? (i := 2) rfl), good_of_word rfl⟩
theorem gw_r22_3 : GW1 wsL_law (Cond.instanceMethod yX6_ahead) := ⟨ckm_wsL_law_r22 _ (List.mem_of_getElem? (i := 3) rfl), good_of_word rfl⟩
theorem gw_r22_4 : GW1 wsL_law (Cond.selects RX6 yX6_ahead yX6_ahead) := ⟨ckm_wsL_law_r22 _ (List.mem_of_getElem? (i := 4) rfl), good_of_word rfl⟩
theorem gw_r22_5 : GW1 wsL_law (Cond.code yX6_ahead cX6_ahead 4 (some .int)) := ⟨ckm_wsL_law_r22 _ (List.mem_of_getElem? (i := 5) rfl), good_of_word rfl⟩
theorem gw_r22_6 : GW1 wsL_law (Cond.constantLong RX6 173 (80)) := ⟨ckm_wsL_law_r22 _ (List.mem_of_getElem? (i := 6) rfl), good_of_word rfl⟩
theorem gw_r22_7 : GW1 wsL_law (Cond.methodLink RX6 175 yX6_asides) := ⟨ckm_wsL_law_r22 _ (List.mem_of_getElem? (i := 7) rfl), good_of_word rfl⟩
theorem gw_r22_8 : GW1 wsL_law (Cond.instanceMethod yX6_asides) := ⟨ckm_wsL_law_r22 _ (List.mem_of_getElem? (i := 8) rfl), good_of_word rfl⟩
theorem gw_r22_9 : GW1 wsL_law (Cond.selects RX6 yX6_asides yX6_asides) := ⟨ckm_wsL_law_r22 _ (List.mem_of_getElem? (i := 9) rfl), good_of_word rfl⟩
theorem gw_r22_10 : GW1 wsL_law (Cond.code yX6_asides cX6_asides 2 none) := ⟨ckm_wsL_law_r22 _ (List.mem_of_getElem? (i := 10) rfl), good_of_word rfl⟩
theorem gw_r22_11 : GW1 wsL_law (Cond.methodLink RX6 178 yX6_goesOn) := ⟨ckm_wsL_law_r22 _ (List.mem_of_getElem? (i := 11) rfl), good_of_word rfl⟩
theorem gw_r22_12 : GW1 wsL_law (Cond.instanceMethod yX6_goesOn) := ⟨ckm_wsL_law_r22 _ (List.mem_of_getElem? (i := 12) rfl), good_of_word rfl⟩
theorem gw_r22_13 : GW1 wsL_law (Cond.selects RX6 yX6_goesOn yX6_goesOn) := ⟨ckm_wsL_law_r22 _ (List.mem_of_getElem? (i := 13) rfl), good_of_word rfl⟩
theorem gw_r22_14 : GW1 wsL_law (Cond.code yX6_goesOn cX6_goesOn 3 none) := ⟨ckm_wsL_law_r22 _ (List.mem_of_getElem? (i := 14) rfl), good_of_word rfl⟩
theorem gw_r22_15 : GW1 wsL_law (Cond.methodLink RX6 181 yX6_backs) := ⟨ckm_wsL_law_r22 _ (List.mem_of_getElem? (i := 15) rfl), good_of_word rfl⟩
theorem gw_r22_16 : GW1 wsL_law (Cond.instanceMethod yX6_backs) := ⟨ckm_wsL_law_r22 _ (List.mem_of_getElem? (i := 16) rfl), good_of_word rfl⟩
theorem gw_r22_17 : GW1 wsL_law (Cond.selects RX6 yX6_backs yX6_backs) := ⟨ckm_wsL_law_r22 _ (List.mem_of_getElem? (i := 17) rfl), good_of_word rfl⟩
theorem gw_r22_18 : GW1 wsL_law (Cond.code yX6_backs cX6_backs 2 none) := ⟨ckm_wsL_law_r22 _ (List.mem_of_getElem? (i := 18) rfl), good_of_word rfl⟩
theorem gw_r22_19 : GW1 wsL_law (Cond.methodLink RL 68 yX5_then) := ⟨ckm_wsL_law_r22 _ (List.mem_of_getElem? (i := 19) rfl), good_of_word rfl⟩
theorem gw_r22_20 : GW1 wsL_law (Cond.instanceMethod yX5_then) := ⟨ckm_wsL_law_r22 _ (List.mem_of_getElem? (i := 20) rfl), good_of_word rfl⟩
theorem gw_r22_21 : GW1 wsL_law (Cond.selects RX5 yX5_then yX5_then) := ⟨ckm_wsL_law_r22 _ (List.mem_of_getElem? (i := 21) rfl), good_of_word rfl⟩
theorem gw_r22_22 : GW1 wsL_law (Cond.code yX5_then cX5_then 2 (some .int)) := ⟨ckm_wsL_law_r22 _ (List.mem_of_getElem? (i := 22) rfl), good_of_word rfl⟩
theorem gw_r22_23 : GW1 wsL_law (Cond.methodLink RL 71 yX6_then) := ⟨ckm_wsL_law_r22 _ (List.mem_of_getElem? (i := 23) rfl), good_of_word rfl⟩
theorem gw_r23_0 : GW1 wsL_law (Cond.instanceMethod yX6_then) := ⟨ckm_wsL_law_r23 _ (List.mem_of_getElem? (i := 0) rfl), good_of_word rfl⟩
theorem gw_r23_1 : GW1 wsL_law (Cond.selects RX6 yX6_then yX6_then) := ⟨ckm_wsL_law_r23 _ (List.mem_of_getElem? (i := 1) rfl), good_of_word rfl⟩
theorem gw_r23_2 : GW1 wsL_law (Cond.code yX6_then cX6_then 2 (some .int)) := ⟨ckm_wsL_law_r23 _ (List.mem_of_getElem? (i := 2) rfl), good_of_word rfl⟩
theorem gw_r23_3 : GW1 wsL_law (Cond.methodLink RX6 184 yX6_stoppedBehind) := ⟨ckm_wsL_law_r23 _ (List.mem_of_getElem? (i := 3) rfl), good_of_word rfl⟩
theorem gw_r23_4 : GW1 wsL_law (Cond.instanceMethod yX6_stoppedBehind) := ⟨ckm_wsL_law_r23 _ (List.mem_of_getElem? (i := 4) rfl), good_of_word rfl⟩
theorem gw_r23_5 : GW1 wsL_law (Cond.selects RX6 yX6_stoppedBehind yX6_stoppedBehind) := ⟨ckm_wsL_law_r23 _ (List.mem_of_getElem? (i := 5) rfl), good_of_word rfl⟩
theorem gw_r23_6 : GW1 wsL_law (Cond.code yX6_stoppedBehind cX6_stoppedBehind 3 (some .int)) := ⟨ckm_wsL_law_r23 _ (List.mem_of_getElem? (i := 6) rfl), good_of_word rfl⟩
theorem gw_r23_7 : GW1 wsL_law (Cond.methodLink RL 72 yX5_stops) := ⟨ckm_wsL_law_r23 _ (List.mem_of_getElem? (i := 7) rfl), good_of_word rfl⟩
theorem gw_r23_8 : GW1 wsL_law (Cond.instanceMethod yX5_stops) := ⟨ckm_wsL_law_r23 _ (List.mem_of_getElem? (i := 8) rfl), good_of_word rfl⟩
theorem gw_r23_9 : GW1 wsL_law (Cond.selects RX5 yX5_stops yX5_stops) := ⟨ckm_wsL_law_r23 _ (List.mem_of_getElem? (i := 9) rfl), good_of_word rfl⟩
theorem gw_r23_10 : GW1 wsL_law (Cond.code yX5_stops cX5_stops 2 (some .int)) := ⟨ckm_wsL_law_r23 _ (List.mem_of_getElem? (i := 10) rfl), good_of_word rfl⟩
theorem gw_r23_11 : GW1 wsL_law (Cond.instanceMethod yX2_passUntilStopped) := ⟨ckm_wsL_law_r23 _ (List.mem_of_getElem? (i := 11) rfl), good_of_word rfl⟩
theorem gw_r23_12 : GW1 wsL_law (Cond.selects RX2 yX2_passUntilStopped yX2_passUntilStopped) := ⟨ckm_wsL_law_r23 _ (List.mem_of_getElem? (i := 12) rfl), good_of_word rfl⟩
theorem gw_r23_13 : GW1 wsL_law (Cond.code yX2_passUntilStopped cX2_passUntilStopped 4 (some .int)) := ⟨ckm_wsL_law_r23 _ (List.mem_of_getElem? (i := 13) rfl), good_of_word rfl⟩
theorem gw_r23_14 : GW1 wsL_law (Cond.methodLink RL 75 yX6_stops) := ⟨ckm_wsL_law_r23 _ (List.mem_of_getElem? (i := 14) rfl), good_of_word rfl⟩
theorem gw_r23_15 : GW1 wsL_law (Cond.instanceMethod yX6_stops) := ⟨ckm_wsL_law_r23 _ (List.mem_of_getElem? (i := 15) rfl), good_of_word rfl⟩
theorem gw_r23_16 : GW1 wsL_law (Cond.selects RX6 yX6_stops yX6_stops) := ⟨ckm_wsL_law_r23 _ (List.mem_of_getElem? (i := 16) rfl), good_of_word rfl⟩
theorem gw_r23_17 : GW1 wsL_law (Cond.code yX6_stops cX6_stops 2 (some .int)) := ⟨ckm_wsL_law_r23 _ (List.mem_of_getElem? (i := 17) rfl), good_of_word rfl⟩
theorem gw_r23_18 : GW1 wsL_law (Cond.methodLink RX6 187 yX6_whenAll) := ⟨ckm_wsL_law_r23 _ (List.mem_of_getElem? (i := 18) rfl), good_of_word rfl⟩
theorem gw_r23_19 : GW1 wsL_law (Cond.instanceMethod yX6_whenAll) := ⟨ckm_wsL_law_r23 _ (List.mem_of_getElem? (i := 19) rfl), good_of_word rfl⟩
theorem gw_r23_20 : GW1 wsL_law (Cond.selects RX6 yX6_whenAll yX6_whenAll) := ⟨ckm_wsL_law_r23 _ (List.mem_of_getElem? (i := 20) rfl), good_of_word rfl⟩
theorem gw_r23_21 : GW1 wsL_law (Cond.code yX6_whenAll cX6_whenAll 3 (some .int)) := ⟨ckm_wsL_law_r23 _ (List.mem_of_getElem? (i := 21) rfl), good_of_word rfl⟩
theorem gw_r23_22 : GW1 wsL_law (Cond.methodLink RL 76 yX5_all) := ⟨ckm_wsL_law_r23 _ (List.mem_of_getElem? (i := 22) rfl), good_of_word rfl⟩
theorem gw_r23_23 : GW1 wsL_law (Cond.instanceMethod yX5_all) := ⟨ckm_wsL_law_r23 _ (List.mem_of_getElem? (i := 23) rfl), good_of_word rfl⟩
theorem gw_r24_0 : GW1 wsL_law (Cond.selects RX5 yX5_all yX5_all) := ⟨ckm_wsL_law_r24 _ (List.mem_of_getElem? (i := 0) rfl), good_of_word rfl⟩
theorem gw_r24_1 : GW1 wsL_law (Cond.code yX5_all cX5_all 1 (some .int)) := ⟨ckm_wsL_law_r24 _ (List.mem_of_getElem? (i := 1) rfl), good_of_word rfl⟩
theorem gw_r24_2 : GW1 wsL_law (Cond.instanceMethod yX2_everybody) := ⟨ckm_wsL_law_r24 _ (List.mem_of_getElem? (i := 2) rfl), good_of_word rfl⟩
theorem gw_r24_3 : GW1 wsL_law (Cond.selects RX2 yX2_everybody yX2_everybody) := ⟨ckm_wsL_law_r24 _ (List.mem_of_getElem? (i := 3) rfl), good_of_word rfl⟩
theorem gw_r24_4 : GW1 wsL_law (Cond.code yX2_everybody cX2_everybody 1 (some .int)) := ⟨ckm_wsL_law_r24 _ (List.mem_of_getElem? (i := 4) rfl), good_of_word rfl⟩
theorem gw_r24_5 : GW1 wsL_law (Cond.methodLink RL 79 yX6_all) := ⟨ckm_wsL_law_r24 _ (List.mem_of_getElem? (i := 5) rfl), good_of_word rfl⟩
theorem gw_r24_6 : GW1 wsL_law (Cond.instanceMethod yX6_all) := ⟨ckm_wsL_law_r24 _ (List.mem_of_getElem? (i := 6) rfl), good_of_word rfl⟩
theorem gw_r24_7 : GW1 wsL_law (Cond.selects RX6 yX6_all yX6_all) := ⟨ckm_wsL_law_r24 _ (List.mem_of_getElem? (i := 7) rfl), good_of_word rfl⟩
theorem gw_r24_8 : GW1 wsL_law (Cond.code yX6_all cX6_all 1 (some .int)) := ⟨ckm_wsL_law_r24 _ (List.mem_of_getElem? (i := 8) rfl), good_of_word rfl⟩
theorem gw_r24_9 : GW1 wsL_law (Cond.methodLink RL 80 yX5_ever) := ⟨ckm_wsL_law_r24 _ (List.mem_of_getElem? (i := 9) rfl), good_of_word rfl⟩
theorem gw_r24_10 : GW1 wsL_law (Cond.instanceMethod yX5_ever) := ⟨ckm_wsL_law_r24 _ (List.mem_of_getElem? (i := 10) rfl), good_of_word rfl⟩
theorem gw_r24_11 : GW1 wsL_law (Cond.selects RX5 yX5_ever yX5_ever) := ⟨ckm_wsL_law_r24 _ (List.mem_of_getElem? (i := 11) rfl), good_of_word rfl⟩
theorem gw_r24_12 : GW1 wsL_law (Cond.code yX5_ever cX5_ever 3 (some .int)) := ⟨ckm_wsL_law_r24 _ (List.mem_of_getElem? (i := 12) rfl), good_of_word rfl⟩
theorem gw_r24_13 : GW1 wsL_law (Cond.methodLink RL 83 yX6_ever) := ⟨ckm_wsL_law_r24 _ (List.mem_of_getElem? (i := 13) rfl), good_of_word rfl⟩
theorem gw_r24_14 : GW1 wsL_law (Cond.instanceMethod yX6_ever) := ⟨ckm_wsL_law_r24 _ (List.mem_of_getElem? (i := 14) rfl), good_of_word rfl⟩
theorem gw_r24_15 : GW1 wsL_law (Cond.selects RX6 yX6_ever yX6_ever) := ⟨ckm_wsL_law_r24 _ (List.mem_of_getElem? (i := 15) rfl), good_of_word rfl⟩
theorem gw_r24_16 : GW1 wsL_law (Cond.code yX6_ever cX6_ever 3 (some .int)) := ⟨ckm_wsL_law_r24 _ (List.mem_of_getElem? (i := 16) rfl), good_of_word rfl⟩
theorem gw_r24_17 : GW1 wsL_law (Cond.methodLink RL 84 yX5_chain) := ⟨ckm_wsL_law_r24 _ (List.mem_of_getElem? (i := 17) rfl), good_of_word rfl⟩
theorem gw_r24_18 : GW1 wsL_law (Cond.instanceMethod yX5_chain) := ⟨ckm_wsL_law_r24 _ (List.mem_of_getElem? (i := 18) rfl), good_of_word rfl⟩
theorem gw_r24_19 : GW1 wsL_law (Cond.selects RX5 yX5_chain yX5_chain) := ⟨ckm_wsL_law_r24 _ (List.mem_of_getElem? (i := 19) rfl), good_of_word rfl⟩
theorem gw_r24_20 : GW1 wsL_law (Cond.code yX5_chain cX5_chain 3 (some .int)) := ⟨ckm_wsL_law_r24 _ (List.mem_of_getElem? (i := 20) rfl), good_of_word rfl⟩
theorem gw_r24_21 : GW1 wsL_law (Cond.instanceMethod yX2_heads) := ⟨ckm_wsL_law_r24 _ (List.mem_of_getElem? (i := 21) rfl), good_of_word rfl⟩
theorem gw_r24_22 : GW1 wsL_law (Cond.selects RX2 yX2_heads yX2_heads) := ⟨ckm_wsL_law_r24 _ (List.mem_of_getElem? (i := 22) rfl), good_of_word rfl⟩
theorem gw_r24_23 : GW1 wsL_law (Cond.code yX2_heads cX2_heads 5 (some .int)) := ⟨ckm_wsL_law_r24 _ (List.mem_of_getElem? (i := 23) rfl), good_of_word rfl⟩
theorem gw_r25_0 : GW1 wsL_law (Cond.methodLink RL 87 yX6_chain) := ⟨ckm_wsL_law_r25 _ (List.mem_of_getElem? (i := 0) rfl), good_of_word rfl⟩
theorem gw_r25_1 : GW1 wsL_law (Cond.instanceMethod yX6_chain) := ⟨ckm_wsL_law_r25 _ (List.mem_of_getElem? (i := 1) rfl), good_of_word rfl⟩
theorem gw_r25_2 : GW1 wsL_law (Cond.selects RX6 yX6_chain yX6_chain) := ⟨ckm_wsL_law_r25 _ (List.mem_of_getElem? (i := 2) rfl), good_of_word rfl⟩
theorem gw_r25_3 : GW1 wsL_law (Cond.code yX6_chain cX6_chain 6 (some .int)) := ⟨ckm_wsL_law_r25 _ (List.mem_of_getElem? (i := 3) rfl), good_of_word rfl⟩
theorem gw_r25_4 : GW1 wsL_law (Cond.methodLink RL 88 yX5_lends) := ⟨ckm_wsL_law_r25 _ (List.mem_of_getElem? (i := 4) rfl), good_of_word rfl⟩
theorem gw_r25_5 : GW1 wsL_law (Cond.instanceMethod yX5_lends) := ⟨ckm_wsL_law_r25 _ (List.mem_of_getElem? (i := 5) rfl), good_of_word rfl⟩
theorem gw_r25_6 : GW1 wsL_law (Cond.selects RX5 yX5_lends yX5_lends) := ⟨ckm_wsL_law_r25 _ (List.mem_of_getElem? (i := 6) rfl), good_of_word rfl⟩
theorem gw_r25_7 : GW1 wsL_law (Cond.code yX5_lends cX5_lends 8 (some .int)) := ⟨ckm_wsL_law_r25 _ (List.mem_of_getElem? (i := 7) rfl), good_of_word rfl⟩
theorem gw_r25_8 : GW1 wsL_law (Cond.methodLink RX5 171 yX5_isAdvised) := ⟨ckm_wsL_law_r25 _ (List.mem_of_getElem? (i := 8) rfl), good_of_word rfl⟩
theorem gw_r25_9 : GW1 wsL_law (Cond.static yX5_isAdvised) := ⟨ckm_wsL_law_r25 _ (List.mem_of_getElem? (i := 9) rfl), good_of_word rfl⟩
theorem gw_r25_10 : GW1 wsL_law (Cond.code yX5_isAdvised cX5_isAdvised 1 (some .boolean)) := ⟨ckm_wsL_law_r25 _ (List.mem_of_getElem? (i := 10) rfl), good_of_word rfl⟩
theorem gw_r25_11 : GW1 wsL_law (Cond.methodLink RX5 174 yJ6_bitCount_0f7a4) := ⟨ckm_wsL_law_r25 _ (List.mem_of_getElem? (i := 11) rfl), good_of_word rfl⟩
theorem gw_r25_12 : GW1 wsL_law (Cond.static yJ6_bitCount_0f7a4) := ⟨ckm_wsL_law_r25 _ (List.mem_of_getElem? (i := 12) rfl), good_of_word rfl⟩
theorem gw_r25_13 : GW1 wsL_law (Cond.initialized RJ6) := ⟨ckm_wsL_law_r25 _ (List.mem_of_getElem? (i := 13) rfl), good_of_word rfl⟩
theorem gw_r25_14 : GW1 wsL_law (Cond.code yJ6_bitCount_0f7a4 cJ6_bitCount_0f7a4 1 (some .int)) := ⟨ckm_wsL_law_r25 _ (List.mem_of_getElem? (i := 14) rfl), good_of_word rfl⟩
theorem gw_r25_15 : GW1 wsL_law (Cond.constant RJ6 265 (1431655765)) := ⟨ckm_wsL_law_r25 _ (List.mem_of_getElem? (i := 15) rfl), good_of_word rfl⟩
theorem gw_r25_16 : GW1 wsL_law (Cond.constant RJ6 266 (858993459)) := ⟨ckm_wsL_law_r25 _ (List.mem_of_getElem? (i := 16) rfl), good_of_word rfl⟩
theorem gw_r25_17 : GW1 wsL_law (Cond.constant RJ6 267 (252645135)) := ⟨ckm_wsL_law_r25 _ (List.mem_of_getElem? (i := 17) rfl), good_of_word rfl⟩
theorem gw_r25_18 : GW1 wsL_law (Cond.methodLink RL 92 yX6_lends) := ⟨ckm_wsL_law_r25 _ (List.mem_of_getElem? (i := 18) rfl), good_of_word rfl⟩
theorem gw_r25_19 : GW1 wsL_law (Cond.instanceMethod yX6_lends) := ⟨ckm_wsL_law_r25 _ (List.mem_of_getElem? (i := 19) rfl), good_of_word rfl⟩
theorem gw_r25_20 : GW1 wsL_law (Cond.selects RX6 yX6_lends yX6_lends) := ⟨ckm_wsL_law_r25 _ (List.mem_of_getElem? (i := 20) rfl), good_of_word rfl⟩
theorem gw_r25_21 : GW1 wsL_law (Cond.code yX6_lends cX6_lends 8 (some .int)) := ⟨ckm_wsL_law_r25 _ (List.mem_of_getElem? (i := 21) rfl), good_of_word rfl⟩
theorem gw_r25_22 : GW1 wsL_law (Cond.constantLong RX6 190 (40)) := ⟨ckm_wsL_law_r25 _ (List.mem_of_getElem? (i := 22) rfl), good_of_word rfl⟩
theorem gw_r25_23 : GW1 wsL_law (Cond.methodLink RX6 192 yX6_many) := ⟨ckm_wsL_law_r25 _ (List.mem_of_getElem? (i := 23) rfl), good_of_word rfl⟩
theorem gw_r26_0 : GW1 wsL_law (Cond.static yX6_many) := ⟨ckm_wsL_law_r26 _ (List.mem_of_getElem? (i := 0) rfl), good_of_word rfl⟩
theorem gw_r26_1 : GW1 wsL_law (Cond.code yX6_many cX6_many 3 (some .int)) := ⟨ckm_wsL_law_r26 _ (List.mem_of_getElem? (i := 1) rfl), good_of_word rfl⟩
theorem gw_r26_2 : GW1 wsL_law (Cond.methodLink RL 93 yX5_instead) := ⟨ckm_wsL_law_r26 _ (List.mem_of_getElem? (i := 2) rfl), good_of_word rfl⟩
theorem gw_r26_3 : GW1 wsL_law (Cond.instanceMethod yX5_instead) := ⟨ckm_wsL_law_r26 _ (List.mem_of_getElem? (i := 3) rfl), good_of_word rfl⟩
theorem gw_r26_4 : GW1 wsL_law (Cond.selects RX5 yX5_instead yX5_instead) := ⟨ckm_wsL_law_r26 _ (List.mem_of_getElem? (i := 4) rfl), good_of_word rfl⟩
theorem gw_r26_5 : GW1 wsL_law (Cond.code yX5_instead cX5_instead 8 (some .int)) := ⟨ckm_wsL_law_r26 _ (List.mem_of_getElem? (i := 5) rfl), good_of_word rfl⟩
theorem gw_r26_6 : GW1 wsL_law (Cond.methodLink RX5 179 yX5_stoppedIfTold) := ⟨ckm_wsL_law_r26 _ (List.mem_of_getElem? (i := 6) rfl), good_of_word rfl⟩
theorem gw_r26_7 : GW1 wsL_law (Cond.instanceMethod yX5_stoppedIfTold) := ⟨ckm_wsL_law_r26 _ (List.mem_of_getElem? (i := 7) rfl), good_of_word rfl⟩
theorem gw_r26_8 : GW1 wsL_law (Cond.selects RX5 yX5_stoppedIfTold yX5_stoppedIfTold) := ⟨ckm_wsL_law_r26 _ (List.mem_of_getElem? (i := 8) rfl), good_of_word rfl⟩
theorem gw_r26_9 : GW1 wsL_law (Cond.code yX5_stoppedIfTold cX5_stoppedIfTold 4 (some .int)) := ⟨ckm_wsL_law_r26 _ (List.mem_of_getElem? (i := 9) rfl), good_of_word rfl⟩
theorem gw_r26_10 : GW1 wsL_law (Cond.methodLink RL 96 yX6_instead) := ⟨ckm_wsL_law_r26 _ (List.mem_of_getElem? (i := 10) rfl), good_of_word rfl⟩
theorem gw_r26_11 : GW1 wsL_law (Cond.instanceMethod yX6_instead) := ⟨ckm_wsL_law_r26 _ (List.mem_of_getElem? (i := 11) rfl), good_of_word rfl⟩
theorem gw_r26_12 : GW1 wsL_law (Cond.selects RX6 yX6_instead yX6_instead) := ⟨ckm_wsL_law_r26 _ (List.mem_of_getElem? (i := 12) rfl), good_of_word rfl⟩
theorem gw_r26_13 : GW1 wsL_law (Cond.code yX6_instead cX6_instead 8 (some .int)) := ⟨ckm_wsL_law_r26 _ (List.mem_of_getElem? (i := 13) rfl), good_of_word rfl⟩
theorem gw_r26_14 : GW1 wsL_law (Cond.methodLink RL 97 yX5_needs) := ⟨ckm_wsL_law_r26 _ (List.mem_of_getElem? (i := 14) rfl), good_of_word rfl⟩
theorem gw_r26_15 : GW1 wsL_law (Cond.instanceMethod yX5_needs) := ⟨ckm_wsL_law_r26 _ (List.mem_of_getElem? (i := 15) rfl), good_of_word rfl⟩
theorem gw_r26_16 : GW1 wsL_law (Cond.selects RX5 yX5_needs yX5_needs) := ⟨ckm_wsL_law_r26 _ (List.mem_of_getElem? (i := 16) rfl), good_of_word rfl⟩
theorem gw_r26_17 : GW1 wsL_law (Cond.code yX5_needs cX5_needs 4 (some .int)) := ⟨ckm_wsL_law_r26 _ (List.mem_of_getElem? (i := 17) rfl), good_of_word rfl⟩
theorem gw_r26_18 : GW1 wsL_law (Cond.methodLink RL 100 yX6_needs) := ⟨ckm_wsL_law_r26 _ (List.mem_of_getElem? (i := 18) rfl), good_of_word rfl⟩
theorem gw_r26_19 : GW1 wsL_law (Cond.instanceMethod yX6_needs) := ⟨ckm_wsL_law_r26 _ (List.mem_of_getElem? (i := 19) rfl), good_of_word rfl⟩
theorem gw_r26_20 : GW1 wsL_law (Cond.selects RX6 yX6_needs yX6_needs) := ⟨ckm_wsL_law_r26 _ (List.mem_of_getElem? (i := 20) rfl), good_of_word rfl⟩
theorem gw_r26_21 : GW1 wsL_law (Cond.code yX6_needs cX6_needs 7 (some .int)) := ⟨ckm_wsL_law_r26 _ (List.mem_of_getElem? (i := 21) rfl), good_of_word rfl⟩
theorem gw_r26_22 : GW1 wsL_law (Cond.methodLink RL 101 yX5_match) := ⟨ckm_wsL_law_r26 _ (List.mem_of_getElem? (i := 22) rfl), good_of_word rfl⟩
theorem gw_r26_23 : GW1 wsL_law (Cond.instanceMethod yX5_match) := ⟨ckm_wsL_law_r26 _ (List.mem_of_getElem? (i := 23) rfl), good_of_word rfl⟩
theorem gw_r27_0 : GW1 wsL_law (Cond.selects RX5 yX5_match yX5_match) := ⟨ckm_wsL_law_r27 _ (List.mem_of_getElem? (i := 0) rfl), good_of_word rfl⟩
theorem gw_r27_1 : GW1 wsL_law (Cond.code yX5_match cX5_match 2 (some .int)) := ⟨ckm_wsL_law_r27 _ (List.mem_of_getElem? (i := 1) rfl), good_of_word rfl⟩
theorem gw_r27_2 : GW1 wsL_law (Cond.instanceMethod yX0_find) := ⟨ckm_wsL_law_r27 _ (List.mem_of_getElem? (i := 2) rfl), good_of_word rfl⟩
theorem gw_r27_3 : GW1 wsL_law (Cond.selects RX0 yX0_find yX0_find) := ⟨ckm_wsL_law_r27 _ (List.mem_of_getElem? (i := 3) rfl), good_of_word rfl⟩
theorem gw_r27_4 : GW1 wsL_law (Cond.code yX0_find cX0_find 2 none) := ⟨ckm_wsL_law_r27 _ (List.mem_of_getElem? (i := 4) rfl), good_of_word rfl⟩
theorem gw_r27_5 : GW1 wsL_law (Cond.methodLink RX0 22 yX0_choose) := ⟨ckm_wsL_law_r27 _ (List.mem_of_getElem? (i := 5) rfl), good_of_word rfl⟩
theorem gw_r27_6 : GW1 wsL_law (Cond.static yX0_choose) := ⟨ckm_wsL_law_r27 _ (List.mem_of_getElem? (i := 6) rfl), good_of_word rfl⟩
theorem gw_r27_7 : GW1 wsL_law (Cond.code yX0_choose cX0_choose 7 none) := ⟨ckm_wsL_law_r27 _ (List.mem_of_getElem? (i := 7) rfl), good_of_word rfl⟩
theorem gw_r27_8 : GW1 wsL_law (Cond.methodLink RX0 31 arraycopyName) := ⟨ckm_wsL_law_r27 _ (List.mem_of_getElem? (i := 8) rfl), good_of_word rfl⟩
theorem gw_r27_9 : GW1 wsL_law (Cond.native arraycopyName) := ⟨ckm_wsL_law_r27 _ (List.mem_of_getElem? (i := 9) rfl), good_of_word rfl⟩
theorem gw_r27_10 : GW1 wsL_law (Cond.static arraycopyName) := ⟨ckm_wsL_law_r27 _ (List.mem_of_getElem? (i := 10) rfl), good_of_word rfl⟩
theorem gw_r27_11 : GW1 wsL_law (Cond.initialized "java/lang/System") := ⟨ckm_wsL_law_r27 _ (List.mem_of_getElem? (i := 11) rfl), good_of_word rfl⟩
theorem gw_r27_12 : GW1 wsL_law (Cond.methodLink RL 104 yX6_match) := ⟨ckm_wsL_law_r27 _ (List.mem_of_getElem? (i := 12) rfl), good_of_word rfl⟩
theorem gw_r27_13 : GW1 wsL_law (Cond.instanceMethod yX6_match) := ⟨ckm_wsL_law_r27 _ (List.mem_of_getElem? (i := 13) rfl), good_of_word rfl⟩
theorem gw_r27_14 : GW1 wsL_law (Cond.selects RX6 yX6_match yX6_match) := ⟨ckm_wsL_law_r27 _ (List.mem_of_getElem? (i := 14) rfl), good_of_word rfl⟩
theorem gw_r27_15 : GW1 wsL_law (Cond.code yX6_match cX6_match 7 (some .int)) := ⟨ckm_wsL_law_r27 _ (List.mem_of_getElem? (i := 15) rfl), good_of_word rfl⟩
theorem gw_r27_16 : GW1 wsL_law (Cond.constantLong RX6 195 (-1)) := ⟨ckm_wsL_law_r27 _ (List.mem_of_getElem? (i := 16) rfl), good_of_word rfl⟩
theorem gw_r27_17 : GW1 wsL_law (Cond.methodLink RX6 197 yX6_changes) := ⟨ckm_wsL_law_r27 _ (List.mem_of_getElem? (i := 17) rfl), good_of_word rfl⟩
theorem gw_r27_18 : GW1 wsL_law (Cond.instanceMethod yX6_changes) := ⟨ckm_wsL_law_r27 _ (List.mem_of_getElem? (i := 18) rfl), good_of_word rfl⟩
theorem gw_r27_19 : GW1 wsL_law (Cond.selects RX6 yX6_changes yX6_changes) := ⟨ckm_wsL_law_r27 _ (List.mem_of_getElem? (i := 19) rfl), good_of_word rfl⟩
theorem gw_r27_20 : GW1 wsL_law (Cond.code yX6_changes cX6_changes 8 (some .int)) := ⟨ckm_wsL_law_r27 _ (List.mem_of_getElem? (i := 20) rfl), good_of_word rfl⟩
theorem gw_r27_21 : GW1 wsL_law (Cond.methodLink RL 105 yX5_again) := ⟨ckm_wsL_law_r27 _ (List.mem_of_getElem? (i := 21) rfl), good_of_word rfl⟩
theorem gw_r27_22 : GW1 wsL_law (Cond.instanceMethod yX5_again) := ⟨ckm_wsL_law_r27 _ (List.mem_of_getElem? (i := 22) rfl), good_of_word rfl⟩
theorem gw_r27_23 : GW1 wsL_law (Cond.selects RX5 yX5_again yX5_again) := ⟨ckm_wsL_law_r27 _ (List.mem_of_getElem? (i := 23) rfl), good_of_word rfl⟩
theorem gw_r28_0 : GW1 wsL_law (Cond.code yX5_again cX5_again 2 (some .int)) := ⟨ckm_wsL_law_r28 _ (List.mem_of_getElem? (i := 0) rfl), good_of_word rfl⟩
theorem gw_r28_1 : GW1 wsL_law (Cond.instanceMethod yX2_hasTurnsOf) := ⟨ckm_wsL_law_r28 _ (List.mem_of_getElem? (i := 1) rfl), good_of_word rfl⟩
theorem gw_r28_2 : GW1 wsL_law (Cond.selects RX2 yX2_hasTurnsOf yX2_hasTurnsOf) := ⟨ckm_wsL_law_r28 _ (List.mem_of_getElem? (i := 2) rfl), good_of_word rfl⟩
theorem gw_r28_3 : GW1 wsL_law (Cond.code yX2_hasTurnsOf cX2_hasTurnsOf 3 (some .boolean)) := ⟨ckm_wsL_law_r28 _ (List.mem_of_getElem? (i := 3) rfl), good_of_word rfl⟩
theorem gw_r28_4 : GW1 wsL_law (Cond.methodLink RL 108 yX6_again) := ⟨ckm_wsL_law_r28 _ (List.mem_of_getElem? (i := 4) rfl), good_of_word rfl⟩
theorem gw_r28_5 : GW1 wsL_law (Cond.instanceMethod yX6_again) := ⟨ckm_wsL_law_r28 _ (List.mem_of_getElem? (i := 5) rfl), good_of_word rfl⟩
theorem gw_r28_6 : GW1 wsL_law (Cond.selects RX6 yX6_again yX6_again) := ⟨ckm_wsL_law_r28 _ (List.mem_of_getElem? (i := 6) rfl), good_of_word rfl⟩
theorem gw_r28_7 : GW1 wsL_law (Cond.code yX6_again cX6_again 3 (some .int)) := ⟨ckm_wsL_law_r28 _ (List.mem_of_getElem? (i := 7) rfl), good_of_word rfl⟩
theorem gw_r28_8 : GW1 wsL_law (Cond.methodLink RX6 200 yX6_isAsAside) := ⟨ckm_wsL_law_r28 _ (List.mem_of_getElem? (i := 8) rfl), good_of_word rfl⟩
theorem gw_r28_9 : GW1 wsL_law (Cond.instanceMethod yX6_isAsAside) := ⟨ckm_wsL_law_r28 _ (List.mem_of_getElem? (i := 9) rfl), good_of_word rfl⟩
theorem gw_r28_10 : GW1 wsL_law (Cond.selects RX6 yX6_isAsAside yX6_isAsAside) := ⟨ckm_wsL_law_r28 _ (List.mem_of_getElem? (i := 10) rfl), good_of_word rfl⟩
theorem gw_r28_11 : GW1 wsL_law (Cond.code yX6_isAsAside cX6_isAsAside 3 (some .boolean)) := ⟨ckm_wsL_law_r28 _ (List.mem_of_getElem? (i := 11) rfl), good_of_word rfl⟩
theorem gw_r28_12 : GW1 wsL_law (Cond.methodLink RL 109 yX5_forget) := ⟨ckm_wsL_law_r28 _ (List.mem_of_getElem? (i := 12) rfl), good_of_word rfl⟩
theorem gw_r28_13 : GW1 wsL_law (Cond.instanceMethod yX5_forget) := ⟨ckm_wsL_law_r28 _ (List.mem_of_getElem? (i := 13) rfl), good_of_word rfl⟩
theorem gw_r28_14 : GW1 wsL_law (Cond.selects RX5 yX5_forget yX5_forget) := ⟨ckm_wsL_law_r28 _ (List.mem_of_getElem? (i := 14) rfl), good_of_word rfl⟩
theorem gw_r28_15 : GW1 wsL_law (Cond.code yX5_forget cX5_forget 8 (some .int)) := ⟨ckm_wsL_law_r28 _ (List.mem_of_getElem? (i := 15) rfl), good_of_word rfl⟩
theorem gw_r28_16 : GW1 wsL_law (Cond.methodLink RX5 216 Lib.Math.max.name) := ⟨ckm_wsL_law_r28 _ (List.mem_of_getElem? (i := 16) rfl), good_of_word rfl⟩
theorem gw_r28_17 : GW1 wsL_law (Cond.methodLink RX5 207 yX5_waysToForget) := ⟨ckm_wsL_law_r28 _ (List.mem_of_getElem? (i := 17) rfl), good_of_word rfl⟩
theorem gw_r28_18 : GW1 wsL_law (Cond.static yX5_waysToForget) := ⟨ckm_wsL_law_r28 _ (List.mem_of_getElem? (i := 18) rfl), good_of_word rfl⟩
theorem gw_r28_19 : GW1 wsL_law (Cond.code yX5_waysToForget cX5_waysToForget 4 (some .int)) := ⟨ckm_wsL_law_r28 _ (List.mem_of_getElem? (i := 19) rfl), good_of_word rfl⟩
theorem gw_r28_20 : GW1 wsL_law (Cond.methodLink RX5 210 yX5_power) := ⟨ckm_wsL_law_r28 _ (List.mem_of_getElem? (i := 20) rfl), good_of_word rfl⟩
theorem gw_r28_21 : GW1 wsL_law (Cond.static yX5_power) := ⟨ckm_wsL_law_r28 _ (List.mem_of_getElem? (i := 21) rfl), good_of_word rfl⟩
theorem gw_r28_22 : GW1 wsL_law (Cond.code yX5_power cX5_power 4 (some .int)) := ⟨ckm_wsL_law_r28 _ (List.mem_of_getElem? (i := 22) rfl), good_of_word rfl⟩
theorem gw_r28_23 : GW1 wsL_law (Cond.methodLink RX5 213 yX5_greatestDivisor) := ⟨ckm_wsL_law_r28 _ (List.mem_of_getElem? (i := 23) rfl), good_of_word rfl⟩
theorem gw_r29_0 : GW1 wsL_law (Cond.static yX5_greatestDivisor) := ⟨ckm_wsL_law_r29 _ (List.mem_of_getElem? (i := 0) rfl), good_of_word rfl⟩
theorem gw_r29_1 : GW1 wsL_law (Cond.code yX5_greatestDivisor cX5_greatestDivisor 6 (some .int)) := ⟨ckm_wsL_law_r29 _ (List.mem_of_getElem? (i := 1) rfl), good_of_word rfl⟩
theorem gw_r29_2 : GW1 wsL_law (Cond.methodLink RL 112 yX6_forget) := ⟨ckm_wsL_law_r29 _ (List.mem_of_getElem? (i := 2) rfl), good_of_word rfl⟩
theorem gw_r29_3 : GW1 wsL_law (Cond.instanceMethod yX6_forget) := ⟨ckm_wsL_law_r29 _ (List.mem_of_getElem? (i := 3) rfl), good_of_word rfl⟩
theorem gw_r29_4 : GW1 wsL_law (Cond.selects RX6 yX6_forget yX6_forget) := ⟨ckm_wsL_law_r29 _ (List.mem_of_getElem? (i := 4) rfl), good_of_word rfl⟩
theorem gw_r29_5 : GW1 wsL_law (Cond.code yX6_forget cX6_forget 10 (some .int)) := ⟨ckm_wsL_law_r29 _ (List.mem_of_getElem? (i := 5) rfl), good_of_word rfl⟩
theorem gw_r29_6 : GW1 wsL_law (Cond.constantLong RX6 203 (10)) := ⟨ckm_wsL_law_r29 _ (List.mem_of_getElem? (i := 6) rfl), good_of_word rfl⟩
theorem gw_r29_7 : GW1 wsL_law (Cond.methodLink RL 113 yX5_image) := ⟨ckm_wsL_law_r29 _ (List.mem_of_getElem? (i := 7) rfl), good_of_word rfl⟩
theorem gw_r29_8 : GW1 wsL_law (Cond.instanceMethod yX5_image) := ⟨ckm_wsL_law_r29 _ (List.mem_of_getElem? (i := 8) rfl), good_of_word rfl⟩
theorem gw_r29_9 : GW1 wsL_law (Cond.selects RX5 yX5_image yX5_image) := ⟨ckm_wsL_law_r29 _ (List.mem_of_getElem? (i := 9) rfl), good_of_word rfl⟩
theorem gw_r29_10 : GW1 wsL_law (Cond.code yX5_image cX5_image 1 (some .int)) := ⟨ckm_wsL_law_r29 _ (List.mem_of_getElem? (i := 10) rfl), good_of_word rfl⟩
theorem gw_r29_11 : GW1 wsL_law (Cond.instanceMethod yX1_become) := ⟨ckm_wsL_law_r29 _ (List.mem_of_getElem? (i := 11) rfl), good_of_word rfl⟩
theorem gw_r29_12 : GW1 wsL_law (Cond.selects RX1 yX1_become yX1_become) := ⟨ckm_wsL_law_r29 _ (List.mem_of_getElem? (i := 12) rfl), good_of_word rfl⟩
theorem gw_r29_13 : GW1 wsL_law (Cond.code yX1_become cX1_become 3 none) := ⟨ckm_wsL_law_r29 _ (List.mem_of_getElem? (i := 13) rfl), good_of_word rfl⟩
theorem gw_r29_14 : GW1 wsL_law (Cond.methodLink RL 116 yX6_image) := ⟨ckm_wsL_law_r29 _ (List.mem_of_getElem? (i := 14) rfl), good_of_word rfl⟩
theorem gw_r29_15 : GW1 wsL_law (Cond.instanceMethod yX6_image) := ⟨ckm_wsL_law_r29 _ (List.mem_of_getElem? (i := 15) rfl), good_of_word rfl⟩
theorem gw_r29_16 : GW1 wsL_law (Cond.selects RX6 yX6_image yX6_image) := ⟨ckm_wsL_law_r29 _ (List.mem_of_getElem? (i := 16) rfl), good_of_word rfl⟩
theorem gw_r29_17 : GW1 wsL_law (Cond.code yX6_image cX6_image 2 (some .int)) := ⟨ckm_wsL_law_r29 _ (List.mem_of_getElem? (i := 17) rfl), good_of_word rfl⟩
theorem gw_r29_18 : GW1 wsL_law (Cond.fieldLink RX6 205 "KeyedFeelingsModel" "keptUndos" "I") := ⟨ckm_wsL_law_r29 _ (List.mem_of_getElem? (i := 18) rfl), good_of_word rfl⟩
theorem gw_r29_19 : GW1 wsL_law (Cond.fieldLink RX6 208 "KeyedFeelingsModel" "isKept" "Z") := ⟨ckm_wsL_law_r29 _ (List.mem_of_getElem? (i := 19) rfl), good_of_word rfl⟩
theorem gw_r29_20 : GW1 wsL_law (Cond.methodLink RL 117 yX5_restore) := ⟨ckm_wsL_law_r29 _ (List.mem_of_getElem? (i := 20) rfl), good_of_word rfl⟩
theorem gw_r29_21 : GW1 wsL_law (Cond.instanceMethod yX5_restore) := ⟨ckm_wsL_law_r29 _ (List.mem_of_getElem? (i := 21) rfl), good_of_word rfl⟩
theorem gw_r29_22 : GW1 wsL_law (Cond.selects RX5 yX5_restore yX5_restore) := ⟨ckm_wsL_law_r29 _ (List.mem_of_getElem? (i := 22) rfl), good_of_word rfl⟩
theorem gw_r29_23 : GW1 wsL_law (Cond.code yX5_restore cX5_restore 1 (some .int)) := ⟨ckm_wsL_law_r29 _ (List.mem_of_getElem? (i := 23) rfl), good_of_word rfl⟩
theorem gw_r30_0 : GW1 wsL_law (Cond.methodLink RL 120 yX6_restore) := ⟨ckm_wsL_law_r30 _ (List.mem_of_getElem? (i := 0) rfl), good_of_word rfl⟩
theorem gw_r30_1 : GW1 wsL_law (Cond.instanceMethod yX6_restore) := ⟨ckm_wsL_law_r30 _ (List.mem_of_getElem? (i := 1) rfl), good_of_word rfl⟩
theorem gw_r30_2 : GW1 wsL_law (Cond.selects RX6 yX6_restore yX6_restore) := ⟨ckm_wsL_law_r30 _ (List.mem_of_getElem? (i := 2) rfl), good_of_word rfl⟩
theorem gw_r30_3 : GW1 wsL_law (Cond.code yX6_restore cX6_restore 2 (some .int)) := ⟨ckm_wsL_law_r30 _ (List.mem_of_getElem? (i := 3) rfl), good_of_word rfl⟩
theorem gw_r30_4 : GW1 wsL_law (Cond.methodLink RL 121 yX5_heard) := ⟨ckm_wsL_law_r30 _ (List.mem_of_getElem? (i := 4) rfl), good_of_word rfl⟩
theorem gw_r30_5 : GW1 wsL_law (Cond.instanceMethod yX5_heard) := ⟨ckm_wsL_law_r30 _ (List.mem_of_getElem? (i := 5) rfl), good_of_word rfl⟩
theorem gw_r30_6 : GW1 wsL_law (Cond.selects RX5 yX5_heard yX5_heard) := ⟨ckm_wsL_law_r30 _ (List.mem_of_getElem? (i := 6) rfl), good_of_word rfl⟩
theorem gw_r30_7 : GW1 wsL_law (Cond.code yX5_heard cX5_heard 8 (some .int)) := ⟨ckm_wsL_law_r30 _ (List.mem_of_getElem? (i := 7) rfl), good_of_word rfl⟩
theorem gw_r30_8 : GW1 wsL_law (Cond.methodLink RX5 224 yX5_isSheet) := ⟨ckm_wsL_law_r30 _ (List.mem_of_getElem? (i := 8) rfl), good_of_word rfl⟩
theorem gw_r30_9 : GW1 wsL_law (Cond.static yX5_isSheet) := ⟨ckm_wsL_law_r30 _ (List.mem_of_getElem? (i := 9) rfl), good_of_word rfl⟩
theorem gw_r30_10 : GW1 wsL_law (Cond.code yX5_isSheet cX5_isSheet 1 (some .boolean)) := ⟨ckm_wsL_law_r30 _ (List.mem_of_getElem? (i := 10) rfl), good_of_word rfl⟩
theorem gw_r30_11 : GW1 wsL_law (Cond.methodLink RX5 227 yX5_isLane) := ⟨ckm_wsL_law_r30 _ (List.mem_of_getElem? (i := 11) rfl), good_of_word rfl⟩
theorem gw_r30_12 : GW1 wsL_law (Cond.static yX5_isLane) := ⟨ckm_wsL_law_r30 _ (List.mem_of_getElem? (i := 12) rfl), good_of_word rfl⟩
theorem gw_r30_13 : GW1 wsL_law (Cond.code yX5_isLane cX5_isLane 1 (some .boolean)) := ⟨ckm_wsL_law_r30 _ (List.mem_of_getElem? (i := 13) rfl), good_of_word rfl⟩
theorem gw_r30_14 : GW1 wsL_law (Cond.instanceMethod yX3_refusal) := ⟨ckm_wsL_law_r30 _ (List.mem_of_getElem? (i := 14) rfl), good_of_word rfl⟩
theorem gw_r30_15 : GW1 wsL_law (Cond.selects RX3 yX3_refusal yX3_refusal) := ⟨ckm_wsL_law_r30 _ (List.mem_of_getElem? (i := 15) rfl), good_of_word rfl⟩
theorem gw_r30_16 : GW1 wsL_law (Cond.code yX3_refusal cX3_refusal 4 (some .int)) := ⟨ckm_wsL_law_r30 _ (List.mem_of_getElem? (i := 16) rfl), good_of_word rfl⟩
theorem gw_r30_17 : GW1 wsL_law (Cond.methodLink RX3 28 yX3_isMissing) := ⟨ckm_wsL_law_r30 _ (List.mem_of_getElem? (i := 17) rfl), good_of_word rfl⟩
theorem gw_r30_18 : GW1 wsL_law (Cond.instanceMethod yX3_isMissing) := ⟨ckm_wsL_law_r30 _ (List.mem_of_getElem? (i := 18) rfl), good_of_word rfl⟩
theorem gw_r30_19 : GW1 wsL_law (Cond.selects RX3 yX3_isMissing yX3_isMissing) := ⟨ckm_wsL_law_r30 _ (List.mem_of_getElem? (i := 19) rfl), good_of_word rfl⟩
theorem gw_r30_20 : GW1 wsL_law (Cond.code yX3_isMissing cX3_isMissing 1 (some .boolean)) := ⟨ckm_wsL_law_r30 _ (List.mem_of_getElem? (i := 20) rfl), good_of_word rfl⟩
theorem gw_r30_21 : GW1 wsL_law (Cond.methodLink RX3 32 yX3_holds) := ⟨ckm_wsL_law_r30 _ (List.mem_of_getElem? (i := 21) rfl), good_of_word rfl⟩
theorem gw_r30_22 : GW1 wsL_law (Cond.instanceMethod yX3_holds) := ⟨ckm_wsL_law_r30 _ (List.mem_of_getElem? (i := 22) rfl), good_of_word rfl⟩
theorem gw_r30_23 : GW1 wsL_law (Cond.selects RX3 yX3_holds yX3_holds) := ⟨ckm_wsL_law_r30 _ (List.mem_of_getElem? (i := 23) rfl), good_of_word rfl⟩
theorem gw_r31_0 : GW1 wsL_law (Cond.code yX3_holds cX3_holds 3 (some .boolean)) := ⟨ckm_wsL_law_r31 _ (List.mem_of_getElem? (i := 0) rfl), good_of_word rfl⟩
theorem gw_r31_1 : GW1 wsL_law (Cond.methodLink RX5 233 yX5_guessesHeard) := ⟨ckm_wsL_law_r31 _ (List.mem_of_getElem? (i := 1) rfl), good_of_word rfl⟩
theorem gw_r31_2 : GW1 wsL_law (Cond.instanceMethod yX5_guessesHeard) := ⟨ckm_wsL_law_r31 _ (List.mem_of_getElem? (i := 2) rfl), good_of_word rfl⟩
theorem gw_r31_3 : GW1 wsL_law (Cond.selects RX5 yX5_guessesHeard yX5_guessesHeard) := ⟨ckm_wsL_law_r31 _ (List.mem_of_getElem? (i := 3) rfl), good_of_word rfl⟩
theorem gw_r31_4 : GW1 wsL_law (Cond.code yX5_guessesHeard cX5_guessesHeard 10 (some .int)) := ⟨ckm_wsL_law_r31 _ (List.mem_of_getElem? (i := 4) rfl), good_of_word rfl⟩
theorem gw_r31_5 : GW1 wsL_law (Cond.methodLink RX5 268 yX5_suppose) := ⟨ckm_wsL_law_r31 _ (List.mem_of_getElem? (i := 5) rfl), good_of_word rfl⟩
theorem gw_r31_6 : GW1 wsL_law (Cond.instanceMethod yX5_suppose) := ⟨ckm_wsL_law_r31 _ (List.mem_of_getElem? (i := 6) rfl), good_of_word rfl⟩
theorem gw_r31_7 : GW1 wsL_law (Cond.selects RX5 yX5_suppose yX5_suppose) := ⟨ckm_wsL_law_r31 _ (List.mem_of_getElem? (i := 7) rfl), good_of_word rfl⟩
theorem gw_r31_8 : GW1 wsL_law (Cond.code yX5_suppose cX5_suppose 4 none) := ⟨ckm_wsL_law_r31 _ (List.mem_of_getElem? (i := 8) rfl), good_of_word rfl⟩
theorem gw_r31_9 : GW1 wsL_law (Cond.methodLink RX5 272 yX5_trialRunsAs) := ⟨ckm_wsL_law_r31 _ (List.mem_of_getElem? (i := 9) rfl), good_of_word rfl⟩
theorem gw_r31_10 : GW1 wsL_law (Cond.instanceMethod yX5_trialRunsAs) := ⟨ckm_wsL_law_r31 _ (List.mem_of_getElem? (i := 10) rfl), good_of_word rfl⟩
theorem gw_r31_11 : GW1 wsL_law (Cond.selects RX5 yX5_trialRunsAs yX5_trialRunsAs) := ⟨ckm_wsL_law_r31 _ (List.mem_of_getElem? (i := 11) rfl), good_of_word rfl⟩
theorem gw_r31_12 : GW1 wsL_law (Cond.code yX5_trialRunsAs cX5_trialRunsAs 6 (some .boolean)) := ⟨ckm_wsL_law_r31 _ (List.mem_of_getElem? (i := 12) rfl), good_of_word rfl⟩
theorem gw_r31_13 : GW1 wsL_law (Cond.methodLink RL 125 yX6_heard) := ⟨ckm_wsL_law_r31 _ (List.mem_of_getElem? (i := 13) rfl), good_of_word rfl⟩
theorem gw_r31_14 : GW1 wsL_law (Cond.instanceMethod yX6_heard) := ⟨ckm_wsL_law_r31 _ (List.mem_of_getElem? (i := 14) rfl), good_of_word rfl⟩
theorem gw_r31_15 : GW1 wsL_law (Cond.selects RX6 yX6_heard yX6_heard) := ⟨ckm_wsL_law_r31 _ (List.mem_of_getElem? (i := 15) rfl), good_of_word rfl⟩
theorem gw_r31_16 : GW1 wsL_law (Cond.code yX6_heard cX6_heard 13 (some .int)) := ⟨ckm_wsL_law_r31 _ (List.mem_of_getElem? (i := 16) rfl), good_of_word rfl⟩
theorem gw_r31_17 : GW1 wsL_law (Cond.constantLong RX6 219 (8)) := ⟨ckm_wsL_law_r31 _ (List.mem_of_getElem? (i := 17) rfl), good_of_word rfl⟩
theorem gw_r31_18 : GW1 wsL_law (Cond.methodLink RX6 213 yX6_isSheet) := ⟨ckm_wsL_law_r31 _ (List.mem_of_getElem? (i := 18) rfl), good_of_word rfl⟩
theorem gw_r31_19 : GW1 wsL_law (Cond.static yX6_isSheet) := ⟨ckm_wsL_law_r31 _ (List.mem_of_getElem? (i := 19) rfl), good_of_word rfl⟩
theorem gw_r31_20 : GW1 wsL_law (Cond.code yX6_isSheet cX6_isSheet 1 (some .boolean)) := ⟨ckm_wsL_law_r31 _ (List.mem_of_getElem? (i := 20) rfl), good_of_word rfl⟩
theorem gw_r31_21 : GW1 wsL_law (Cond.constantLong RX6 211 (3)) := ⟨ckm_wsL_law_r31 _ (List.mem_of_getElem? (i := 21) rfl), good_of_word rfl⟩
theorem gw_r31_22 : GW1 wsL_law (Cond.methodLink RX6 216 yX6_isLane) := ⟨ckm_wsL_law_r31 _ (List.mem_of_getElem? (i := 22) rfl), good_of_word rfl⟩
theorem gw_r31_23 : GW1 wsL_law (Cond.static yX6_isLane) := ⟨ckm_wsL_law_r31 _ (List.mem_of_getElem? (i := 23) rfl), good_of_word rfl⟩
theorem gw_r32_0 : GW1 wsL_law (Cond.code yX6_isLane cX6_isLane 1 (some .boolean)) := ⟨ckm_wsL_law_r32 _ (List.mem_of_getElem? (i := 0) rfl), good_of_word rfl⟩
theorem gw_r32_1 : GW1 wsL_law (Cond.methodLink RX6 221 yX6_why) := ⟨ckm_wsL_law_r32 _ (List.mem_of_getElem? (i := 1) rfl), good_of_word rfl⟩
theorem gw_r32_2 : GW1 wsL_law (Cond.instanceMethod yX6_why) := ⟨ckm_wsL_law_r32 _ (List.mem_of_getElem? (i := 2) rfl), good_of_word rfl⟩
theorem gw_r32_3 : GW1 wsL_law (Cond.selects RX6 yX6_why yX6_why) := ⟨ckm_wsL_law_r32 _ (List.mem_of_getElem? (i := 3) rfl), good_of_word rfl⟩
theorem gw_r32_4 : GW1 wsL_law (Cond.code yX6_why cX6_why 5 (some .int)) := ⟨ckm_wsL_law_r32 _ (List.mem_of_getElem? (i := 4) rfl), good_of_word rfl⟩
theorem gw_r32_5 : GW1 wsL_law (Cond.methodLink RX6 225 yX6_isSo) := ⟨ckm_wsL_law_r32 _ (List.mem_of_getElem? (i := 5) rfl), good_of_word rfl⟩
theorem gw_r32_6 : GW1 wsL_law (Cond.instanceMethod yX6_isSo) := ⟨ckm_wsL_law_r32 _ (List.mem_of_getElem? (i := 6) rfl), good_of_word rfl⟩
theorem gw_r32_7 : GW1 wsL_law (Cond.selects RX6 yX6_isSo yX6_isSo) := ⟨ckm_wsL_law_r32 _ (List.mem_of_getElem? (i := 7) rfl), good_of_word rfl⟩
theorem gw_r32_8 : GW1 wsL_law (Cond.code yX6_isSo cX6_isSo 6 (some .boolean)) := ⟨ckm_wsL_law_r32 _ (List.mem_of_getElem? (i := 8) rfl), good_of_word rfl⟩
theorem gw_r32_9 : GW1 wsL_law (Cond.methodLink RL 126 yX5_film) := ⟨ckm_wsL_law_r32 _ (List.mem_of_getElem? (i := 9) rfl), good_of_word rfl⟩
theorem gw_r32_10 : GW1 wsL_law (Cond.instanceMethod yX5_film) := ⟨ckm_wsL_law_r32 _ (List.mem_of_getElem? (i := 10) rfl), good_of_word rfl⟩
theorem gw_r32_11 : GW1 wsL_law (Cond.selects RX5 yX5_film yX5_film) := ⟨ckm_wsL_law_r32 _ (List.mem_of_getElem? (i := 11) rfl), good_of_word rfl⟩
theorem gw_r32_12 : GW1 wsL_law (Cond.code yX5_film cX5_film 8 (some .int)) := ⟨ckm_wsL_law_r32 _ (List.mem_of_getElem? (i := 12) rfl), good_of_word rfl⟩
theorem gw_r32_13 : GW1 wsL_law (Cond.instanceMethod yX3_put) := ⟨ckm_wsL_law_r32 _ (List.mem_of_getElem? (i := 13) rfl), good_of_word rfl⟩
theorem gw_r32_14 : GW1 wsL_law (Cond.selects RX3 yX3_put yX3_put) := ⟨ckm_wsL_law_r32 _ (List.mem_of_getElem? (i := 14) rfl), good_of_word rfl⟩
theorem gw_r32_15 : GW1 wsL_law (Cond.code yX3_put cX3_put 4 none) := ⟨ckm_wsL_law_r32 _ (List.mem_of_getElem? (i := 15) rfl), good_of_word rfl⟩
theorem gw_r32_16 : GW1 wsL_law (Cond.methodLink RL 130 yX6_film) := ⟨ckm_wsL_law_r32 _ (List.mem_of_getElem? (i := 16) rfl), good_of_word rfl⟩
theorem gw_r32_17 : GW1 wsL_law (Cond.instanceMethod yX6_film) := ⟨ckm_wsL_law_r32 _ (List.mem_of_getElem? (i := 17) rfl), good_of_word rfl⟩
theorem gw_r32_18 : GW1 wsL_law (Cond.selects RX6 yX6_film yX6_film) := ⟨ckm_wsL_law_r32 _ (List.mem_of_getElem? (i := 18) rfl), good_of_word rfl⟩
theorem gw_r32_19 : GW1 wsL_law (Cond.code yX6_film cX6_film 8 (some .int)) := ⟨ckm_wsL_law_r32 _ (List.mem_of_getElem? (i := 19) rfl), good_of_word rfl⟩
theorem gw_r32_20 : GW1 wsL_law (Cond.constantLong RX6 229 (24)) := ⟨ckm_wsL_law_r32 _ (List.mem_of_getElem? (i := 20) rfl), good_of_word rfl⟩
theorem gw_r32_21 : GW1 wsL_law (Cond.methodLink RL 131 yX5_sheet) := ⟨ckm_wsL_law_r32 _ (List.mem_of_getElem? (i := 21) rfl), good_of_word rfl⟩
theorem gw_r32_22 : GW1 wsL_law (Cond.instanceMethod yX5_sheet) := ⟨ckm_wsL_law_r32 _ (List.mem_of_getElem? (i := 22) rfl), good_of_word rfl⟩
theorem gw_r32_23 : GW1 wsL_law (Cond.selects RX5 yX5_sheet yX5_sheet) := ⟨ckm_wsL_law_r32 _ (List.mem_of_getElem? (i := 23) rfl), good_of_word rfl⟩
theorem gw_r33_0 : GW1 wsL_law (Cond.code yX5_sheet cX5_sheet 4 (some .int)) := ⟨ckm_wsL_law_r33 _ (List.mem_of_getElem? (i := 0) rfl), good_of_word rfl⟩
theorem gw_r33_1 : GW1 wsL_law (Cond.instanceMethod yX3_begin) := ⟨ckm_wsL_law_r33 _ (List.mem_of_getElem? (i := 1) rfl), good_of_word rfl⟩
theorem gw_r33_2 : GW1 wsL_law (Cond.selects RX3 yX3_begin yX3_begin) := ⟨ckm_wsL_law_r33 _ (List.mem_of_getElem? (i := 2) rfl), good_of_word rfl⟩
theorem gw_r33_3 : GW1 wsL_law (Cond.code yX3_begin cX3_begin 3 none) := ⟨ckm_wsL_law_r33 _ (List.mem_of_getElem? (i := 3) rfl), good_of_word rfl⟩
theorem gw_r33_4 : GW1 wsL_law (Cond.methodLink RX3 22 yJ7_fill_d0a16) := ⟨ckm_wsL_law_r33 _ (List.mem_of_getElem? (i := 4) rfl), good_of_word rfl⟩
theorem gw_r33_5 : GW1 wsL_law (Cond.static yJ7_fill_d0a16) := ⟨ckm_wsL_law_r33 _ (List.mem_of_getElem? (i := 5) rfl), good_of_word rfl⟩
theorem gw_r33_6 : GW1 wsL_law (Cond.initialized RJ7) := ⟨ckm_wsL_law_r33 _ (List.mem_of_getElem? (i := 6) rfl), good_of_word rfl⟩
theorem gw_r33_7 : GW1 wsL_law (Cond.code yJ7_fill_d0a16 cJ7_fill_d0a16 5 none) := ⟨ckm_wsL_law_r33 _ (List.mem_of_getElem? (i := 7) rfl), good_of_word rfl⟩
theorem gw_r33_8 : GW1 wsL_law (Cond.methodLink RL 134 yX6_sheet) := ⟨ckm_wsL_law_r33 _ (List.mem_of_getElem? (i := 8) rfl), good_of_word rfl⟩
theorem gw_r33_9 : GW1 wsL_law (Cond.instanceMethod yX6_sheet) := ⟨ckm_wsL_law_r33 _ (List.mem_of_getElem? (i := 9) rfl), good_of_word rfl⟩
theorem gw_r33_10 : GW1 wsL_law (Cond.selects RX6 yX6_sheet yX6_sheet) := ⟨ckm_wsL_law_r33 _ (List.mem_of_getElem? (i := 10) rfl), good_of_word rfl⟩
theorem gw_r33_11 : GW1 wsL_law (Cond.code yX6_sheet cX6_sheet 5 (some .int)) := ⟨ckm_wsL_law_r33 _ (List.mem_of_getElem? (i := 11) rfl), good_of_word rfl⟩
theorem gw_r33_12 : GW1 wsL_law (Cond.methodLink RL 135 yX5_drop) := ⟨ckm_wsL_law_r33 _ (List.mem_of_getElem? (i := 12) rfl), good_of_word rfl⟩
theorem gw_r33_13 : GW1 wsL_law (Cond.instanceMethod yX5_drop) := ⟨ckm_wsL_law_r33 _ (List.mem_of_getElem? (i := 13) rfl), good_of_word rfl⟩
theorem gw_r33_14 : GW1 wsL_law (Cond.selects RX5 yX5_drop yX5_drop) := ⟨ckm_wsL_law_r33 _ (List.mem_of_getElem? (i := 14) rfl), good_of_word rfl⟩
theorem gw_r33_15 : GW1 wsL_law (Cond.code yX5_drop cX5_drop 3 (some .int)) := ⟨ckm_wsL_law_r33 _ (List.mem_of_getElem? (i := 15) rfl), good_of_word rfl⟩
theorem gw_r33_16 : GW1 wsL_law (Cond.instanceMethod yX3_lose) := ⟨ckm_wsL_law_r33 _ (List.mem_of_getElem? (i := 16) rfl), good_of_word rfl⟩
theorem gw_r33_17 : GW1 wsL_law (Cond.selects RX3 yX3_lose yX3_lose) := ⟨ckm_wsL_law_r33 _ (List.mem_of_getElem? (i := 17) rfl), good_of_word rfl⟩
theorem gw_r33_18 : GW1 wsL_law (Cond.code yX3_lose cX3_lose 1 none) := ⟨ckm_wsL_law_r33 _ (List.mem_of_getElem? (i := 18) rfl), good_of_word rfl⟩
theorem gw_r33_19 : GW1 wsL_law (Cond.methodLink RL 138 yX6_drop) := ⟨ckm_wsL_law_r33 _ (List.mem_of_getElem? (i := 19) rfl), good_of_word rfl⟩
theorem gw_r33_20 : GW1 wsL_law (Cond.instanceMethod yX6_drop) := ⟨ckm_wsL_law_r33 _ (List.mem_of_getElem? (i := 20) rfl), good_of_word rfl⟩
theorem gw_r33_21 : GW1 wsL_law (Cond.selects RX6 yX6_drop yX6_drop) := ⟨ckm_wsL_law_r33 _ (List.mem_of_getElem? (i := 21) rfl), good_of_word rfl⟩
theorem gw_r33_22 : GW1 wsL_law (Cond.code yX6_drop cX6_drop 2 (some .int)) := ⟨ckm_wsL_law_r33 _ (List.mem_of_getElem? (i := 22) rfl), good_of_word rfl⟩
theorem gw_r33_23 : GW1 wsL_law (Cond.methodLink RL 141 yX5_item) := ⟨ckm_wsL_law_r33 _ (List.mem_of_getElem? (i := 23) rfl), good_of_word rfl⟩
theorem gw_r34_0 : GW1 wsL_law (Cond.instanceMethod yX5_item) := ⟨ckm_wsL_law_r34 _ (List.mem_of_getElem? (i := 0) rfl), good_of_word rfl⟩
theorem gw_r34_1 : GW1 wsL_law (Cond.selects RX5 yX5_item yX5_item) := ⟨ckm_wsL_law_r34 _ (List.mem_of_getElem? (i := 1) rfl), good_of_word rfl⟩
theorem gw_r34_2 : GW1 wsL_law (Cond.code yX5_item cX5_item 7 (some .int)) := ⟨ckm_wsL_law_r34 _ (List.mem_of_getElem? (i := 2) rfl), good_of_word rfl⟩
theorem gw_r34_3 : GW1 wsL_law (Cond.methodLink RL 145 yX6_item) := ⟨ckm_wsL_law_r34 _ (List.mem_of_getElem? (i := 3) rfl), good_of_word rfl⟩
theorem gw_r34_4 : GW1 wsL_law (Cond.instanceMethod yX6_item) := ⟨ckm_wsL_law_r34 _ (List.mem_of_getElem? (i := 4) rfl), good_of_word rfl⟩
theorem gw_r34_5 : GW1 wsL_law (Cond.selects RX6 yX6_item yX6_item) := ⟨ckm_wsL_law_r34 _ (List.mem_of_getElem? (i := 5) rfl), good_of_word rfl⟩
theorem gw_r34_6 : GW1 wsL_law (Cond.code yX6_item cX6_item 7 (some .int)) := ⟨ckm_wsL_law_r34 _ (List.mem_of_getElem? (i := 6) rfl), good_of_word rfl⟩
theorem gw_r34_7 : GW1 wsL_law (Cond.methodLink RL 146 yX5_copy) := ⟨ckm_wsL_law_r34 _ (List.mem_of_getElem? (i := 7) rfl), good_of_word rfl⟩
theorem gw_r34_8 : GW1 wsL_law (Cond.instanceMethod yX5_copy) := ⟨ckm_wsL_law_r34 _ (List.mem_of_getElem? (i := 8) rfl), good_of_word rfl⟩
theorem gw_r34_9 : GW1 wsL_law (Cond.selects RX5 yX5_copy yX5_copy) := ⟨ckm_wsL_law_r34 _ (List.mem_of_getElem? (i := 9) rfl), good_of_word rfl⟩
theorem gw_r34_10 : GW1 wsL_law (Cond.code yX5_copy cX5_copy 8 (some .int)) := ⟨ckm_wsL_law_r34 _ (List.mem_of_getElem? (i := 10) rfl), good_of_word rfl⟩
theorem gw_r34_11 : GW1 wsL_law (Cond.methodLink RX5 262 arraycopyName) := ⟨ckm_wsL_law_r34 _ (List.mem_of_getElem? (i := 11) rfl), good_of_word rfl⟩
theorem gw_r34_12 : GW1 wsL_law (Cond.methodLink RL 149 yX6_copy) := ⟨ckm_wsL_law_r34 _ (List.mem_of_getElem? (i := 12) rfl), good_of_word rfl⟩
theorem gw_r34_13 : GW1 wsL_law (Cond.instanceMethod yX6_copy) := ⟨ckm_wsL_law_r34 _ (List.mem_of_getElem? (i := 13) rfl), good_of_word rfl⟩
theorem gw_r34_14 : GW1 wsL_law (Cond.selects RX6 yX6_copy yX6_copy) := ⟨ckm_wsL_law_r34 _ (List.mem_of_getElem? (i := 14) rfl), good_of_word rfl⟩
theorem gw_r34_15 : GW1 wsL_law (Cond.code yX6_copy cX6_copy 8 (some .int)) := ⟨ckm_wsL_law_r34 _ (List.mem_of_getElem? (i := 15) rfl), good_of_word rfl⟩
theorem gw_wsX50 : GoodIn wsL_law wsX50 := goodIn_sub ckm_wsX50 (by decide +kernel)
theorem gw_wsX60 : GoodIn wsL_law wsX60 := goodIn_sub ckm_wsX60 (by decide +kernel)
theorem gw_wsX20 : GoodIn wsL_law wsX20 := goodIn_sub ckm_wsX20 (by decide +kernel)
theorem gw_wsX10 : GoodIn wsL_law wsX10 := goodIn_sub ckm_wsX10 (by decide +kernel)
theorem gw_wsX40 : GoodIn wsL_law wsX40 := goodIn_sub ckm_wsX40 (by decide +kernel)
theorem gw_wsX00 : GoodIn wsL_law wsX00 := goodIn_sub ckm_wsX00 (by decide +kernel)
theorem gw_wsX30 : GoodIn wsL_law wsX30 := goodIn_sub ckm_wsX30 (by decide +kernel)
