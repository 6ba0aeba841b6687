noncomputable abbrev St2 : Type := Int32 × (Nat → Int32) × (Nat → Int32) × (Nat → Int32) × (Nat → Int32) × Int32 × Int32
noncomputable abbrev p2_size (σ : St2) : Int32 := σ.1
noncomputable abbrev p2_kinds (σ : St2) : (Nat → Int32) := σ.2.1
noncomputable abbrev p2_turns (σ : St2) : (Nat → Int32) := σ.2.2.1
noncomputable abbrev p2_winds (σ : St2) : (Nat → Int32) := σ.2.2.2.1
noncomputable abbrev p2_keys (σ : St2) : (Nat → Int32) := σ.2.2.2.2.1
noncomputable abbrev p2_hour (σ : St2) : Int32 := σ.2.2.2.2.2.1
noncomputable abbrev p2_draw (σ : St2) : Int32 := σ.2.2.2.2.2.2
noncomputable abbrev s2_size (σ : St2) (v : Int32) : St2 := (v, σ.2)
noncomputable abbrev s2_kinds (σ : St2) (v : (Nat → Int32)) : St2 := (σ.1, v, σ.2.2)
noncomputable abbrev s2_turns (σ : St2) (v : (Nat → Int32)) : St2 := (σ.1, σ.2.1, v, σ.2.2.2)
noncomputable abbrev s2_winds (σ : St2) (v : (Nat → Int32)) : St2 := (σ.1, σ.2.1, σ.2.2.1, v, σ.2.2.2.2)
noncomputable abbrev s2_keys (σ : St2) (v : (Nat → Int32)) : St2 := (σ.1, σ.2.1, σ.2.2.1, σ.2.2.2.1, v, σ.2.2.2.2.2)
noncomputable abbrev s2_hour (σ : St2) (v : Int32) : St2 := (σ.1, σ.2.1, σ.2.2.1, σ.2.2.2.1, σ.2.2.2.2.1, v, σ.2.2.2.2.2.2)
noncomputable abbrev s2_draw (σ : St2) (v : Int32) : St2 := (σ.1, σ.2.1, σ.2.2.1, σ.2.2.2.1, σ.2.2.2.2.1, σ.2.2.2.2.2.1, v)
noncomputable def w2 (cA : Nat → ClassId) (a : Nat → Nat) (σ : St2) : va_W := [(a 0, .inr (2, [.int (p2_size σ), .ref (a 1), .ref (a 2), .ref (a 3), .ref (a 4), .int (p2_hour σ), .int (p2_draw σ)])), (a 1, .inl (cA 0, 6, .inl (p2_kinds σ))), (a 2, .inl (cA 0, 6, .inl (p2_turns σ))), (a 3, .inl (cA 0, 6, .inl (p2_winds σ))), (a 4, .inl (cA 0, 6, .inl (p2_keys σ)))]
noncomputable abbrev St4 : Type := (Nat → Int32) × Int32 × Int32
noncomputable abbrev p4_letters (σ : St4) : (Nat → Int32) := σ.1
noncomputable abbrev p4_size (σ : St4) : Int32 := σ.2.1
noncomputable abbrev p4_place (σ : St4) : Int32 := σ.2.2
noncomputable abbrev s4_letters (σ : St4) (v : (Nat → Int32)) : St4 := (v, σ.2)
noncomputable abbrev s4_size (σ : St4) (v : Int32) : St4 := (σ.1, v, σ.2.2)
noncomputable abbrev s4_place (σ : St4) (v : Int32) : St4 := (σ.1, σ.2.1, v)
noncomputable def w4 (cA : Nat → ClassId) (a : Nat → Nat) (σ : St4) : va_W := [(a 0, .inr (4, [.ref (a 1), .int (p4_size σ), .int (p4_place σ)])), (a 1, .inl (cA 0, 60, .inl (p4_letters σ)))]
noncomputable abbrev St0 : Type := Int32 × (Nat → Int32) × (Nat → Int32)
noncomputable abbrev p0_fewest (σ : St0) : Int32 := σ.1
noncomputable abbrev p0_best (σ : St0) : (Nat → Int32) := σ.2.1
noncomputable abbrev p0_telling (σ : St0) : (Nat → Int32) := σ.2.2
noncomputable abbrev s0_fewest (σ : St0) (v : Int32) : St0 := (v, σ.2)
noncomputable abbrev s0_best (σ : St0) (v : (Nat → Int32)) : St0 := (σ.1, v, σ.2.2)
noncomputable abbrev s0_telling (σ : St0) (v : (Nat → Int32)) : St0 := (σ.1, σ.2.1, v)
noncomputable def w0 (cA : Nat → ClassId) (a : Nat → Nat) (σ : St0) : va_W := [(a 0, .inr (0, [.int (p0_fewest σ), .ref (a 1), .ref (a 2)])), (a 1, .inl (cA 0, 6, .inl (p0_best σ))), (a 2, .inl (cA 0, 6, .inl (p0_telling σ)))]
noncomputable abbrev St3 : Type := Int32 × Int32 × (Nat → Int64)
noncomputable abbrev p3_lane (σ : St3) : Int32 := σ.1
noncomputable abbrev p3_size (σ : St3) : Int32 := σ.2.1
noncomputable abbrev p3_items (σ : St3) : (Nat → Int64) := σ.2.2
noncomputable abbrev s3_lane (σ : St3) (v : Int32) : St3 := (v, σ.2)
noncomputable abbrev s3_size (σ : St3) (v : Int32) : St3 := (σ.1, v, σ.2.2)
noncomputable abbrev s3_items (σ : St3) (v : (Nat → Int64)) : St3 := (σ.1, σ.2.1, v)
noncomputable def w3 (cA : Nat → ClassId) (a : Nat → Nat) (σ : St3) : va_W := [(a 0, .inr (3, [.int (p3_lane σ), .int (p3_size σ), .ref (a 1)])), (a 1, .inl (cA 1, 24, .inr (.inl (p3_items σ))))]
noncomputable abbrev St6 : Type := (Nat → Int32) × (Nat → Int32) × (Nat → Int32) × Int32 × Int32 × Int32 × (Nat → Int32) × (Nat → Int32) × Int32 × (Nat → Int32) × (Nat → Int32) × (Nat → Int32) × (Nat → Int32) × Int32 × Int32 × (Nat → Int32) × (Nat → Int32) × (Nat → Int64) × (Nat → Int64)
noncomputable abbrev p6_now (σ : St6) : (Nat → Int32) := σ.1
noncomputable abbrev p6_change (σ : St6) : (Nat → Int32) := σ.2.1
noncomputable abbrev p6_tape (σ : St6) : (Nat → Int32) := σ.2.2.1
noncomputable abbrev p6_typed (σ : St6) : Int32 := σ.2.2.2.1
noncomputable abbrev p6_place (σ : St6) : Int32 := σ.2.2.2.2.1
noncomputable abbrev p6_isFault (σ : St6) : Int32 := σ.2.2.2.2.2.1
noncomputable abbrev p6_read (σ : St6) : (Nat → Int32) := σ.2.2.2.2.2.2.1
noncomputable abbrev p6_undone (σ : St6) : (Nat → Int32) := σ.2.2.2.2.2.2.2.1
noncomputable abbrev p6_undos (σ : St6) : Int32 := σ.2.2.2.2.2.2.2.2.1
noncomputable abbrev p6_aside (σ : St6) : (Nat → Int32) := σ.2.2.2.2.2.2.2.2.2.1
noncomputable abbrev p6_would (σ : St6) : (Nat → Int32) := σ.2.2.2.2.2.2.2.2.2.2.1
noncomputable abbrev p6_best (σ : St6) : (Nat → Int32) := σ.2.2.2.2.2.2.2.2.2.2.2.1
noncomputable abbrev p6_kept (σ : St6) : (Nat → Int32) := σ.2.2.2.2.2.2.2.2.2.2.2.2.1
noncomputable abbrev p6_keptUndos (σ : St6) : Int32 := σ.2.2.2.2.2.2.2.2.2.2.2.2.2.1
noncomputable abbrev p6_isKept (σ : St6) : Int32 := σ.2.2.2.2.2.2.2.2.2.2.2.2.2.2.1
noncomputable abbrev p6_lanes (σ : St6) : (Nat → Int32) := σ.2.2.2.2.2.2.2.2.2.2.2.2.2.2.2.1
noncomputable abbrev p6_sizes (σ : St6) : (Nat → Int32) := σ.2.2.2.2.2.2.2.2.2.2.2.2.2.2.2.2.1
noncomputable abbrev p6_items (σ : St6) : (Nat → Int64) := σ.2.2.2.2.2.2.2.2.2.2.2.2.2.2.2.2.2.1
noncomputable abbrev p6_moved (σ : St6) : (Nat → Int64) := σ.2.2.2.2.2.2.2.2.2.2.2.2.2.2.2.2.2.2
noncomputable abbrev s6_now (σ : St6) (v : (Nat → Int32)) : St6 := (v, σ.2)
noncomputable abbrev s6_change (σ : St6) (v : (Nat → Int32)) : St6 := (σ.1, v, σ.2.2)
noncomputable abbrev s6_tape (σ : St6) (v : (Nat → Int32)) : St6 := (σ.1, σ.2.1, v, σ.2.2.2)
noncomputable abbrev s6_typed (σ : St6) (v : Int32) : St6 := (σ.1, σ.2.1, σ.2.2.1, v, σ.2.2.2.2)
noncomputable abbrev s6_place (σ : St6) (v : Int32) : St6 := (σ.1, σ.2.1, σ.2.2.1, σ.2.2.2.1, v, σ.2.2.2.2.2)
noncomputable abbrev s6_isFault (σ : St6) (v : Int32) : St6 := (σ.1, σ.2.1, σ.2.2.1, σ.2.2.2.1, σ.2.2.2.2.1, v, σ.2.2.2.2.2.2)
noncomputable abbrev s6_read (σ : St6) (v : (Nat → Int32)) : St6 := (σ.1, σ.2.1, σ.2.2.1, σ.2.2.2.1, σ.2.2.2.2.1, σ.2.2.2.2.2.1, v, σ.2.2.2.2.2.2.2)
noncomputable abbrev s6_undone (σ : St6) (v : (Nat → Int32)) : St6 := (σ.1, σ.2.1, σ.2.2.1, σ.2.2.2.1, σ.2.2.2.2.1, σ.2.2.2.2.2.1, σ.2.2.2.2.2.2.1, v, σ.2.2.2.2.2.2.2.2)
noncomputable abbrev s6_undos (σ : St6) (v : Int32) : St6 := (σ.1, σ.2.1, σ.2.2.1, σ.2.2.2.1, σ.2.2.2.2.1, σ.2.2.2.2.2.1, σ.2.2.2.2.2.2.1, σ.2.2.2.2.2.2.2.1, v, σ.2.2.2.2.2.2.2.2.2)
noncomputable abbrev s6_aside (σ : St6) (v : (Nat → Int32)) : St6 := (σ.1, σ.2.1, σ.2.2.1, σ.2.2.2.1, σ.2.2.2.2.1, σ.2.2.2.2.2.1, σ.2.2.2.2.2.2.1, σ.2.2.2.2.2.2.2.1, σ.2.2.2.2.2.2.2.2.1, v, σ.2.2.2.2.2.2.2.2.2.2)
noncomputable abbrev s6_would (σ : St6) (v : (Nat → Int32)) : St6 := (σ.1, σ.2.1, σ.2.2.1, σ.2.2.2.1, σ.2.2.2.2.1, σ.2.2.2.2.2.1, σ.2.2.2.2.2.2.1, σ.2.2.2.2.2.2.2.1, σ.2.2.2.2.2.2.2.2.1, σ.2.2.2.2.2.2.2.2.2.1, v, σ.2.2.2.2.2.2.2.2.2.2.2)
noncomputable abbrev s6_best (σ : St6) (v : (Nat → Int32)) : St6 := (σ.1, σ.2.1, σ.2.2.1, σ.2.2.2.1, σ.2.2.2.2.1, σ.2.2.2.2.2.1, σ.2.2.2.2.2.2.1, σ.2.2.2.2.2.2.2.1, σ.2.2.2.2.2.2.2.2.1, σ.2.2.2.2.2.2.2.2.2.1, σ.2.2.2.2.2.2.2.2.2.2.1, v, σ.2.2.2.2.2.2.2.2.2.2.2.2)
noncomputable abbrev s6_kept (σ : St6) (v : (Nat → Int32)) : St6 := (σ.1, σ.2.1, σ.2.2.1, σ.2.2.2.1, σ.2.2.2.2.1, σ.2.2.2.2.2.1, σ.2.2.2.2.2.2.1, σ.2.2.2.2.2.2.2.1, σ.2.2.2.2.2.2.2.2.1, σ.2.2.2.2.2.2.2.2.2.1, σ.2.2.2.2.2.2.2.2.2.2.1, σ.2.2.2.2.2.2.2.2.2.2.2.1, v, σ.2.2.2.2.2.2.2.2.2.2.2.2.2)
noncomputable abbrev s6_keptUndos (σ : St6) (v : Int32) : St6 := (σ.1, σ.2.1, σ.2.2.1, σ.2.2.2.1, σ.2.2.2.2.1, σ.2.2.2.2.2.1, σ.2.2.2.2.2.2.1, σ.2.2.2.2.2.2.2.1, σ.2.2.2.2.2.2.2.2.1, σ.2.2.2.2.2.2.2.2.2.1, σ.2.2.2.2.2.2.2.2.2.2.1, σ.2.2.2.2.2.2.2.2.2.2.2.1, σ.2.2.2.2.2.2.2.2.2.2.2.2.1, v, σ.2.2.2.2.2.2.2.2.2.2.2.2.2.2)
noncomputable abbrev s6_isKept (σ : St6) (v : Int32) : St6 := (σ.1, σ.2.1, σ.2.2.1, σ.2.2.2.1, σ.2.2.2.2.1, σ.2.2.2.2.2.1, σ.2.2.2.2.2.2.1, σ.2.2.2.2.2.2.2.1, σ.2.2.2.2.2.2.2.2.1, σ.2.2.2.2.2.2.2.2.2.1, σ.2.2.2.2.2.2.2.2.2.2.1, σ.2.2.2.2.2.2.2.2.2.2.2.1, σ.2.2.2.2.2.2.2.2.2.2.2.2.1, σ.2.2.2.2.2.2.2.2.2.2.2.2.2.1, v, σ.2.2.2.2.2.2.2.2.2.2.2.2.2.2.2)
noncomputable abbrev s6_lanes (σ : St6) (v : (Nat → Int32)) : St6 := (σ.1, σ.2.1, σ.2.2.1, σ.2.2.2.1, σ.2.2.2.2.1, σ.2.2.2.2.2.1, σ.2.2.2.2.2.2.1, σ.2.2.2.2.2.2.2.1, σ.2.2.2.2.2.2.2.2.1, σ.2.2.2.2.2.2.2.2.2.1, σ.2.2.2.2.2.2.2.2.2.2.1, σ.2.2.2.2.2.2.2.2.2.2.2.1, σ.2.2.2.2.2.2.2.2.2.2.2.2.1, σ.2.2.2.2.2.2.2.2.2.2.2.2.2.1, σ.2.2.2.2.2.2.2.2.2.2.2.2.2.2.1, v, σ.2.2.2.2.2.2.2.2.2.2.2.2.2.2.2.2)
noncomputable abbrev s6_sizes (σ : St6) (v : (Nat → Int32)) : St6 := (σ.1, σ.2.1, σ.2.2.1, σ.2.2.2.1, σ.2.2.2.2.1, σ.2.2.2.2.2.1, σ.2.2.2.2.2.2.1, σ.2.2.2.2.2.2.2.1, σ.2.2.2.2.2.2.2.2.1, σ.2.2.2.2.2.2.2.2.2.1, σ.2.2.2.2.2.2.2.2.2.2.1, σ.2.2.2.2.2.2.2.2.2.2.2.1, σ.2.2.2.2.2.2.2.2.2.2.2.2.1, σ.2.2.2.2.2.2.2.2.2.2.2.2.2.1, σ.2.2.2.2.2.2.2.2.2.2.2.2.2.2.1, σ.2.2.2.2.2.2.2.2.2.2.2.2.2.2.2.1, v, σ.2.2.2.2.2.2.2.2.2.2.2.2.2.2.2.2.2)
noncomputable abbrev s6_items (σ : St6) (v : (Nat → Int64)) : St6 := (σ.1, σ.2.1, σ.2.2.1, σ.2.2.2.1, σ.2.2.2.2.1, σ.2.2.2.2.2.1, σ.2.2.2.2.2.2.1, σ.2.2.2.2.2.2.2.1, σ.2.2.2.2.2.2.2.2.1, σ.2.2.2.2.2.2.2.2.2.1, σ.2.2.2.2.2.2.2.2.2.2.1, σ.2.2.2.2.2.2.2.2.2.2.2.1, σ.2.2.2.2.2.2.2.2.2.2.2.2.1, σ.2.2.2.2.2.2.2.2.2.2.2.2.2.1, σ.2.2.2.2.2.2.2.2.2.2.2.2.2.2.1, σ.2.2.2.2.2.2.2.2.2.2.2.2.2.2.2.1, σ.2.2.2.2.2.2.2.2.2.2.2.2.2.2.2.2.1, v, σ.2.2.2.2.2.2.2.2.2.2.2.2.2.2.2.2.2.2)
noncomputable abbrev s6_moved (σ : St6) (v : (Nat → Int64)) : St6 := (σ.1, σ.2.1, σ.2.2.1, σ.2.2.2.1, σ.2.2.2.2.1, σ.2.2.2.2.2.1, σ.2.2.2.2.2.2.1, σ.2.2.2.2.2.2.2.1, σ.2.2.2.2.2.2.2.2.1, σ.2.2.2.2.2.2.2.2.2.1, σ.2.2.2.2.2.2.2.2.2.2.1, σ.2.2.2.2.2.2.2.2.2.2.2.1, σ.2.2.2.2.2.2.2.2.2.2.2.2.1, σ.2.2.2.2.2.2.2.2.2.2.2.2.2.1, σ.2.2.2.2.2.2.2.2.2.2.2.2.2.2.1, σ.2.2.2.2.2.2.2.2.2.2.2.2.2.2.2.1, σ.2.2.2.2.2.2.2.2.2.2.2.2.2.2.2.2.1, σ.2.2.2.2.2.2.2.2.2.2.2.2.2.2.2.2.2.1, v)
noncomputable def w6 (cA : Nat → ClassId) (a : Nat → Nat) (σ : St6) : va_W := [(a 0, .inr (6, [.ref (a 1), .ref (a 2), .ref (a 3), .int (p6_typed σ), .int (p6_place σ), .int (p6_isFault σ), .ref (a 4), .ref (a 5), .int (p6_undos σ), .ref (a 6), .ref (a 7), .ref (a 8), .ref (a 9), .int (p6_keptUndos σ), .int (p6_isKept σ), .ref (a 10), .ref (a 11), .ref (a 12), .ref (a 13)])), (a 1, .inl (cA 0, 27, .inl (p6_now σ))), (a 2, .inl (cA 0, 6, .inl (p6_change σ))), (a 3, .inl (cA 0, 60, .inl (p6_tape σ))), (a 4, .inl (cA 0, 24, .inl (p6_read σ))), (a 5, .inl (cA 0, 216, .inl (p6_undone σ))), (a 6, .inl (cA 0, 27, .inl (p6_aside σ))), (a 7, .inl (cA 0, 6, .inl (p6_would σ))), (a 8, .inl (cA 0, 6, .inl (p6_best σ))), (a 9, .inl (cA 0, 243, .inl (p6_kept σ))), (a 10, .inl (cA 0, 4, .inl (p6_lanes σ))), (a 11, .inl (cA 0, 4, .inl (p6_sizes σ))), (a 12, .inl (cA 1, 96, .inr (.inl (p6_items σ)))), (a 13, .inl (cA 1, 24, .inr (.inl (p6_moved σ))))]
theorem hdX5_person : yX5_person.cls = RX5 ∧ yX5_person.cls ≠ "java/lang/invoke/MethodHandle" ∧ yX5_person.cls ≠ "java/lang/invoke/VarHandle" ∧ (parseMethodDescriptor yX5_person.desc).map (fun d => d.parameters.length) = some 2 := by decide +kernel
theorem hdX5_of : yX5_of.cls = RX5 ∧ yX5_of.cls ≠ "java/lang/invoke/MethodHandle" ∧ yX5_of.cls ≠ "java/lang/invoke/VarHandle" ∧ (parseMethodDescriptor yX5_of.desc).map (fun d => d.parameters.length) = some 2 := by decide +kernel
theorem hdX5_type : yX5_type.cls = RX5 ∧ yX5_type.cls ≠ "java/lang/invoke/MethodHandle" ∧ yX5_type.cls ≠ "java/lang/invoke/VarHandle" ∧ (parseMethodDescriptor yX5_type.desc).map (fun d => d.parameters.length) = some 1 := by decide +kernel
theorem hdX5_close : yX5_close.cls = RX5 ∧ yX5_close.cls ≠ "java/lang/invoke/MethodHandle" ∧ yX5_close.cls ≠ "java/lang/invoke/VarHandle" ∧ (parseMethodDescriptor yX5_close.desc).map (fun d => d.parameters.length) = some 0 := by decide +kernel
theorem hdX5_count : yX5_count.cls = RX5 ∧ yX5_count.cls ≠ "java/lang/invoke/MethodHandle" ∧ yX5_count.cls ≠ "java/lang/invoke/VarHandle" ∧ (parseMethodDescriptor yX5_count.desc).map (fun d => d.parameters.length) = some 1 := by decide +kernel
theorem hdX5_hours : yX5_hours.cls = RX5 ∧ yX5_hours.cls ≠ "java/lang/invoke/MethodHandle" ∧ yX5_hours.cls ≠ "java/lang/invoke/VarHandle" ∧ (parseMethodDescriptor yX5_hours.desc).map (fun d => d.parameters.length) = some 1 := by decide +kernel
theorem hdX5_lend : yX5_lend.cls = RX5 ∧ yX5_lend.cls ≠ "java/lang/invoke/MethodHandle" ∧ yX5_lend.cls ≠ "java/lang/invoke/VarHandle" ∧ (parseMethodDescriptor yX5_lend.desc).map (fun d => d.parameters.length) = some 2 := by decide +kernel
theorem hdX5_tell : yX5_tell.cls = RX5 ∧ yX5_tell.cls ≠ "java/lang/invoke/MethodHandle" ∧ yX5_tell.cls ≠ "java/lang/invoke/VarHandle" ∧ (parseMethodDescriptor yX5_tell.desc).map (fun d => d.parameters.length) = some 2 := by decide +kernel
theorem hdX5_cut : yX5_cut.cls = RX5 ∧ yX5_cut.cls ≠ "java/lang/invoke/MethodHandle" ∧ yX5_cut.cls ≠ "java/lang/invoke/VarHandle" ∧ (parseMethodDescriptor yX5_cut.desc).map (fun d => d.parameters.length) = some 2 := by decide +kernel
theorem hdX5_drift : yX5_drift.cls = RX5 ∧ yX5_drift.cls ≠ "java/lang/invoke/MethodHandle" ∧ yX5_drift.cls ≠ "java/lang/invoke/VarHandle" ∧ (parseMethodDescriptor yX5_drift.desc).map (fun d => d.parameters.length) = some 1 := by decide +kernel
theorem hdX5_undo : yX5_undo.cls = RX5 ∧ yX5_undo.cls ≠ "java/lang/invoke/MethodHandle" ∧ yX5_undo.cls ≠ "java/lang/invoke/VarHandle" ∧ (parseMethodDescriptor yX5_undo.desc).map (fun d => d.parameters.length) = some 0 := by decide +kernel
theorem hdX5_seed : yX5_seed.cls = RX5 ∧ yX5_seed.cls ≠ "java/lang/invoke/MethodHandle" ∧ yX5_seed.cls ≠ "java/lang/invoke/VarHandle" ∧ (parseMethodDescriptor yX5_seed.desc).map (fun d => d.parameters.length) = some 1 := by decide +kernel
theorem hdX5_spend : yX5_spend.cls = RX5 ∧ yX5_spend.cls ≠ "java/lang/invoke/MethodHandle" ∧ yX5_spend.cls ≠ "java/lang/invoke/VarHandle" ∧ (parseMethodDescriptor yX5_spend.desc).map (fun d => d.parameters.length) = some 2 := by decide +kernel
theorem hdX5_ahead : yX5_ahead.cls = RX5 ∧ yX5_ahead.cls ≠ "java/lang/invoke/MethodHandle" ∧ yX5_ahead.cls ≠ "java/lang/invoke/VarHandle" ∧ (parseMethodDescriptor yX5_ahead.desc).map (fun d => d.parameters.length) = some 2 := by decide +kernel
theorem hdX5_then : yX5_then.cls = RX5 ∧ yX5_then.cls ≠ "java/lang/invoke/MethodHandle" ∧ yX5_then.cls ≠ "java/lang/invoke/VarHandle" ∧ (parseMethodDescriptor yX5_then.desc).map (fun d => d.parameters.length) = some 1 := by decide +kernel
theorem hdX5_stops : yX5_stops.cls = RX5 ∧ yX5_stops.cls ≠ "java/lang/invoke/MethodHandle" ∧ yX5_stops.cls ≠ "java/lang/invoke/VarHandle" ∧ (parseMethodDescriptor yX5_stops.desc).map (fun d => d.parameters.length) = some 1 := by decide +kernel
theorem hdX5_all : yX5_all.cls = RX5 ∧ yX5_all.cls ≠ "java/lang/invoke/MethodHandle" ∧ yX5_all.cls ≠ "java/lang/invoke/VarHandle" ∧ (parseMethodDescriptor yX5_all.desc).map (fun d => d.parameters.length) = some 0 := by decide +kernel
theorem hdX5_ever : yX5_ever.cls = RX5 ∧ yX5_ever.cls ≠ "java/lang/invoke/MethodHandle" ∧ yX5_ever.cls ≠ "java/lang/invoke/VarHandle" ∧ (parseMethodDescriptor yX5_ever.desc).map (fun d => d.parameters.length) = some 0 := by decide +kernel
theorem hdX5_chain : yX5_chain.cls = RX5 ∧ yX5_chain.cls ≠ "java/lang/invoke/MethodHandle" ∧ yX5_chain.cls ≠ "java/lang/invoke/VarHandle" ∧ (parseMethodDescriptor yX5_chain.desc).map (fun d => d.parameters.length) = some 2 := by decide +kernel
theorem hdX5_lends : yX5_lends.cls = RX5 ∧ yX5_lends.cls ≠ "java/lang/invoke/MethodHandle" ∧ yX5_lends.cls ≠ "java/lang/invoke/VarHandle" ∧ (parseMethodDescriptor yX5_lends.desc).map (fun d => d.parameters.length) = some 3 := by decide +kernel
theorem hdX5_instead : yX5_instead.cls = RX5 ∧ yX5_instead.cls ≠ "java/lang/invoke/MethodHandle" ∧ yX5_instead.cls ≠ "java/lang/invoke/VarHandle" ∧ (parseMethodDescriptor yX5_instead.desc).map (fun d => d.parameters.length) = some 3 := by decide +kernel
theorem hdX5_needs : yX5_needs.cls = RX5 ∧ yX5_needs.cls ≠ "java/lang/invoke/MethodHandle" ∧ yX5_needs.cls ≠ "java/lang/invoke/VarHandle" ∧ (parseMethodDescriptor yX5_needs.desc).map (fun d => d.parameters.length) = some 2 := by decide +kernel
theorem hdX5_match : yX5_match.cls = RX5 ∧ yX5_match.cls ≠ "java/lang/invoke/MethodHandle" ∧ yX5_match.cls ≠ "java/lang/invoke/VarHandle" ∧ (parseMethodDescriptor yX5_match.desc).map (fun d => d.parameters.length) = some 1 := by decide +kernel
theorem hdX5_again : yX5_again.cls = RX5 ∧ yX5_again.cls ≠ "java/lang/invoke/MethodHandle" ∧ yX5_again.cls ≠ "java/lang/invoke/VarHandle" ∧ (parseMethodDescriptor yX5_again.desc).map (fun d => d.parameters.length) = some 0 := by decide +kernel
theorem hdX5_forget : yX5_forget.cls = RX5 ∧ yX5_forget.cls ≠ "java/lang/invoke/MethodHandle" ∧ yX5_forget.cls ≠ "java/lang/invoke/VarHandle" ∧ (parseMethodDescriptor yX5_forget.desc).map (fun d => d.parameters.length) = some 3 := by decide +kernel
theorem hdX5_image : yX5_image.cls = RX5 ∧ yX5_image.cls ≠ "java/lang/invoke/MethodHandle" ∧ yX5_image.cls ≠ "java/lang/invoke/VarHandle" ∧ (parseMethodDescriptor yX5_image.desc).map (fun d => d.parameters.length) = some 0 := by decide +kernel
theorem hdX5_restore : yX5_restore.cls = RX5 ∧ yX5_restore.cls ≠ "java/lang/invoke/MethodHandle" ∧ yX5_restore.cls ≠ "java/lang/invoke/VarHandle" ∧ (parseMethodDescriptor yX5_restore.desc).map (fun d => d.parameters.length) = some 0 := by decide +kernel
theorem hdX5_isAdvised : yX5_isAdvised.cls = RX5 ∧ yX5_isAdvised.cls ≠ "java/lang/invoke/MethodHandle" ∧ yX5_isAdvised.cls ≠ "java/lang/invoke/VarHandle" ∧ (parseMethodDescriptor yX5_isAdvised.desc).map (fun d => d.parameters.length) = some 1 := by decide +kernel
theorem hdX5_stoppedIfTold : yX5_stoppedIfTold.cls = RX5 ∧ yX5_stoppedIfTold.cls ≠ "java/lang/invoke/MethodHandle" ∧ yX5_stoppedIfTold.cls ≠ "java/lang/invoke/VarHandle" ∧ (parseMethodDescriptor yX5_stoppedIfTold.desc).map (fun d => d.parameters.length) = some 3 := by decide +kernel
theorem hdX5_waysToForget : yX5_waysToForget.cls = RX5 ∧ yX5_waysToForget.cls ≠ "java/lang/invoke/MethodHandle" ∧ yX5_waysToForget.cls ≠ "java/lang/invoke/VarHandle" ∧ (parseMethodDescriptor yX5_waysToForget.desc).map (fun d => d.parameters.length) = some 3 := by decide +kernel
theorem hdX5_power : yX5_power.cls = RX5 ∧ yX5_power.cls ≠ "java/lang/invoke/MethodHandle" ∧ yX5_power.cls ≠ "java/lang/invoke/VarHandle" ∧ (parseMethodDescriptor yX5_power.desc).map (fun d => d.parameters.length) = some 2 := by decide +kernel
theorem hdX5_greatestDivisor : yX5_greatestDivisor.cls = RX5 ∧ yX5_greatestDivisor.cls ≠ "java/lang/invoke/MethodHandle" ∧ yX5_greatestDivisor.cls ≠ "java/lang/invoke/VarHandle" ∧ (parseMethodDescriptor yX5_greatestDivisor.desc).map (fun d => d.parameters.length) = some 2 := by decide +kernel
theorem hdX5_heard : yX5_heard.cls = RX5 ∧ yX5_heard.cls ≠ "java/lang/invoke/MethodHandle" ∧ yX5_heard.cls ≠ "java/lang/invoke/VarHandle" ∧ (parseMethodDescriptor yX5_heard.desc).map (fun d => d.parameters.length) = some 6 := by decide +kernel
theorem hdX5_film : yX5_film.cls = RX5 ∧ yX5_film.cls ≠ "java/lang/invoke/MethodHandle" ∧ yX5_film.cls ≠ "java/lang/invoke/VarHandle" ∧ (parseMethodDescriptor yX5_film.desc).map (fun d => d.parameters.length) = some 5 := by decide +kernel
theorem hdX5_sheet : yX5_sheet.cls = RX5 ∧ yX5_sheet.cls ≠ "java/lang/invoke/MethodHandle" ∧ yX5_sheet.cls ≠ "java/lang/invoke/VarHandle" ∧ (parseMethodDescriptor yX5_sheet.desc).map (fun d => d.parameters.length) = some 3 := by decide +kernel
theorem hdX5_drop : yX5_drop.cls = RX5 ∧ yX5_drop.cls ≠ "java/lang/invoke/MethodHandle" ∧ yX5_drop.cls ≠ "java/lang/invoke/VarHandle" ∧ (parseMethodDescriptor yX5_drop.desc).map (fun d => d.parameters.length) = some 1 := by decide +kernel
theorem hdX5_item : yX5_item.cls = RX5 ∧ yX5_item.cls ≠ "java/lang/invoke/MethodHandle" ∧ yX5_item.cls ≠ "java/lang/invoke/VarHandle" ∧ (parseMethodDescriptor yX5_item.desc).map (fun d => d.parameters.length) = some 4 := by decide +kernel
theorem hdX5_copy : yX5_copy.cls = RX5 ∧ yX5_copy.cls ≠ "java/lang/invoke/MethodHandle" ∧ yX5_copy.cls ≠ "java/lang/invoke/VarHandle" ∧ (parseMethodDescriptor yX5_copy.desc).map (fun d => d.parameters.length) = some 5 := by decide +kernel
theorem hdX5_isSheet : yX5_isSheet.cls = RX5 ∧ yX5_isSheet.cls ≠ "java/lang/invoke/MethodHandle" ∧ yX5_isSheet.cls ≠ "java/lang/invoke/VarHandle" ∧ (parseMethodDescriptor yX5_isSheet.desc).map (fun d => d.parameters.length) = some 1 := by decide +kernel
theorem hdX5_isLane : yX5_isLane.cls = RX5 ∧ yX5_isLane.cls ≠ "java/lang/invoke/MethodHandle" ∧ yX5_isLane.cls ≠ "java/lang/invoke/VarHandle" ∧ (parseMethodDescriptor yX5_isLane.desc).map (fun d => d.parameters.length) = some 1 := by decide +kernel
theorem hdX5_guessesHeard : yX5_guessesHeard.cls = RX5 ∧ yX5_guessesHeard.cls ≠ "java/lang/invoke/MethodHandle" ∧ yX5_guessesHeard.cls ≠ "java/lang/invoke/VarHandle" ∧ (parseMethodDescriptor yX5_guessesHeard.desc).map (fun d => d.parameters.length) = some 5 := by decide +kernel
theorem hdX5_suppose : yX5_suppose.cls = RX5 ∧ yX5_suppose.cls ≠ "java/lang/invoke/MethodHandle" ∧ yX5_suppose.cls ≠ "java/lang/invoke/VarHandle" ∧ (parseMethodDescriptor yX5_suppose.desc).map (fun d => d.parameters.length) = some 3 := by decide +kernel
theorem hdX5_trialRunsAs : yX5_trialRunsAs.cls = RX5 ∧ yX5_trialRunsAs.cls ≠ "java/lang/invoke/MethodHandle" ∧ yX5_trialRunsAs.cls ≠ "java/lang/invoke/VarHandle" ∧ (parseMethodDescriptor yX5_trialRunsAs.desc).map (fun d => d.parameters.length) = some 4 := by decide +kernel
theorem hdX6_in : yX6_in.cls = RX6 ∧ yX6_in.cls ≠ "java/lang/invoke/MethodHandle" ∧ yX6_in.cls ≠ "java/lang/invoke/VarHandle" ∧ (parseMethodDescriptor yX6_in.desc).map (fun d => d.parameters.length) = some 3 := by decide +kernel
theorem hdX6_isPerson : yX6_isPerson.cls = RX6 ∧ yX6_isPerson.cls ≠ "java/lang/invoke/MethodHandle" ∧ yX6_isPerson.cls ≠ "java/lang/invoke/VarHandle" ∧ (parseMethodDescriptor yX6_isPerson.desc).map (fun d => d.parameters.length) = some 1 := by decide +kernel
theorem hdX6_told : yX6_told.cls = RX6 ∧ yX6_told.cls ≠ "java/lang/invoke/MethodHandle" ∧ yX6_told.cls ≠ "java/lang/invoke/VarHandle" ∧ (parseMethodDescriptor yX6_told.desc).map (fun d => d.parameters.length) = some 2 := by decide +kernel
theorem hdX6_tells : yX6_tells.cls = RX6 ∧ yX6_tells.cls ≠ "java/lang/invoke/MethodHandle" ∧ yX6_tells.cls ≠ "java/lang/invoke/VarHandle" ∧ (parseMethodDescriptor yX6_tells.desc).map (fun d => d.parameters.length) = some 3 := by decide +kernel
theorem hdX6_turns : yX6_turns.cls = RX6 ∧ yX6_turns.cls ≠ "java/lang/invoke/MethodHandle" ∧ yX6_turns.cls ≠ "java/lang/invoke/VarHandle" ∧ (parseMethodDescriptor yX6_turns.desc).map (fun d => d.parameters.length) = some 1 := by decide +kernel
theorem hdX6_whom : yX6_whom.cls = RX6 ∧ yX6_whom.cls ≠ "java/lang/invoke/MethodHandle" ∧ yX6_whom.cls ≠ "java/lang/invoke/VarHandle" ∧ (parseMethodDescriptor yX6_whom.desc).map (fun d => d.parameters.length) = some 1 := by decide +kernel
theorem hdX6_isStopped : yX6_isStopped.cls = RX6 ∧ yX6_isStopped.cls ≠ "java/lang/invoke/MethodHandle" ∧ yX6_isStopped.cls ≠ "java/lang/invoke/VarHandle" ∧ (parseMethodDescriptor yX6_isStopped.desc).map (fun d => d.parameters.length) = some 1 := by decide +kernel
theorem hdX6_windersOf : yX6_windersOf.cls = RX6 ∧ yX6_windersOf.cls ≠ "java/lang/invoke/MethodHandle" ∧ yX6_windersOf.cls ≠ "java/lang/invoke/VarHandle" ∧ (parseMethodDescriptor yX6_windersOf.desc).map (fun d => d.parameters.length) = some 1 := by decide +kernel
theorem hdX6_runs : yX6_runs.cls = RX6 ∧ yX6_runs.cls ≠ "java/lang/invoke/MethodHandle" ∧ yX6_runs.cls ≠ "java/lang/invoke/VarHandle" ∧ (parseMethodDescriptor yX6_runs.desc).map (fun d => d.parameters.length) = some 1 := by decide +kernel
theorem hdX6_isWinding : yX6_isWinding.cls = RX6 ∧ yX6_isWinding.cls ≠ "java/lang/invoke/MethodHandle" ∧ yX6_isWinding.cls ≠ "java/lang/invoke/VarHandle" ∧ (parseMethodDescriptor yX6_isWinding.desc).map (fun d => d.parameters.length) = some 0 := by decide +kernel
theorem hdX6_winds : yX6_winds.cls = RX6 ∧ yX6_winds.cls ≠ "java/lang/invoke/MethodHandle" ∧ yX6_winds.cls ≠ "java/lang/invoke/VarHandle" ∧ (parseMethodDescriptor yX6_winds.desc).map (fun d => d.parameters.length) = some 1 := by decide +kernel
theorem hdX6_goesBy : yX6_goesBy.cls = RX6 ∧ yX6_goesBy.cls ≠ "java/lang/invoke/MethodHandle" ∧ yX6_goesBy.cls ≠ "java/lang/invoke/VarHandle" ∧ (parseMethodDescriptor yX6_goesBy.desc).map (fun d => d.parameters.length) = some 1 := by decide +kernel
theorem hdX6_goesOn : yX6_goesOn.cls = RX6 ∧ yX6_goesOn.cls ≠ "java/lang/invoke/MethodHandle" ∧ yX6_goesOn.cls ≠ "java/lang/invoke/VarHandle" ∧ (parseMethodDescriptor yX6_goesOn.desc).map (fun d => d.parameters.length) = some 1 := by decide +kernel
theorem hdX6_stopped : yX6_stopped.cls = RX6 ∧ yX6_stopped.cls ≠ "java/lang/invoke/MethodHandle" ∧ yX6_stopped.cls ≠ "java/lang/invoke/VarHandle" ∧ (parseMethodDescriptor yX6_stopped.desc).map (fun d => d.parameters.length) = some 0 := by decide +kernel
theorem hdX6_many : yX6_many.cls = RX6 ∧ yX6_many.cls ≠ "java/lang/invoke/MethodHandle" ∧ yX6_many.cls ≠ "java/lang/invoke/VarHandle" ∧ (parseMethodDescriptor yX6_many.desc).map (fun d => d.parameters.length) = some 1 := by decide +kernel
theorem hdX6_personComes : yX6_personComes.cls = RX6 ∧ yX6_personComes.cls ≠ "java/lang/invoke/MethodHandle" ∧ yX6_personComes.cls ≠ "java/lang/invoke/VarHandle" ∧ (parseMethodDescriptor yX6_personComes.desc).map (fun d => d.parameters.length) = some 4 := by decide +kernel
theorem hdX6_person : yX6_person.cls = RX6 ∧ yX6_person.cls ≠ "java/lang/invoke/MethodHandle" ∧ yX6_person.cls ≠ "java/lang/invoke/VarHandle" ∧ (parseMethodDescriptor yX6_person.desc).map (fun d => d.parameters.length) = some 2 := by decide +kernel
theorem hdX6_of : yX6_of.cls = RX6 ∧ yX6_of.cls ≠ "java/lang/invoke/MethodHandle" ∧ yX6_of.cls ≠ "java/lang/invoke/VarHandle" ∧ (parseMethodDescriptor yX6_of.desc).map (fun d => d.parameters.length) = some 2 := by decide +kernel
theorem hdX6_behind : yX6_behind.cls = RX6 ∧ yX6_behind.cls ≠ "java/lang/invoke/MethodHandle" ∧ yX6_behind.cls ≠ "java/lang/invoke/VarHandle" ∧ (parseMethodDescriptor yX6_behind.desc).map (fun d => d.parameters.length) = some 1 := by decide +kernel
theorem hdX6_ring : yX6_ring.cls = RX6 ∧ yX6_ring.cls ≠ "java/lang/invoke/MethodHandle" ∧ yX6_ring.cls ≠ "java/lang/invoke/VarHandle" ∧ (parseMethodDescriptor yX6_ring.desc).map (fun d => d.parameters.length) = some 0 := by decide +kernel
theorem hdX6_without : yX6_without.cls = RX6 ∧ yX6_without.cls ≠ "java/lang/invoke/MethodHandle" ∧ yX6_without.cls ≠ "java/lang/invoke/VarHandle" ∧ (parseMethodDescriptor yX6_without.desc).map (fun d => d.parameters.length) = some 0 := by decide +kernel
theorem hdX6_turnsAll : yX6_turnsAll.cls = RX6 ∧ yX6_turnsAll.cls ≠ "java/lang/invoke/MethodHandle" ∧ yX6_turnsAll.cls ≠ "java/lang/invoke/VarHandle" ∧ (parseMethodDescriptor yX6_turnsAll.desc).map (fun d => d.parameters.length) = some 0 := by decide +kernel
theorem hdX6_count : yX6_count.cls = RX6 ∧ yX6_count.cls ≠ "java/lang/invoke/MethodHandle" ∧ yX6_count.cls ≠ "java/lang/invoke/VarHandle" ∧ (parseMethodDescriptor yX6_count.desc).map (fun d => d.parameters.length) = some 1 := by decide +kernel
theorem hdX6_type : yX6_type.cls = RX6 ∧ yX6_type.cls ≠ "java/lang/invoke/MethodHandle" ∧ yX6_type.cls ≠ "java/lang/invoke/VarHandle" ∧ (parseMethodDescriptor yX6_type.desc).map (fun d => d.parameters.length) = some 1 := by decide +kernel
theorem hdX6_here : yX6_here.cls = RX6 ∧ yX6_here.cls ≠ "java/lang/invoke/MethodHandle" ∧ yX6_here.cls ≠ "java/lang/invoke/VarHandle" ∧ (parseMethodDescriptor yX6_here.desc).map (fun d => d.parameters.length) = some 0 := by decide +kernel
theorem hdX6_must : yX6_must.cls = RX6 ∧ yX6_must.cls ≠ "java/lang/invoke/MethodHandle" ∧ yX6_must.cls ≠ "java/lang/invoke/VarHandle" ∧ (parseMethodDescriptor yX6_must.desc).map (fun d => d.parameters.length) = some 1 := by decide +kernel
theorem hdX6_number : yX6_number.cls = RX6 ∧ yX6_number.cls ≠ "java/lang/invoke/MethodHandle" ∧ yX6_number.cls ≠ "java/lang/invoke/VarHandle" ∧ (parseMethodDescriptor yX6_number.desc).map (fun d => d.parameters.length) = some 2 := by decide +kernel
theorem hdX6_peopleRead : yX6_peopleRead.cls = RX6 ∧ yX6_peopleRead.cls ≠ "java/lang/invoke/MethodHandle" ∧ yX6_peopleRead.cls ≠ "java/lang/invoke/VarHandle" ∧ (parseMethodDescriptor yX6_peopleRead.desc).map (fun d => d.parameters.length) = some 0 := by decide +kernel
theorem hdX6_areThere : yX6_areThere.cls = RX6 ∧ yX6_areThere.cls ≠ "java/lang/invoke/MethodHandle" ∧ yX6_areThere.cls ≠ "java/lang/invoke/VarHandle" ∧ (parseMethodDescriptor yX6_areThere.desc).map (fun d => d.parameters.length) = some 1 := by decide +kernel
theorem hdX6_close : yX6_close.cls = RX6 ∧ yX6_close.cls ≠ "java/lang/invoke/MethodHandle" ∧ yX6_close.cls ≠ "java/lang/invoke/VarHandle" ∧ (parseMethodDescriptor yX6_close.desc).map (fun d => d.parameters.length) = some 0 := by decide +kernel
theorem hdX6_notes : yX6_notes.cls = RX6 ∧ yX6_notes.cls ≠ "java/lang/invoke/MethodHandle" ∧ yX6_notes.cls ≠ "java/lang/invoke/VarHandle" ∧ (parseMethodDescriptor yX6_notes.desc).map (fun d => d.parameters.length) = some 0 := by decide +kernel
theorem hdX6_hours : yX6_hours.cls = RX6 ∧ yX6_hours.cls ≠ "java/lang/invoke/MethodHandle" ∧ yX6_hours.cls ≠ "java/lang/invoke/VarHandle" ∧ (parseMethodDescriptor yX6_hours.desc).map (fun d => d.parameters.length) = some 1 := by decide +kernel
theorem hdX6_lent : yX6_lent.cls = RX6 ∧ yX6_lent.cls ≠ "java/lang/invoke/MethodHandle" ∧ yX6_lent.cls ≠ "java/lang/invoke/VarHandle" ∧ (parseMethodDescriptor yX6_lent.desc).map (fun d => d.parameters.length) = some 2 := by decide +kernel
theorem hdX6_lend : yX6_lend.cls = RX6 ∧ yX6_lend.cls ≠ "java/lang/invoke/MethodHandle" ∧ yX6_lend.cls ≠ "java/lang/invoke/VarHandle" ∧ (parseMethodDescriptor yX6_lend.desc).map (fun d => d.parameters.length) = some 2 := by decide +kernel
theorem hdX6_tell : yX6_tell.cls = RX6 ∧ yX6_tell.cls ≠ "java/lang/invoke/MethodHandle" ∧ yX6_tell.cls ≠ "java/lang/invoke/VarHandle" ∧ (parseMethodDescriptor yX6_tell.desc).map (fun d => d.parameters.length) = some 2 := by decide +kernel
theorem hdX6_cut : yX6_cut.cls = RX6 ∧ yX6_cut.cls ≠ "java/lang/invoke/MethodHandle" ∧ yX6_cut.cls ≠ "java/lang/invoke/VarHandle" ∧ (parseMethodDescriptor yX6_cut.desc).map (fun d => d.parameters.length) = some 2 := by decide +kernel
theorem hdX6_drift : yX6_drift.cls = RX6 ∧ yX6_drift.cls ≠ "java/lang/invoke/MethodHandle" ∧ yX6_drift.cls ≠ "java/lang/invoke/VarHandle" ∧ (parseMethodDescriptor yX6_drift.desc).map (fun d => d.parameters.length) = some 1 := by decide +kernel
theorem hdX6_undo : yX6_undo.cls = RX6 ∧ yX6_undo.cls ≠ "java/lang/invoke/MethodHandle" ∧ yX6_undo.cls ≠ "java/lang/invoke/VarHandle" ∧ (parseMethodDescriptor yX6_undo.desc).map (fun d => d.parameters.length) = some 0 := by decide +kernel
theorem hdX6_seed : yX6_seed.cls = RX6 ∧ yX6_seed.cls ≠ "java/lang/invoke/MethodHandle" ∧ yX6_seed.cls ≠ "java/lang/invoke/VarHandle" ∧ (parseMethodDescriptor yX6_seed.desc).map (fun d => d.parameters.length) = some 1 := by decide +kernel
theorem hdX6_asides : yX6_asides.cls = RX6 ∧ yX6_asides.cls ≠ "java/lang/invoke/MethodHandle" ∧ yX6_asides.cls ≠ "java/lang/invoke/VarHandle" ∧ (parseMethodDescriptor yX6_asides.desc).map (fun d => d.parameters.length) = some 0 := by decide +kernel
theorem hdX6_backs : yX6_backs.cls = RX6 ∧ yX6_backs.cls ≠ "java/lang/invoke/MethodHandle" ∧ yX6_backs.cls ≠ "java/lang/invoke/VarHandle" ∧ (parseMethodDescriptor yX6_backs.desc).map (fun d => d.parameters.length) = some 0 := by decide +kernel
theorem hdX6_ahead : yX6_ahead.cls = RX6 ∧ yX6_ahead.cls ≠ "java/lang/invoke/MethodHandle" ∧ yX6_ahead.cls ≠ "java/lang/invoke/VarHandle" ∧ (parseMethodDescriptor yX6_ahead.desc).map (fun d => d.parameters.length) = some 2 := by decide +kernel
theorem hdX6_stoppedBehind : yX6_stoppedBehind.cls = RX6 ∧ yX6_stoppedBehind.cls ≠ "java/lang/invoke/MethodHandle" ∧ yX6_stoppedBehind.cls ≠ "java/lang/invoke/VarHandle" ∧ (parseMethodDescriptor yX6_stoppedBehind.desc).map (fun d => d.parameters.length) = some 1 := by decide +kernel
theorem hdX6_then : yX6_then.cls = RX6 ∧ yX6_then.cls ≠ "java/lang/invoke/MethodHandle" ∧ yX6_then.cls ≠ "java/lang/invoke/VarHandle" ∧ (parseMethodDescriptor yX6_then.desc).map (fun d => d.parameters.length) = some 1 := by decide +kernel
theorem hdX6_whenAll : yX6_whenAll.cls = RX6 ∧ yX6_whenAll.cls ≠ "java/lang/invoke/MethodHandle" ∧ yX6_whenAll.cls ≠ "java/lang/invoke/VarHandle" ∧ (parseMethodDescriptor yX6_whenAll.desc).map (fun d => d.parameters.length) = some 1 := by decide +kernel
theorem hdX6_stops : yX6_stops.cls = RX6 ∧ yX6_stops.cls ≠ "java/lang/invoke/MethodHandle" ∧ yX6_stops.cls ≠ "java/lang/invoke/VarHandle" ∧ (parseMethodDescriptor yX6_stops.desc).map (fun d => d.parameters.length) = some 1 := by decide +kernel
theorem hdX6_all : yX6_all.cls = RX6 ∧ yX6_all.cls ≠ "java/lang/invoke/MethodHandle" ∧ yX6_all.cls ≠ "java/lang/invoke/VarHandle" ∧ (parseMethodDescriptor yX6_all.desc).map (fun d => d.parameters.length) = some 0 := by decide +kernel
theorem hdX6_ever : yX6_ever.cls = RX6 ∧ yX6_ever.cls ≠ "java/lang/invoke/MethodHandle" ∧ yX6_ever.cls ≠ "java/lang/invoke/VarHandle" ∧ (parseMethodDescriptor yX6_ever.desc).map (fun d => d.parameters.length) = some 0 := by decide +kernel
theorem hdX6_chain : yX6_chain.cls = RX6 ∧ yX6_chain.cls ≠ "java/lang/invoke/MethodHandle" ∧ yX6_chain.cls ≠ "java/lang/invoke/VarHandle" ∧ (parseMethodDescriptor yX6_chain.desc).map (fun d => d.parameters.length) = some 2 := by decide +kernel
theorem hdX6_lends : yX6_lends.cls = RX6 ∧ yX6_lends.cls ≠ "java/lang/invoke/MethodHandle" ∧ yX6_lends.cls ≠ "java/lang/invoke/VarHandle" ∧ (parseMethodDescriptor yX6_lends.desc).map (fun d => d.parameters.length) = some 3 := by decide +kernel
theorem hdX6_instead : yX6_instead.cls = RX6 ∧ yX6_instead.cls ≠ "java/lang/invoke/MethodHandle" ∧ yX6_instead.cls ≠ "java/lang/invoke/VarHandle" ∧ (parseMethodDescriptor yX6_instead.desc).map (fun d => d.parameters.length) = some 3 := by decide +kernel
theorem hdX6_needs : yX6_needs.cls = RX6 ∧ yX6_needs.cls ≠ "java/lang/invoke/MethodHandle" ∧ yX6_needs.cls ≠ "java/lang/invoke/VarHandle" ∧ (parseMethodDescriptor yX6_needs.desc).map (fun d => d.parameters.length) = some 2 := by decide +kernel
theorem hdX6_changes : yX6_changes.cls = RX6 ∧ yX6_changes.cls ≠ "java/lang/invoke/MethodHandle" ∧ yX6_changes.cls ≠ "java/lang/invoke/VarHandle" ∧ (parseMethodDescriptor yX6_changes.desc).map (fun d => d.parameters.length) = some 1 := by decide +kernel
theorem hdX6_match : yX6_match.cls = RX6 ∧ yX6_match.cls ≠ "java/lang/invoke/MethodHandle" ∧ yX6_match.cls ≠ "java/lang/invoke/VarHandle" ∧ (parseMethodDescriptor yX6_match.desc).map (fun d => d.parameters.length) = some 1 := by decide +kernel
theorem hdX6_isAsAside : yX6_isAsAside.cls = RX6 ∧ yX6_isAsAside.cls ≠ "java/lang/invoke/MethodHandle" ∧ yX6_isAsAside.cls ≠ "java/lang/invoke/VarHandle" ∧ (parseMethodDescriptor yX6_isAsAside.desc).map (fun d => d.parameters.length) = some 0 := by decide +kernel
theorem hdX6_again : yX6_again.cls = RX6 ∧ yX6_again.cls ≠ "java/lang/invoke/MethodHandle" ∧ yX6_again.cls ≠ "java/lang/invoke/VarHandle" ∧ (parseMethodDescriptor yX6_again.desc).map (fun d => d.parameters.length) = some 0 := by decide +kernel
theorem hdX6_forget : yX6_forget.cls = RX6 ∧ yX6_forget.cls ≠ "java/lang/invoke/MethodHandle" ∧ yX6_forget.cls ≠ "java/lang/invoke/VarHandle" ∧ (parseMethodDescriptor yX6_forget.desc).map (fun d => d.parameters.length) = some 3 := by decide +kernel
theorem hdX6_image : yX6_image.cls = RX6 ∧ yX6_image.cls ≠ "java/lang/invoke/MethodHandle" ∧ yX6_image.cls ≠ "java/lang/invoke/VarHandle" ∧ (parseMethodDescriptor yX6_image.desc).map (fun d => d.parameters.length) = some 0 := by decide +kernel
theorem hdX6_restore : yX6_restore.cls = RX6 ∧ yX6_restore.cls ≠ "java/lang/invoke/MethodHandle" ∧ yX6_restore.cls ≠ "java/lang/invoke/VarHandle" ∧ (parseMethodDescriptor yX6_restore.desc).map (fun d => d.parameters.length) = some 0 := by decide +kernel
theorem hdX6_isSheet : yX6_isSheet.cls = RX6 ∧ yX6_isSheet.cls ≠ "java/lang/invoke/MethodHandle" ∧ yX6_isSheet.cls ≠ "java/lang/invoke/VarHandle" ∧ (parseMethodDescriptor yX6_isSheet.desc).map (fun d => d.parameters.length) = some 1 := by decide +kernel
theorem hdX6_isLane : yX6_isLane.cls = RX6 ∧ yX6_isLane.cls ≠ "java/lang/invoke/MethodHandle" ∧ yX6_isLane.cls ≠ "java/lang/invoke/VarHandle" ∧ (parseMethodDescriptor yX6_isLane.desc).map (fun d => d.parameters.length) = some 1 := by decide +kernel
theorem hdX6_why : yX6_why.cls = RX6 ∧ yX6_why.cls ≠ "java/lang/invoke/MethodHandle" ∧ yX6_why.cls ≠ "java/lang/invoke/VarHandle" ∧ (parseMethodDescriptor yX6_why.desc).map (fun d => d.parameters.length) = some 4 := by decide +kernel
theorem hdX6_isSo : yX6_isSo.cls = RX6 ∧ yX6_isSo.cls ≠ "java/lang/invoke/MethodHandle" ∧ yX6_isSo.cls ≠ "java/lang/invoke/VarHandle" ∧ (parseMethodDescriptor yX6_isSo.desc).map (fun d => d.parameters.length) = some 3 := by decide +kernel
theorem hdX6_heard : yX6_heard.cls = RX6 ∧ yX6_heard.cls ≠ "java/lang/invoke/MethodHandle" ∧ yX6_heard.cls ≠ "java/lang/invoke/VarHandle" ∧ (parseMethodDescriptor yX6_heard.desc).map (fun d => d.parameters.length) = some 6 := by decide +kernel
theorem hdX6_film : yX6_film.cls = RX6 ∧ yX6_film.cls ≠ "java/lang/invoke/MethodHandle" ∧ yX6_film.cls ≠ "java/lang/invoke/VarHandle" ∧ (parseMethodDescriptor yX6_film.desc).map (fun d => d.parameters.length) = some 5 := by decide +kernel
theorem hdX6_sheet : yX6_sheet.cls = RX6 ∧ yX6_sheet.cls ≠ "java/lang/invoke/MethodHandle" ∧ yX6_sheet.cls ≠ "java/lang/invoke/VarHandle" ∧ (parseMethodDescriptor yX6_sheet.desc).map (fun d => d.parameters.length) = some 3 := by decide +kernel
theorem hdX6_drop : yX6_drop.cls = RX6 ∧ yX6_drop.cls ≠ "java/lang/invoke/MethodHandle" ∧ yX6_drop.cls ≠ "java/lang/invoke/VarHandle" ∧ (parseMethodDescriptor yX6_drop.desc).map (fun d => d.parameters.length) = some 1 := by decide +kernel
theorem hdX6_item : yX6_item.cls = RX6 ∧ yX6_item.cls ≠ "java/lang/invoke/MethodHandle" ∧ yX6_item.cls ≠ "java/lang/invoke/VarHandle" ∧ (parseMethodDescriptor yX6_item.desc).map (fun d => d.parameters.length) = some 4 := by decide +kernel
theorem hdX6_copy : yX6_copy.cls = RX6 ∧ yX6_copy.cls ≠ "java/lang/invoke/MethodHandle" ∧ yX6_copy.cls ≠ "java/lang/invoke/VarHandle" ∧ (parseMethodDescriptor yX6_copy.desc).map (fun d => d.parameters.length) = some 5 := by decide +kernel
theorem hdX0_find : yX0_find.cls = RX0 ∧ yX0_find.cls ≠ "java/lang/invoke/MethodHandle" ∧ yX0_find.cls ≠ "java/lang/invoke/VarHandle" ∧ (parseMethodDescriptor yX0_find.desc).map (fun d => d.parameters.length) = some 1 := by decide +kernel
theorem hdX0_choose : yX0_choose.cls = RX0 ∧ yX0_choose.cls ≠ "java/lang/invoke/MethodHandle" ∧ yX0_choose.cls ≠ "java/lang/invoke/VarHandle" ∧ (parseMethodDescriptor yX0_choose.desc).map (fun d => d.parameters.length) = some 5 := by decide +kernel
theorem hdX1_empty : yX1_empty.cls = RX1 ∧ yX1_empty.cls ≠ "java/lang/invoke/MethodHandle" ∧ yX1_empty.cls ≠ "java/lang/invoke/VarHandle" ∧ (parseMethodDescriptor yX1_empty.desc).map (fun d => d.parameters.length) = some 0 := by decide +kernel
theorem hdX1_become : yX1_become.cls = RX1 ∧ yX1_become.cls ≠ "java/lang/invoke/MethodHandle" ∧ yX1_become.cls ≠ "java/lang/invoke/VarHandle" ∧ (parseMethodDescriptor yX1_become.desc).map (fun d => d.parameters.length) = some 1 := by decide +kernel
theorem hdX1_keep : yX1_keep.cls = RX1 ∧ yX1_keep.cls ≠ "java/lang/invoke/MethodHandle" ∧ yX1_keep.cls ≠ "java/lang/invoke/VarHandle" ∧ (parseMethodDescriptor yX1_keep.desc).map (fun d => d.parameters.length) = some 1 := by decide +kernel
theorem hdX1_takeBack : yX1_takeBack.cls = RX1 ∧ yX1_takeBack.cls ≠ "java/lang/invoke/MethodHandle" ∧ yX1_takeBack.cls ≠ "java/lang/invoke/VarHandle" ∧ (parseMethodDescriptor yX1_takeBack.desc).map (fun d => d.parameters.length) = some 1 := by decide +kernel
theorem hdX2_empty : yX2_empty.cls = RX2 ∧ yX2_empty.cls ≠ "java/lang/invoke/MethodHandle" ∧ yX2_empty.cls ≠ "java/lang/invoke/VarHandle" ∧ (parseMethodDescriptor yX2_empty.desc).map (fun d => d.parameters.length) = some 0 := by decide +kernel
theorem hdX2_become : yX2_become.cls = RX2 ∧ yX2_become.cls ≠ "java/lang/invoke/MethodHandle" ∧ yX2_become.cls ≠ "java/lang/invoke/VarHandle" ∧ (parseMethodDescriptor yX2_become.desc).map (fun d => d.parameters.length) = some 1 := by decide +kernel
theorem hdX2_join : yX2_join.cls = RX2 ∧ yX2_join.cls ≠ "java/lang/invoke/MethodHandle" ∧ yX2_join.cls ≠ "java/lang/invoke/VarHandle" ∧ (parseMethodDescriptor yX2_join.desc).map (fun d => d.parameters.length) = some 2 := by decide +kernel
theorem hdX2_has : yX2_has.cls = RX2 ∧ yX2_has.cls ≠ "java/lang/invoke/MethodHandle" ∧ yX2_has.cls ≠ "java/lang/invoke/VarHandle" ∧ (parseMethodDescriptor yX2_has.desc).map (fun d => d.parameters.length) = some 1 := by decide +kernel
theorem hdX2_isStopped : yX2_isStopped.cls = RX2 ∧ yX2_isStopped.cls ≠ "java/lang/invoke/MethodHandle" ∧ yX2_isStopped.cls ≠ "java/lang/invoke/VarHandle" ∧ (parseMethodDescriptor yX2_isStopped.desc).map (fun d => d.parameters.length) = some 1 := by decide +kernel
theorem hdX2_everybody : yX2_everybody.cls = RX2 ∧ yX2_everybody.cls ≠ "java/lang/invoke/MethodHandle" ∧ yX2_everybody.cls ≠ "java/lang/invoke/VarHandle" ∧ (parseMethodDescriptor yX2_everybody.desc).map (fun d => d.parameters.length) = some 0 := by decide +kernel
theorem hdX2_stopped : yX2_stopped.cls = RX2 ∧ yX2_stopped.cls ≠ "java/lang/invoke/MethodHandle" ∧ yX2_stopped.cls ≠ "java/lang/invoke/VarHandle" ∧ (parseMethodDescriptor yX2_stopped.desc).map (fun d => d.parameters.length) = some 0 := by decide +kernel
theorem hdX2_turnsTogether : yX2_turnsTogether.cls = RX2 ∧ yX2_turnsTogether.cls ≠ "java/lang/invoke/MethodHandle" ∧ yX2_turnsTogether.cls ≠ "java/lang/invoke/VarHandle" ∧ (parseMethodDescriptor yX2_turnsTogether.desc).map (fun d => d.parameters.length) = some 0 := by decide +kernel
theorem hdX2_hasTurnsOf : yX2_hasTurnsOf.cls = RX2 ∧ yX2_hasTurnsOf.cls ≠ "java/lang/invoke/MethodHandle" ∧ yX2_hasTurnsOf.cls ≠ "java/lang/invoke/VarHandle" ∧ (parseMethodDescriptor yX2_hasTurnsOf.desc).map (fun d => d.parameters.length) = some 1 := by decide +kernel
theorem hdX2_woundBy : yX2_woundBy.cls = RX2 ∧ yX2_woundBy.cls ≠ "java/lang/invoke/MethodHandle" ∧ yX2_woundBy.cls ≠ "java/lang/invoke/VarHandle" ∧ (parseMethodDescriptor yX2_woundBy.desc).map (fun d => d.parameters.length) = some 1 := by decide +kernel
theorem hdX2_without : yX2_without.cls = RX2 ∧ yX2_without.cls ≠ "java/lang/invoke/MethodHandle" ∧ yX2_without.cls ≠ "java/lang/invoke/VarHandle" ∧ (parseMethodDescriptor yX2_without.desc).map (fun d => d.parameters.length) = some 0 := by decide +kernel
theorem hdX2_behind : yX2_behind.cls = RX2 ∧ yX2_behind.cls ≠ "java/lang/invoke/MethodHandle" ∧ yX2_behind.cls ≠ "java/lang/invoke/VarHandle" ∧ (parseMethodDescriptor yX2_behind.desc).map (fun d => d.parameters.length) = some 1 := by decide +kernel
theorem hdX2_ring : yX2_ring.cls = RX2 ∧ yX2_ring.cls ≠ "java/lang/invoke/MethodHandle" ∧ yX2_ring.cls ≠ "java/lang/invoke/VarHandle" ∧ (parseMethodDescriptor yX2_ring.desc).map (fun d => d.parameters.length) = some 0 := by decide +kernel
theorem hdX2_heads : yX2_heads.cls = RX2 ∧ yX2_heads.cls ≠ "java/lang/invoke/MethodHandle" ∧ yX2_heads.cls ≠ "java/lang/invoke/VarHandle" ∧ (parseMethodDescriptor yX2_heads.desc).map (fun d => d.parameters.length) = some 1 := by decide +kernel
theorem hdX2_isWindingHour : yX2_isWindingHour.cls = RX2 ∧ yX2_isWindingHour.cls ≠ "java/lang/invoke/MethodHandle" ∧ yX2_isWindingHour.cls ≠ "java/lang/invoke/VarHandle" ∧ (parseMethodDescriptor yX2_isWindingHour.desc).map (fun d => d.parameters.length) = some 0 := by decide +kernel
theorem hdX2_winders : yX2_winders.cls = RX2 ∧ yX2_winders.cls ≠ "java/lang/invoke/MethodHandle" ∧ yX2_winders.cls ≠ "java/lang/invoke/VarHandle" ∧ (parseMethodDescriptor yX2_winders.desc).map (fun d => d.parameters.length) = some 0 := by decide +kernel
theorem hdX2_addTurns : yX2_addTurns.cls = RX2 ∧ yX2_addTurns.cls ≠ "java/lang/invoke/MethodHandle" ∧ yX2_addTurns.cls ≠ "java/lang/invoke/VarHandle" ∧ (parseMethodDescriptor yX2_addTurns.desc).map (fun d => d.parameters.length) = some 2 := by decide +kernel
theorem hdX2_wind : yX2_wind.cls = RX2 ∧ yX2_wind.cls ≠ "java/lang/invoke/MethodHandle" ∧ yX2_wind.cls ≠ "java/lang/invoke/VarHandle" ∧ (parseMethodDescriptor yX2_wind.desc).map (fun d => d.parameters.length) = some 1 := by decide +kernel
theorem hdX2_run : yX2_run.cls = RX2 ∧ yX2_run.cls ≠ "java/lang/invoke/MethodHandle" ∧ yX2_run.cls ≠ "java/lang/invoke/VarHandle" ∧ (parseMethodDescriptor yX2_run.desc).map (fun d => d.parameters.length) = some 0 := by decide +kernel
theorem hdX2_passHour : yX2_passHour.cls = RX2 ∧ yX2_passHour.cls ≠ "java/lang/invoke/MethodHandle" ∧ yX2_passHour.cls ≠ "java/lang/invoke/VarHandle" ∧ (parseMethodDescriptor yX2_passHour.desc).map (fun d => d.parameters.length) = some 0 := by decide +kernel
theorem hdX2_passHours : yX2_passHours.cls = RX2 ∧ yX2_passHours.cls ≠ "java/lang/invoke/MethodHandle" ∧ yX2_passHours.cls ≠ "java/lang/invoke/VarHandle" ∧ (parseMethodDescriptor yX2_passHours.desc).map (fun d => d.parameters.length) = some 1 := by decide +kernel
theorem hdX2_passUntilStopped : yX2_passUntilStopped.cls = RX2 ∧ yX2_passUntilStopped.cls ≠ "java/lang/invoke/MethodHandle" ∧ yX2_passUntilStopped.cls ≠ "java/lang/invoke/VarHandle" ∧ (parseMethodDescriptor yX2_passUntilStopped.desc).map (fun d => d.parameters.length) = some 2 := by decide +kernel
theorem hdX2_runsOff : yX2_runsOff.cls = RX2 ∧ yX2_runsOff.cls ≠ "java/lang/invoke/MethodHandle" ∧ yX2_runsOff.cls ≠ "java/lang/invoke/VarHandle" ∧ (parseMethodDescriptor yX2_runsOff.desc).map (fun d => d.parameters.length) = some 2 := by decide +kernel
theorem hdX2_runsConcern : yX2_runsConcern.cls = RX2 ∧ yX2_runsConcern.cls ≠ "java/lang/invoke/MethodHandle" ∧ yX2_runsConcern.cls ≠ "java/lang/invoke/VarHandle" ∧ (parseMethodDescriptor yX2_runsConcern.desc).map (fun d => d.parameters.length) = some 0 := by decide +kernel
theorem hdX2_runsTender : yX2_runsTender.cls = RX2 ∧ yX2_runsTender.cls ≠ "java/lang/invoke/MethodHandle" ∧ yX2_runsTender.cls ≠ "java/lang/invoke/VarHandle" ∧ (parseMethodDescriptor yX2_runsTender.desc).map (fun d => d.parameters.length) = some 0 := by decide +kernel
theorem hdX2_windsOneOf : yX2_windsOneOf.cls = RX2 ∧ yX2_windsOneOf.cls ≠ "java/lang/invoke/MethodHandle" ∧ yX2_windsOneOf.cls ≠ "java/lang/invoke/VarHandle" ∧ (parseMethodDescriptor yX2_windsOneOf.desc).map (fun d => d.parameters.length) = some 2 := by decide +kernel
theorem hdX2_lendByDraw : yX2_lendByDraw.cls = RX2 ∧ yX2_lendByDraw.cls ≠ "java/lang/invoke/MethodHandle" ∧ yX2_lendByDraw.cls ≠ "java/lang/invoke/VarHandle" ∧ (parseMethodDescriptor yX2_lendByDraw.desc).map (fun d => d.parameters.length) = some 0 := by decide +kernel
theorem hdX3_isMissing : yX3_isMissing.cls = RX3 ∧ yX3_isMissing.cls ≠ "java/lang/invoke/MethodHandle" ∧ yX3_isMissing.cls ≠ "java/lang/invoke/VarHandle" ∧ (parseMethodDescriptor yX3_isMissing.desc).map (fun d => d.parameters.length) = some 0 := by decide +kernel
theorem hdX3_begin : yX3_begin.cls = RX3 ∧ yX3_begin.cls ≠ "java/lang/invoke/MethodHandle" ∧ yX3_begin.cls ≠ "java/lang/invoke/VarHandle" ∧ (parseMethodDescriptor yX3_begin.desc).map (fun d => d.parameters.length) = some 2 := by decide +kernel
theorem hdX3_lose : yX3_lose.cls = RX3 ∧ yX3_lose.cls ≠ "java/lang/invoke/MethodHandle" ∧ yX3_lose.cls ≠ "java/lang/invoke/VarHandle" ∧ (parseMethodDescriptor yX3_lose.desc).map (fun d => d.parameters.length) = some 0 := by decide +kernel
theorem hdX3_holds : yX3_holds.cls = RX3 ∧ yX3_holds.cls ≠ "java/lang/invoke/MethodHandle" ∧ yX3_holds.cls ≠ "java/lang/invoke/VarHandle" ∧ (parseMethodDescriptor yX3_holds.desc).map (fun d => d.parameters.length) = some 2 := by decide +kernel
theorem hdX3_refusal : yX3_refusal.cls = RX3 ∧ yX3_refusal.cls ≠ "java/lang/invoke/MethodHandle" ∧ yX3_refusal.cls ≠ "java/lang/invoke/VarHandle" ∧ (parseMethodDescriptor yX3_refusal.desc).map (fun d => d.parameters.length) = some 3 := by decide +kernel
theorem hdX3_put : yX3_put.cls = RX3 ∧ yX3_put.cls ≠ "java/lang/invoke/MethodHandle" ∧ yX3_put.cls ≠ "java/lang/invoke/VarHandle" ∧ (parseMethodDescriptor yX3_put.desc).map (fun d => d.parameters.length) = some 2 := by decide +kernel
theorem hdX4_isFull : yX4_isFull.cls = RX4 ∧ yX4_isFull.cls ≠ "java/lang/invoke/MethodHandle" ∧ yX4_isFull.cls ≠ "java/lang/invoke/VarHandle" ∧ (parseMethodDescriptor yX4_isFull.desc).map (fun d => d.parameters.length) = some 0 := by decide +kernel
theorem hdX4_append : yX4_append.cls = RX4 ∧ yX4_append.cls ≠ "java/lang/invoke/MethodHandle" ∧ yX4_append.cls ≠ "java/lang/invoke/VarHandle" ∧ (parseMethodDescriptor yX4_append.desc).map (fun d => d.parameters.length) = some 1 := by decide +kernel
theorem hdX4_empty : yX4_empty.cls = RX4 ∧ yX4_empty.cls ≠ "java/lang/invoke/MethodHandle" ∧ yX4_empty.cls ≠ "java/lang/invoke/VarHandle" ∧ (parseMethodDescriptor yX4_empty.desc).map (fun d => d.parameters.length) = some 0 := by decide +kernel
theorem hdX4_readClose : yX4_readClose.cls = RX4 ∧ yX4_readClose.cls ≠ "java/lang/invoke/MethodHandle" ∧ yX4_readClose.cls ≠ "java/lang/invoke/VarHandle" ∧ (parseMethodDescriptor yX4_readClose.desc).map (fun d => d.parameters.length) = some 1 := by decide +kernel
theorem hdX4_readPerson : yX4_readPerson.cls = RX4 ∧ yX4_readPerson.cls ≠ "java/lang/invoke/MethodHandle" ∧ yX4_readPerson.cls ≠ "java/lang/invoke/VarHandle" ∧ (parseMethodDescriptor yX4_readPerson.desc).map (fun d => d.parameters.length) = some 1 := by decide +kernel
theorem hdX4_readWinding : yX4_readWinding.cls = RX4 ∧ yX4_readWinding.cls ≠ "java/lang/invoke/MethodHandle" ∧ yX4_readWinding.cls ≠ "java/lang/invoke/VarHandle" ∧ (parseMethodDescriptor yX4_readWinding.desc).map (fun d => d.parameters.length) = some 2 := by decide +kernel
theorem hdX4_allWoundAreThere : yX4_allWoundAreThere.cls = RX4 ∧ yX4_allWoundAreThere.cls ≠ "java/lang/invoke/MethodHandle" ∧ yX4_allWoundAreThere.cls ≠ "java/lang/invoke/VarHandle" ∧ (parseMethodDescriptor yX4_allWoundAreThere.desc).map (fun d => d.parameters.length) = some 1 := by decide +kernel
theorem hdX4_kindOf : yX4_kindOf.cls = RX4 ∧ yX4_kindOf.cls ≠ "java/lang/invoke/MethodHandle" ∧ yX4_kindOf.cls ≠ "java/lang/invoke/VarHandle" ∧ (parseMethodDescriptor yX4_kindOf.desc).map (fun d => d.parameters.length) = some 1 := by decide +kernel
theorem hdX4_letterHere : yX4_letterHere.cls = RX4 ∧ yX4_letterHere.cls ≠ "java/lang/invoke/MethodHandle" ∧ yX4_letterHere.cls ≠ "java/lang/invoke/VarHandle" ∧ (parseMethodDescriptor yX4_letterHere.desc).map (fun d => d.parameters.length) = some 0 := by decide +kernel
theorem hdX4_take : yX4_take.cls = RX4 ∧ yX4_take.cls ≠ "java/lang/invoke/MethodHandle" ∧ yX4_take.cls ≠ "java/lang/invoke/VarHandle" ∧ (parseMethodDescriptor yX4_take.desc).map (fun d => d.parameters.length) = some 1 := by decide +kernel
theorem hdX4_takeNumber : yX4_takeNumber.cls = RX4 ∧ yX4_takeNumber.cls ≠ "java/lang/invoke/MethodHandle" ∧ yX4_takeNumber.cls ≠ "java/lang/invoke/VarHandle" ∧ (parseMethodDescriptor yX4_takeNumber.desc).map (fun d => d.parameters.length) = some 2 := by decide +kernel
theorem hdX4_takeDigit : yX4_takeDigit.cls = RX4 ∧ yX4_takeDigit.cls ≠ "java/lang/invoke/MethodHandle" ∧ yX4_takeDigit.cls ≠ "java/lang/invoke/VarHandle" ∧ (parseMethodDescriptor yX4_takeDigit.desc).map (fun d => d.parameters.length) = some 0 := by decide +kernel
theorem nk_X5_57 : Cond.fieldLinkNest RX5 57 "KeyedFeelings$People" "size" "I" "KeyedFeelings" ∈ nestW := by decide +kernel
theorem nk_X0_26 : Cond.fieldLinkNest RX0 26 "KeyedFeelings$People" "size" "I" "KeyedFeelings" ∈ nestW := by decide +kernel
theorem nk_X4_60 : Cond.fieldLinkNest RX4 60 "KeyedFeelings$People" "size" "I" "KeyedFeelings" ∈ nestW := by decide +kernel
theorem nk_X5_72 : Cond.fieldLinkNest RX5 72 "KeyedFeelings$People" "kinds" "[I" "KeyedFeelings" ∈ nestW := by decide +kernel
theorem nk_X5_76 : Cond.fieldLinkNest RX5 76 "KeyedFeelings$People" "turns" "[I" "KeyedFeelings" ∈ nestW := by decide +kernel
theorem nk_X5_79 : Cond.fieldLinkNest RX5 79 "KeyedFeelings$People" "winds" "[I" "KeyedFeelings" ∈ nestW := by decide +kernel
theorem nk_X0_37 : Cond.fieldLinkNest RX0 37 "KeyedFeelings$People" "winds" "[I" "KeyedFeelings" ∈ nestW := by decide +kernel
theorem nk_X4_54 : Cond.fieldLinkNest RX4 54 "KeyedFeelings$People" "winds" "[I" "KeyedFeelings" ∈ nestW := by decide +kernel
theorem nk_X5_82 : Cond.fieldLinkNest RX5 82 "KeyedFeelings$People" "keys" "[I" "KeyedFeelings" ∈ nestW := by decide +kernel
theorem nk_X4_57 : Cond.fieldLinkNest RX4 57 "KeyedFeelings$People" "keys" "[I" "KeyedFeelings" ∈ nestW := by decide +kernel
theorem nk_X5_119 : Cond.fieldLinkNest RX5 119 "KeyedFeelings$People" "hour" "I" "KeyedFeelings" ∈ nestW := by decide +kernel
theorem nk_X5_112 : Cond.fieldLinkNest RX5 112 "KeyedFeelings$People" "draw" "I" "KeyedFeelings" ∈ nestW := by decide +kernel
theorem nk_X5_134 : Cond.fieldLinkNest RX5 134 "KeyedFeelings$Past" "size" "I" "KeyedFeelings" ∈ nestW := by decide +kernel
theorem nk_X5_108 : Cond.fieldLinkNest RX5 108 "KeyedFeelings$Tape" "place" "I" "KeyedFeelings" ∈ nestW := by decide +kernel
theorem nk_X5_186 : Cond.fieldLinkNest RX5 186 "KeyedFeelings$Matching" "fewest" "I" "KeyedFeelings" ∈ nestW := by decide +kernel
theorem nk_X5_189 : Cond.fieldLinkNest RX5 189 "KeyedFeelings$Matching" "best" "[I" "KeyedFeelings" ∈ nestW := by decide +kernel
theorem nk_X5_251 : Cond.fieldLinkNest RX5 251 "KeyedFeelings$Sheet" "lane" "I" "KeyedFeelings" ∈ nestW := by decide +kernel
theorem nk_X5_247 : Cond.fieldLinkNest RX5 247 "KeyedFeelings$Sheet" "size" "I" "KeyedFeelings" ∈ nestW := by decide +kernel
theorem nk_X5_258 : Cond.fieldLinkNest RX5 258 "KeyedFeelings$Sheet" "items" "[J" "KeyedFeelings" ∈ nestW := by decide +kernel
theorem nk_X5_9 : Cond.methodLinkNest RX5 9 yX2_init "KeyedFeelings" ∈ nestW := by decide +kernel
theorem nk_X5_18 : Cond.methodLinkNest RX5 18 yX1_init "KeyedFeelings" ∈ nestW := by decide +kernel
theorem nk_X1_22 : Cond.methodLinkNest RX1 22 yX2_init "KeyedFeelings" ∈ nestW := by decide +kernel
theorem nk_X5_38 : Cond.methodLinkNest RX5 38 yX4_init "KeyedFeelings" ∈ nestW := by decide +kernel
theorem nk_X5_45 : Cond.methodLinkNest RX5 45 yX0_init "KeyedFeelings" ∈ nestW := by decide +kernel
theorem nk_X5_56 : Cond.methodLinkNest RX5 56 yX3_init "KeyedFeelings" ∈ nestW := by decide +kernel
theorem nk_X5_61 : Cond.methodLinkNest RX5 61 yX1_empty "KeyedFeelings" ∈ nestW := by decide +kernel
theorem nk_X5_64 : Cond.methodLinkNest RX5 64 yX2_join "KeyedFeelings" ∈ nestW := by decide +kernel
theorem nk_X5_68 : Cond.methodLinkNest RX5 68 yX2_has "KeyedFeelings" ∈ nestW := by decide +kernel
theorem nk_X5_85 : Cond.methodLinkNest RX5 85 yX2_stopped "KeyedFeelings" ∈ nestW := by decide +kernel
theorem nk_X5_89 : Cond.methodLinkNest RX5 89 yX2_runsOff "KeyedFeelings" ∈ nestW := by decide +kernel
theorem nk_X5_92 : Cond.methodLinkNest RX5 92 yX2_woundBy "KeyedFeelings" ∈ nestW := by decide +kernel
theorem nk_X5_96 : Cond.methodLinkNest RX5 96 yX4_isFull "KeyedFeelings" ∈ nestW := by decide +kernel
theorem nk_X5_100 : Cond.methodLinkNest RX5 100 yX4_append "KeyedFeelings" ∈ nestW := by decide +kernel
theorem nk_X5_103 : Cond.methodLinkNest RX5 103 yX2_empty "KeyedFeelings" ∈ nestW := by decide +kernel
theorem nk_X5_104 : Cond.methodLinkNest RX5 104 yX4_readClose "KeyedFeelings" ∈ nestW := by decide +kernel
theorem nk_X4_45 : Cond.methodLinkNest RX4 45 yX2_join "KeyedFeelings" ∈ nestW := by decide +kernel
theorem nk_X4_61 : Cond.methodLinkNest RX4 61 yX2_has "KeyedFeelings" ∈ nestW := by decide +kernel
theorem nk_X5_111 : Cond.methodLinkNest RX5 111 yX4_empty "KeyedFeelings" ∈ nestW := by decide +kernel
theorem nk_X5_115 : Cond.methodLinkNest RX5 115 yX2_become "KeyedFeelings" ∈ nestW := by decide +kernel
theorem nk_X5_122 : Cond.methodLinkNest RX5 122 yX2_turnsTogether "KeyedFeelings" ∈ nestW := by decide +kernel
theorem nk_X5_125 : Cond.methodLinkNest RX5 125 yX2_ring "KeyedFeelings" ∈ nestW := by decide +kernel
theorem nk_X5_128 : Cond.methodLinkNest RX5 128 yX2_without "KeyedFeelings" ∈ nestW := by decide +kernel
theorem nk_X5_131 : Cond.methodLinkNest RX5 131 yX2_isWindingHour "KeyedFeelings" ∈ nestW := by decide +kernel
theorem nk_X5_139 : Cond.methodLinkNest RX5 139 yX1_keep "KeyedFeelings" ∈ nestW := by decide +kernel
theorem nk_X1_23 : Cond.methodLinkNest RX1 23 yX2_become "KeyedFeelings" ∈ nestW := by decide +kernel
theorem nk_X5_149 : Cond.methodLinkNest RX5 149 yX2_lendByDraw "KeyedFeelings" ∈ nestW := by decide +kernel
theorem nk_X5_152 : Cond.methodLinkNest RX5 152 yX2_passHour "KeyedFeelings" ∈ nestW := by decide +kernel
theorem nk_X5_142 : Cond.methodLinkNest RX5 142 yX2_addTurns "KeyedFeelings" ∈ nestW := by decide +kernel
theorem nk_X5_146 : Cond.methodLinkNest RX5 146 yX1_takeBack "KeyedFeelings" ∈ nestW := by decide +kernel
theorem nk_X5_155 : Cond.methodLinkNest RX5 155 yX2_passHours "KeyedFeelings" ∈ nestW := by decide +kernel
theorem nk_X5_159 : Cond.methodLinkNest RX5 159 yX2_passUntilStopped "KeyedFeelings" ∈ nestW := by decide +kernel
theorem nk_X5_162 : Cond.methodLinkNest RX5 162 yX2_everybody "KeyedFeelings" ∈ nestW := by decide +kernel
theorem nk_X5_165 : Cond.methodLinkNest RX5 165 yX2_behind "KeyedFeelings" ∈ nestW := by decide +kernel
theorem nk_X5_168 : Cond.methodLinkNest RX5 168 yX2_heads "KeyedFeelings" ∈ nestW := by decide +kernel
theorem nk_X5_183 : Cond.methodLinkNest RX5 183 yX0_find "KeyedFeelings" ∈ nestW := by decide +kernel
theorem nk_X5_192 : Cond.methodLinkNest RX5 192 yX2_hasTurnsOf "KeyedFeelings" ∈ nestW := by decide +kernel
theorem nk_X5_195 : Cond.methodLinkNest RX5 195 yX2_winders "KeyedFeelings" ∈ nestW := by decide +kernel
theorem nk_X5_198 : Cond.methodLinkNest RX5 198 yX2_wind "KeyedFeelings" ∈ nestW := by decide +kernel
theorem nk_X5_201 : Cond.methodLinkNest RX5 201 yX2_run "KeyedFeelings" ∈ nestW := by decide +kernel
theorem nk_X5_204 : Cond.methodLinkNest RX5 204 yX2_isStopped "KeyedFeelings" ∈ nestW := by decide +kernel
theorem nk_X5_221 : Cond.methodLinkNest RX5 221 yX1_become "KeyedFeelings" ∈ nestW := by decide +kernel
theorem nk_X5_230 : Cond.methodLinkNest RX5 230 yX3_refusal "KeyedFeelings" ∈ nestW := by decide +kernel
theorem nk_X5_237 : Cond.methodLinkNest RX5 237 yX3_put "KeyedFeelings" ∈ nestW := by decide +kernel
theorem nk_X5_241 : Cond.methodLinkNest RX5 241 yX3_begin "KeyedFeelings" ∈ nestW := by decide +kernel
theorem nk_X5_244 : Cond.methodLinkNest RX5 244 yX3_isMissing "KeyedFeelings" ∈ nestW := by decide +kernel
theorem nk_X5_248 : Cond.methodLinkNest RX5 248 yX3_lose "KeyedFeelings" ∈ nestW := by decide +kernel
theorem nk_X5_254 : Cond.methodLinkNest RX5 254 yX3_holds "KeyedFeelings" ∈ nestW := by decide +kernel
