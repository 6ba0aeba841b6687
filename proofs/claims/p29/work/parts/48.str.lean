/-! THE LITERAL "gctpl": methods of the JDK that change nothing -/
noncomputable def kb (j : Nat) : Int32 := ([103, 99, 116, 112, 108] : List Int32).getD j 0
noncomputable def SF (k v : Nat) (f : Option Nat) (A : Nat → Prop) (U : State) : Prop :=
  va_O "java/lang/String" k A U U.heap ∧ va_OF "java/lang/String" "coder" "B" (.int 0) k A U U.heap ∧ va_OF "java/lang/String" "value" "[B" (.ref v) k A U U.heap ∧ va_T .byte v 5 (fun j => .int (kb j)) A U U.heap ∧ va_Z "java/lang/String" "COMPACT_STRINGS" "Z" (.int 1) A U U.heap ∧ va_Z "jdk/internal/util/Preconditions" "SIOOBE_FORMATTER" "Ljava/util/function/BiFunction;" (va_rf f) A U U.heap ∧ vk_R "KeyedFeelings$Tape" 64 "gctpl" k U
theorem SF.go {k v : Nat} {f : Option Nat} {A B : Nat → Prop} {s U : State} {H0 H : Heap} {locs : List Loc} (h : SF k v f A s) (hH0 : s.heap = H0) (hS : va_S A H0 H locs) (hU : U.heap = H) (hW : s.WarmedH U.vm) (hB : ∀ q, B q → A q) : SF k v f B U := by
  subst hH0
  obtain ⟨h1, h2, h3, h4, h5, h6, h7⟩ := h
  have hq := hS.2.1
  rw [← hU] at hq
  exact ⟨((h1.kept hq).moved hW.alike).narrow hB, ((h2.kept hq).moved hW.alike).narrow hB, ((h3.kept hq).moved hW.alike).narrow hB, ((h4.kept hq).moved hW.alike).narrow hB, ((h5.kept hq).moved hW.alike).narrow hB, ((h6.kept hq).moved hW.alike).narrow hB, h7.warm hW⟩
theorem SF.calling {k v : Nat} {f : Option Nat} {A : Nat → Prop} {U : State} {g : JFrame} {mk : MethodId} {a : Array Value} (h : SF k v f A U) : SF k v f A (U.calling g mk a) := by
  obtain ⟨h1, h2, h3, h4, h5, h6, h7⟩ := h
  have hv : U.vm.Alike (U.calling g mk a).vm := Vm.Alike.refl U.vm
  exact ⟨va_O.moved hv h1, va_OF.moved hv h2, va_OF.moved hv h3, va_T.moved hv h4, va_Z.moved hv h5, va_Z.moved hv h6, vk_R.same rfl h7⟩
noncomputable def nobody : Nat → Prop := fun _ => False
noncomputable def QP (v : Option Value) : Array Value → State → Outcome → State → Prop := fun _ st oc t => oc = .returned v ∧ t.heap = st.heap
noncomputable def CP (l : Launch) (y : MethodName) (w : List Cond) (rm : Room) (av : List Value) (k v : Nat) (f : Option Nat) (r : Option Value) : Prop := Met l y w rm (va_Pc av (SF k v f nobody)) (QP r) 0 0 nobody
noncomputable def Cy (p : Program) (s : State) (m : MethodId) (args : Array Value) (meth : Method) (c : Code) (cc : ByteArray) (nL : Nat) (ret : Option FieldType) (w : List Cond) (own : String) (k v : Nat) (f : Option Nat) : Prop :=
  p.tables.exec = Jvm.exec ∧ c.code = cc ∧ c.maxLocals = nL ∧ s.vm.findClass own = some m.cls ∧ (∀ x ∈ w, x.before args s = true) ∧ meth.sig.returnType = ret ∧ meth.locks = false ∧ SF k v f nobody s
theorem CP.start {l : Launch} {y : MethodName} {w w' : List Cond} {rm : Room} {av : List Value} {k v : Nat} {f : Option Nat} {r : Option Value} {cc : ByteArray} {maxL : Nat} {ret : Option FieldType}
    (hy : plainName y.cls = true) (hw : w = Cond.code y cc maxL ret :: w') (hlen : (lg_sl av).length ≤ maxL)
    (body : ∀ (p : Program) (e : Env) (s : State) (m : MethodId) (below : List Frame) (meth : Method) (c : Code), Cy p s m av.toArray meth c cc maxL ret w y.cls k v f → va_S nobody s.heap s.heap [] → ∀ ls : Array Slot, lv_has ls maxL (lv_args 0 av) →
      W p l e rm s m av.toArray below meth c s.heap [] 0 0 (MQ below (QP r) av.toArray s 0 0 nobody) (F0 m 0 ls [])) : CP l y w rm av k v f r := by
  refine Met.ofW (cc := cc) (maxL := maxL) (ret := ret) hy hw ?_
  intro p e s m args below meth c s₁ B hml hv
  obtain ⟨rfl, hF⟩ := hv
  rw [lg_entry_eq]
  exact body p e s m below meth c ⟨B.exec, B.bytes, hml, findClass_of_methodNamed B.named, atoms_spec (ws := w) B.pre, B.returns, B.notSynchronized, hF⟩ va_S.rf _ (lv_entry av hlen)
section SCALL
variable {p : Program} {l : Launch} {e : Env} {R : Room} {s : State} {m : MethodId} {args : Array Value} {below : List Frame} {meth : Method} {c : Code} {H : Heap} {locs : List Loc} {cells slots : Nat} {Q : State → Prop}
variable {pc : Nat} {ls : Array Slot} {rest st0 st1 : List Value} {a : Array Value} {v : Option Value} {cc : ByteArray} {nL : Nat} {ret : Option FieldType} {w wy wy' : List Cond} {own C : String} {y : MethodName} {rmy : Room} {b : Nat} {As : List Value} {index maxL : Nat} {bytes : ByteArray} {rety : Option FieldType} {k vv : Nat} {f : Option Nat}
theorem CP.nret {x : Int32} {ty : FieldType} (Z : Cy p s m args meth c cc nL (some ty) w own k vv f) (hn : narrow ty (.int x) = .int x) (hd : decode cc pc = .ok (.ireturn, 1)) : W p l e R s m args below meth c s.heap [] 0 0 (MQ below (QP (some (.int x))) args s 0 0 nobody) (F0 m pc ls [.int x]) :=
  W.zret Z.1 Z.2.1 Z.2.2.2.2.2.1 hn (fun t ht hW => ⟨rfl, ht⟩) (fun _ h => by cases h) hd (hlocks := Z.2.2.2.2.2.2.1)
theorem CP.vret (Z : Cy p s m args meth c cc nL none w own k vv f) (hd : decode cc pc = .ok (.return_, 1)) : W p l e R s m args below meth c s.heap [] 0 0 (MQ below (QP none) args s 0 0 nobody) (F0 m pc ls []) :=
  W.vret Z.1 Z.2.1 Z.2.2.2.2.2.1 (fun t ht hW => ⟨rfl, ht⟩) (fun _ h => by cases h) hd (hlocks := Z.2.2.2.2.2.2.1)
theorem kP0 (hr : va_Run p l e R s m args below meth c H locs cells slots 0 0 (F0 m pc ls st0) rest (QP v a) nobody) (kk : W p l e R s m args below meth c H locs cells slots Q (F0 m (pc + 3) ls (v.toList ++ rest))) : W p l e R s m args below meth c H locs cells slots Q (F0 m pc ls st0) := by
  intro T hT X
  obtain ⟨v', st₀, t, T', L, h0, X', hL, e1, e2, ⟨hv, hh⟩, st⟩ := hr T hT X
  cases hv
  have hLn : L = [] := by
    cases L with
    | nil => rfl
    | cons x xs => exact absurd (hL x List.mem_cons_self) id
  subst hLn
  rw [List.append_nil] at X'
  obtain ⟨t2, a1, b1⟩ := kk T' (by rw [e1, hh, h0]) X'
  exact ⟨t2, st t2 a1, b1⟩
/-- a static method that changes nothing -/
theorem kPS (S : CallFix p m c cc nL s args w own) (hM : CP l y wy rmy As k vv f v) (n : Nat) (hG : GoodIn w (va_wsS own index y wy)) (hw : wy = Cond.code y bytes maxL rety :: wy')
    (hd : y.cls = C ∧ y.cls ≠ "java/lang/invoke/MethodHandle" ∧ y.cls ≠ "java/lang/invoke/VarHandle" ∧ (parseMethodDescriptor y.desc).map (fun d => d.parameters.length) = some n)
    (hrc : rmy.cells = 0 ∧ rmy.slots = 0) (hRm : rmy.frames + 1 ≤ R.frames ∧ 8 + (maxL + 11) + rmy.locals ≤ R.locals) (hcs : cells ≤ R.cells ∧ slots ≤ R.slots) (hF : ∀ U : State, U.heap = H → s.WarmedH U.vm → SF k vv f nobody U) (hls : ls.size = nL) (hn1 : As.length = n) (hst : st0 = As.reverse ++ rest) (hst1 : v.toList ++ rest = st1) (hro : (rest.map fun v => v.category).sum ≤ 8) (hdg : decode cc pc = .ok (.invokestatic index, 3))
    (kk : W p l e R s m args below meth c H locs cells slots Q (F0 m (pc + 3) ls st1)) : W p l e R s m args below meth c H locs cells slots Q (F0 m pc ls st0) := by
  refine kP0 (va_runS (As := As) S hM (va_cwS n S.2.2.2.2 hG hw hrc.1 hrc.2 hd.2 hRm) ⟨fun a U g mk h => ⟨h.1, h.2.calling⟩, fun U hU hW => ⟨rfl, hF U hU hW⟩⟩ rfl hn1 hls hst (lv_room hro) hdg ⟨hcs.1, hcs.2⟩) (by rw [hst1]; exact kk)
/-- a method of the literal that changes nothing -/
theorem kPV (S : CallFix p m c cc nL s args w own) (hM : CP l y wy rmy (.ref b :: As) k vv f v) (n : Nat) (hG : GoodIn w (wsV own index C y wy)) (hw : wy = Cond.code y bytes maxL rety :: wy')
    (hd : y.cls = C ∧ y.cls ≠ "java/lang/invoke/MethodHandle" ∧ y.cls ≠ "java/lang/invoke/VarHandle" ∧ (parseMethodDescriptor y.desc).map (fun d => d.parameters.length) = some n)
    (hrc : rmy.cells = 0 ∧ rmy.slots = 0) (hRm : rmy.frames + 1 ≤ R.frames ∧ 8 + (maxL + 11) + rmy.locals ≤ R.locals) (hcs : cells ≤ R.cells ∧ slots ≤ R.slots) (hF : ∀ U : State, U.heap = H → s.WarmedH U.vm → SF k vv f nobody U) (hrecv : ∃ cellB : Cell, H[b]? = some cellB ∧ cellB.vm.isStatics = false ∧ s.vm.findClass C = some cellB.cls) (hls : ls.size = nL) (hn1 : As.length = n) (hst : st0 = As.reverse ++ .ref b :: rest) (hst1 : v.toList ++ rest = st1) (hro : (rest.map fun v => v.category).sum ≤ 8) (hdg : decode cc pc = .ok (.invokevirtual index, 3))
    (kk : W p l e R s m args below meth c H locs cells slots Q (F0 m (pc + 3) ls st1)) : W p l e R s m args below meth c H locs cells slots Q (F0 m pc ls st0) := by
  refine kP0 (va_runV (As := As) (b := b) (C := C) S hM (cwV n S.2.2.2.2 hG hw hrc.1 hrc.2 hd hRm) ⟨fun a U g mk h => ⟨h.1, h.2.calling⟩, hrecv, fun U hU hW => ⟨rfl, hF U hU hW⟩⟩ rfl hn1 hls hst (lv_room hro) hdg ⟨hcs.1, hcs.2⟩) (by rw [hst1]; exact kk)
end SCALL
theorem SF.recv {k v : Nat} {f : Option Nat} {s : State} (h : SF k v f nobody s) : ∃ cell : Cell, s.heap[k]? = some cell ∧ cell.vm.isStatics = false ∧ s.vm.findClass "java/lang/String" = some cell.cls := by
  obtain ⟨cell, h1, h2, h3, -⟩ := h.1
  exact ⟨cell, h1, h2, h3⟩
theorem hdJ3_checkIndex_8e157 : yJ3_checkIndex_8e157.cls = RJ3 ∧ yJ3_checkIndex_8e157.cls ≠ "java/lang/invoke/MethodHandle" ∧ yJ3_checkIndex_8e157.cls ≠ "java/lang/invoke/VarHandle" ∧ (parseMethodDescriptor yJ3_checkIndex_8e157.desc).map (fun d => d.parameters.length) = some 3 := by decide +kernel
theorem hdJ0_checkIndex_df160 : yJ0_checkIndex_df160.cls = RJ0 ∧ yJ0_checkIndex_df160.cls ≠ "java/lang/invoke/MethodHandle" ∧ yJ0_checkIndex_df160.cls ≠ "java/lang/invoke/VarHandle" ∧ (parseMethodDescriptor yJ0_checkIndex_df160.desc).map (fun d => d.parameters.length) = some 2 := by decide +kernel
theorem hdJ1_charAt_3b067 : yJ1_charAt_3b067.cls = RJ1 ∧ yJ1_charAt_3b067.cls ≠ "java/lang/invoke/MethodHandle" ∧ yJ1_charAt_3b067.cls ≠ "java/lang/invoke/VarHandle" ∧ (parseMethodDescriptor yJ1_charAt_3b067.desc).map (fun d => d.parameters.length) = some 2 := by decide +kernel
theorem hdJ0_coder_7d493 : yJ0_coder_7d493.cls = RJ0 ∧ yJ0_coder_7d493.cls ≠ "java/lang/invoke/MethodHandle" ∧ yJ0_coder_7d493.cls ≠ "java/lang/invoke/VarHandle" ∧ (parseMethodDescriptor yJ0_coder_7d493.desc).map (fun d => d.parameters.length) = some 0 := by decide +kernel
theorem hdJ0_isLatin1_aae02 : yJ0_isLatin1_aae02.cls = RJ0 ∧ yJ0_isLatin1_aae02.cls ≠ "java/lang/invoke/MethodHandle" ∧ yJ0_isLatin1_aae02.cls ≠ "java/lang/invoke/VarHandle" ∧ (parseMethodDescriptor yJ0_isLatin1_aae02.desc).map (fun d => d.parameters.length) = some 0 := by decide +kernel
theorem hdJ0_length_8abf5 : yJ0_length_8abf5.cls = RJ0 ∧ yJ0_length_8abf5.cls ≠ "java/lang/invoke/MethodHandle" ∧ yJ0_length_8abf5.cls ≠ "java/lang/invoke/VarHandle" ∧ (parseMethodDescriptor yJ0_length_8abf5.desc).map (fun d => d.parameters.length) = some 0 := by decide +kernel
theorem hdJ0_charAt_5068e : yJ0_charAt_5068e.cls = RJ0 ∧ yJ0_charAt_5068e.cls ≠ "java/lang/invoke/MethodHandle" ∧ yJ0_charAt_5068e.cls ≠ "java/lang/invoke/VarHandle" ∧ (parseMethodDescriptor yJ0_charAt_5068e.desc).map (fun d => d.parameters.length) = some 1 := by decide +kernel
noncomputable def rmJ3c : Room := { frames := 0, cells := 0, slots := 0, locals := 0 }
set_option maxHeartbeats 4000000 in
set_option maxRecDepth 100000 in
theorem c_J3_check (l : Launch) (k v : Nat) (f : Option Nat) (i n : Int32) (h1 : ¬ i < 0) (h2 : i < n) : CP l yJ3_checkIndex_8e157 wsJ3_checkIndex_8e157 rmJ3c [.int i, .int n, va_rf f] k v f (some (.int i)) := by
  cases f with
  | none =>
    refine CP.start (cc := cJ3_checkIndex_8e157) (maxL := 3) (ret := some .int) (by decide) rfl (Nat.le_of_ble_eq_true rfl) ?_
    intro p e s m below meth c Z hS ls hl
    have hl : lv_has ls 3 [(0, .int i), (1, .int n), (2, .null)] := hl
    obtain ⟨hx, hb, hml, hown, hts, hr, hlk, hF⟩ := id Z
    obtain ⟨f1, f2, f3, f4, f5, f6, f7⟩ := id hF
    refine lv_iload_n hx hb dJ3_checkIndex_8e157_0 rfl (lv_at hl 0 rfl) ?_
    refine lv_if_lt (tgt := 9) hx hb dJ3_checkIndex_8e157_1 (by decide) (fun hc => absurd hc h1) (fun _ => ?_)
    refine lv_iload_n hx hb dJ3_checkIndex_8e157_4 rfl (lv_at hl 0 rfl) ?_
    refine lv_iload_n hx hb dJ3_checkIndex_8e157_5 rfl (lv_at hl 1 rfl) ?_
    refine lv_icmp_lt (tgt := 16) hx hb dJ3_checkIndex_8e157_6 (by decide) (fun _ => ?_) (fun hc => absurd h2 hc)
    refine lv_iload_n hx hb dJ3_checkIndex_8e157_16 rfl (lv_at hl 0 rfl) ?_
    exact CP.nret Z rfl dJ3_checkIndex_8e157_17
  | some t =>
    refine CP.start (cc := cJ3_checkIndex_8e157) (maxL := 3) (ret := some .int) (by decide) rfl (Nat.le_of_ble_eq_true rfl) ?_
    intro p e s m below meth c Z hS ls hl
    have hl : lv_has ls 3 [(0, .int i), (1, .int n), (2, .ref t)] := hl
    obtain ⟨hx, hb, hml, hown, hts, hr, hlk, hF⟩ := id Z
    obtain ⟨f1, f2, f3, f4, f5, f6, f7⟩ := id hF
    refine lv_iload_n hx hb dJ3_checkIndex_8e157_0 rfl (lv_at hl 0 rfl) ?_
    refine lv_if_lt (tgt := 9) hx hb dJ3_checkIndex_8e157_1 (by decide) (fun hc => absurd hc h1) (fun _ => ?_)
    refine lv_iload_n hx hb dJ3_checkIndex_8e157_4 rfl (lv_at hl 0 rfl) ?_
    refine lv_iload_n hx hb dJ3_checkIndex_8e157_5 rfl (lv_at hl 1 rfl) ?_
    refine lv_icmp_lt (tgt := 16) hx hb dJ3_checkIndex_8e157_6 (by decide) (fun _ => ?_) (fun hc => absurd h2 hc)
    refine lv_iload_n hx hb dJ3_checkIndex_8e157_16 rfl (lv_at hl 0 rfl) ?_
    exact CP.nret Z rfl dJ3_checkIndex_8e157_17
noncomputable def rmJ0k : Room := { frames := 1, cells := 0, slots := 0, locals := 22 }
theorem lkJ0k : Cond.fieldLink RJ0 1053 "jdk/internal/util/Preconditions" "SIOOBE_FORMATTER" "Ljava/util/function/BiFunction;" ∈ wsJ0_checkIndex_df160 := by decide +kernel
set_option maxHeartbeats 4000000 in
set_option maxRecDepth 100000 in
theorem c_J0_check (l : Launch) (k v : Nat) (f : Option Nat) (i n : Int32) (h1 : ¬ i < 0) (h2 : i < n) : CP l yJ0_checkIndex_df160 wsJ0_checkIndex_df160 rmJ0k [.int i, .int n] k v f none := by
  refine CP.start (cc := cJ0_checkIndex_df160) (maxL := 2) (ret := none) (by decide) rfl (Nat.le_of_ble_eq_true rfl) ?_
  intro p e s m below meth c Z hS ls hl
  have hl : lv_has ls 2 [(0, .int i), (1, .int n)] := hl
  obtain ⟨hx, hb, hml, hown, hts, hr, hlk, hF⟩ := id Z
  obtain ⟨f1, f2, f3, f4, f5, f6, f7⟩ := id hF
  refine lv_iload_n hx hb dJ0_checkIndex_df160_0 rfl (lv_at hl 0 rfl) ?_
  refine lv_iload_n hx hb dJ0_checkIndex_df160_1 rfl (lv_at hl 1 rfl) ?_
  refine va_gets hx hb f6 hS hown (hts _ lkJ0k) (fun _ h9 => h9) dJ0_checkIndex_df160_2 ?_
  refine kPS (rest := []) (st1 := [.int i]) ⟨hx, hb, hml, hown, hts⟩ (c_J3_check l k v f i n h1 h2) 3 gJ0_checkIndex_df160_J3_checkIndex_8e157 rfl hdJ3_checkIndex_8e157 ⟨rfl, rfl⟩ ⟨Nat.le_of_ble_eq_true rfl, Nat.le_of_ble_eq_true rfl⟩ ⟨Nat.zero_le _, Nat.zero_le _⟩ (fun U hU hW => hF.go rfl hS hU hW (fun _ h => h)) hl.1 rfl rfl rfl (Nat.le_of_ble_eq_true rfl) dJ0_checkIndex_df160_5 ?_
  refine lv_pop hx hb dJ0_checkIndex_df160_8 rfl ?_
  exact CP.vret Z dJ0_checkIndex_df160_9
noncomputable def rmJ1c : Room := { frames := 2, cells := 0, slots := 0, locals := 43 }
set_option maxHeartbeats 4000000 in
set_option maxRecDepth 100000 in
theorem c_J1_charAt (l : Launch) (k v : Nat) (f : Option Nat) (j : Nat) (hj : j < 5) : CP l yJ1_charAt_3b067 wsJ1_charAt_3b067 rmJ1c [.ref v, .int (nI j)] k v f (some (.int (kb j))) := by
  refine CP.start (cc := cJ1_charAt_3b067) (maxL := 2) (ret := some .char) (by decide) rfl (Nat.le_of_ble_eq_true rfl) ?_
  intro p e s m below meth c Z hS ls hl
  have hl : lv_has ls 2 [(0, .ref v), (1, .int (nI j))] := hl
  obtain ⟨hx, hb, hml, hown, hts, hr, hlk, hF⟩ := id Z
  obtain ⟨f1, f2, f3, f4, f5, f6, f7⟩ := id hF
  refine lv_iload_n hx hb dJ1_charAt_3b067_0 rfl (lv_at hl 1 rfl) ?_
  refine lv_aload_n hx hb dJ1_charAt_3b067_1 rfl (lv_at hl 0 rfl) ?_
  refine va_tlen hx hb f4 hS (v := 5) rfl dJ1_charAt_3b067_2 ?_
  refine kPS (rest := []) (st1 := []) ⟨hx, hb, hml, hown, hts⟩ (c_J0_check l k v f (nI j) 5 (nI_pos (by omega)) (nI_lt hj (by decide))) 2 gJ1_charAt_3b067_J0_checkIndex_df160 rfl hdJ0_checkIndex_df160 ⟨rfl, rfl⟩ ⟨Nat.le_of_ble_eq_true rfl, Nat.le_of_ble_eq_true rfl⟩ ⟨Nat.zero_le _, Nat.zero_le _⟩ (fun U hU hW => hF.go rfl hS hU hW (fun _ h => h)) hl.1 rfl rfl rfl (Nat.le_of_ble_eq_true rfl) dJ1_charAt_3b067_3 ?_
  refine lv_aload_n hx hb dJ1_charAt_3b067_6 rfl (lv_at hl 0 rfl) ?_
  refine lv_iload_n hx hb dJ1_charAt_3b067_7 rfl (lv_at hl 1 rfl) ?_
  refine va_tb hx hb f4 hS (vp_in_nI hj (by decide)) (v := .int (kb j)) (by show Value.int (kb (nI j).toNatClampNeg) = _; rw [nI_clamp (by omega)]) dJ1_charAt_3b067_8 ?_
  refine lv_sipush (v := 255) hx hb dJ1_charAt_3b067_9 (by decide) ?_
  refine lv_iand hx hb dJ1_charAt_3b067_12 ?_
  refine lv_i2c (v := kb j) hx hb dJ1_charAt_3b067_13 (by rcases (show j = 0 ∨ j = 1 ∨ j = 2 ∨ j = 3 ∨ j = 4 by omega) with rfl | rfl | rfl | rfl | rfl <;> decide) ?_
  exact CP.nret Z (by rcases (show j = 0 ∨ j = 1 ∨ j = 2 ∨ j = 3 ∨ j = 4 by omega) with rfl | rfl | rfl | rfl | rfl <;> rfl) dJ1_charAt_3b067_14
theorem lkJ0_coder_38 : Cond.fieldLink RJ0 38 "java/lang/String" "COMPACT_STRINGS" "Z" ∈ wsJ0_coder_7d493 := by decide +kernel
theorem lkJ0_coder_15 : Cond.fieldLink RJ0 15 "java/lang/String" "coder" "B" ∈ wsJ0_coder_7d493 := by decide +kernel
noncomputable def rmJ0_coder : Room := { frames := 0, cells := 0, slots := 0, locals := 0 }
theorem lkJ0_isLatin1_38 : Cond.fieldLink RJ0 38 "java/lang/String" "COMPACT_STRINGS" "Z" ∈ wsJ0_isLatin1_aae02 := by decide +kernel
theorem lkJ0_isLatin1_15 : Cond.fieldLink RJ0 15 "java/lang/String" "coder" "B" ∈ wsJ0_isLatin1_aae02 := by decide +kernel
noncomputable def rmJ0_isLatin1 : Room := { frames := 0, cells := 0, slots := 0, locals := 0 }
set_option maxHeartbeats 4000000 in
set_option maxRecDepth 100000 in
theorem c_J0_coder (l : Launch) (k v : Nat) (f : Option Nat)  : CP l yJ0_coder_7d493 wsJ0_coder_7d493 rmJ0_coder [.ref k] k v f (some (.int 0)) := by
  refine CP.start (cc := cJ0_coder_7d493) (maxL := 1) (ret := some .byte) (by decide) rfl (Nat.le_of_ble_eq_true rfl) ?_
  intro p e s m below meth c Z hS ls hl
  have hl : lv_has ls 1 [(0, .ref k)] := hl
  obtain ⟨hx, hb, hml, hown, hts, hr, hlk, hF⟩ := id Z
  obtain ⟨f1, f2, f3, f4, f5, f6, f7⟩ := id hF
  refine va_gets hx hb f5 hS hown (hts _ lkJ0_coder_38) (fun _ h9 => h9) dJ0_coder_7d493_0 ?_
  refine lv_if_eq (tgt := 13) hx hb dJ0_coder_7d493_3 (by decide) (fun hc => absurd hc (by decide)) (fun _ => ?_)
  refine lv_aload_n hx hb dJ0_coder_7d493_6 rfl (lv_at hl 0 rfl) ?_
  refine vk_getf hx hb f2 hS hown (hts _ lkJ0_coder_15) (fun _ h9 => h9) dJ0_coder_7d493_7 ?_
  refine lv_goto (tgt := 14) hx hb dJ0_coder_7d493_10 (by decide) ?_
  exact CP.nret Z rfl dJ0_coder_7d493_14
set_option maxHeartbeats 4000000 in
set_option maxRecDepth 100000 in
theorem c_J0_isLatin1 (l : Launch) (k v : Nat) (f : Option Nat)  : CP l yJ0_isLatin1_aae02 wsJ0_isLatin1_aae02 rmJ0_isLatin1 [.ref k] k v f (some (.int 1)) := by
  refine CP.start (cc := cJ0_isLatin1_aae02) (maxL := 1) (ret := some .boolean) (by decide) rfl (Nat.le_of_ble_eq_true rfl) ?_
  intro p e s m below meth c Z hS ls hl
  have hl : lv_has ls 1 [(0, .ref k)] := hl
  obtain ⟨hx, hb, hml, hown, hts, hr, hlk, hF⟩ := id Z
  obtain ⟨f1, f2, f3, f4, f5, f6, f7⟩ := id hF
  refine va_gets hx hb f5 hS hown (hts _ lkJ0_isLatin1_38) (fun _ h9 => h9) dJ0_isLatin1_aae02_0 ?_
  refine lv_if_eq (tgt := 17) hx hb dJ0_isLatin1_aae02_3 (by decide) (fun hc => absurd hc (by decide)) (fun _ => ?_)
  refine lv_aload_n hx hb dJ0_isLatin1_aae02_6 rfl (lv_at hl 0 rfl) ?_
  refine vk_getf hx hb f2 hS hown (hts _ lkJ0_isLatin1_15) (fun _ h9 => h9) dJ0_isLatin1_aae02_7 ?_
  refine lv_if_ne (tgt := 17) hx hb dJ0_isLatin1_aae02_10 (by decide) (fun hc => absurd rfl hc) (fun _ => ?_)
  refine lv_iconst (v := 1) hx hb dJ0_isLatin1_aae02_13 (by decide) ?_
  refine lv_goto (tgt := 18) hx hb dJ0_isLatin1_aae02_14 (by decide) ?_
  exact CP.nret Z rfl dJ0_isLatin1_aae02_18
theorem lkJ0_length_9 : Cond.fieldLink RJ0 9 "java/lang/String" "value" "[B" ∈ wsJ0_length_8abf5 := by decide +kernel
noncomputable def rmJ0_length : Room := { frames := 1, cells := 0, slots := 0, locals := 20 }
set_option maxHeartbeats 4000000 in
set_option maxRecDepth 100000 in
theorem c_J0_length (l : Launch) (k v : Nat) (f : Option Nat)  : CP l yJ0_length_8abf5 wsJ0_length_8abf5 rmJ0_length [.ref k] k v f (some (.int 5)) := by
  refine CP.start (cc := cJ0_length_8abf5) (maxL := 1) (ret := some .int) (by decide) rfl (Nat.le_of_ble_eq_true rfl) ?_
  intro p e s m below meth c Z hS ls hl
  have hl : lv_has ls 1 [(0, .ref k)] := hl
  obtain ⟨hx, hb, hml, hown, hts, hr, hlk, hF⟩ := id Z
  obtain ⟨f1, f2, f3, f4, f5, f6, f7⟩ := id hF
  refine lv_aload_n hx hb dJ0_length_8abf5_0 rfl (lv_at hl 0 rfl) ?_
  refine vk_getf hx hb f3 hS hown (hts _ lkJ0_length_9) (fun _ h9 => h9) dJ0_length_8abf5_1 ?_
  refine va_tlen hx hb f4 hS (v := 5) rfl dJ0_length_8abf5_4 ?_
  refine lv_aload_n hx hb dJ0_length_8abf5_5 rfl (lv_at hl 0 rfl) ?_
  refine kPV (rest := [.int 5]) (st1 := [.int 0, .int 5]) ⟨hx, hb, hml, hown, hts⟩ (c_J0_coder l k v f) 0 gJ0_length_8abf5_J0_coder_7d493 rfl hdJ0_coder_7d493 ⟨rfl, rfl⟩ ⟨Nat.le_of_ble_eq_true rfl, Nat.le_of_ble_eq_true rfl⟩ ⟨Nat.zero_le _, Nat.zero_le _⟩ (fun U hU hW => hF.go rfl hS hU hW (fun _ h => h)) hF.recv hl.1 rfl rfl rfl (Nat.le_of_ble_eq_true rfl) dJ0_length_8abf5_6 ?_
  refine lv_ishr hx hb dJ0_length_8abf5_9 ?_
  exact CP.nret (x := 5) Z rfl dJ0_length_8abf5_10
theorem lkJ0_charAt_9 : Cond.fieldLink RJ0 9 "java/lang/String" "value" "[B" ∈ wsJ0_charAt_5068e := by decide +kernel
noncomputable def rmJ0_charAt : Room := { frames := 3, cells := 0, slots := 0, locals := 64 }
set_option maxHeartbeats 4000000 in
set_option maxRecDepth 100000 in
theorem c_J0_charAt (l : Launch) (k v : Nat) (f : Option Nat) (j : Nat) (hj : j < 5) : CP l yJ0_charAt_5068e wsJ0_charAt_5068e rmJ0_charAt [.ref k, .int (nI j)] k v f (some (.int (kb j))) := by
  refine CP.start (cc := cJ0_charAt_5068e) (maxL := 2) (ret := some .char) (by decide) rfl (Nat.le_of_ble_eq_true rfl) ?_
  intro p e s m below meth c Z hS ls hl
  have hl : lv_has ls 2 [(0, .ref k), (1, .int (nI j))] := hl
  obtain ⟨hx, hb, hml, hown, hts, hr, hlk, hF⟩ := id Z
  obtain ⟨f1, f2, f3, f4, f5, f6, f7⟩ := id hF
  refine lv_aload_n hx hb dJ0_charAt_5068e_0 rfl (lv_at hl 0 rfl) ?_
  refine kPV (rest := []) (st1 := [.int 1]) ⟨hx, hb, hml, hown, hts⟩ (c_J0_isLatin1 l k v f) 0 gJ0_charAt_5068e_J0_isLatin1_aae02 rfl hdJ0_isLatin1_aae02 ⟨rfl, rfl⟩ ⟨Nat.le_of_ble_eq_true rfl, Nat.le_of_ble_eq_true rfl⟩ ⟨Nat.zero_le _, Nat.zero_le _⟩ (fun U hU hW => hF.go rfl hS hU hW (fun _ h => h)) hF.recv hl.1 rfl rfl rfl (Nat.le_of_ble_eq_true rfl) dJ0_charAt_5068e_1 ?_
  refine lv_if_eq (tgt := 16) hx hb dJ0_charAt_5068e_4 (by decide) (fun hc => absurd hc (by decide)) (fun _ => ?_)
  refine lv_aload_n hx hb dJ0_charAt_5068e_7 rfl (lv_at hl 0 rfl) ?_
  refine vk_getf hx hb f3 hS hown (hts _ lkJ0_charAt_9) (fun _ h9 => h9) dJ0_charAt_5068e_8 ?_
  refine lv_iload_n hx hb dJ0_charAt_5068e_11 rfl (lv_at hl 1 rfl) ?_
  refine kPS (rest := []) (st1 := [.int (kb j)]) ⟨hx, hb, hml, hown, hts⟩ (c_J1_charAt l k v f j hj) 2 gJ0_charAt_5068e_J1_charAt_3b067 rfl hdJ1_charAt_3b067 ⟨rfl, rfl⟩ ⟨Nat.le_of_ble_eq_true rfl, Nat.le_of_ble_eq_true rfl⟩ ⟨Nat.zero_le _, Nat.zero_le _⟩ (fun U hU hW => hF.go rfl hS hU hW (fun _ h => h)) hl.1 rfl rfl rfl (Nat.le_of_ble_eq_true rfl) dJ0_charAt_5068e_12 ?_
  exact CP.nret Z (by rcases (show j = 0 ∨ j = 1 ∨ j = 2 ∨ j = 3 ∨ j = 4 by omega) with rfl | rfl | rfl | rfl | rfl <;> rfl) dJ0_charAt_5068e_15
noncomputable def f_kind (x : Int32) : Int32 := if 103 = x then 0 else if 99 = x then 1 else if 116 = x then 2 else if 112 = x then 3 else if 108 = x then 4 else -1
noncomputable def f_X4_kindOf (x : Int32) : Option Int32 := some (f_kind x)
noncomputable def rmX4_kindOf : Room := { frames := 4, cells := 0, slots := 0, locals := 85 }
set_option maxHeartbeats 4000000 in
set_option maxRecDepth 100000 in
theorem c_X4_kindOf0 (l : Launch) (k v : Nat) (f : Option Nat) (x : Int32) : CP l yX4_kindOf wsX4_kindOf rmX4_kindOf [.int x] k v f (some (.int (f_kind x))) := by
  refine CP.start (cc := cX4_kindOf) (maxL := 2) (ret := some .int) (by decide) rfl (Nat.le_of_ble_eq_true rfl) ?_
  intro p e s m below meth c Z hS ls hl
  have hl : lv_has ls 2 [(0, .int x)] := hl
  obtain ⟨hx, hb, hml, hown, hts, hr, hlk, hF⟩ := id Z
  obtain ⟨f1, f2, f3, f4, f5, f6, f7⟩ := id hF
  refine lv_iconst (v := nI 0) hx hb dX4_kindOf_0 (by decide) ?_
  refine lv_istore_n (lv' := [(1, .int (nI 0)), (0, .int x)]) hx hb dX4_kindOf_1 rfl hl (by decide) rfl (fun ls hl => ?_)
  refine lv_iload_n hx hb dX4_kindOf_2 rfl (lv_at hl 0 rfl) ?_
  refine va_ldcS hx hb hown f7 dX4_kindOf_3 ?_
  refine kPV (rest := [.int (nI 0)]) (st1 := [.int 5, .int (nI 0)]) ⟨hx, hb, hml, hown, hts⟩ (c_J0_length l k v f) 0 gX4_kindOf_J0_length_8abf5 rfl hdJ0_length_8abf5 ⟨rfl, rfl⟩ ⟨Nat.le_of_ble_eq_true rfl, Nat.le_of_ble_eq_true rfl⟩ ⟨Nat.zero_le _, Nat.zero_le _⟩ (fun U hU hW => hF.go rfl hS hU hW (fun _ h => h)) hF.recv hl.1 rfl rfl rfl (Nat.le_of_ble_eq_true rfl) dX4_kindOf_5 ?_
  refine lv_icmp_ge (tgt := 29) hx hb dX4_kindOf_8 (by decide) (fun hc => absurd hc (by decide)) (fun _ => ?_)
  refine va_ldcS hx hb hown f7 dX4_kindOf_11 ?_
  refine lv_iload_n hx hb dX4_kindOf_13 rfl (lv_at hl 0 rfl) ?_
  refine kPV (rest := []) (st1 := [.int (kb 0)]) ⟨hx, hb, hml, hown, hts⟩ (c_J0_charAt l k v f 0 (by decide)) 1 gX4_kindOf_J0_charAt_5068e rfl hdJ0_charAt_5068e ⟨rfl, rfl⟩ ⟨Nat.le_of_ble_eq_true rfl, Nat.le_of_ble_eq_true rfl⟩ ⟨Nat.zero_le _, Nat.zero_le _⟩ (fun U hU hW => hF.go rfl hS hU hW (fun _ h => h)) hF.recv hl.1 rfl rfl rfl (Nat.le_of_ble_eq_true rfl) dX4_kindOf_14 ?_
  refine lv_iload_n hx hb dX4_kindOf_17 rfl (lv_at hl 1 rfl) ?_
  refine lv_icmp_ne (tgt := 23) hx hb dX4_kindOf_18 (by decide) (fun hc0 => ?_) (fun hc0 => by
      have hc0 : 103 = x := hc0
      refine lv_iload_n hx hb dX4_kindOf_21 rfl (lv_at hl 0 rfl) ?_
      rw [f_kind, if_pos hc0]
      exact CP.nret Z rfl dX4_kindOf_22)
  have hc0 : ¬ 103 = x := hc0
  refine lv_iinc (v := nI 1) (lv' := [(1, .int (nI 1)), (0, .int x)]) hx hb dX4_kindOf_23 hl (k := 0) rfl rfl (by decide) rfl (fun ls hl => ?_)
  refine lv_goto (tgt := 2) hx hb dX4_kindOf_26 (by decide) ?_
  refine lv_iload_n hx hb dX4_kindOf_2 rfl (lv_at hl 0 rfl) ?_
  refine va_ldcS hx hb hown f7 dX4_kindOf_3 ?_
  refine kPV (rest := [.int (nI 1)]) (st1 := [.int 5, .int (nI 1)]) ⟨hx, hb, hml, hown, hts⟩ (c_J0_length l k v f) 0 gX4_kindOf_J0_length_8abf5 rfl hdJ0_length_8abf5 ⟨rfl, rfl⟩ ⟨Nat.le_of_ble_eq_true rfl, Nat.le_of_ble_eq_true rfl⟩ ⟨Nat.zero_le _, Nat.zero_le _⟩ (fun U hU hW => hF.go rfl hS hU hW (fun _ h => h)) hF.recv hl.1 rfl rfl rfl (Nat.le_of_ble_eq_true rfl) dX4_kindOf_5 ?_
  refine lv_icmp_ge (tgt := 29) hx hb dX4_kindOf_8 (by decide) (fun hc => absurd hc (by decide)) (fun _ => ?_)
  refine va_ldcS hx hb hown f7 dX4_kindOf_11 ?_
  refine lv_iload_n hx hb dX4_kindOf_13 rfl (lv_at hl 0 rfl) ?_
  refine kPV (rest := []) (st1 := [.int (kb 1)]) ⟨hx, hb, hml, hown, hts⟩ (c_J0_charAt l k v f 1 (by decide)) 1 gX4_kindOf_J0_charAt_5068e rfl hdJ0_charAt_5068e ⟨rfl, rfl⟩ ⟨Nat.le_of_ble_eq_true rfl, Nat.le_of_ble_eq_true rfl⟩ ⟨Nat.zero_le _, Nat.zero_le _⟩ (fun U hU hW => hF.go rfl hS hU hW (fun _ h => h)) hF.recv hl.1 rfl rfl rfl (Nat.le_of_ble_eq_true rfl) dX4_kindOf_14 ?_
  refine lv_iload_n hx hb dX4_kindOf_17 rfl (lv_at hl 1 rfl) ?_
  refine lv_icmp_ne (tgt := 23) hx hb dX4_kindOf_18 (by decide) (fun hc1 => ?_) (fun hc1 => by
      have hc1 : 99 = x := hc1
      refine lv_iload_n hx hb dX4_kindOf_21 rfl (lv_at hl 0 rfl) ?_
      rw [f_kind, if_neg hc0, if_pos hc1]
      exact CP.nret Z rfl dX4_kindOf_22)
  have hc1 : ¬ 99 = x := hc1
  refine lv_iinc (v := nI 2) (lv' := [(1, .int (nI 2)), (0, .int x)]) hx hb dX4_kindOf_23 hl (k := 0) rfl rfl (by decide) rfl (fun ls hl => ?_)
  refine lv_goto (tgt := 2) hx hb dX4_kindOf_26 (by decide) ?_
  refine lv_iload_n hx hb dX4_kindOf_2 rfl (lv_at hl 0 rfl) ?_
  refine va_ldcS hx hb hown f7 dX4_kindOf_3 ?_
  refine kPV (rest := [.int (nI 2)]) (st1 := [.int 5, .int (nI 2)]) ⟨hx, hb, hml, hown, hts⟩ (c_J0_length l k v f) 0 gX4_kindOf_J0_length_8abf5 rfl hdJ0_length_8abf5 ⟨rfl, rfl⟩ ⟨Nat.le_of_ble_eq_true rfl, Nat.le_of_ble_eq_true rfl⟩ ⟨Nat.zero_le _, Nat.zero_le _⟩ (fun U hU hW => hF.go rfl hS hU hW (fun _ h => h)) hF.recv hl.1 rfl rfl rfl (Nat.le_of_ble_eq_true rfl) dX4_kindOf_5 ?_
  refine lv_icmp_ge (tgt := 29) hx hb dX4_kindOf_8 (by decide) (fun hc => absurd hc (by decide)) (fun _ => ?_)
  refine va_ldcS hx hb hown f7 dX4_kindOf_11 ?_
  refine lv_iload_n hx hb dX4_kindOf_13 rfl (lv_at hl 0 rfl) ?_
  refine kPV (rest := []) (st1 := [.int (kb 2)]) ⟨hx, hb, hml, hown, hts⟩ (c_J0_charAt l k v f 2 (by decide)) 1 gX4_kindOf_J0_charAt_5068e rfl hdJ0_charAt_5068e ⟨rfl, rfl⟩ ⟨Nat.le_of_ble_eq_true rfl, Nat.le_of_ble_eq_true rfl⟩ ⟨Nat.zero_le _, Nat.zero_le _⟩ (fun U hU hW => hF.go rfl hS hU hW (fun _ h => h)) hF.recv hl.1 rfl rfl rfl (Nat.le_of_ble_eq_true rfl) dX4_kindOf_14 ?_
  refine lv_iload_n hx hb dX4_kindOf_17 rfl (lv_at hl 1 rfl) ?_
  refine lv_icmp_ne (tgt := 23) hx hb dX4_kindOf_18 (by decide) (fun hc2 => ?_) (fun hc2 => by
      have hc2 : 116 = x := hc2
      refine lv_iload_n hx hb dX4_kindOf_21 rfl (lv_at hl 0 rfl) ?_
      rw [f_kind, if_neg hc0, if_neg hc1, if_pos hc2]
      exact CP.nret Z rfl dX4_kindOf_22)
  have hc2 : ¬ 116 = x := hc2
  refine lv_iinc (v := nI 3) (lv' := [(1, .int (nI 3)), (0, .int x)]) hx hb dX4_kindOf_23 hl (k := 0) rfl rfl (by decide) rfl (fun ls hl => ?_)
  refine lv_goto (tgt := 2) hx hb dX4_kindOf_26 (by decide) ?_
  refine lv_iload_n hx hb dX4_kindOf_2 rfl (lv_at hl 0 rfl) ?_
  refine va_ldcS hx hb hown f7 dX4_kindOf_3 ?_
  refine kPV (rest := [.int (nI 3)]) (st1 := [.int 5, .int (nI 3)]) ⟨hx, hb, hml, hown, hts⟩ (c_J0_length l k v f) 0 gX4_kindOf_J0_length_8abf5 rfl hdJ0_length_8abf5 ⟨rfl, rfl⟩ ⟨Nat.le_of_ble_eq_true rfl, Nat.le_of_ble_eq_true rfl⟩ ⟨Nat.zero_le _, Nat.zero_le _⟩ (fun U hU hW => hF.go rfl hS hU hW (fun _ h => h)) hF.recv hl.1 rfl rfl rfl (Nat.le_of_ble_eq_true rfl) dX4_kindOf_5 ?_
  refine lv_icmp_ge (tgt := 29) hx hb dX4_kindOf_8 (by decide) (fun hc => absurd hc (by decide)) (fun _ => ?_)
  refine va_ldcS hx hb hown f7 dX4_kindOf_11 ?_
  refine lv_iload_n hx hb dX4_kindOf_13 rfl (lv_at hl 0 rfl) ?_
  refine kPV (rest := []) (st1 := [.int (kb 3)]) ⟨hx, hb, hml, hown, hts⟩ (c_J0_charAt l k v f 3 (by decide)) 1 gX4_kindOf_J0_charAt_5068e rfl hdJ0_charAt_5068e ⟨rfl, rfl⟩ ⟨Nat.le_of_ble_eq_true rfl, Nat.le_of_ble_eq_true rfl⟩ ⟨Nat.zero_le _, Nat.zero_le _⟩ (fun U hU hW => hF.go rfl hS hU hW (fun _ h => h)) hF.recv hl.1 rfl rfl rfl (Nat.le_of_ble_eq_true rfl) dX4_kindOf_14 ?_
  refine lv_iload_n hx hb dX4_kindOf_17 rfl (lv_at hl 1 rfl) ?_
  refine lv_icmp_ne (tgt := 23) hx hb dX4_kindOf_18 (by decide) (fun hc3 => ?_) (fun hc3 => by
      have hc3 : 112 = x := hc3
      refine lv_iload_n hx hb dX4_kindOf_21 rfl (lv_at hl 0 rfl) ?_
      rw [f_kind, if_neg hc0, if_neg hc1, if_neg hc2, if_pos hc3]
      exact CP.nret Z rfl dX4_kindOf_22)
  have hc3 : ¬ 112 = x := hc3
  refine lv_iinc (v := nI 4) (lv' := [(1, .int (nI 4)), (0, .int x)]) hx hb dX4_kindOf_23 hl (k := 0) rfl rfl (by decide) rfl (fun ls hl => ?_)
  refine lv_goto (tgt := 2) hx hb dX4_kindOf_26 (by decide) ?_
  refine lv_iload_n hx hb dX4_kindOf_2 rfl (lv_at hl 0 rfl) ?_
  refine va_ldcS hx hb hown f7 dX4_kindOf_3 ?_
  refine kPV (rest := [.int (nI 4)]) (st1 := [.int 5, .int (nI 4)]) ⟨hx, hb, hml, hown, hts⟩ (c_J0_length l k v f) 0 gX4_kindOf_J0_length_8abf5 rfl hdJ0_length_8abf5 ⟨rfl, rfl⟩ ⟨Nat.le_of_ble_eq_true rfl, Nat.le_of_ble_eq_true rfl⟩ ⟨Nat.zero_le _, Nat.zero_le _⟩ (fun U hU hW => hF.go rfl hS hU hW (fun _ h => h)) hF.recv hl.1 rfl rfl rfl (Nat.le_of_ble_eq_true rfl) dX4_kindOf_5 ?_
  refine lv_icmp_ge (tgt := 29) hx hb dX4_kindOf_8 (by decide) (fun hc => absurd hc (by decide)) (fun _ => ?_)
  refine va_ldcS hx hb hown f7 dX4_kindOf_11 ?_
  refine lv_iload_n hx hb dX4_kindOf_13 rfl (lv_at hl 0 rfl) ?_
  refine kPV (rest := []) (st1 := [.int (kb 4)]) ⟨hx, hb, hml, hown, hts⟩ (c_J0_charAt l k v f 4 (by decide)) 1 gX4_kindOf_J0_charAt_5068e rfl hdJ0_charAt_5068e ⟨rfl, rfl⟩ ⟨Nat.le_of_ble_eq_true rfl, Nat.le_of_ble_eq_true rfl⟩ ⟨Nat.zero_le _, Nat.zero_le _⟩ (fun U hU hW => hF.go rfl hS hU hW (fun _ h => h)) hF.recv hl.1 rfl rfl rfl (Nat.le_of_ble_eq_true rfl) dX4_kindOf_14 ?_
  refine lv_iload_n hx hb dX4_kindOf_17 rfl (lv_at hl 1 rfl) ?_
  refine lv_icmp_ne (tgt := 23) hx hb dX4_kindOf_18 (by decide) (fun hc4 => ?_) (fun hc4 => by
      have hc4 : 108 = x := hc4
      refine lv_iload_n hx hb dX4_kindOf_21 rfl (lv_at hl 0 rfl) ?_
      rw [f_kind, if_neg hc0, if_neg hc1, if_neg hc2, if_neg hc3, if_pos hc4]
      exact CP.nret Z rfl dX4_kindOf_22)
  have hc4 : ¬ 108 = x := hc4
  refine lv_iinc (v := nI 5) (lv' := [(1, .int (nI 5)), (0, .int x)]) hx hb dX4_kindOf_23 hl (k := 0) rfl rfl (by decide) rfl (fun ls hl => ?_)
  refine lv_goto (tgt := 2) hx hb dX4_kindOf_26 (by decide) ?_
  refine lv_iload_n hx hb dX4_kindOf_2 rfl (lv_at hl 0 rfl) ?_
  refine va_ldcS hx hb hown f7 dX4_kindOf_3 ?_
  refine kPV (rest := [.int (nI 5)]) (st1 := [.int 5, .int (nI 5)]) ⟨hx, hb, hml, hown, hts⟩ (c_J0_length l k v f) 0 gX4_kindOf_J0_length_8abf5 rfl hdJ0_length_8abf5 ⟨rfl, rfl⟩ ⟨Nat.le_of_ble_eq_true rfl, Nat.le_of_ble_eq_true rfl⟩ ⟨Nat.zero_le _, Nat.zero_le _⟩ (fun U hU hW => hF.go rfl hS hU hW (fun _ h => h)) hF.recv hl.1 rfl rfl rfl (Nat.le_of_ble_eq_true rfl) dX4_kindOf_5 ?_
  refine lv_icmp_ge (tgt := 29) hx hb dX4_kindOf_8 (by decide) (fun _ => ?_) (fun hc => absurd (by decide) hc)
  refine lv_iconst (v := -1) hx hb dX4_kindOf_29 (by decide) ?_
  rw [f_kind, if_neg hc0, if_neg hc1, if_neg hc2, if_neg hc3, if_neg hc4]
  exact CP.nret Z rfl dX4_kindOf_30

