/-! CONSTRUCTORS -/
noncomputable def KN (U : State) : Prop := va_AO "KeyedFeelings$People" U ∧ va_AO "KeyedFeelings$Sheet" U
theorem KN.moved {u U : State} (hvm : u.vm.Alike U.vm) (h : KN u) : KN U := ⟨va_AO.moved hvm h.1, va_AO.moved hvm h.2⟩
noncomputable def PN (D : va_G) (cA : Nat → ClassId) (h0 : Nat) (e0 : va_E) (sz : Nat) : State → Prop := fun U => U.heap.size = sz ∧ va_P D vwCl [(h0, e0)] U.heap ∧ KK D cA U ∧ KN U ∧ va_D (fun _ => True) [(h0, e0)]
noncomputable def QN {S : Type} (D : va_G) (h0 : Nat) (e0 : va_E) (sz : Nat) (post : S → Prop) (wn : S → va_W) : Array Value → State → Outcome → State → Prop := va_Qv post (fun u t => va_P D vwCl (wn u) t.heap ∧ va_D (va_A [(h0, e0)] sz) (wn u)) (va_A [(h0, e0)] sz)
noncomputable def CN {S : Type} (l : Launch) (D : va_G) (cA : Nat → ClassId) (y : MethodName) (w : List Cond) (rm : Room) (mc ms h0 : Nat) (e0 : va_E) (sz : Nat) (post : S → Prop) (wn : S → va_W) : Prop :=
  Met l y w rm (va_Pc [.ref h0] (PN D cA h0 e0 sz)) (QN D h0 e0 sz post wn) mc ms (va_A [(h0, e0)] sz)
theorem PN.blind {D : va_G} {cA : Nat → ClassId} {h0 : Nat} {e0 : va_E} {sz : Nat} {av : List Value} : FrameBlind (va_Pc av (PN D cA h0 e0 sz)) := by
  intro a U g mk h
  exact ⟨h.1, h.2.1, h.2.2.1, h.2.2.2.1.same rfl, KN.moved (Vm.Alike.refl U.vm) h.2.2.2.2.1, h.2.2.2.2.2⟩
theorem CN.start {S : Type} {l : Launch} {D : va_G} {cA : Nat → ClassId} {y : MethodName} {w w' : List Cond} {rm : Room} {mc ms h0 : Nat} {e0 : va_E} {sz : Nat} {post : S → Prop} {wn : S → va_W} {cc : ByteArray} {maxL : Nat}
    (hy : plainName y.cls = true) (hyn : y.name = "<init>") (hw : w = Cond.code y cc maxL none :: w') (hlen : (lg_sl [.ref h0]).length ≤ maxL)
    (body : ∀ (p : Program) (e : Env) (s : State) (m : MethodId) (below : List Frame) (meth : Method) (c : Code) (A : Nat → Prop), Cx p s m ([.ref h0] : List Value).toArray meth c cc maxL none w y.cls D cA → KN s → meth.name = "<init>" → va_P D vwCl [(h0, e0)] s.heap → va_D A [(h0, e0)] → va_S A s.heap s.heap [] → (∀ q : Nat, s.heap.size ≤ q → A q) → ∀ ls : Array Slot, lv_has ls maxL [(0, .ref h0)] →
      (∀ (u : S) (H : Heap) (locs : List Loc) (ls : Array Slot) (pc : Nat), post u → va_P D vwCl (wn u) H → va_D A (wn u) → va_S A s.heap H locs → decode cc pc = .ok (.return_, 1) → W p l e rm s m ([.ref h0] : List Value).toArray below meth c H locs mc ms (MQ below (QN D h0 e0 sz post wn) ([.ref h0] : List Value).toArray s mc ms (va_A [(h0, e0)] sz)) (F0 m pc ls [])) →
      W p l e rm s m ([.ref h0] : List Value).toArray below meth c s.heap [] 0 0 (MQ below (QN D h0 e0 sz post wn) ([.ref h0] : List Value).toArray s mc ms (va_A [(h0, e0)] sz)) (F0 m 0 ls [])) : CN l D cA y w rm mc ms h0 e0 sz post wn := by
  refine Met.ofW (cc := cc) (maxL := maxL) (ret := none) hy hw ?_
  intro p e s m args below meth c s₁ B hml hv
  obtain ⟨rfl, hsz, hP, hK, hN, hD⟩ := hv
  subst hsz
  rw [lg_entry_eq]
  have hname : meth.name = "<init>" := (name_of_methodNamed B.named B.method).1.trans hyn
  refine body p e s m below meth c (va_A [(h0, e0)] s.heap.size) ⟨B.exec, B.bytes, hml, findClass_of_methodNamed B.named, atoms_spec (ws := w) B.pre, B.returns, B.notSynchronized, hK⟩ hN hname hP hD.self va_S.rf (fun q h => Or.inr h) _ (lv_entry [.ref h0] hlen) ?_
  intro u H locs ls pc h1 h2 h3 h4 h5
  exact W.vret B.exec B.bytes B.returns (fun t ht hW => ⟨⟨u, rfl, h1, by rw [ht]; exact h2, h3⟩, h4.F ht⟩) h4.2.2 h5 (hlocks := B.notSynchronized)
theorem arrI_same {D : va_G} {cA : Nat → ClassId} {c1 : ClassId} {s : State} (hK : va_K D vwCl (tysG cA) s) (hK1 : va_K D vwCl (tysG cA ++ [(c1, .int)]) s) : c1 = cA 0 := by
  have h1 : s.vm.findClass ("[" ++ FieldType.int.toString) = some (cA 0) := (hK.2 0 _ rfl).2
  have h2 : s.vm.findClass ("[" ++ FieldType.int.toString) = some c1 := (hK1.2 4 _ rfl).2
  exact Option.some.inj (h2.symm.trans h1)
theorem arrJ_same {D : va_G} {cA : Nat → ClassId} {c1 : ClassId} {s : State} (hK : va_K D vwCl (tysG cA) s) (hK1 : va_K D vwCl (tysG cA ++ [(c1, .long)]) s) : c1 = cA 1 := by
  have h1 : s.vm.findClass ("[" ++ FieldType.long.toString) = some (cA 1) := (hK.2 1 _ rfl).2
  have h2 : s.vm.findClass ("[" ++ FieldType.long.toString) = some c1 := (hK1.2 4 _ rfl).2
  exact Option.some.inj (h2.symm.trans h1)
theorem arrP_same {D : va_G} {cA : Nat → ClassId} {c1 : ClassId} {s : State} (hK : va_K D vwCl (tysG cA) s) (hK1 : va_K D vwCl (tysG cA ++ [(c1, .object "KeyedFeelings$People")]) s) : c1 = cA 2 := by
  obtain ⟨-, -, -, -, -, h1⟩ := (hK.2 2 _ rfl).2
  obtain ⟨-, -, -, -, -, h2⟩ := (hK1.2 4 _ rfl).2
  exact Option.some.inj (h2.symm.trans h1)
theorem arrS_same {D : va_G} {cA : Nat → ClassId} {c1 : ClassId} {s : State} (hK : va_K D vwCl (tysG cA) s) (hK1 : va_K D vwCl (tysG cA ++ [(c1, .object "KeyedFeelings$Sheet")]) s) : c1 = cA 3 := by
  obtain ⟨-, -, -, -, -, h1⟩ := (hK.2 3 _ rfl).2
  obtain ⟨-, -, -, -, -, h2⟩ := (hK1.2 4 _ rfl).2
  exact Option.some.inj (h2.symm.trans h1)
noncomputable def ad (l : List Nat) : Nat → Nat := fun i => l.getD i 0
section NCALL
variable {p : Program} {l : Launch} {e : Env} {R : Room} {s : State} {m : MethodId} {args : Array Value} {below : List Frame} {meth : Method} {c : Code} {H : Heap} {locs : List Loc} {cells slots : Nat} {Q : State → Prop}
variable {pc : Nat} {ls : Array Slot} {rest st0 : List Value} {a : Array Value} {A0 : Nat → Prop} {H0 : Heap} {D : va_G} {cA : Nat → ClassId} {cr : List va_W} {S : Type} {post : S → Prop} {wn : S → va_W} {mc ms h0 : Nat} {e0 : va_E}
theorem ch_new (hr : va_Run p l e R s m args below meth c H locs cells slots mc ms (F0 m pc ls st0) rest (QN D h0 e0 H.size post wn a) (va_A [(h0, e0)] H.size))
    (hP : va_P D vwCl (cr.flatten ++ [(h0, e0)]) H) (hD : va_D A0 (cr.flatten ++ [(h0, e0)])) (hS : va_S A0 H0 H locs) (hA : ∀ q, H0.size ≤ q → A0 q)
    (kk : ∀ (u : S) (H1 : Heap) (locs1 : List Loc), post u → va_P D vwCl (cr ++ [wn u]).flatten H1 → va_D A0 (cr ++ [wn u]).flatten → va_S A0 H0 H1 locs1 → W p l e R s m args below meth c H1 locs1 (cells + mc) (slots + ms) Q (F0 m (pc + 3) ls rest)) :
    W p l e R s m args below meth c H locs cells slots Q (F0 m pc ls st0) := by
  intro T hT X
  obtain ⟨v', st₀, t, T', L, h9, X', hL, e1, e2, ⟨⟨u, hv, hp1, hp, hd⟩, hz, hk⟩, st⟩ := hr T hT X
  cases hv
  rw [h9] at hz hk
  have hD2 := D_iff.mp hD
  have hP2 := P_iff.mp hP
  have hcA : ∀ q, va_A [(h0, e0)] H.size q → A0 q := by
    rintro q (⟨k, e9, h⟩ | h)
    · have hm : (q, e9) ∈ [(h0, e0)] := List.mem_of_getElem? h
      exact hD2.2 _ (List.mem_append_right _ hm)
    · exact hA q (Nat.le_trans hS.1 h)
  have hfar : ∀ q ∈ cr.flatten, q.1 < H.size ∧ ¬ va_A [(h0, e0)] H.size q.1 := by
    intro q hq
    have hlt := (hP2 q (List.mem_append_left _ hq)).lt
    refine ⟨hlt, ?_⟩
    rintro (⟨k, e9, h⟩ | h)
    · have hm : (q.1, e9) ∈ [(h0, e0)] := List.mem_of_getElem? h
      have := (List.pairwise_append.mp hD2.1).2.2 q hq _ hm
      exact this rfl
    · omega
  have hP1 : va_P D vwCl (cr ++ [wn u]).flatten T'.heap := by
    rw [P_iff]
    intro q hq
    rw [List.flatten_append, List.mem_append] at hq
    rcases hq with h | h
    · have h2 := hP2 q (List.mem_append_left _ h)
      refine h2.kept ?_
      rw [e1]
      exact hk _ (hfar q h).1 (hfar q h).2
    · rw [e1]
      exact P_iff.mp hp q (by simpa using h)
  have hD1 : va_D A0 (cr ++ [wn u]).flatten := by
    have hc1 := D_iff.mp hd
    rw [D_iff, List.flatten_append]
    refine ⟨List.pairwise_append.mpr ⟨(List.pairwise_append.mp hD2.1).1, by simpa using hc1.1, fun x hx y hy he => ?_⟩, fun q hq => ?_⟩
    · have hy : y ∈ wn u := by simpa using hy
      exact (hfar x hx).2 (by rw [he]; exact hc1.2 y hy)
    · rcases List.mem_append.mp hq with h | h
      · exact hD2.2 q (List.mem_append_left _ h)
      · exact hcA _ (hc1.2 q (by simpa using h))
  obtain ⟨t2, a1, b1⟩ := kk u T'.heap (locs ++ L) hp1 hP1 hD1
    ⟨Nat.le_trans hS.1 (by rw [e1]; exact hz), fun q h1 h2 => by rw [e1, hk q (Nat.lt_of_lt_of_le h1 hS.1) (fun z => h2 (hcA q z))]; exact hS.2.1 q h1 h2, fun q hq => by
      rcases List.mem_append.mp hq with h | h
      · exact hS.2.2 q h
      · exact hcA _ (hL q h)⟩ T' rfl X'
  exact ⟨t2, st t2 a1, b1⟩
variable {bc : ByteArray} {nL : Nat} {ret : Option FieldType} {w wy wy' : List Cond} {own host : String} {y : MethodName} {rmy : Room} {index maxL : Nat} {bytes : ByteArray}
theorem preN (hK : KK D cA s) (hN : KN s) (hP : va_P D vwCl (cr.flatten ++ [(h0, e0)]) H) : PreS s H (va_Pc [.ref h0] (PN D cA h0 e0 H.size)) (.ref h0 :: []) := by
  refine ⟨PN.blind, fun U hU hW => ⟨rfl, by rw [hU], ?_, hK.warm hW, hN.moved hW.alike, ?_⟩⟩
  · rw [hU, P_iff]
    intro q hq
    exact P_iff.mp hP q (List.mem_append_right _ hq)
  · rw [D_iff]
    exact ⟨List.pairwise_singleton _ _, fun _ _ => trivial⟩
/-- a nest mate's private constructor -/
theorem kIN (Z : Cx p s m args meth c bc nL ret w own D cA) (hN : KN s) (hM : CN l D cA y wy rmy mc ms h0 e0 H.size post wn) (hG : GoodIn w wy) (hw : wy = Cond.code y bytes maxL none :: wy')
    (hd : y.cls ≠ "java/lang/invoke/MethodHandle" ∧ y.cls ≠ "java/lang/invoke/VarHandle" ∧ (parseMethodDescriptor y.desc).map (fun d => d.parameters.length) = some 0) (hyn : y.name = "<init>") (hnk : Cond.methodLinkNest own index y host ∈ nestW) (hi1 : Cond.initialized y.cls ∈ w) (hi2 : Cond.instanceMethod y ∈ w)
    (hrc : rmy.cells = mc ∧ rmy.slots = ms) (hRm : rmy.frames + 1 ≤ R.frames ∧ 8 + (maxL + 11) + rmy.locals ≤ R.locals) (hcs : cells + mc ≤ R.cells ∧ slots + ms ≤ R.slots) (hP : va_P D vwCl (cr.flatten ++ [(h0, e0)]) H) (hD : va_D A0 (cr.flatten ++ [(h0, e0)])) (hS : va_S A0 H0 H locs) (hA : ∀ q, H0.size ≤ q → A0 q) (hls : ls.size = nL) (hst : st0 = .ref h0 :: rest) (hro : (rest.map fun v => v.category).sum ≤ 8) (hdg : decode bc pc = .ok (.invokespecial index, 3))
    (kk : ∀ (u : S) (H1 : Heap) (locs1 : List Loc), post u → va_P D vwCl (cr ++ [wn u]).flatten H1 → va_D A0 (cr ++ [wn u]).flatten → va_S A0 H0 H1 locs1 → W p l e R s m args below meth c H1 locs1 (cells + mc) (slots + ms) Q (F0 m (pc + 3) ls rest)) :
    W p l e R s m args below meth c H locs cells slots Q (F0 m pc ls st0) :=
  ch_new (va_runIN (As := []) ⟨Z.1, Z.2.1, Z.2.2.1, Z.2.2.2.1, Z.2.2.2.2.1⟩ hM ⟨va_cnB 0 Z.2.2.2.2.1 hG hw hrc.1 hrc.2 (Z.2.2.2.2.2.2.2.2 _ hnk) (Z.2.2.2.2.1 _ hi1) hd hRm, hyn, Z.2.2.2.2.1 _ hi2⟩ (preN Z.2.2.2.2.2.2.2 hN hP) rfl rfl hls hst (lv_room hro) hdg hcs) hP hD hS hA kk
end NCALL
noncomputable def st2_0 : St2 := (0, fun _ => 0, fun _ => 0, fun _ => 0, fun _ => 0, 0, 1)
theorem om_X2 : Cond.methodLink RX2 3 objectInit ∈ wsX2_init := by decide +kernel
theorem oi_X2 : Cond.instanceMethod objectInit ∈ wsX2_init := by decide +kernel
theorem oc_X2 : Cond.code objectInit ⟨#[0xb1]⟩ 1 none ∈ wsX2_init := by decide +kernel
theorem lk_X2_init_9 : Cond.fieldLink RX2 9 "KeyedFeelings$People" "size" "I" ∈ wsX2_init := by decide +kernel
theorem in_X2_init_X2 : ∀ w ∈ wsX20, w ∈ wsX2_init := by decide +kernel
theorem ac_X2_I : Cond.arrayClass .int ∈ wsX2_init := by decide +kernel
theorem lk_X2_init_15 : Cond.fieldLink RX2 15 "KeyedFeelings$People" "kinds" "[I" ∈ wsX2_init := by decide +kernel
theorem lk_X2_init_19 : Cond.fieldLink RX2 19 "KeyedFeelings$People" "turns" "[I" ∈ wsX2_init := by decide +kernel
theorem lk_X2_init_22 : Cond.fieldLink RX2 22 "KeyedFeelings$People" "winds" "[I" ∈ wsX2_init := by decide +kernel
theorem lk_X2_init_25 : Cond.fieldLink RX2 25 "KeyedFeelings$People" "keys" "[I" ∈ wsX2_init := by decide +kernel
theorem lk_X2_init_28 : Cond.fieldLink RX2 28 "KeyedFeelings$People" "hour" "I" ∈ wsX2_init := by decide +kernel
theorem lk_X2_init_31 : Cond.fieldLink RX2 31 "KeyedFeelings$People" "draw" "I" ∈ wsX2_init := by decide +kernel
noncomputable def rmX2_init : Room := { frames := 1, cells := 4, slots := 24, locals := 12 }
set_option maxHeartbeats 4000000 in
set_option maxRecDepth 100000 in
theorem c_X2_init (l : Launch) (D : va_G) (cA : Nat → ClassId) (h0 sz : Nat) : CN (S := Nat → Nat) l D cA yX2_init wsX2_init rmX2_init 4 24 h0 (.inr (2, [.int 0, .null, .null, .null, .null, .int 0, .int 0])) sz (fun a => a 0 = h0) (fun a => w2 cA a st2_0) := by
  refine CN.start (cc := cX2_init) (maxL := 1) (by decide) rfl rfl (Nat.le_of_ble_eq_true rfl) ?_
  intro p e s m below meth c A Z hN hname hP hD hS hA ls hl kk
  have Z : Cx p s m _ meth c cX2_init 1 none wsX2_init RX2 D cA := Z
  obtain ⟨hx, hb, hml, hown, hts, hr, hlk, hKK⟩ := id Z
  have hK := hKK.1
  refine lv_aload_n hx hb dX2_init_0 rfl (lv_at hl 0 rfl) ?_
  refine W.objInit hx hb hown (hts _ om_X2) (hts _ oi_X2) (hts _ oc_X2) rfl (by rw [hml]; exact hl.1) rfl dX2_init_1 (Nat.le_of_ble_eq_true rfl) (Nat.le_of_ble_eq_true rfl) ?_
  refine W.eq (g2 := F0 m 4 ls []) rfl ?_
  refine lv_aload_n hx hb dX2_init_4 rfl (lv_at hl 0 rfl) ?_
  refine lv_iconst (v := 0) hx hb dX2_init_5 (by decide) ?_
  refine va_put (D := D) (ci := 2) (v := .int 0) (ty := .int) (C := RX2) (T := TX2) (N := 7) hx hb hts in_X2_init_X2 tyX2 tyX2_ok nmX2 hown hK hP hD hS 0 rfl rfl 0 (by decide) (hts _ lk_X2_init_9) (fun _ h9 => h9) rfl (tyX2_ok 0 (by decide)) rfl rfl (Nat.le_of_ble_eq_true rfl) dX2_init_6 (fun H locs hP hD hS => ?_)
  have hP : va_P D vwCl ([(h0, .inr (2, [.int 0, .null, .null, .null, .null, .int 0, .int 0]))] : va_W) _ := hP
  have hD : va_D A ([(h0, .inr (2, [.int 0, .null, .null, .null, .null, .int 0, .int 0]))] : va_W) := hD
  refine lv_aload_n hx hb dX2_init_9 rfl (lv_at hl 0 rfl) ?_
  refine lv_bipush (v := 6) hx hb dX2_init_10 (by decide) ?_
  refine va_newa (atype := .int) (ty := .int) (a0 := (6, .inl (fun _ => 0))) (N' := 6) hx hb (hts _ ac_X2_I) rfl hK hP hD hS hA (fun _ => rfl) (by decide) (by decide) (by decide) (Nat.le_of_ble_eq_true rfl) (Nat.le_of_ble_eq_true rfl) dX2_init_12 (fun q1 c1 H hK1 hP hD hS => ?_)
  obtain rfl := arrI_same hK hK1
  have hP : va_P D vwCl ([(h0, .inr (2, [.int 0, .null, .null, .null, .null, .int 0, .int 0])), (q1, .inl (cA 0, 6, .inl (fun _ => 0)))] : va_W) _ := hP
  have hD : va_D A ([(h0, .inr (2, [.int 0, .null, .null, .null, .null, .int 0, .int 0])), (q1, .inl (cA 0, 6, .inl (fun _ => 0)))] : va_W) := hD
  refine va_putF (D := D) (ci := 2) (v := .ref q1) (ty := (.array .int)) (C := RX2) (T := TX2) (N := 7) hx hb hts in_X2_init_X2 tyX2 tyX2_ok nmX2 hown hK hP hD hS 0 rfl rfl 1 (by decide) (hts _ lk_X2_init_15) (fun _ h9 => h9) rfl hname rfl (tyX2_ok 1 (by decide)) rfl rfl (Nat.le_of_ble_eq_true rfl) dX2_init_14 (fun H locs hP hD hS => ?_)
  have hP : va_P D vwCl ([(h0, .inr (2, [.int 0, .ref q1, .null, .null, .null, .int 0, .int 0])), (q1, .inl (cA 0, 6, .inl (fun _ => 0)))] : va_W) _ := hP
  have hD : va_D A ([(h0, .inr (2, [.int 0, .ref q1, .null, .null, .null, .int 0, .int 0])), (q1, .inl (cA 0, 6, .inl (fun _ => 0)))] : va_W) := hD
  refine lv_aload_n hx hb dX2_init_17 rfl (lv_at hl 0 rfl) ?_
  refine lv_bipush (v := 6) hx hb dX2_init_18 (by decide) ?_
  refine va_newa (atype := .int) (ty := .int) (a0 := (6, .inl (fun _ => 0))) (N' := 6) hx hb (hts _ ac_X2_I) rfl hK hP hD hS hA (fun _ => rfl) (by decide) (by decide) (by decide) (Nat.le_of_ble_eq_true rfl) (Nat.le_of_ble_eq_true rfl) dX2_init_20 (fun q2 c2 H hK1 hP hD hS => ?_)
  obtain rfl := arrI_same hK hK1
  have hP : va_P D vwCl ([(h0, .inr (2, [.int 0, .ref q1, .null, .null, .null, .int 0, .int 0])), (q1, .inl (cA 0, 6, .inl (fun _ => 0))), (q2, .inl (cA 0, 6, .inl (fun _ => 0)))] : va_W) _ := hP
  have hD : va_D A ([(h0, .inr (2, [.int 0, .ref q1, .null, .null, .null, .int 0, .int 0])), (q1, .inl (cA 0, 6, .inl (fun _ => 0))), (q2, .inl (cA 0, 6, .inl (fun _ => 0)))] : va_W) := hD
  refine va_putF (D := D) (ci := 2) (v := .ref q2) (ty := (.array .int)) (C := RX2) (T := TX2) (N := 7) hx hb hts in_X2_init_X2 tyX2 tyX2_ok nmX2 hown hK hP hD hS 0 rfl rfl 2 (by decide) (hts _ lk_X2_init_19) (fun _ h9 => h9) rfl hname rfl (tyX2_ok 2 (by decide)) rfl rfl (Nat.le_of_ble_eq_true rfl) dX2_init_22 (fun H locs hP hD hS => ?_)
  have hP : va_P D vwCl ([(h0, .inr (2, [.int 0, .ref q1, .ref q2, .null, .null, .int 0, .int 0])), (q1, .inl (cA 0, 6, .inl (fun _ => 0))), (q2, .inl (cA 0, 6, .inl (fun _ => 0)))] : va_W) _ := hP
  have hD : va_D A ([(h0, .inr (2, [.int 0, .ref q1, .ref q2, .null, .null, .int 0, .int 0])), (q1, .inl (cA 0, 6, .inl (fun _ => 0))), (q2, .inl (cA 0, 6, .inl (fun _ => 0)))] : va_W) := hD
  refine lv_aload_n hx hb dX2_init_25 rfl (lv_at hl 0 rfl) ?_
  refine lv_bipush (v := 6) hx hb dX2_init_26 (by decide) ?_
  refine va_newa (atype := .int) (ty := .int) (a0 := (6, .inl (fun _ => 0))) (N' := 6) hx hb (hts _ ac_X2_I) rfl hK hP hD hS hA (fun _ => rfl) (by decide) (by decide) (by decide) (Nat.le_of_ble_eq_true rfl) (Nat.le_of_ble_eq_true rfl) dX2_init_28 (fun q3 c3 H hK1 hP hD hS => ?_)
  obtain rfl := arrI_same hK hK1
  have hP : va_P D vwCl ([(h0, .inr (2, [.int 0, .ref q1, .ref q2, .null, .null, .int 0, .int 0])), (q1, .inl (cA 0, 6, .inl (fun _ => 0))), (q2, .inl (cA 0, 6, .inl (fun _ => 0))), (q3, .inl (cA 0, 6, .inl (fun _ => 0)))] : va_W) _ := hP
  have hD : va_D A ([(h0, .inr (2, [.int 0, .ref q1, .ref q2, .null, .null, .int 0, .int 0])), (q1, .inl (cA 0, 6, .inl (fun _ => 0))), (q2, .inl (cA 0, 6, .inl (fun _ => 0))), (q3, .inl (cA 0, 6, .inl (fun _ => 0)))] : va_W) := hD
  refine va_putF (D := D) (ci := 2) (v := .ref q3) (ty := (.array .int)) (C := RX2) (T := TX2) (N := 7) hx hb hts in_X2_init_X2 tyX2 tyX2_ok nmX2 hown hK hP hD hS 0 rfl rfl 3 (by decide) (hts _ lk_X2_init_22) (fun _ h9 => h9) rfl hname rfl (tyX2_ok 3 (by decide)) rfl rfl (Nat.le_of_ble_eq_true rfl) dX2_init_30 (fun H locs hP hD hS => ?_)
  have hP : va_P D vwCl ([(h0, .inr (2, [.int 0, .ref q1, .ref q2, .ref q3, .null, .int 0, .int 0])), (q1, .inl (cA 0, 6, .inl (fun _ => 0))), (q2, .inl (cA 0, 6, .inl (fun _ => 0))), (q3, .inl (cA 0, 6, .inl (fun _ => 0)))] : va_W) _ := hP
  have hD : va_D A ([(h0, .inr (2, [.int 0, .ref q1, .ref q2, .ref q3, .null, .int 0, .int 0])), (q1, .inl (cA 0, 6, .inl (fun _ => 0))), (q2, .inl (cA 0, 6, .inl (fun _ => 0))), (q3, .inl (cA 0, 6, .inl (fun _ => 0)))] : va_W) := hD
  refine lv_aload_n hx hb dX2_init_33 rfl (lv_at hl 0 rfl) ?_
  refine lv_bipush (v := 6) hx hb dX2_init_34 (by decide) ?_
  refine va_newa (atype := .int) (ty := .int) (a0 := (6, .inl (fun _ => 0))) (N' := 6) hx hb (hts _ ac_X2_I) rfl hK hP hD hS hA (fun _ => rfl) (by decide) (by decide) (by decide) (Nat.le_of_ble_eq_true rfl) (Nat.le_of_ble_eq_true rfl) dX2_init_36 (fun q4 c4 H hK1 hP hD hS => ?_)
  obtain rfl := arrI_same hK hK1
  have hP : va_P D vwCl ([(h0, .inr (2, [.int 0, .ref q1, .ref q2, .ref q3, .null, .int 0, .int 0])), (q1, .inl (cA 0, 6, .inl (fun _ => 0))), (q2, .inl (cA 0, 6, .inl (fun _ => 0))), (q3, .inl (cA 0, 6, .inl (fun _ => 0))), (q4, .inl (cA 0, 6, .inl (fun _ => 0)))] : va_W) _ := hP
  have hD : va_D A ([(h0, .inr (2, [.int 0, .ref q1, .ref q2, .ref q3, .null, .int 0, .int 0])), (q1, .inl (cA 0, 6, .inl (fun _ => 0))), (q2, .inl (cA 0, 6, .inl (fun _ => 0))), (q3, .inl (cA 0, 6, .inl (fun _ => 0))), (q4, .inl (cA 0, 6, .inl (fun _ => 0)))] : va_W) := hD
  refine va_putF (D := D) (ci := 2) (v := .ref q4) (ty := (.array .int)) (C := RX2) (T := TX2) (N := 7) hx hb hts in_X2_init_X2 tyX2 tyX2_ok nmX2 hown hK hP hD hS 0 rfl rfl 4 (by decide) (hts _ lk_X2_init_25) (fun _ h9 => h9) rfl hname rfl (tyX2_ok 4 (by decide)) rfl rfl (Nat.le_of_ble_eq_true rfl) dX2_init_38 (fun H locs hP hD hS => ?_)
  have hP : va_P D vwCl ([(h0, .inr (2, [.int 0, .ref q1, .ref q2, .ref q3, .ref q4, .int 0, .int 0])), (q1, .inl (cA 0, 6, .inl (fun _ => 0))), (q2, .inl (cA 0, 6, .inl (fun _ => 0))), (q3, .inl (cA 0, 6, .inl (fun _ => 0))), (q4, .inl (cA 0, 6, .inl (fun _ => 0)))] : va_W) _ := hP
  have hD : va_D A ([(h0, .inr (2, [.int 0, .ref q1, .ref q2, .ref q3, .ref q4, .int 0, .int 0])), (q1, .inl (cA 0, 6, .inl (fun _ => 0))), (q2, .inl (cA 0, 6, .inl (fun _ => 0))), (q3, .inl (cA 0, 6, .inl (fun _ => 0))), (q4, .inl (cA 0, 6, .inl (fun _ => 0)))] : va_W) := hD
  refine lv_aload_n hx hb dX2_init_41 rfl (lv_at hl 0 rfl) ?_
  refine lv_iconst (v := 0) hx hb dX2_init_42 (by decide) ?_
  refine va_put (D := D) (ci := 2) (v := .int 0) (ty := .int) (C := RX2) (T := TX2) (N := 7) hx hb hts in_X2_init_X2 tyX2 tyX2_ok nmX2 hown hK hP hD hS 0 rfl rfl 5 (by decide) (hts _ lk_X2_init_28) (fun _ h9 => h9) rfl (tyX2_ok 5 (by decide)) rfl rfl (Nat.le_of_ble_eq_true rfl) dX2_init_43 (fun H locs hP hD hS => ?_)
  have hP : va_P D vwCl ([(h0, .inr (2, [.int 0, .ref q1, .ref q2, .ref q3, .ref q4, .int 0, .int 0])), (q1, .inl (cA 0, 6, .inl (fun _ => 0))), (q2, .inl (cA 0, 6, .inl (fun _ => 0))), (q3, .inl (cA 0, 6, .inl (fun _ => 0))), (q4, .inl (cA 0, 6, .inl (fun _ => 0)))] : va_W) _ := hP
  have hD : va_D A ([(h0, .inr (2, [.int 0, .ref q1, .ref q2, .ref q3, .ref q4, .int 0, .int 0])), (q1, .inl (cA 0, 6, .inl (fun _ => 0))), (q2, .inl (cA 0, 6, .inl (fun _ => 0))), (q3, .inl (cA 0, 6, .inl (fun _ => 0))), (q4, .inl (cA 0, 6, .inl (fun _ => 0)))] : va_W) := hD
  refine lv_aload_n hx hb dX2_init_46 rfl (lv_at hl 0 rfl) ?_
  refine lv_iconst (v := 1) hx hb dX2_init_47 (by decide) ?_
  refine va_put (D := D) (ci := 2) (v := .int 1) (ty := .int) (C := RX2) (T := TX2) (N := 7) hx hb hts in_X2_init_X2 tyX2 tyX2_ok nmX2 hown hK hP hD hS 0 rfl rfl 6 (by decide) (hts _ lk_X2_init_31) (fun _ h9 => h9) rfl (tyX2_ok 6 (by decide)) rfl rfl (Nat.le_of_ble_eq_true rfl) dX2_init_48 (fun H locs hP hD hS => ?_)
  have hP : va_P D vwCl ([(h0, .inr (2, [.int 0, .ref q1, .ref q2, .ref q3, .ref q4, .int 0, .int 1])), (q1, .inl (cA 0, 6, .inl (fun _ => 0))), (q2, .inl (cA 0, 6, .inl (fun _ => 0))), (q3, .inl (cA 0, 6, .inl (fun _ => 0))), (q4, .inl (cA 0, 6, .inl (fun _ => 0)))] : va_W) _ := hP
  have hD : va_D A ([(h0, .inr (2, [.int 0, .ref q1, .ref q2, .ref q3, .ref q4, .int 0, .int 1])), (q1, .inl (cA 0, 6, .inl (fun _ => 0))), (q2, .inl (cA 0, 6, .inl (fun _ => 0))), (q3, .inl (cA 0, 6, .inl (fun _ => 0))), (q4, .inl (cA 0, 6, .inl (fun _ => 0)))] : va_W) := hD
  exact kk (ad [h0, q1, q2, q3, q4]) _ _ _ _ rfl hP hD hS dX2_init_51
noncomputable def st4_0 : St4 := (fun _ => 0, 0, 0)
theorem om_X4 : Cond.methodLink RX4 3 objectInit ∈ wsX4_init := by decide +kernel
theorem oi_X4 : Cond.instanceMethod objectInit ∈ wsX4_init := by decide +kernel
theorem oc_X4 : Cond.code objectInit ⟨#[0xb1]⟩ 1 none ∈ wsX4_init := by decide +kernel
theorem ac_X4_I : Cond.arrayClass .int ∈ wsX4_init := by decide +kernel
theorem lk_X4_init_11 : Cond.fieldLink RX4 11 "KeyedFeelings$Tape" "letters" "[I" ∈ wsX4_init := by decide +kernel
theorem in_X4_init_X4 : ∀ w ∈ wsX40, w ∈ wsX4_init := by decide +kernel
theorem lk_X4_init_15 : Cond.fieldLink RX4 15 "KeyedFeelings$Tape" "size" "I" ∈ wsX4_init := by decide +kernel
theorem lk_X4_init_19 : Cond.fieldLink RX4 19 "KeyedFeelings$Tape" "place" "I" ∈ wsX4_init := by decide +kernel
noncomputable def rmX4_init : Room := { frames := 1, cells := 1, slots := 60, locals := 12 }
set_option maxHeartbeats 4000000 in
set_option maxRecDepth 100000 in
theorem c_X4_init (l : Launch) (D : va_G) (cA : Nat → ClassId) (h0 sz : Nat) : CN (S := Nat → Nat) l D cA yX4_init wsX4_init rmX4_init 1 60 h0 (.inr (4, [.null, .int 0, .int 0])) sz (fun a => a 0 = h0) (fun a => w4 cA a st4_0) := by
  refine CN.start (cc := cX4_init) (maxL := 1) (by decide) rfl rfl (Nat.le_of_ble_eq_true rfl) ?_
  intro p e s m below meth c A Z hN hname hP hD hS hA ls hl kk
  have Z : Cx p s m _ meth c cX4_init 1 none wsX4_init RX4 D cA := Z
  obtain ⟨hx, hb, hml, hown, hts, hr, hlk, hKK⟩ := id Z
  have hK := hKK.1
  refine lv_aload_n hx hb dX4_init_0 rfl (lv_at hl 0 rfl) ?_
  refine W.objInit hx hb hown (hts _ om_X4) (hts _ oi_X4) (hts _ oc_X4) rfl (by rw [hml]; exact hl.1) rfl dX4_init_1 (Nat.le_of_ble_eq_true rfl) (Nat.le_of_ble_eq_true rfl) ?_
  refine W.eq (g2 := F0 m 4 ls []) rfl ?_
  refine lv_aload_n hx hb dX4_init_4 rfl (lv_at hl 0 rfl) ?_
  refine lv_bipush (v := 60) hx hb dX4_init_5 (by decide) ?_
  refine va_newa (atype := .int) (ty := .int) (a0 := (60, .inl (fun _ => 0))) (N' := 60) hx hb (hts _ ac_X4_I) rfl hK hP hD hS hA (fun _ => rfl) (by decide) (by decide) (by decide) (Nat.le_of_ble_eq_true rfl) (Nat.le_of_ble_eq_true rfl) dX4_init_7 (fun q1 c1 H hK1 hP hD hS => ?_)
  obtain rfl := arrI_same hK hK1
  have hP : va_P D vwCl ([(h0, .inr (4, [.null, .int 0, .int 0])), (q1, .inl (cA 0, 60, .inl (fun _ => 0)))] : va_W) _ := hP
  have hD : va_D A ([(h0, .inr (4, [.null, .int 0, .int 0])), (q1, .inl (cA 0, 60, .inl (fun _ => 0)))] : va_W) := hD
  refine va_putF (D := D) (ci := 4) (v := .ref q1) (ty := (.array .int)) (C := RX4) (T := TX4) (N := 3) hx hb hts in_X4_init_X4 tyX4 tyX4_ok nmX4 hown hK hP hD hS 0 rfl rfl 0 (by decide) (hts _ lk_X4_init_11) (fun _ h9 => h9) rfl hname rfl (tyX4_ok 0 (by decide)) rfl rfl (Nat.le_of_ble_eq_true rfl) dX4_init_9 (fun H locs hP hD hS => ?_)
  have hP : va_P D vwCl ([(h0, .inr (4, [.ref q1, .int 0, .int 0])), (q1, .inl (cA 0, 60, .inl (fun _ => 0)))] : va_W) _ := hP
  have hD : va_D A ([(h0, .inr (4, [.ref q1, .int 0, .int 0])), (q1, .inl (cA 0, 60, .inl (fun _ => 0)))] : va_W) := hD
  refine lv_aload_n hx hb dX4_init_12 rfl (lv_at hl 0 rfl) ?_
  refine lv_iconst (v := 0) hx hb dX4_init_13 (by decide) ?_
  refine va_put (D := D) (ci := 4) (v := .int 0) (ty := .int) (C := RX4) (T := TX4) (N := 3) hx hb hts in_X4_init_X4 tyX4 tyX4_ok nmX4 hown hK hP hD hS 0 rfl rfl 1 (by decide) (hts _ lk_X4_init_15) (fun _ h9 => h9) rfl (tyX4_ok 1 (by decide)) rfl rfl (Nat.le_of_ble_eq_true rfl) dX4_init_14 (fun H locs hP hD hS => ?_)
  have hP : va_P D vwCl ([(h0, .inr (4, [.ref q1, .int 0, .int 0])), (q1, .inl (cA 0, 60, .inl (fun _ => 0)))] : va_W) _ := hP
  have hD : va_D A ([(h0, .inr (4, [.ref q1, .int 0, .int 0])), (q1, .inl (cA 0, 60, .inl (fun _ => 0)))] : va_W) := hD
  refine lv_aload_n hx hb dX4_init_17 rfl (lv_at hl 0 rfl) ?_
  refine lv_iconst (v := 0) hx hb dX4_init_18 (by decide) ?_
  refine va_put (D := D) (ci := 4) (v := .int 0) (ty := .int) (C := RX4) (T := TX4) (N := 3) hx hb hts in_X4_init_X4 tyX4 tyX4_ok nmX4 hown hK hP hD hS 0 rfl rfl 2 (by decide) (hts _ lk_X4_init_19) (fun _ h9 => h9) rfl (tyX4_ok 2 (by decide)) rfl rfl (Nat.le_of_ble_eq_true rfl) dX4_init_19 (fun H locs hP hD hS => ?_)
  have hP : va_P D vwCl ([(h0, .inr (4, [.ref q1, .int 0, .int 0])), (q1, .inl (cA 0, 60, .inl (fun _ => 0)))] : va_W) _ := hP
  have hD : va_D A ([(h0, .inr (4, [.ref q1, .int 0, .int 0])), (q1, .inl (cA 0, 60, .inl (fun _ => 0)))] : va_W) := hD
  exact kk (ad [h0, q1]) _ _ _ _ rfl hP hD hS dX4_init_22
noncomputable def st0_0 : St0 := (0, fun _ => 0, fun _ => 0)
theorem om_X0 : Cond.methodLink RX0 3 objectInit ∈ wsX0_init := by decide +kernel
theorem oi_X0 : Cond.instanceMethod objectInit ∈ wsX0_init := by decide +kernel
theorem oc_X0 : Cond.code objectInit ⟨#[0xb1]⟩ 1 none ∈ wsX0_init := by decide +kernel
theorem lk_X0_init_9 : Cond.fieldLink RX0 9 "KeyedFeelings$Matching" "fewest" "I" ∈ wsX0_init := by decide +kernel
theorem in_X0_init_X0 : ∀ w ∈ wsX00, w ∈ wsX0_init := by decide +kernel
theorem ac_X0_I : Cond.arrayClass .int ∈ wsX0_init := by decide +kernel
theorem lk_X0_init_15 : Cond.fieldLink RX0 15 "KeyedFeelings$Matching" "best" "[I" ∈ wsX0_init := by decide +kernel
theorem lk_X0_init_19 : Cond.fieldLink RX0 19 "KeyedFeelings$Matching" "telling" "[I" ∈ wsX0_init := by decide +kernel
noncomputable def rmX0_init : Room := { frames := 1, cells := 2, slots := 12, locals := 12 }
set_option maxHeartbeats 4000000 in
set_option maxRecDepth 100000 in
theorem c_X0_init (l : Launch) (D : va_G) (cA : Nat → ClassId) (h0 sz : Nat) : CN (S := Nat → Nat) l D cA yX0_init wsX0_init rmX0_init 2 12 h0 (.inr (0, [.int 0, .null, .null])) sz (fun a => a 0 = h0) (fun a => w0 cA a st0_0) := by
  refine CN.start (cc := cX0_init) (maxL := 1) (by decide) rfl rfl (Nat.le_of_ble_eq_true rfl) ?_
  intro p e s m below meth c A Z hN hname hP hD hS hA ls hl kk
  have Z : Cx p s m _ meth c cX0_init 1 none wsX0_init RX0 D cA := Z
  obtain ⟨hx, hb, hml, hown, hts, hr, hlk, hKK⟩ := id Z
  have hK := hKK.1
  refine lv_aload_n hx hb dX0_init_0 rfl (lv_at hl 0 rfl) ?_
  refine W.objInit hx hb hown (hts _ om_X0) (hts _ oi_X0) (hts _ oc_X0) rfl (by rw [hml]; exact hl.1) rfl dX0_init_1 (Nat.le_of_ble_eq_true rfl) (Nat.le_of_ble_eq_true rfl) ?_
  refine W.eq (g2 := F0 m 4 ls []) rfl ?_
  refine lv_aload_n hx hb dX0_init_4 rfl (lv_at hl 0 rfl) ?_
  refine lv_iconst (v := 0) hx hb dX0_init_5 (by decide) ?_
  refine va_put (D := D) (ci := 0) (v := .int 0) (ty := .int) (C := RX0) (T := TX0) (N := 3) hx hb hts in_X0_init_X0 tyX0 tyX0_ok nmX0 hown hK hP hD hS 0 rfl rfl 0 (by decide) (hts _ lk_X0_init_9) (fun _ h9 => h9) rfl (tyX0_ok 0 (by decide)) rfl rfl (Nat.le_of_ble_eq_true rfl) dX0_init_6 (fun H locs hP hD hS => ?_)
  have hP : va_P D vwCl ([(h0, .inr (0, [.int 0, .null, .null]))] : va_W) _ := hP
  have hD : va_D A ([(h0, .inr (0, [.int 0, .null, .null]))] : va_W) := hD
  refine lv_aload_n hx hb dX0_init_9 rfl (lv_at hl 0 rfl) ?_
  refine lv_bipush (v := 6) hx hb dX0_init_10 (by decide) ?_
  refine va_newa (atype := .int) (ty := .int) (a0 := (6, .inl (fun _ => 0))) (N' := 6) hx hb (hts _ ac_X0_I) rfl hK hP hD hS hA (fun _ => rfl) (by decide) (by decide) (by decide) (Nat.le_of_ble_eq_true rfl) (Nat.le_of_ble_eq_true rfl) dX0_init_12 (fun q1 c1 H hK1 hP hD hS => ?_)
  obtain rfl := arrI_same hK hK1
  have hP : va_P D vwCl ([(h0, .inr (0, [.int 0, .null, .null])), (q1, .inl (cA 0, 6, .inl (fun _ => 0)))] : va_W) _ := hP
  have hD : va_D A ([(h0, .inr (0, [.int 0, .null, .null])), (q1, .inl (cA 0, 6, .inl (fun _ => 0)))] : va_W) := hD
  refine va_putF (D := D) (ci := 0) (v := .ref q1) (ty := (.array .int)) (C := RX0) (T := TX0) (N := 3) hx hb hts in_X0_init_X0 tyX0 tyX0_ok nmX0 hown hK hP hD hS 0 rfl rfl 1 (by decide) (hts _ lk_X0_init_15) (fun _ h9 => h9) rfl hname rfl (tyX0_ok 1 (by decide)) rfl rfl (Nat.le_of_ble_eq_true rfl) dX0_init_14 (fun H locs hP hD hS => ?_)
  have hP : va_P D vwCl ([(h0, .inr (0, [.int 0, .ref q1, .null])), (q1, .inl (cA 0, 6, .inl (fun _ => 0)))] : va_W) _ := hP
  have hD : va_D A ([(h0, .inr (0, [.int 0, .ref q1, .null])), (q1, .inl (cA 0, 6, .inl (fun _ => 0)))] : va_W) := hD
  refine lv_aload_n hx hb dX0_init_17 rfl (lv_at hl 0 rfl) ?_
  refine lv_bipush (v := 6) hx hb dX0_init_18 (by decide) ?_
  refine va_newa (atype := .int) (ty := .int) (a0 := (6, .inl (fun _ => 0))) (N' := 6) hx hb (hts _ ac_X0_I) rfl hK hP hD hS hA (fun _ => rfl) (by decide) (by decide) (by decide) (Nat.le_of_ble_eq_true rfl) (Nat.le_of_ble_eq_true rfl) dX0_init_20 (fun q2 c2 H hK1 hP hD hS => ?_)
  obtain rfl := arrI_same hK hK1
  have hP : va_P D vwCl ([(h0, .inr (0, [.int 0, .ref q1, .null])), (q1, .inl (cA 0, 6, .inl (fun _ => 0))), (q2, .inl (cA 0, 6, .inl (fun _ => 0)))] : va_W) _ := hP
  have hD : va_D A ([(h0, .inr (0, [.int 0, .ref q1, .null])), (q1, .inl (cA 0, 6, .inl (fun _ => 0))), (q2, .inl (cA 0, 6, .inl (fun _ => 0)))] : va_W) := hD
  refine va_putF (D := D) (ci := 0) (v := .ref q2) (ty := (.array .int)) (C := RX0) (T := TX0) (N := 3) hx hb hts in_X0_init_X0 tyX0 tyX0_ok nmX0 hown hK hP hD hS 0 rfl rfl 2 (by decide) (hts _ lk_X0_init_19) (fun _ h9 => h9) rfl hname rfl (tyX0_ok 2 (by decide)) rfl rfl (Nat.le_of_ble_eq_true rfl) dX0_init_22 (fun H locs hP hD hS => ?_)
  have hP : va_P D vwCl ([(h0, .inr (0, [.int 0, .ref q1, .ref q2])), (q1, .inl (cA 0, 6, .inl (fun _ => 0))), (q2, .inl (cA 0, 6, .inl (fun _ => 0)))] : va_W) _ := hP
  have hD : va_D A ([(h0, .inr (0, [.int 0, .ref q1, .ref q2])), (q1, .inl (cA 0, 6, .inl (fun _ => 0))), (q2, .inl (cA 0, 6, .inl (fun _ => 0)))] : va_W) := hD
  exact kk (ad [h0, q1, q2]) _ _ _ _ rfl hP hD hS dX0_init_25
noncomputable def st3_0 : St3 := (0, -1, fun _ => 0)
theorem om_X3 : Cond.methodLink RX3 3 objectInit ∈ wsX3_init := by decide +kernel
theorem oi_X3 : Cond.instanceMethod objectInit ∈ wsX3_init := by decide +kernel
theorem oc_X3 : Cond.code objectInit ⟨#[0xb1]⟩ 1 none ∈ wsX3_init := by decide +kernel
theorem lk_X3_init_9 : Cond.fieldLink RX3 9 "KeyedFeelings$Sheet" "lane" "I" ∈ wsX3_init := by decide +kernel
theorem in_X3_init_X3 : ∀ w ∈ wsX30, w ∈ wsX3_init := by decide +kernel
theorem lk_X3_init_15 : Cond.fieldLink RX3 15 "KeyedFeelings$Sheet" "size" "I" ∈ wsX3_init := by decide +kernel
theorem ac_X3_J : Cond.arrayClass .long ∈ wsX3_init := by decide +kernel
theorem lk_X3_init_18 : Cond.fieldLink RX3 18 "KeyedFeelings$Sheet" "items" "[J" ∈ wsX3_init := by decide +kernel
noncomputable def rmX3_init : Room := { frames := 1, cells := 1, slots := 24, locals := 12 }
set_option maxHeartbeats 4000000 in
set_option maxRecDepth 100000 in
theorem c_X3_init (l : Launch) (D : va_G) (cA : Nat → ClassId) (h0 sz : Nat) : CN (S := Nat → Nat) l D cA yX3_init wsX3_init rmX3_init 1 24 h0 (.inr (3, [.int 0, .int 0, .null])) sz (fun a => a 0 = h0) (fun a => w3 cA a st3_0) := by
  refine CN.start (cc := cX3_init) (maxL := 1) (by decide) rfl rfl (Nat.le_of_ble_eq_true rfl) ?_
  intro p e s m below meth c A Z hN hname hP hD hS hA ls hl kk
  have Z : Cx p s m _ meth c cX3_init 1 none wsX3_init RX3 D cA := Z
  obtain ⟨hx, hb, hml, hown, hts, hr, hlk, hKK⟩ := id Z
  have hK := hKK.1
  refine lv_aload_n hx hb dX3_init_0 rfl (lv_at hl 0 rfl) ?_
  refine W.objInit hx hb hown (hts _ om_X3) (hts _ oi_X3) (hts _ oc_X3) rfl (by rw [hml]; exact hl.1) rfl dX3_init_1 (Nat.le_of_ble_eq_true rfl) (Nat.le_of_ble_eq_true rfl) ?_
  refine W.eq (g2 := F0 m 4 ls []) rfl ?_
  refine lv_aload_n hx hb dX3_init_4 rfl (lv_at hl 0 rfl) ?_
  refine lv_iconst (v := 0) hx hb dX3_init_5 (by decide) ?_
  refine va_put (D := D) (ci := 3) (v := .int 0) (ty := .int) (C := RX3) (T := TX3) (N := 3) hx hb hts in_X3_init_X3 tyX3 tyX3_ok nmX3 hown hK hP hD hS 0 rfl rfl 0 (by decide) (hts _ lk_X3_init_9) (fun _ h9 => h9) rfl (tyX3_ok 0 (by decide)) rfl rfl (Nat.le_of_ble_eq_true rfl) dX3_init_6 (fun H locs hP hD hS => ?_)
  have hP : va_P D vwCl ([(h0, .inr (3, [.int 0, .int 0, .null]))] : va_W) _ := hP
  have hD : va_D A ([(h0, .inr (3, [.int 0, .int 0, .null]))] : va_W) := hD
  refine lv_aload_n hx hb dX3_init_9 rfl (lv_at hl 0 rfl) ?_
  refine lv_iconst (v := (-1)) hx hb dX3_init_10 (by decide) ?_
  refine va_put (D := D) (ci := 3) (v := .int (-1)) (ty := .int) (C := RX3) (T := TX3) (N := 3) hx hb hts in_X3_init_X3 tyX3 tyX3_ok nmX3 hown hK hP hD hS 0 rfl rfl 1 (by decide) (hts _ lk_X3_init_15) (fun _ h9 => h9) rfl (tyX3_ok 1 (by decide)) rfl rfl (Nat.le_of_ble_eq_true rfl) dX3_init_11 (fun H locs hP hD hS => ?_)
  have hP : va_P D vwCl ([(h0, .inr (3, [.int 0, .int (-1), .null]))] : va_W) _ := hP
  have hD : va_D A ([(h0, .inr (3, [.int 0, .int (-1), .null]))] : va_W) := hD
  refine lv_aload_n hx hb dX3_init_14 rfl (lv_at hl 0 rfl) ?_
  refine lv_bipush (v := 24) hx hb dX3_init_15 (by decide) ?_
  refine va_newa (atype := .long) (ty := .long) (a0 := (24, .inr (.inl (fun _ => 0)))) (N' := 24) hx hb (hts _ ac_X3_J) rfl hK hP hD hS hA (fun _ => rfl) (by decide) (by decide) (by decide) (Nat.le_of_ble_eq_true rfl) (Nat.le_of_ble_eq_true rfl) dX3_init_17 (fun q1 c1 H hK1 hP hD hS => ?_)
  obtain rfl := arrJ_same hK hK1
  have hP : va_P D vwCl ([(h0, .inr (3, [.int 0, .int (-1), .null])), (q1, .inl (cA 1, 24, .inr (.inl (fun _ => 0))))] : va_W) _ := hP
  have hD : va_D A ([(h0, .inr (3, [.int 0, .int (-1), .null])), (q1, .inl (cA 1, 24, .inr (.inl (fun _ => 0))))] : va_W) := hD
  refine va_putF (D := D) (ci := 3) (v := .ref q1) (ty := (.array .long)) (C := RX3) (T := TX3) (N := 3) hx hb hts in_X3_init_X3 tyX3 tyX3_ok nmX3 hown hK hP hD hS 0 rfl rfl 2 (by decide) (hts _ lk_X3_init_18) (fun _ h9 => h9) rfl hname rfl (tyX3_ok 2 (by decide)) rfl rfl (Nat.le_of_ble_eq_true rfl) dX3_init_19 (fun H locs hP hD hS => ?_)
  have hP : va_P D vwCl ([(h0, .inr (3, [.int 0, .int (-1), .ref q1])), (q1, .inl (cA 1, 24, .inr (.inl (fun _ => 0))))] : va_W) _ := hP
  have hD : va_D A ([(h0, .inr (3, [.int 0, .int (-1), .ref q1])), (q1, .inl (cA 1, 24, .inr (.inl (fun _ => 0))))] : va_W) := hD
  exact kk (ad [h0, q1]) _ _ _ _ rfl hP hD hS dX3_init_22
