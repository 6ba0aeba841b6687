/-! CORE: chunks of cells, contracts, calls -/
noncomputable def aIn (ws : va_W) : Nat → Prop := fun q => ∃ x ∈ ws, x.1 = q
noncomputable abbrev tysG (cA : Nat → ClassId) : List (ClassId × FieldType) := [(cA 0, .int), (cA 1, .long), (cA 2, .object "KeyedFeelings$People"), (cA 3, .object "KeyedFeelings$Sheet")]
noncomputable def isNest (w : Cond) : Bool := match w with
  | .fieldLinkNest .. => true
  | .methodLinkNest .. => true
  | _ => false
noncomputable def nestW : List Cond := [.fieldLinkNest "KeyedFeelings" 57 "KeyedFeelings$People" "size" "I" "KeyedFeelings", .fieldLinkNest "KeyedFeelings$Matching" 26 "KeyedFeelings$People" "size" "I" "KeyedFeelings", .fieldLinkNest "KeyedFeelings$Tape" 60 "KeyedFeelings$People" "size" "I" "KeyedFeelings", .fieldLinkNest "KeyedFeelings" 72 "KeyedFeelings$People" "kinds" "[I" "KeyedFeelings", .fieldLinkNest "KeyedFeelings" 76 "KeyedFeelings$People" "turns" "[I" "KeyedFeelings", .fieldLinkNest "KeyedFeelings" 79 "KeyedFeelings$People" "winds" "[I" "KeyedFeelings", .fieldLinkNest "KeyedFeelings$Matching" 37 "KeyedFeelings$People" "winds" "[I" "KeyedFeelings", .fieldLinkNest "KeyedFeelings$Tape" 54 "KeyedFeelings$People" "winds" "[I" "KeyedFeelings", .fieldLinkNest "KeyedFeelings" 82 "KeyedFeelings$People" "keys" "[I" "KeyedFeelings", .fieldLinkNest "KeyedFeelings$Tape" 57 "KeyedFeelings$People" "keys" "[I" "KeyedFeelings", .fieldLinkNest "KeyedFeelings" 119 "KeyedFeelings$People" "hour" "I" "KeyedFeelings", .fieldLinkNest "KeyedFeelings" 112 "KeyedFeelings$People" "draw" "I" "KeyedFeelings", .fieldLinkNest "KeyedFeelings" 134 "KeyedFeelings$Past" "size" "I" "KeyedFeelings", .fieldLinkNest "KeyedFeelings" 108 "KeyedFeelings$Tape" "place" "I" "KeyedFeelings", .fieldLinkNest "KeyedFeelings" 186 "KeyedFeelings$Matching" "fewest" "I" "KeyedFeelings", .fieldLinkNest "KeyedFeelings" 189 "KeyedFeelings$Matching" "best" "[I" "KeyedFeelings", .fieldLinkNest "KeyedFeelings" 251 "KeyedFeelings$Sheet" "lane" "I" "KeyedFeelings", .fieldLinkNest "KeyedFeelings" 247 "KeyedFeelings$Sheet" "size" "I" "KeyedFeelings", .fieldLinkNest "KeyedFeelings" 258 "KeyedFeelings$Sheet" "items" "[J" "KeyedFeelings", .methodLinkNest "KeyedFeelings" 9 ⟨"KeyedFeelings$People", "<init>", "()V"⟩ "KeyedFeelings", .methodLinkNest "KeyedFeelings" 18 ⟨"KeyedFeelings$Past", "<init>", "()V"⟩ "KeyedFeelings", .methodLinkNest "KeyedFeelings$Past" 22 ⟨"KeyedFeelings$People", "<init>", "()V"⟩ "KeyedFeelings", .methodLinkNest "KeyedFeelings" 38 ⟨"KeyedFeelings$Tape", "<init>", "()V"⟩ "KeyedFeelings", .methodLinkNest "KeyedFeelings" 45 ⟨"KeyedFeelings$Matching", "<init>", "()V"⟩ "KeyedFeelings", .methodLinkNest "KeyedFeelings" 56 ⟨"KeyedFeelings$Sheet", "<init>", "()V"⟩ "KeyedFeelings", .methodLinkNest "KeyedFeelings" 61 ⟨"KeyedFeelings$Past", "empty", "()V"⟩ "KeyedFeelings", .methodLinkNest "KeyedFeelings" 64 ⟨"KeyedFeelings$People", "join", "(II)I"⟩ "KeyedFeelings", .methodLinkNest "KeyedFeelings" 68 ⟨"KeyedFeelings$People", "has", "(I)Z"⟩ "KeyedFeelings", .methodLinkNest "KeyedFeelings" 85 ⟨"KeyedFeelings$People", "stopped", "()I"⟩ "KeyedFeelings", .methodLinkNest "KeyedFeelings" 89 ⟨"KeyedFeelings$People", "runsOff", "(II)I"⟩ "KeyedFeelings", .methodLinkNest "KeyedFeelings" 92 ⟨"KeyedFeelings$People", "woundBy", "(I)I"⟩ "KeyedFeelings", .methodLinkNest "KeyedFeelings" 96 ⟨"KeyedFeelings$Tape", "isFull", "()Z"⟩ "KeyedFeelings", .methodLinkNest "KeyedFeelings" 100 ⟨"KeyedFeelings$Tape", "append", "(I)I"⟩ "KeyedFeelings", .methodLinkNest "KeyedFeelings" 103 ⟨"KeyedFeelings$People", "empty", "()V"⟩ "KeyedFeelings", .methodLinkNest "KeyedFeelings" 104 ⟨"KeyedFeelings$Tape", "readClose", "(LKeyedFeelings$People;)Z"⟩ "KeyedFeelings", .methodLinkNest "KeyedFeelings$Tape" 45 ⟨"KeyedFeelings$People", "join", "(II)I"⟩ "KeyedFeelings", .methodLinkNest "KeyedFeelings$Tape" 61 ⟨"KeyedFeelings$People", "has", "(I)Z"⟩ "KeyedFeelings", .methodLinkNest "KeyedFeelings" 111 ⟨"KeyedFeelings$Tape", "empty", "()V"⟩ "KeyedFeelings", .methodLinkNest "KeyedFeelings" 115 ⟨"KeyedFeelings$People", "become", "(LKeyedFeelings$People;)V"⟩ "KeyedFeelings", .methodLinkNest "KeyedFeelings" 122 ⟨"KeyedFeelings$People", "turnsTogether", "()I"⟩ "KeyedFeelings", .methodLinkNest "KeyedFeelings" 125 ⟨"KeyedFeelings$People", "ring", "()I"⟩ "KeyedFeelings", .methodLinkNest "KeyedFeelings" 128 ⟨"KeyedFeelings$People", "without", "()I"⟩ "KeyedFeelings", .methodLinkNest "KeyedFeelings" 131 ⟨"KeyedFeelings$People", "isWindingHour", "()Z"⟩ "KeyedFeelings", .methodLinkNest "KeyedFeelings" 139 ⟨"KeyedFeelings$Past", "keep", "(LKeyedFeelings$People;)V"⟩ "KeyedFeelings", .methodLinkNest "KeyedFeelings$Past" 23 ⟨"KeyedFeelings$People", "become", "(LKeyedFeelings$People;)V"⟩ "KeyedFeelings", .methodLinkNest "KeyedFeelings" 149 ⟨"KeyedFeelings$People", "lendByDraw", "()V"⟩ "KeyedFeelings", .methodLinkNest "KeyedFeelings" 152 ⟨"KeyedFeelings$People", "passHour", "()V"⟩ "KeyedFeelings", .methodLinkNest "KeyedFeelings" 142 ⟨"KeyedFeelings$People", "addTurns", "(II)V"⟩ "KeyedFeelings", .methodLinkNest "KeyedFeelings" 146 ⟨"KeyedFeelings$Past", "takeBack", "(LKeyedFeelings$People;)V"⟩ "KeyedFeelings", .methodLinkNest "KeyedFeelings" 155 ⟨"KeyedFeelings$People", "passHours", "(I)V"⟩ "KeyedFeelings", .methodLinkNest "KeyedFeelings" 159 ⟨"KeyedFeelings$People", "passUntilStopped", "(II)I"⟩ "KeyedFeelings", .methodLinkNest "KeyedFeelings" 162 ⟨"KeyedFeelings$People", "everybody", "()I"⟩ "KeyedFeelings", .methodLinkNest "KeyedFeelings" 165 ⟨"KeyedFeelings$People", "behind", "(I)I"⟩ "KeyedFeelings", .methodLinkNest "KeyedFeelings" 168 ⟨"KeyedFeelings$People", "heads", "(I)I"⟩ "KeyedFeelings", .methodLinkNest "KeyedFeelings" 183 ⟨"KeyedFeelings$Matching", "find", "(LKeyedFeelings$People;)V"⟩ "KeyedFeelings", .methodLinkNest "KeyedFeelings" 192 ⟨"KeyedFeelings$People", "hasTurnsOf", "(LKeyedFeelings$People;)Z"⟩ "KeyedFeelings", .methodLinkNest "KeyedFeelings" 195 ⟨"KeyedFeelings$People", "winders", "()I"⟩ "KeyedFeelings", .methodLinkNest "KeyedFeelings" 198 ⟨"KeyedFeelings$People", "wind", "(I)V"⟩ "KeyedFeelings", .methodLinkNest "KeyedFeelings" 201 ⟨"KeyedFeelings$People", "run", "()V"⟩ "KeyedFeelings", .methodLinkNest "KeyedFeelings" 204 ⟨"KeyedFeelings$People", "isStopped", "(I)Z"⟩ "KeyedFeelings", .methodLinkNest "KeyedFeelings" 221 ⟨"KeyedFeelings$Past", "become", "(LKeyedFeelings$Past;)V"⟩ "KeyedFeelings", .methodLinkNest "KeyedFeelings" 230 ⟨"KeyedFeelings$Sheet", "refusal", "(III)I"⟩ "KeyedFeelings", .methodLinkNest "KeyedFeelings" 237 ⟨"KeyedFeelings$Sheet", "put", "(IJ)V"⟩ "KeyedFeelings", .methodLinkNest "KeyedFeelings" 241 ⟨"KeyedFeelings$Sheet", "begin", "(II)V"⟩ "KeyedFeelings", .methodLinkNest "KeyedFeelings" 244 ⟨"KeyedFeelings$Sheet", "isMissing", "()Z"⟩ "KeyedFeelings", .methodLinkNest "KeyedFeelings" 248 ⟨"KeyedFeelings$Sheet", "lose", "()V"⟩ "KeyedFeelings", .methodLinkNest "KeyedFeelings" 254 ⟨"KeyedFeelings$Sheet", "holds", "(II)Z"⟩ "KeyedFeelings"]
theorem nestW_ok : nestW.all isNest = true := by decide +kernel
set_option maxRecDepth 20000 in
theorem nestW_in : ∀ w ∈ nestW, w ∈ lw_tbl := by decide +kernel
theorem nest_warm {w : Cond} (hw : isNest w = true) {s U : State} (hW : s.WarmedH U.vm) (h : va_Nw w s) : va_Nw w U := by
  cases w <;> first | exact va_Nw.warmF hW h | exact va_Nw.warmM hW h | (simp [isNest] at hw)
theorem nest_same {w : Cond} (hw : isNest w = true) {u U : State} (h : u.vm = U.vm) (hZ : va_Nw w u) : va_Nw w U := by
  cases w <;> first | (exact va_Nw.same rfl h hZ) | (simp [isNest] at hw)
theorem nest_of {w : Cond} (hw : isNest w = true) {a : Array Value} {U : State} (hZ : w.before a U = true) : va_Nw w U := by
  cases w <;> first | (exact va_Nw.of rfl hZ) | (simp [isNest] at hw)
theorem nest_use {w : Cond} (hw : isNest w = true) {a : Array Value} {U : State} (hZ : va_Nw w U) : w.before a U = true := by
  cases w <;> first | (exact va_Nw.use rfl hZ) | (simp [isNest] at hw)
noncomputable def KK (D : va_G) (cA : Nat → ClassId) (U : State) : Prop := va_K D vwCl (tysG cA) U ∧ ∀ w ∈ nestW, va_Nw w U
theorem KK.warm {D : va_G} {cA : Nat → ClassId} {s U : State} (h : KK D cA s) (hW : s.WarmedH U.vm) : KK D cA U :=
  ⟨va_K.moved hW.alike h.1, fun w hw => nest_warm (List.all_eq_true.mp nestW_ok w hw) hW (h.2 w hw)⟩
theorem KK.same {D : va_G} {cA : Nat → ClassId} {u U : State} (h : KK D cA u) (hv : u.vm = U.vm) : KK D cA U :=
  ⟨va_K.moved (by rw [hv]; exact Vm.Alike.refl _) h.1, fun w hw => nest_same (List.all_eq_true.mp nestW_ok w hw) hv (h.2 w hw)⟩
-- worlds by their members
theorem P_iff {D : va_G} {cl : List vw_C} {ws : va_W} {H : Heap} : va_P D cl ws H ↔ ∀ q ∈ ws, va_at D cl q H := by
  constructor
  · intro h q hq
    obtain ⟨k, hk⟩ := List.getElem?_of_mem hq
    exact h k q hk
  · intro h k q hk
    exact h q (List.mem_of_getElem? hk)
noncomputable def apart (p q : Nat × va_E) : Prop := p.1 ≠ q.1
theorem D_iff {A : Nat → Prop} {ws : va_W} : va_D A ws ↔ ws.Pairwise apart ∧ ∀ q ∈ ws, A q.1 := by
  constructor
  · intro h
    refine ⟨?_, ?_⟩
    · rw [List.pairwise_iff_getElem]
      intro i j hi hj hij he
      have := h.1 i j _ _ (List.getElem?_eq_getElem hi) (List.getElem?_eq_getElem hj) he
      omega
    · intro q hq
      obtain ⟨k, hk⟩ := List.getElem?_of_mem hq
      exact h.2 k q hk
  · intro h
    refine ⟨?_, fun k q hk => h.2 q (List.mem_of_getElem? hk)⟩
    intro i j p q hi hj he
    obtain ⟨hi1, hi2⟩ := List.getElem?_eq_some_iff.mp hi
    obtain ⟨hj1, hj2⟩ := List.getElem?_eq_some_iff.mp hj
    have hp := List.pairwise_iff_getElem.mp h.1
    rcases Nat.lt_trichotomy i j with h1 | h1 | h1
    · exact absurd (by rw [hi2, hj2]; exact he) (hp i j hi1 hj1 h1)
    · exact h1
    · exact absurd (by rw [hi2, hj2]; exact he.symm) (hp j i hj1 hi1 h1)
noncomputable def apartW (l r : va_W) : Prop := ∀ x ∈ l, ∀ y ∈ r, x.1 ≠ y.1
theorem apartW.symm {l r : va_W} (h : apartW l r) : apartW r l := fun x hx y hy e => h y hy x hx e.symm
theorem Dc_iff {A : Nat → Prop} {cs : List va_W} : va_D A cs.flatten ↔ (∀ c ∈ cs, c.Pairwise apart) ∧ cs.Pairwise apartW ∧ ∀ c ∈ cs, ∀ q ∈ c, A q.1 := by
  rw [D_iff, List.pairwise_flatten]
  constructor
  · intro h
    exact ⟨h.1.1, h.1.2, fun c hc q hq => h.2 q (List.mem_flatten.mpr ⟨c, hc, hq⟩)⟩
  · intro h
    refine ⟨⟨h.1, h.2.1⟩, fun q hq => ?_⟩
    obtain ⟨c, hc, hq⟩ := List.mem_flatten.mp hq
    exact h.2.2 c hc q hq
theorem Pc_iff {D : va_G} {cl : List vw_C} {cs : List va_W} {H : Heap} : va_P D cl cs.flatten H ↔ ∀ c ∈ cs, ∀ q ∈ c, va_at D cl q H := by
  rw [P_iff]
  constructor
  · intro h c hc q hq
    exact h q (List.mem_flatten.mpr ⟨c, hc, hq⟩)
  · intro h q hq
    obtain ⟨c, hc, hq⟩ := List.mem_flatten.mp hq
    exact h c hc q hq
theorem pick_at {α : Type} {is : List Nat} {cs cc : List α} (h : is.map (fun i => cs[i]?) = cc.map some) {k : Nat} {c : α} (hk : cc[k]? = some c) : ∃ i, is[k]? = some i ∧ cs[i]? = some c := by
  have h1 : (is.map (fun i => cs[i]?))[k]? = some (some c) := by rw [h, List.getElem?_map, hk]; rfl
  rw [List.getElem?_map] at h1
  cases hi : is[k]? with
  | none => rw [hi] at h1; cases h1
  | some i => rw [hi] at h1; exact ⟨i, rfl, Option.some.inj h1⟩
theorem pick_mem {α : Type} {is : List Nat} {cs cc : List α} (h : is.map (fun i => cs[i]?) = cc.map some) {c : α} (hc : c ∈ cc) : ∃ i ∈ is, cs[i]? = some c := by
  obtain ⟨k, hk⟩ := List.getElem?_of_mem hc
  obtain ⟨i, h1, h2⟩ := pick_at h hk
  exact ⟨i, List.mem_of_getElem? h1, h2⟩
theorem chP {D : va_G} {cl : List vw_C} {cs cc : List va_W} {H : Heap} (h : va_P D cl cs.flatten H) (is : List Nat) (hs : is.map (fun i => cs[i]?) = cc.map some) : va_P D cl cc.flatten H := by
  rw [Pc_iff] at h ⊢
  intro c hc
  obtain ⟨i, -, hi⟩ := pick_mem hs hc
  exact h c (List.mem_of_getElem? hi)
theorem pw_ne {cs : List va_W} (h : cs.Pairwise apartW) {i j : Nat} {c d : va_W} (hi : cs[i]? = some c) (hj : cs[j]? = some d) (hn : i ≠ j) : apartW c d := by
  obtain ⟨hi1, hi2⟩ := List.getElem?_eq_some_iff.mp hi
  obtain ⟨hj1, hj2⟩ := List.getElem?_eq_some_iff.mp hj
  have hp := List.pairwise_iff_getElem.mp h
  rcases Nat.lt_or_ge i j with h1 | h1
  · have := hp i j hi1 hj1 h1
    rw [hi2, hj2] at this
    exact this
  · have := hp j i hj1 hi1 (by omega)
    rw [hi2, hj2] at this
    exact this.symm
theorem chD {A : Nat → Prop} {cs cc : List va_W} (h : va_D A cs.flatten) (is : List Nat) (hn : va_nd is = true) (hs : is.map (fun i => cs[i]?) = cc.map some) : va_D A cc.flatten := by
  rw [Dc_iff] at h ⊢
  obtain ⟨h1, h2, h3⟩ := h
  refine ⟨fun c hc => ?_, ?_, fun c hc => ?_⟩
  · obtain ⟨i, -, hi⟩ := pick_mem hs hc
    exact h1 c (List.mem_of_getElem? hi)
  · rw [List.pairwise_iff_getElem]
    intro i j hi hj hij
    obtain ⟨a, ha, hca⟩ := pick_at hs (List.getElem?_eq_getElem hi)
    obtain ⟨b, hb, hcb⟩ := pick_at hs (List.getElem?_eq_getElem hj)
    refine pw_ne h2 hca hcb (fun e => ?_)
    subst e
    have := va_nd_inj is hn i j a ha hb
    omega
  · obtain ⟨i, -, hi⟩ := pick_mem hs hc
    exact h3 c (List.mem_of_getElem? hi)
-- contracts of methods that make nothing
noncomputable def PR (D : va_G) (cA : Nat → ClassId) (cs : List va_W) : State → Prop := fun U => va_P D vwCl cs.flatten U.heap ∧ KK D cA U ∧ va_D (fun _ => True) cs.flatten
noncomputable def QR (D : va_G) (cs cs' : List va_W) (v : Option Value) : Array Value → State → Outcome → State → Prop := fun _ st oc t => oc = .returned v ∧ va_P D vwCl cs'.flatten t.heap ∧ va_D (aIn cs.flatten) cs'.flatten ∧ va_F (aIn cs.flatten) st t
noncomputable def CT (l : Launch) (D : va_G) (cA : Nat → ClassId) (y : MethodName) (w : List Cond) (rm : Room) (av : List Value) (cs cs' : List va_W) (v : Option Value) : Prop :=
  Met l y w rm (va_Pc av (PR D cA cs)) (QR D cs cs' v) 0 0 (aIn cs.flatten)
noncomputable def Cx (p : Program) (s : State) (m : MethodId) (args : Array Value) (meth : Method) (c : Code) (cc : ByteArray) (nL : Nat) (ret : Option FieldType) (w : List Cond) (own : String) (D : va_G) (cA : Nat → ClassId) : Prop :=
  p.tables.exec = Jvm.exec ∧ c.code = cc ∧ c.maxLocals = nL ∧ s.vm.findClass own = some m.cls ∧ (∀ x ∈ w, x.before args s = true) ∧ meth.sig.returnType = ret ∧ meth.locks = false ∧ KK D cA s
theorem PR.blind {D : va_G} {cA : Nat → ClassId} {cs : List va_W} {av : List Value} : FrameBlind (va_Pc av (PR D cA cs)) := by
  intro a U g mk h
  exact ⟨h.1, h.2.1, h.2.2.1.same rfl, h.2.2.2⟩
theorem CT.start {l : Launch} {D : va_G} {cA : Nat → ClassId} {y : MethodName} {w w' : List Cond} {rm : Room} {av : List Value} {cs cs' : List va_W} {v : Option Value} {cc : ByteArray} {maxL : Nat} {ret : Option FieldType}
    (hy : plainName y.cls = true) (hw : w = Cond.code y cc maxL ret :: w') (hlen : (lg_sl av).length ≤ maxL)
    (body : ∀ (p : Program) (e : Env) (s : State) (m : MethodId) (below : List Frame) (meth : Method) (c : Code), Cx p s m av.toArray meth c cc maxL ret w y.cls D cA → va_P D vwCl cs.flatten s.heap → va_D (aIn cs.flatten) cs.flatten → va_S (aIn cs.flatten) s.heap s.heap [] → ∀ ls : Array Slot, lv_has ls maxL (lv_args 0 av) →
      W p l e rm s m av.toArray below meth c s.heap [] 0 0 (MQ below (QR D cs cs' v) av.toArray s 0 0 (aIn cs.flatten)) (F0 m 0 ls [])) : CT l D cA y w rm av cs cs' v := by
  refine Met.ofW (cc := cc) (maxL := maxL) (ret := ret) hy hw ?_
  intro p e s m args below meth c s₁ B hml hv
  obtain ⟨rfl, hP, hK, hD⟩ := hv
  rw [lg_entry_eq]
  exact body p e s m below meth c ⟨B.exec, B.bytes, hml, findClass_of_methodNamed B.named, atoms_spec (ws := w) B.pre, B.returns, B.notSynchronized, hK⟩ hP
    (hD.weaken (fun k q hk _ => ⟨q, List.mem_of_getElem? hk, rfl⟩)) va_S.rf _ (lv_entry av hlen)
section CRET
variable {p : Program} {l : Launch} {e : Env} {R : Room} {s : State} {m : MethodId} {args : Array Value} {below : List Frame} {meth : Method} {c : Code} {H : Heap} {locs : List Loc} {cc : ByteArray} {nL : Nat} {w : List Cond} {own : String} {D : va_G} {cA : Nat → ClassId} {cs cs' : List va_W} {pc : Nat} {ls : Array Slot}
theorem CT.iret {v : Int32} (Z : Cx p s m args meth c cc nL (some .int) w own D cA) (hP : va_P D vwCl cs'.flatten H) (hD : va_D (aIn cs.flatten) cs'.flatten) (hS : va_S (aIn cs.flatten) s.heap H locs) (hd : decode cc pc = .ok (.ireturn, 1)) :
    W p l e R s m args below meth c H locs 0 0 (MQ below (QR D cs cs' (some (.int v))) args s 0 0 (aIn cs.flatten)) (F0 m pc ls [.int v]) :=
  W.iret Z.1 Z.2.1 Z.2.2.2.2.2.1 (fun t ht hW => ⟨rfl, by rw [ht]; exact hP, hD, hS.F ht⟩) hS.2.2 hd (hlocks := Z.2.2.2.2.2.2.1)
theorem CT.zret {v : Int32} (Z : Cx p s m args meth c cc nL (some .boolean) w own D cA) (hn : narrow .boolean (.int v) = .int v) (hP : va_P D vwCl cs'.flatten H) (hD : va_D (aIn cs.flatten) cs'.flatten) (hS : va_S (aIn cs.flatten) s.heap H locs) (hd : decode cc pc = .ok (.ireturn, 1)) :
    W p l e R s m args below meth c H locs 0 0 (MQ below (QR D cs cs' (some (.int v))) args s 0 0 (aIn cs.flatten)) (F0 m pc ls [.int v]) :=
  W.zret Z.1 Z.2.1 Z.2.2.2.2.2.1 hn (fun t ht hW => ⟨rfl, by rw [ht]; exact hP, hD, hS.F ht⟩) hS.2.2 hd (hlocks := Z.2.2.2.2.2.2.1)
theorem CT.vret (Z : Cx p s m args meth c cc nL none w own D cA) (hP : va_P D vwCl cs'.flatten H) (hD : va_D (aIn cs.flatten) cs'.flatten) (hS : va_S (aIn cs.flatten) s.heap H locs) (hd : decode cc pc = .ok (.return_, 1)) :
    W p l e R s m args below meth c H locs 0 0 (MQ below (QR D cs cs' none) args s 0 0 (aIn cs.flatten)) (F0 m pc ls []) :=
  W.vret Z.1 Z.2.1 Z.2.2.2.2.2.1 (fun t ht hW => ⟨rfl, by rw [ht]; exact hP, hD, hS.F ht⟩) hS.2.2 hd (hlocks := Z.2.2.2.2.2.2.1)
end CRET
section CCALL
variable {p : Program} {l : Launch} {e : Env} {R : Room} {s : State} {m : MethodId} {args : Array Value} {below : List Frame} {meth : Method} {c : Code} {H : Heap} {locs : List Loc} {cells slots : Nat} {Q : State → Prop}
variable {pc : Nat} {ls : Array Slot} {rest st0 st1 : List Value} {a : Array Value} {A0 : Nat → Prop} {H0 : Heap} {D : va_G} {cA : Nat → ClassId} {cs cs' cr cc cc' : List va_W} {v : Option Value}
theorem ch_call (hr : va_Run p l e R s m args below meth c H locs cells slots 0 0 (F0 m pc ls st0) rest (QR D cc cc' v a) (aIn cc.flatten))
    (hP : va_P D vwCl cs.flatten H) (hD : va_D A0 cs.flatten) (hS : va_S A0 H0 H locs) (isC isR js : List Nat)
    (hC : isC.map (fun i => cs[i]?) = cc.map some) (hR : isR.map (fun i => cs[i]?) = cr.map some) (hn : va_nd (isC ++ isR) = true) (hJ : js.map (fun i => (cr ++ cc')[i]?) = cs'.map some) (hj : va_nd js = true)
    (kk : ∀ (H1 : Heap) (locs1 : List Loc), va_P D vwCl cs'.flatten H1 → va_D A0 cs'.flatten → va_S A0 H0 H1 locs1 → W p l e R s m args below meth c H1 locs1 cells slots Q (F0 m (pc + 3) ls (v.toList ++ rest))) :
    W p l e R s m args below meth c H locs cells slots Q (F0 m pc ls st0) := by
  intro T hT X
  obtain ⟨v', st₀, t, T', L, h0, X', hL, e1, e2, ⟨hv, hp, hd, hz, hk⟩, st⟩ := hr T hT X
  cases hv
  rw [h0] at hz hk
  have hDc := Dc_iff.mp hD
  have hPc := Pc_iff.mp hP
  have hcA : ∀ q, aIn cc.flatten q → A0 q := by
    rintro q ⟨x, hx, rfl⟩
    obtain ⟨w, hw, hx⟩ := List.mem_flatten.mp hx
    obtain ⟨i, -, hi⟩ := pick_mem hC hw
    exact hDc.2.2 w (List.mem_of_getElem? hi) x hx
  have hfar : ∀ w ∈ cr, ∀ q ∈ w, ¬ aIn cc.flatten q.1 := by
    rintro w hw q hq ⟨x, hx, he⟩
    obtain ⟨w2, hw2, hx⟩ := List.mem_flatten.mp hx
    obtain ⟨k, hk2⟩ := List.getElem?_of_mem hw
    obtain ⟨k3, hk3⟩ := List.getElem?_of_mem hw2
    obtain ⟨i, hi, hi2⟩ := pick_at hR hk2
    obtain ⟨j, hj, hj2⟩ := pick_at hC hk3
    refine pw_ne hDc.2.1 hi2 hj2 (fun e => ?_) q hq x hx he.symm
    subst e
    have hl : k3 < isC.length := (List.getElem?_eq_some_iff.mp hj).1
    have := va_nd_inj (isC ++ isR) hn (isC.length + k) k3 i (by rw [List.getElem?_append_right (by omega)]; simpa using hi) (by rw [List.getElem?_append_left hl]; exact hj)
    omega
  have hP1 : va_P D vwCl (cr ++ cc').flatten T'.heap := by
    rw [Pc_iff]
    intro w hw q hq
    rcases List.mem_append.mp hw with h | h
    · obtain ⟨i, -, hi⟩ := pick_mem hR h
      have h2 := hPc w (List.mem_of_getElem? hi) q hq
      refine h2.kept ?_
      rw [e1]
      exact hk _ h2.lt (hfar w h q hq)
    · rw [e1]
      exact Pc_iff.mp hp w h q hq
  have hD1 : va_D A0 (cr ++ cc').flatten := by
    have hr1 := Dc_iff.mp (chD hD isR (by
      have hb : ∀ (a b : List Nat), va_nd (a ++ b) = true → va_nd b = true := by
        intro a b
        induction a with
        | nil => exact id
        | cons x xs ih => intro h; simp only [List.cons_append, va_nd, Bool.and_eq_true] at h; exact ih h.2
      exact hb _ _ hn) hR)
    have hc1 := Dc_iff.mp hd
    rw [Dc_iff]
    refine ⟨fun w hw => ?_, ?_, fun w hw q hq => ?_⟩
    · rcases List.mem_append.mp hw with h | h
      · exact hr1.1 w h
      · exact hc1.1 w h
    · rw [List.pairwise_append]
      refine ⟨hr1.2.1, hc1.2.1, fun w1 h1 w2 h2 x hx y hy he => ?_⟩
      exact hfar w1 h1 x hx (by rw [he]; exact hc1.2.2 w2 h2 y hy)
    · rcases List.mem_append.mp hw with h | h
      · exact hr1.2.2 w h q hq
      · exact hcA _ (hc1.2.2 w h q hq)
  obtain ⟨t2, a1, b1⟩ := kk T'.heap (locs ++ L) (chP hP1 js hJ) (chD hD1 js hj hJ)
    ⟨Nat.le_trans hS.1 (by rw [e1]; exact hz), fun q h1 h2 => by rw [e1, hk q (Nat.lt_of_lt_of_le h1 hS.1) (fun z => h2 (hcA q z))]; exact hS.2.1 q h1 h2, fun q hq => by
      rcases List.mem_append.mp hq with h | h
      · exact hS.2.2 q h
      · exact hcA _ (hL q h)⟩ T' rfl X'
  exact ⟨t2, st t2 a1, b1⟩
variable {bc : ByteArray} {nL : Nat} {ret : Option FieldType} {w : List Cond} {own C : String} {y : MethodName} {wy wy' : List Cond} {rmy : Room} {b : Nat} {As : List Value} {index : Nat} {bytes : ByteArray} {maxL : Nat} {rety : Option FieldType} {fs : List Value} {q : vw_C} {host : String}
theorem recvW {cl : List vw_C} (hK : KK D cA s) (hP : va_P D vwCl cs.flatten H) (isC : List Nat) (hC : isC.map (fun i => cs[i]?) = cc.map some) (ci : Nat) (hc : vwCl[ci]? = some q) (he : cc.flatten[0]? = some (b, .inr (ci, fs))) : ∃ cell : Cell, H[b]? = some cell ∧ cell.vm.isStatics = false ∧ s.vm.findClass q.1 = some cell.cls :=
  va_recv hK.1 (chP hP isC hC) hc he
/-- invokevirtual within one class -/
theorem kV (Z : Cx p s m args meth c bc nL ret w own D cA) (hM : CT l D cA y wy rmy (.ref b :: As) cc cc' v) (n : Nat) (hG : GoodIn w (wsV own index C y wy)) (hw : wy = Cond.code y bytes maxL rety :: wy')
    (hd : y.cls = C ∧ y.cls ≠ "java/lang/invoke/MethodHandle" ∧ y.cls ≠ "java/lang/invoke/VarHandle" ∧ (parseMethodDescriptor y.desc).map (fun d => d.parameters.length) = some n)
    (hrc : rmy.cells = 0 ∧ rmy.slots = 0) (hRm : rmy.frames + 1 ≤ R.frames ∧ 8 + (maxL + 11) + rmy.locals ≤ R.locals) (hcs : cells ≤ R.cells ∧ slots ≤ R.slots) (hP : va_P D vwCl cs.flatten H) (hD : va_D A0 cs.flatten) (hS : va_S A0 H0 H locs) (hls : ls.size = nL) (hn1 : As.length = n) (hst : st0 = As.reverse ++ .ref b :: rest) (hst1 : v.toList ++ rest = st1) (hro : (rest.map fun v => v.category).sum ≤ 8)
    (ci : Nat) (hc : vwCl[ci]? = some q) (hqC : q.1 = C) (he : cc.flatten[0]? = some (b, .inr (ci, fs))) (isC isR js : List Nat)
    (hC : isC.map (fun i => cs[i]?) = cc.map some) (hR : isR.map (fun i => cs[i]?) = cr.map some) (hn : va_nd (isC ++ isR) = true) (hJ : js.map (fun i => (cr ++ cc')[i]?) = cs'.map some) (hj : va_nd js = true) (hdg : decode bc pc = .ok (.invokevirtual index, 3))
    (kk : ∀ (H1 : Heap) (locs1 : List Loc), va_P D vwCl cs'.flatten H1 → va_D A0 cs'.flatten → va_S A0 H0 H1 locs1 → W p l e R s m args below meth c H1 locs1 cells slots Q (F0 m (pc + 3) ls st1)) :
    W p l e R s m args below meth c H locs cells slots Q (F0 m pc ls st0) := by
  have hnC : va_nd isC = true := by
    have hb : ∀ (a b : List Nat), va_nd (a ++ b) = true → va_nd a = true := by
      intro a b
      induction a with
      | nil => intro _; rfl
      | cons x xs ih => intro h; simp only [List.cons_append, va_nd, Bool.and_eq_true, decide_eq_true_eq] at h ⊢; exact ⟨fun hx => h.1 (List.mem_append_left _ hx), ih h.2⟩
    exact hb _ _ hn
  refine ch_call (va_runV (As := As) (b := b) (C := C) ⟨Z.1, Z.2.1, Z.2.2.1, Z.2.2.2.1, Z.2.2.2.2.1⟩ hM (cwV n Z.2.2.2.2.1 hG hw hrc.1 hrc.2 hd hRm) ⟨PR.blind, by rw [← hqC]; exact va_recv Z.2.2.2.2.2.2.2.1 (chP hP isC hC) hc he, fun U hU hW => ⟨rfl, by rw [hU]; exact chP hP isC hC, Z.2.2.2.2.2.2.2.warm hW, (chD hD isC hnC hC).weaken (fun _ _ _ _ => trivial)⟩⟩ rfl hn1 hls hst (lv_room hro) hdg ⟨hcs.1, hcs.2⟩) hP hD hS isC isR js hC hR hn hJ hj (fun H1 l1 z1 z2 z3 => by rw [hst1]; exact kk H1 l1 z1 z2 z3)
/-- invokestatic within one class -/
theorem kS (Z : Cx p s m args meth c bc nL ret w own D cA) (hM : CT l D cA y wy rmy As cc cc' v) (n : Nat) (hG : GoodIn w (va_wsS own index y wy)) (hw : wy = Cond.code y bytes maxL rety :: wy')
    (hd : y.cls = C ∧ y.cls ≠ "java/lang/invoke/MethodHandle" ∧ y.cls ≠ "java/lang/invoke/VarHandle" ∧ (parseMethodDescriptor y.desc).map (fun d => d.parameters.length) = some n)
    (hrc : rmy.cells = 0 ∧ rmy.slots = 0) (hRm : rmy.frames + 1 ≤ R.frames ∧ 8 + (maxL + 11) + rmy.locals ≤ R.locals) (hcs : cells ≤ R.cells ∧ slots ≤ R.slots) (hP : va_P D vwCl cs.flatten H) (hD : va_D A0 cs.flatten) (hS : va_S A0 H0 H locs) (hls : ls.size = nL) (hn1 : As.length = n) (hst : st0 = As.reverse ++ rest) (hst1 : v.toList ++ rest = st1) (hro : (rest.map fun v => v.category).sum ≤ 8)
    (isC isR js : List Nat)
    (hC : isC.map (fun i => cs[i]?) = cc.map some) (hR : isR.map (fun i => cs[i]?) = cr.map some) (hn : va_nd (isC ++ isR) = true) (hJ : js.map (fun i => (cr ++ cc')[i]?) = cs'.map some) (hj : va_nd js = true) (hdg : decode bc pc = .ok (.invokestatic index, 3))
    (kk : ∀ (H1 : Heap) (locs1 : List Loc), va_P D vwCl cs'.flatten H1 → va_D A0 cs'.flatten → va_S A0 H0 H1 locs1 → W p l e R s m args below meth c H1 locs1 cells slots Q (F0 m (pc + 3) ls st1)) :
    W p l e R s m args below meth c H locs cells slots Q (F0 m pc ls st0) := by
  have hnC : va_nd isC = true := by
    have hb : ∀ (a b : List Nat), va_nd (a ++ b) = true → va_nd a = true := by
      intro a b
      induction a with
      | nil => intro _; rfl
      | cons x xs ih => intro h; simp only [List.cons_append, va_nd, Bool.and_eq_true, decide_eq_true_eq] at h ⊢; exact ⟨fun hx => h.1 (List.mem_append_left _ hx), ih h.2⟩
    exact hb _ _ hn
  refine ch_call (va_runS (As := As) ⟨Z.1, Z.2.1, Z.2.2.1, Z.2.2.2.1, Z.2.2.2.2.1⟩ hM (va_cwS n Z.2.2.2.2.1 hG hw hrc.1 hrc.2 hd.2 hRm) ⟨PR.blind, fun U hU hW => ⟨rfl, by rw [hU]; exact chP hP isC hC, Z.2.2.2.2.2.2.2.warm hW, (chD hD isC hnC hC).weaken (fun _ _ _ _ => trivial)⟩⟩ rfl hn1 hls hst (lv_room hro) hdg ⟨hcs.1, hcs.2⟩) hP hD hS isC isR js hC hR hn hJ hj (fun H1 l1 z1 z2 z3 => by rw [hst1]; exact kk H1 l1 z1 z2 z3)
/-- invokevirtual of a nest mate's private method -/
theorem kVN (Z : Cx p s m args meth c bc nL ret w own D cA) (hM : CT l D cA y wy rmy (.ref b :: As) cc cc' v) (n : Nat) (hG : GoodIn w wy) (hw : wy = Cond.code y bytes maxL rety :: wy')
    (hd : y.cls = C ∧ y.cls ≠ "java/lang/invoke/MethodHandle" ∧ y.cls ≠ "java/lang/invoke/VarHandle" ∧ (parseMethodDescriptor y.desc).map (fun d => d.parameters.length) = some n) (hnk : Cond.methodLinkNest own index y host ∈ nestW) (hi1 : Cond.initialized y.cls ∈ w) (hi2 : Cond.instanceMethod y ∈ w) (hi3 : Cond.selects C y y ∈ w)
    (hrc : rmy.cells = 0 ∧ rmy.slots = 0) (hRm : rmy.frames + 1 ≤ R.frames ∧ 8 + (maxL + 11) + rmy.locals ≤ R.locals) (hcs : cells ≤ R.cells ∧ slots ≤ R.slots) (hP : va_P D vwCl cs.flatten H) (hD : va_D A0 cs.flatten) (hS : va_S A0 H0 H locs) (hls : ls.size = nL) (hn1 : As.length = n) (hst : st0 = As.reverse ++ .ref b :: rest) (hst1 : v.toList ++ rest = st1) (hro : (rest.map fun v => v.category).sum ≤ 8)
    (ci : Nat) (hc : vwCl[ci]? = some q) (hqC : q.1 = C) (he : cc.flatten[0]? = some (b, .inr (ci, fs))) (isC isR js : List Nat)
    (hC : isC.map (fun i => cs[i]?) = cc.map some) (hR : isR.map (fun i => cs[i]?) = cr.map some) (hn : va_nd (isC ++ isR) = true) (hJ : js.map (fun i => (cr ++ cc')[i]?) = cs'.map some) (hj : va_nd js = true) (hdg : decode bc pc = .ok (.invokevirtual index, 3))
    (kk : ∀ (H1 : Heap) (locs1 : List Loc), va_P D vwCl cs'.flatten H1 → va_D A0 cs'.flatten → va_S A0 H0 H1 locs1 → W p l e R s m args below meth c H1 locs1 cells slots Q (F0 m (pc + 3) ls st1)) :
    W p l e R s m args below meth c H locs cells slots Q (F0 m pc ls st0) := by
  have hnC : va_nd isC = true := by
    have hb : ∀ (a b : List Nat), va_nd (a ++ b) = true → va_nd a = true := by
      intro a b
      induction a with
      | nil => intro _; rfl
      | cons x xs ih => intro h; simp only [List.cons_append, va_nd, Bool.and_eq_true, decide_eq_true_eq] at h ⊢; exact ⟨fun hx => h.1 (List.mem_append_left _ hx), ih h.2⟩
    exact hb _ _ hn
  refine ch_call (va_runVN (As := As) (b := b) (C := C) ⟨Z.1, Z.2.1, Z.2.2.1, Z.2.2.2.1, Z.2.2.2.2.1⟩ hM ⟨va_cnB n Z.2.2.2.2.1 hG hw hrc.1 hrc.2 (Z.2.2.2.2.2.2.2.2 _ hnk) (Z.2.2.2.2.1 _ hi1) hd.2 hRm, Z.2.2.2.2.1 _ hi2, Z.2.2.2.2.1 _ hi3⟩ ⟨PR.blind, by rw [← hqC]; exact va_recv Z.2.2.2.2.2.2.2.1 (chP hP isC hC) hc he, fun U hU hW => ⟨rfl, by rw [hU]; exact chP hP isC hC, Z.2.2.2.2.2.2.2.warm hW, (chD hD isC hnC hC).weaken (fun _ _ _ _ => trivial)⟩⟩ rfl hn1 hls hst (lv_room hro) hdg ⟨hcs.1, hcs.2⟩) hP hD hS isC isR js hC hR hn hJ hj (fun H1 l1 z1 z2 z3 => by rw [hst1]; exact kk H1 l1 z1 z2 z3)
end CCALL
noncomputable def inB (i : Int32) (n : Nat) : Bool := !(decide (i < 0)) && decide (i.toNatClampNeg < n)
theorem inB_in {i : Int32} {n : Nat} (h : inB i n = true) : vp_in i n := by
  simp only [inB, Bool.and_eq_true, Bool.not_eq_true', decide_eq_false_iff_not, decide_eq_true_eq] at h
  intro hh
  rcases hh with h1 | h1
  · exact h.1 h1
  · omega
theorem if_inv {α : Type} {c : Prop} [Decidable c] {x : Option α} {r : α} (h : (if c then x else none) = some r) : c ∧ x = some r := by
  by_cases hc : c
  · rw [if_pos hc] at h; exact ⟨hc, h⟩
  · rw [if_neg hc] at h; cases h
theorem bind_inv {α β : Type} {x : Option α} {f : α → Option β} {r : β} (h : x.bind f = some r) : ∃ a, x = some a ∧ f a = some r := Option.bind_eq_some_iff.mp h
theorem nar_bool {v : Int32} (h : v = 0 ∨ v = 1) : narrow .boolean (.int v) = .int v := by
  rcases h with rfl | rfl <;> rfl
noncomputable def FU : Nat := 100000
noncomputable def nam {α : Type} (x : Int32) (k : Int32 → Option α) : Option α := k x
theorem nam_inv {α : Type} {x : Int32} {k : Int32 → Option α} {r : α} (h : nam x k = some r) : ∃ y, y = x ∧ k y = some r := ⟨x, rfl, h⟩
theorem lv_eqi {p : Program} {l : Launch} {e : Env} {R : Room} {s : State} {m : MethodId} {args : Array Value} {below : List Frame} {meth : Method} {c : Code} {H : Heap} {locs : List Loc} {cells slots : Nat} {Q : State → Prop} {pc : Nat} {ls : Array Slot} {rest : List Value} {x y : Int32} (hy : y = x) (k : W p l e R s m args below meth c H locs cells slots Q (F0 m pc ls (.int y :: rest))) : W p l e R s m args below meth c H locs cells slots Q (F0 m pc ls (.int x :: rest)) := by
  subst hy
  exact k
theorem lv_eqv {p : Program} {l : Launch} {e : Env} {R : Room} {s : State} {m : MethodId} {args : Array Value} {below : List Frame} {meth : Method} {c : Code} {H : Heap} {locs : List Loc} {cells slots : Nat} {Q : State → Prop} {pc : Nat} {ls : Array Slot} {rest : List Value} {v' v : Value} (hv : v = v') (k : W p l e R s m args below meth c H locs cells slots Q (F0 m pc ls (v :: rest))) : W p l e R s m args below meth c H locs cells slots Q (F0 m pc ls (v' :: rest)) := by
  subst hv
  exact k
noncomputable def bc1 (x : Int32) : Int32 := x - ((x.toUInt32 >>> ((1 : Int32).toUInt32 &&& Int32.toUInt32 31)).toInt32 &&& 1431655765)
noncomputable def bc2 (x : Int32) : Int32 := (x &&& 858993459) + ((x.toUInt32 >>> ((2 : Int32).toUInt32 &&& Int32.toUInt32 31)).toInt32 &&& 858993459)
noncomputable def bc3 (x : Int32) : Int32 := (x + (x.toUInt32 >>> ((4 : Int32).toUInt32 &&& Int32.toUInt32 31)).toInt32) &&& 252645135
noncomputable def bc4 (x : Int32) : Int32 := x + (x.toUInt32 >>> ((8 : Int32).toUInt32 &&& Int32.toUInt32 31)).toInt32
noncomputable def bc5 (x : Int32) : Int32 := x + (x.toUInt32 >>> ((16 : Int32).toUInt32 &&& Int32.toUInt32 31)).toInt32
noncomputable def nextD (d : Int32) : Int32 := ((d * 1103515245) + 12345) &&& 2147483647
theorem sw_ne {x : Int32} {k : Int} (v : Int32) (hv : v.toInt = k) (h : ¬ x = v) : x.toInt ≠ k := fun e => h (Int32.toInt_inj.mp (e.trans hv.symm))
theorem fit_bool {v : Int32} (h : v = 0 ∨ v = 1) : fits .boolean (.int v) = true := by
  rcases h with rfl | rfl <;> rfl
