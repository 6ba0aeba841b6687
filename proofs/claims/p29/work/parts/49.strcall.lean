noncomputable def PRs (D : va_G) (cA : Nat → ClassId) (cs : List va_W) (sk sv : Nat) (sf : Option Nat) : State → Prop := fun U => PR D cA cs U ∧ SF sk sv sf (aIn cs.flatten) U
noncomputable def CTs (l : Launch) (D : va_G) (cA : Nat → ClassId) (y : MethodName) (w : List Cond) (rm : Room) (av : List Value) (cs cs' : List va_W) (v : Option Value) (sk sv : Nat) (sf : Option Nat) : Prop :=
  Met l y w rm (va_Pc av (PRs D cA cs sk sv sf)) (QR D cs cs' v) 0 0 (aIn cs.flatten)
theorem PRs.blind {D : va_G} {cA : Nat → ClassId} {cs : List va_W} {av : List Value} {sk sv : Nat} {sf : Option Nat} : FrameBlind (va_Pc av (PRs D cA cs sk sv sf)) := by
  intro a U g mk h
  exact ⟨h.1, ⟨h.2.1.1, h.2.1.2.1.same rfl, h.2.1.2.2⟩, h.2.2.calling⟩
theorem aIn_sub {A0 : Nat → Prop} {cs cc : List va_W} (hD : va_D A0 cs.flatten) (isC : List Nat) (hC : isC.map (fun i => cs[i]?) = cc.map some) : ∀ q, aIn cc.flatten q → A0 q := by
  rintro q ⟨x, hx, rfl⟩
  obtain ⟨w, hw, hx⟩ := List.mem_flatten.mp hx
  obtain ⟨i, -, hi⟩ := pick_mem hC hw
  exact (Dc_iff.mp hD).2.2 w (List.mem_of_getElem? hi) x hx
theorem aIn_none {q : Nat} (h : aIn ([] : List va_W).flatten q) : False := by
  obtain ⟨x, hx, -⟩ := h
  cases hx
theorem CTs.start {sk sv : Nat} {sf : Option Nat} {l : Launch} {D : va_G} {cA : Nat → ClassId} {y : MethodName} {w w' : List Cond} {rm : Room} {av : List Value} {cs cs' : List va_W} {v : Option Value} {cc : ByteArray} {maxL : Nat} {ret : Option FieldType}
    (hy : plainName y.cls = true) (hw : w = Cond.code y cc maxL ret :: w') (hlen : (lg_sl av).length ≤ maxL)
    (body : ∀ (p : Program) (e : Env) (s : State) (m : MethodId) (below : List Frame) (meth : Method) (c : Code), Cx p s m av.toArray meth c cc maxL ret w y.cls D cA → SF sk sv sf (aIn cs.flatten) s → va_P D vwCl cs.flatten s.heap → va_D (aIn cs.flatten) cs.flatten → va_S (aIn cs.flatten) s.heap s.heap [] → ∀ ls : Array Slot, lv_has ls maxL (lv_args 0 av) →
      W p l e rm s m av.toArray below meth c s.heap [] 0 0 (MQ below (QR D cs cs' v) av.toArray s 0 0 (aIn cs.flatten)) (F0 m 0 ls [])) : CTs l D cA y w rm av cs cs' v sk sv sf := by
  refine Met.ofW (cc := cc) (maxL := maxL) (ret := ret) hy hw ?_
  intro p e s m args below meth c s₁ B hml hv
  obtain ⟨rfl, ⟨hP, hK, hD⟩, hSF⟩ := hv
  rw [lg_entry_eq]
  exact body p e s m below meth c ⟨B.exec, B.bytes, hml, findClass_of_methodNamed B.named, atoms_spec (ws := w) B.pre, B.returns, B.notSynchronized, hK⟩ hSF hP
    (hD.weaken (fun k q hk _ => ⟨q, List.mem_of_getElem? hk, rfl⟩)) va_S.rf _ (lv_entry av hlen)
section CCALLS
variable {p : Program} {l : Launch} {e : Env} {R : Room} {s : State} {m : MethodId} {args : Array Value} {below : List Frame} {meth : Method} {c : Code} {H : Heap} {locs : List Loc} {cells slots : Nat} {Q : State → Prop}
variable {pc : Nat} {ls : Array Slot} {rest st0 st1 : List Value} {a : Array Value} {A0 : Nat → Prop} {H0 : Heap} {D : va_G} {cA : Nat → ClassId} {cs cs' cr cc cc' : List va_W} {v : Option Value}
variable {bc : ByteArray} {nL : Nat} {ret : Option FieldType} {w : List Cond} {own C : String} {y : MethodName} {wy wy' : List Cond} {rmy : Room} {b : Nat} {As : List Value} {index : Nat} {bytes : ByteArray} {maxL : Nat} {rety : Option FieldType} {fs : List Value} {q : vw_C} {host : String}
variable {sk sv : Nat} {sf : Option Nat}
theorem kVs (Z : Cx p s m args meth c bc nL ret w own D cA) (hSF : SF sk sv sf A0 s) (hM : CTs l D cA y wy rmy (.ref b :: As) cc cc' v sk sv sf) (n : Nat) (hG : GoodIn w (wsV own index C y wy)) (hw : wy = Cond.code y bytes maxL rety :: wy')
    (hd : y.cls = C ∧ y.cls ≠ "java/lang/invoke/MethodHandle" ∧ y.cls ≠ "java/lang/invoke/VarHandle" ∧ (parseMethodDescriptor y.desc).map (fun d => d.parameters.length) = some n)
    (hrc : rmy.cells = 0 ∧ rmy.slots = 0) (hRm : rmy.frames + 1 ≤ R.frames ∧ 8 + (maxL + 11) + rmy.locals ≤ R.locals) (hcs : cells ≤ R.cells ∧ slots ≤ R.slots) (hP : va_P D vwCl cs.flatten H) (hD : va_D A0 cs.flatten) (hS : va_S A0 s.heap H locs) (hls : ls.size = nL) (hn1 : As.length = n) (hst : st0 = As.reverse ++ .ref b :: rest) (hst1 : v.toList ++ rest = st1) (hro : (rest.map fun v => v.category).sum ≤ 8)
    (ci : Nat) (hc : vwCl[ci]? = some q) (hqC : q.1 = C) (he : cc.flatten[0]? = some (b, .inr (ci, fs))) (isC isR js : List Nat)
    (hC : isC.map (fun i => cs[i]?) = cc.map some) (hR : isR.map (fun i => cs[i]?) = cr.map some) (hn : va_nd (isC ++ isR) = true) (hJ : js.map (fun i => (cr ++ cc')[i]?) = cs'.map some) (hj : va_nd js = true) (hdg : decode bc pc = .ok (.invokevirtual index, 3))
    (kk : ∀ (H1 : Heap) (locs1 : List Loc), va_P D vwCl cs'.flatten H1 → va_D A0 cs'.flatten → va_S A0 s.heap H1 locs1 → W p l e R s m args below meth c H1 locs1 cells slots Q (F0 m (pc + 3) ls st1)) :
    W p l e R s m args below meth c H locs cells slots Q (F0 m pc ls st0) := by
  have hnC : va_nd isC = true := by
    have hb : ∀ (a b : List Nat), va_nd (a ++ b) = true → va_nd a = true := by
      intro a b
      induction a with
      | nil => intro _; rfl
      | cons x xs ih => intro h; simp only [List.cons_append, va_nd, Bool.and_eq_true, decide_eq_true_eq] at h ⊢; exact ⟨fun hx => h.1 (List.mem_append_left _ hx), ih h.2⟩
    exact hb _ _ hn
  refine ch_call (va_runV (As := As) (b := b) (C := C) ⟨Z.1, Z.2.1, Z.2.2.1, Z.2.2.2.1, Z.2.2.2.2.1⟩ hM (cwV n Z.2.2.2.2.1 hG hw hrc.1 hrc.2 hd hRm) ⟨PRs.blind, by rw [← hqC]; exact va_recv Z.2.2.2.2.2.2.2.1 (chP hP isC hC) hc he, fun U hU hW => ⟨rfl, ⟨by rw [hU]; exact chP hP isC hC, Z.2.2.2.2.2.2.2.warm hW, (chD hD isC hnC hC).weaken (fun _ _ _ _ => trivial)⟩, hSF.go rfl hS hU hW (aIn_sub hD isC hC)⟩⟩ rfl hn1 hls hst (lv_room hro) hdg ⟨hcs.1, hcs.2⟩) hP hD hS isC isR js hC hR hn hJ hj (fun H1 l1 z1 z2 z3 => by rw [hst1]; exact kk H1 l1 z1 z2 z3)
theorem kVNs (Z : Cx p s m args meth c bc nL ret w own D cA) (hSF : SF sk sv sf A0 s) (hM : CTs l D cA y wy rmy (.ref b :: As) cc cc' v sk sv sf) (n : Nat) (hG : GoodIn w wy) (hw : wy = Cond.code y bytes maxL rety :: wy')
    (hd : y.cls = C ∧ y.cls ≠ "java/lang/invoke/MethodHandle" ∧ y.cls ≠ "java/lang/invoke/VarHandle" ∧ (parseMethodDescriptor y.desc).map (fun d => d.parameters.length) = some n) (hnk : Cond.methodLinkNest own index y host ∈ nestW) (hi1 : Cond.initialized y.cls ∈ w) (hi2 : Cond.instanceMethod y ∈ w) (hi3 : Cond.selects C y y ∈ w)
    (hrc : rmy.cells = 0 ∧ rmy.slots = 0) (hRm : rmy.frames + 1 ≤ R.frames ∧ 8 + (maxL + 11) + rmy.locals ≤ R.locals) (hcs : cells ≤ R.cells ∧ slots ≤ R.slots) (hP : va_P D vwCl cs.flatten H) (hD : va_D A0 cs.flatten) (hS : va_S A0 s.heap H locs) (hls : ls.size = nL) (hn1 : As.length = n) (hst : st0 = As.reverse ++ .ref b :: rest) (hst1 : v.toList ++ rest = st1) (hro : (rest.map fun v => v.category).sum ≤ 8)
    (ci : Nat) (hc : vwCl[ci]? = some q) (hqC : q.1 = C) (he : cc.flatten[0]? = some (b, .inr (ci, fs))) (isC isR js : List Nat)
    (hC : isC.map (fun i => cs[i]?) = cc.map some) (hR : isR.map (fun i => cs[i]?) = cr.map some) (hn : va_nd (isC ++ isR) = true) (hJ : js.map (fun i => (cr ++ cc')[i]?) = cs'.map some) (hj : va_nd js = true) (hdg : decode bc pc = .ok (.invokevirtual index, 3))
    (kk : ∀ (H1 : Heap) (locs1 : List Loc), va_P D vwCl cs'.flatten H1 → va_D A0 cs'.flatten → va_S A0 s.heap H1 locs1 → W p l e R s m args below meth c H1 locs1 cells slots Q (F0 m (pc + 3) ls st1)) :
    W p l e R s m args below meth c H locs cells slots Q (F0 m pc ls st0) := by
  have hnC : va_nd isC = true := by
    have hb : ∀ (a b : List Nat), va_nd (a ++ b) = true → va_nd a = true := by
      intro a b
      induction a with
      | nil => intro _; rfl
      | cons x xs ih => intro h; simp only [List.cons_append, va_nd, Bool.and_eq_true, decide_eq_true_eq] at h ⊢; exact ⟨fun hx => h.1 (List.mem_append_left _ hx), ih h.2⟩
    exact hb _ _ hn
  refine ch_call (va_runVN (As := As) (b := b) (C := C) ⟨Z.1, Z.2.1, Z.2.2.1, Z.2.2.2.1, Z.2.2.2.2.1⟩ hM ⟨va_cnB n Z.2.2.2.2.1 hG hw hrc.1 hrc.2 (Z.2.2.2.2.2.2.2.2 _ hnk) (Z.2.2.2.2.1 _ hi1) hd.2 hRm, Z.2.2.2.2.1 _ hi2, Z.2.2.2.2.1 _ hi3⟩ ⟨PRs.blind, by rw [← hqC]; exact va_recv Z.2.2.2.2.2.2.2.1 (chP hP isC hC) hc he, fun U hU hW => ⟨rfl, ⟨by rw [hU]; exact chP hP isC hC, Z.2.2.2.2.2.2.2.warm hW, (chD hD isC hnC hC).weaken (fun _ _ _ _ => trivial)⟩, hSF.go rfl hS hU hW (aIn_sub hD isC hC)⟩⟩ rfl hn1 hls hst (lv_room hro) hdg ⟨hcs.1, hcs.2⟩) hP hD hS isC isR js hC hR hn hJ hj (fun H1 l1 z1 z2 z3 => by rw [hst1]; exact kk H1 l1 z1 z2 z3)
end CCALLS
