/-! THE CLAIM OUT OF ONE WALK OF THE LAW'S BODY. Your part is whole_start (and what it stands on); all else here is the same for every law, but numbers. -/
noncomputable def R_law : String := "KeyedFeelingsLaw"
noncomputable def lw_P (b : Addr) (xs : List Int32) (args : Array Value) (s : State) : Prop := args = #[.ref b] ∧ s.IntsAt b xs ∧ xs.length ≤ 448 ∧ (Jvm.Cond.and given_1 narrow_1).before args s = true
noncomputable def lw_Q (_ : Array Value) (s : State) (o : Outcome) (t : State) : Prop := o = .returned (some (.int 1)) ∧ Framed s o t [] 600000 7302250
noncomputable def lw_Z (below : List Frame) (a : Array Value) (s : State) : State → Prop := fun t => ∃ o, t.status = .running ∧ Ended t below o ∧ lw_Q a s o t
/-- the law's own end, with 1 on the stack, nothing written that was there before, its room as the claim has it -/
theorem lw_ret {p : Program} {l : Launch} {e : Env} {s : State} {m : MethodId} {below : List Frame} {meth : Method} {c : Code} {b : Nat} (hx : p.tables.exec = Jvm.exec) (hb : c.code = code) (hr : meth.sig.returnType = ret) (hlocks : meth.locks = false) {pc : Nat} {H : Heap} {ls : Array Slot} (hdg : decode code pc = .ok (.ireturn, 1)) : W p l e room_1 s m #[Value.ref b] below meth c H [] 600000 7302250 (lw_Z below #[Value.ref b] s) (F0 m pc ls [.int 1]) := by
  intro T hT X
  obtain ⟨fs, hret, hrun, hended, hW, hframe⟩ := X.leave (v := some (.int 1)) (hlocks := hlocks) (fun h => by rw [hr] at h; cases h)
  have hmeth' : T.vm.method? m = some meth := X.method'
  refine ⟨T.setFrames fs, ?_, .returned (some (.int 1)), hrun, hended, rfl, ⟨_, rfl⟩, hW, hframe⟩
  jvm_step X.here [X.here.top, hx, hb, hdg, hmeth', hr, ret, narrow_b1]
  (try refine ⟨rfl, ?_⟩); (try refine ⟨rfl, ?_⟩)
  first | (intro acts; rw [hret _ acts rfl rfl rfl]) | rw [hret _ _ rfl rfl rfl]
  exact Steps.refl _
/-- what holds at the law's entry: the machine, the code, the tables' words (any of lw_tbl by 'hts w (by decide +kernel)'), the script of L ints xs at the cell b, what the Statement gives of the start (any of its parts by flat_of_before) -/
noncomputable def lw_At (p : Program) (s : State) (m : MethodId) (meth : Method) (c : Code) (b L : Nat) (xs : Nat → Int32) : Prop :=
  p.tables.exec = Jvm.exec ∧ c.code = code ∧ meth.sig.returnType = ret ∧ c.maxLocals = 4 ∧ s.vm.findClass R_law = some m.cls ∧ (∀ w ∈ lw_tbl, w.before #[Value.ref b] s = true) ∧ va_X b L xs s s.heap ∧ b < s.heap.size ∧ meth.locks = false ∧ (Jvm.Cond.and given_1 narrow_1).before #[Value.ref b] s = true
noncomputable def stepk (z : Nat → Int32) (j : Nat) (X : SX) (M : St6) (X' : SX) (M' : St6) : Prop := match j with
  | 0 => ∃ r1 r2 : Int32, FX_person X (z 1) (z 2) = some (r1, X') ∧ f_X6_person M (z 1) (z 2) = some (r2, M')
  | 1 => ∃ r1 r2 : Int32, FX_of X (z 1) (z 2) = some (r1, X') ∧ f_X6_of M (z 1) (z 2) = some r2 ∧ M' = M
  | 2 => ∃ r1 r2 : Int32, FX_type X (z 1) = some (r1, X') ∧ f_X6_type M (z 1) = some (r2, M')
  | 3 => ∃ r1 r2 : Int32, FX_close X  = some (r1, X') ∧ f_X6_close M  = some (r2, M')
  | 4 => ∃ r1 r2 : Int32, FX_count X (z 1) = some (r1, X') ∧ f_X6_count M (z 1) = some r2 ∧ M' = M
  | 5 => ∃ r1 r2 : Int32, FX_hours X (z 1) = some (r1, X') ∧ f_X6_hours M (z 1) = some (r2, M')
  | 6 => ∃ r1 r2 : Int32, FX_lend X (z 1) (z 2) = some (r1, X') ∧ f_X6_lend M (z 1) (z 2) = some (r2, M')
  | 7 => ∃ r1 r2 : Int32, FX_tell X (z 1) (z 2) = some (r1, X') ∧ f_X6_tell M (z 1) (z 2) = some (r2, M')
  | 8 => ∃ r1 r2 : Int32, FX_cut X (z 1) (z 2) = some (r1, X') ∧ f_X6_cut M (z 1) (z 2) = some (r2, M')
  | 9 => ∃ r1 r2 : Int32, FX_drift X (z 1) = some (r1, X') ∧ f_X6_drift M (z 1) = some (r2, M')
  | 10 => ∃ r1 r2 : Int32, FX_undo X  = some (r1, X') ∧ f_X6_undo M  = some (r2, M')
  | 11 => ∃ r1 r2 : Int32, FX_seed X (z 1) = some (r1, X') ∧ f_X6_seed M (z 1) = some (r2, M')
  | 12 => ∃ r1 r2 : Int32, FX_ahead X (z 1) (z 2) = some (r1, X') ∧ f_X6_ahead M (z 1) (z 2) = some (r2, M')
  | 13 => ∃ r1 r2 : Int32, FX_then X (z 1) = some (r1, X') ∧ f_X6_then M (z 1) = some (r2, M')
  | 14 => ∃ r1 r2 : Int32, FX_stops X (z 1) = some (r1, X') ∧ f_X6_stops M (z 1) = some (r2, M')
  | 15 => ∃ r1 r2 : Int32, FX_all X  = some (r1, X') ∧ f_X6_all M  = some (r2, M')
  | 16 => ∃ r1 r2 : Int32, FX_ever X  = some (r1, X') ∧ f_X6_ever M  = some (r2, M')
  | 17 => ∃ r1 r2 : Int32, FX_chain X (z 1) (z 2) = some (r1, X') ∧ f_X6_chain M (z 1) (z 2) = some r2 ∧ M' = M
  | 18 => ∃ r1 r2 : Int32, FX_lends X (z 1) (z 2) (z 3) = some (r1, X') ∧ f_X6_lends M (z 1) (z 2) (z 3) = some (r2, M')
  | 19 => ∃ r1 r2 : Int32, FX_instead X (z 1) (z 2) (z 3) = some (r1, X') ∧ f_X6_instead M (z 1) (z 2) (z 3) = some (r2, M')
  | 20 => ∃ r1 r2 : Int32, FX_needs X (z 1) (z 2) = some (r1, X') ∧ f_X6_needs M (z 1) (z 2) = some (r2, M')
  | 21 => ∃ r1 r2 : Int32, FX_match X (z 1) = some (r1, X') ∧ f_X6_match M (z 1) = some (r2, M')
  | 22 => ∃ r1 r2 : Int32, FX_again X  = some (r1, X') ∧ f_X6_again M  = some (r2, M')
  | 23 => ∃ r1 r2 : Int32, FX_forget X (z 1) (z 2) (z 3) = some (r1, X') ∧ f_X6_forget M (z 1) (z 2) (z 3) = some (r2, M')
  | 24 => ∃ r1 r2 : Int32, FX_image X  = some (r1, X') ∧ f_X6_image M  = some (r2, M')
  | 25 => ∃ r1 r2 : Int32, FX_restore X  = some (r1, X') ∧ f_X6_restore M  = some (r2, M')
  | 26 => ∃ r1 r2 : Int32, FX_heard X (z 1) (z 2) (z 3) (z 4) (z 5) (z 6) = some (r1, X') ∧ f_X6_heard M (z 1) (z 2) (z 3) (z 4) (z 5) (z 6) = some (r2, M')
  | 27 => ∃ r1 r2 : Int32, FX_film X (z 1) (z 2) (z 3) (z 4) (z 5) = some (r1, X') ∧ f_X6_film M (z 1) (z 2) (z 3) (z 4) (z 5) = some (r2, M') ∧ r1 = r2
  | 28 => ∃ r1 r2 : Int32, FX_sheet X (z 1) (z 2) (z 3) = some (r1, X') ∧ f_X6_sheet M (z 1) (z 2) (z 3) = some (r2, M')
  | 29 => ∃ r1 r2 : Int32, FX_drop X (z 1) = some (r1, X') ∧ f_X6_drop M (z 1) = some (r2, M')
  | 30 => ∃ r1 r2 : Int32, FX_item X (z 1) (z 2) (z 3) ((((z 4).toInt64) <<< ((32 : Int32).toInt64 &&& 63)) ||| (((z 5).toInt64) &&& 4294967295)) = some (r1, X') ∧ f_X6_item M (z 1) (z 2) (z 3) ((((z 4).toInt64) <<< ((32 : Int32).toInt64 &&& 63)) ||| (((z 5).toInt64) &&& 4294967295)) = some (r2, M')
  | 31 => ∃ r1 r2 : Int32, FX_copy X (z 1) (z 2) (z 3) (z 4) (z 5) = some (r1, X') ∧ f_X6_copy M (z 1) (z 2) (z 3) (z 4) (z 5) = some (r2, M')
  | _ => False
theorem arrK {s : State} {args : Array Value} {ty : FieldType} (h : (Cond.arrayClass ty).before args s = true) : ∃ c : ClassId, ArrOfT s c ty ∧ s.vm.findClass ("[" ++ ty.toString) = some c := by
  obtain ⟨c, k, comp, h1, h2, h3⟩ := Cond.arrayClass_spec h
  exact ⟨c, fun n z => ⟨fun k h => (by cases h), k, h2, comp, h3⟩, h1⟩
theorem arrO {s : State} {C : String} (h : va_AO C s) : ∃ c : ClassId, ArrOfT s c (.object C) ∧ va_RA s c (.object C) := by
  obtain ⟨comp, c, k, h1, h2, h3, h4, h5⟩ := Cond.arrayOver_spec h
  exact ⟨c, fun n z => ⟨fun k h => (by cases h), k, h3, comp, h4⟩, k, comp, h3, h4, h1, h5⟩
theorem law_lt {n L : Nat} (hn : n ≤ 448) (hL : L ≤ 448) (h : ¬ nI L - 7 < nI n) : n + 7 ≤ L := by
  have h1 : (nI L - nI 7).toInt = (L : Int) - (7 : Nat) := pk_sub_toInt (by omega) (by decide)
  have h2 : (nI n).toInt = (n : Int) := nI_toInt (by omega)
  have h3 : ¬ (nI L - nI 7).toInt < (nI n).toInt := fun z => h (Int32.lt_iff_toInt_lt.mpr z)
  omega
theorem law_nx (n : Nat) : nI n + 7 = nI (n + 7) := nI_add n 7
theorem law_X0 : ∀ j : Nat, j < 32 → j = 0 ∨ j = 1 ∨ j = 2 ∨ j = 3 ∨ j = 4 ∨ j = 5 ∨ j = 6 ∨ j = 7 ∨ j = 8 ∨ j = 9 ∨ j = 10 ∨ j = 11 ∨ j = 12 ∨ j = 13 ∨ j = 14 ∨ j = 15 ∨ j = 16 ∨ j = 17 ∨ j = 18 ∨ j = 19 ∨ j = 20 ∨ j = 21 ∨ j = 22 ∨ j = 23 ∨ j = 24 ∨ j = 25 ∨ j = 26 ∨ j = 27 ∨ j = 28 ∨ j = 29 ∨ j = 30 ∨ j = 31 := fun j h => by omega
set_option maxHeartbeats 8000000 in
set_option maxRecDepth 100000 in
theorem law_loop {p : Program} {l : Launch} {e : Env} {s : State} {m : MethodId} {below : List Frame} {meth : Method} {c : Code} {D : va_G} {cA : Nat → ClassId} {o : Nat → Nat → Nat} {a : Nat → Nat} {b L : Nat} {xs : Nat → Int32} (Z : Cx p s m #[Value.ref b] meth c cL_law 4 (some .boolean) wsL_law RL D cA) (hX : va_X b L xs s s.heap) (hbl : b < s.heap.size) {sk sv : Nat} {sf : Option Nat} (hSF : SF sk sv sf (old s) s) (hL : L ≤ 448) {cells slots : Nat} (hcs : cells ≤ room_1.cells ∧ slots ≤ room_1.slots) (Inv : SX → St6 → Prop) (step : ∀ (X : SX) (M : St6) (z : Nat → Int32) (j : Nat), Inv X M → j < 32 → z 0 &&& 31 = nI j → ∃ (X' : SX) (M' : St6), stepk z j X M X' M' ∧ Inv X' M') : ∀ (k n : Nat) (X : SX) (M : St6), n ≤ L → L ≤ n + 7 * k → Inv X M → ∀ (H : Heap) (locs : List Loc) (ls : Array Slot), va_P D vwCl ([wX cA o X, w6 cA a M] : List va_W).flatten H → va_D (old s) ([wX cA o X, w6 cA a M] : List va_W).flatten → va_S (old s) s.heap H locs → lv_has ls 4 [(3, .int (nI n)), (2, .ref (a 0)), (1, .ref (o 0 0)), (0, .ref b)] → W p l e room_1 s m #[Value.ref b] below meth c H locs cells slots (lw_Z below #[Value.ref b] s) (F0 m 18 ls []) := by
  obtain ⟨hx, hb, hml, hown, hts, hr, hlk, hKK⟩ := id Z
  have hbA : ¬ old s b := Nat.not_le.mpr hbl
  have fin : ∀ (H : Heap) (locs : List Loc) (ls : Array Slot), va_S (old s) s.heap H locs → W p l e room_1 s m #[Value.ref b] below meth c H locs cells slots (lw_Z below #[Value.ref b] s) (F0 m 1200 ls []) := by
    intro H locs ls hS
    refine lv_iconst (v := 1) hx hb dL_law_1200 (by decide) ?_
    refine va_forget (fun q hq => hS.2.2 q hq) ?_
    refine W.widen (k := 600000) (n := 7302250) hcs.1 hcs.2 ?_
    exact lw_ret hx hb hr hlk dL_law_1201
  intro k
  induction k with
  | zero =>
    intro n X M hn hk hI H locs ls hP hD hS hl
    refine lv_iload_n hx hb dL_law_18 rfl (lv_at hl 0 rfl) ?_
    refine lv_aload_n hx hb dL_law_19 rfl (lv_at hl 3 rfl) ?_
    refine va_slen hx hb hX hbl hbA hS dL_law_20 ?_
    refine lv_bipush (v := 7) hx hb dL_law_21 (by decide) ?_
    refine lv_isub hx hb dL_law_23 ?_
    refine lv_icmp_gt (tgt := 1200) hx hb dL_law_24 (by decide) (fun _ => fin H locs ls hS) (fun hc => ?_)
    have := law_lt (by omega) hL hc
    omega
  | succ k ih =>
    intro n X M hn hk hI H locs ls hP hD hS hl
    refine lv_iload_n hx hb dL_law_18 rfl (lv_at hl 0 rfl) ?_
    refine lv_aload_n hx hb dL_law_19 rfl (lv_at hl 3 rfl) ?_
    refine va_slen hx hb hX hbl hbA hS dL_law_20 ?_
    refine lv_bipush (v := 7) hx hb dL_law_21 (by decide) ?_
    refine lv_isub hx hb dL_law_23 ?_
    refine lv_icmp_gt (tgt := 1200) hx hb dL_law_24 (by decide) (fun _ => fin H locs ls hS) (fun hc => ?_)
    have hn7 := law_lt (by omega) hL hc
    refine lv_aload_n hx hb dL_law_27 rfl (lv_at hl 3 rfl) ?_
    refine lv_iload_n hx hb dL_law_28 rfl (lv_at hl 0 rfl) ?_
    refine va_sld hx hb hX hbl hbA hS (vp_in_nI (show n < L by omega) (by omega)) dL_law_29 ?_
    refine lv_eqi (y := sc xs n 0) (by rw [nI_clamp (by omega)]; rfl) ?_
    refine lv_bipush (v := 31) hx hb dL_law_30 (by decide) ?_
    refine lv_iand hx hb dL_law_32 ?_
    obtain ⟨j, hj, ej⟩ := pk_andE (sc xs n 0) (m := 31) 5 (by decide)
    obtain ⟨X', M', hst, hI'⟩ := step X M (fun i => sc xs n i) j hI hj ej
    rw [ej]
    have nxt : ∀ (H : Heap) (locs : List Loc) (ls : Array Slot), va_P D vwCl ([wX cA o X', w6 cA a M'] : List va_W).flatten H → va_D (old s) ([wX cA o X', w6 cA a M'] : List va_W).flatten → va_S (old s) s.heap H locs → lv_has ls 4 [(3, .int (nI n)), (2, .ref (a 0)), (1, .ref (o 0 0)), (0, .ref b)] → W p l e room_1 s m #[Value.ref b] below meth c H locs cells slots (lw_Z below #[Value.ref b] s) (F0 m 1194 ls []) := by
      intro H locs ls hP hD hS hl
      refine lv_iinc (v := nI (n + 7)) (lv' := [(3, .int (nI (n + 7))), (2, .ref (a 0)), (1, .ref (o 0 0)), (0, .ref b)]) hx hb dL_law_1194 hl (k := 0) rfl (law_nx n) (by decide) rfl (fun ls hl => ?_)
      refine lv_goto (tgt := 18) hx hb dL_law_1197 (by decide) ?_
      exact ih (n + 7) X' M' (by omega) (by omega) hI' _ _ _ hP hD hS hl
    rcases law_X0 j hj with rfl | rfl | rfl | rfl | rfl | rfl | rfl | rfl | rfl | rfl | rfl | rfl | rfl | rfl | rfl | rfl | rfl | rfl | rfl | rfl | rfl | rfl | rfl | rfl | rfl | rfl | rfl | rfl | rfl | rfl | rfl | rfl
    · refine lv_tableIn (tgt := 176) (off := 143) hx hb dL_law_33 (by decide) (by decide) rfl (by decide) ?_
      obtain ⟨r1, r2, h1, h2⟩ := hst
      exact lawc_0 Z hX hbl n hn7 hL hcs X M (r1, X') (r2, M') h1 h2 H locs ls hP hD hS hl nxt
    · refine lv_tableIn (tgt := 209) (off := 176) hx hb dL_law_33 (by decide) (by decide) rfl (by decide) ?_
      obtain ⟨r1, r2, h1, h2, hM⟩ := hst
      subst hM
      exact lawc_1 Z hX hbl n hn7 hL hcs X M' (r1, X') r2 h1 h2 H locs ls hP hD hS hl nxt
    · refine lv_tableIn (tgt := 242) (off := 209) hx hb dL_law_33 (by decide) (by decide) rfl (by decide) ?_
      obtain ⟨r1, r2, h1, h2⟩ := hst
      exact lawc_2 Z hX hbl n hn7 hL hcs X M (r1, X') (r2, M') h1 h2 H locs ls hP hD hS hl nxt
    · refine lv_tableIn (tgt := 265) (off := 232) hx hb dL_law_33 (by decide) (by decide) rfl (by decide) ?_
      obtain ⟨r1, r2, h1, h2⟩ := hst
      exact lawc_3 Z hX hbl hSF n hn7 hL hcs X M (r1, X') (r2, M') h1 h2 H locs ls hP hD hS hl nxt
    · refine lv_tableIn (tgt := 278) (off := 245) hx hb dL_law_33 (by decide) (by decide) rfl (by decide) ?_
      obtain ⟨r1, r2, h1, h2, hM⟩ := hst
      subst hM
      exact lawc_4 Z hX hbl n hn7 hL hcs X M' (r1, X') r2 h1 h2 H locs ls hP hD hS hl nxt
    · refine lv_tableIn (tgt := 301) (off := 268) hx hb dL_law_33 (by decide) (by decide) rfl (by decide) ?_
      obtain ⟨r1, r2, h1, h2⟩ := hst
      exact lawc_5 Z hX hbl n hn7 hL hcs X M (r1, X') (r2, M') h1 h2 H locs ls hP hD hS hl nxt
    · refine lv_tableIn (tgt := 324) (off := 291) hx hb dL_law_33 (by decide) (by decide) rfl (by decide) ?_
      obtain ⟨r1, r2, h1, h2⟩ := hst
      exact lawc_6 Z hX hbl n hn7 hL hcs X M (r1, X') (r2, M') h1 h2 H locs ls hP hD hS hl nxt
    · refine lv_tableIn (tgt := 357) (off := 324) hx hb dL_law_33 (by decide) (by decide) rfl (by decide) ?_
      obtain ⟨r1, r2, h1, h2⟩ := hst
      exact lawc_7 Z hX hbl n hn7 hL hcs X M (r1, X') (r2, M') h1 h2 H locs ls hP hD hS hl nxt
    · refine lv_tableIn (tgt := 390) (off := 357) hx hb dL_law_33 (by decide) (by decide) rfl (by decide) ?_
      obtain ⟨r1, r2, h1, h2⟩ := hst
      exact lawc_8 Z hX hbl n hn7 hL hcs X M (r1, X') (r2, M') h1 h2 H locs ls hP hD hS hl nxt
    · refine lv_tableIn (tgt := 423) (off := 390) hx hb dL_law_33 (by decide) (by decide) rfl (by decide) ?_
      obtain ⟨r1, r2, h1, h2⟩ := hst
      exact lawc_9 Z hX hbl n hn7 hL hcs X M (r1, X') (r2, M') h1 h2 H locs ls hP hD hS hl nxt
    · refine lv_tableIn (tgt := 446) (off := 413) hx hb dL_law_33 (by decide) (by decide) rfl (by decide) ?_
      obtain ⟨r1, r2, h1, h2⟩ := hst
      exact lawc_10 Z hX hbl n hn7 hL hcs X M (r1, X') (r2, M') h1 h2 H locs ls hP hD hS hl nxt
    · refine lv_tableIn (tgt := 459) (off := 426) hx hb dL_law_33 (by decide) (by decide) rfl (by decide) ?_
      obtain ⟨r1, r2, h1, h2⟩ := hst
      exact lawc_11 Z hX hbl n hn7 hL hcs X M (r1, X') (r2, M') h1 h2 H locs ls hP hD hS hl nxt
    · refine lv_tableIn (tgt := 482) (off := 449) hx hb dL_law_33 (by decide) (by decide) rfl (by decide) ?_
      obtain ⟨r1, r2, h1, h2⟩ := hst
      exact lawc_12 Z hX hbl n hn7 hL hcs X M (r1, X') (r2, M') h1 h2 H locs ls hP hD hS hl nxt
    · refine lv_tableIn (tgt := 515) (off := 482) hx hb dL_law_33 (by decide) (by decide) rfl (by decide) ?_
      obtain ⟨r1, r2, h1, h2⟩ := hst
      exact lawc_13 Z hX hbl n hn7 hL hcs X M (r1, X') (r2, M') h1 h2 H locs ls hP hD hS hl nxt
    · refine lv_tableIn (tgt := 538) (off := 505) hx hb dL_law_33 (by decide) (by decide) rfl (by decide) ?_
      obtain ⟨r1, r2, h1, h2⟩ := hst
      exact lawc_14 Z hX hbl n hn7 hL hcs X M (r1, X') (r2, M') h1 h2 H locs ls hP hD hS hl nxt
    · refine lv_tableIn (tgt := 561) (off := 528) hx hb dL_law_33 (by decide) (by decide) rfl (by decide) ?_
      obtain ⟨r1, r2, h1, h2⟩ := hst
      exact lawc_15 Z hX hbl n hn7 hL hcs X M (r1, X') (r2, M') h1 h2 H locs ls hP hD hS hl nxt
    · refine lv_tableIn (tgt := 574) (off := 541) hx hb dL_law_33 (by decide) (by decide) rfl (by decide) ?_
      obtain ⟨r1, r2, h1, h2⟩ := hst
      exact lawc_16 Z hX hbl n hn7 hL hcs X M (r1, X') (r2, M') h1 h2 H locs ls hP hD hS hl nxt
    · refine lv_tableIn (tgt := 587) (off := 554) hx hb dL_law_33 (by decide) (by decide) rfl (by decide) ?_
      obtain ⟨r1, r2, h1, h2, hM⟩ := hst
      subst hM
      exact lawc_17 Z hX hbl n hn7 hL hcs X M' (r1, X') r2 h1 h2 H locs ls hP hD hS hl nxt
    · refine lv_tableIn (tgt := 620) (off := 587) hx hb dL_law_33 (by decide) (by decide) rfl (by decide) ?_
      obtain ⟨r1, r2, h1, h2⟩ := hst
      exact lawc_18 Z hX hbl n hn7 hL hcs X M (r1, X') (r2, M') h1 h2 H locs ls hP hD hS hl nxt
    · refine lv_tableIn (tgt := 663) (off := 630) hx hb dL_law_33 (by decide) (by decide) rfl (by decide) ?_
      obtain ⟨r1, r2, h1, h2⟩ := hst
      exact lawc_19 Z hX hbl n hn7 hL hcs X M (r1, X') (r2, M') h1 h2 H locs ls hP hD hS hl nxt
    · refine lv_tableIn (tgt := 706) (off := 673) hx hb dL_law_33 (by decide) (by decide) rfl (by decide) ?_
      obtain ⟨r1, r2, h1, h2⟩ := hst
      exact lawc_20 Z hX hbl n hn7 hL hcs X M (r1, X') (r2, M') h1 h2 H locs ls hP hD hS hl nxt
    · refine lv_tableIn (tgt := 739) (off := 706) hx hb dL_law_33 (by decide) (by decide) rfl (by decide) ?_
      obtain ⟨r1, r2, h1, h2⟩ := hst
      exact lawc_21 Z hX hbl n hn7 hL hcs X M (r1, X') (r2, M') h1 h2 H locs ls hP hD hS hl nxt
    · refine lv_tableIn (tgt := 762) (off := 729) hx hb dL_law_33 (by decide) (by decide) rfl (by decide) ?_
      obtain ⟨r1, r2, h1, h2⟩ := hst
      exact lawc_22 Z hX hbl n hn7 hL hcs X M (r1, X') (r2, M') h1 h2 H locs ls hP hD hS hl nxt
    · refine lv_tableIn (tgt := 775) (off := 742) hx hb dL_law_33 (by decide) (by decide) rfl (by decide) ?_
      obtain ⟨r1, r2, h1, h2⟩ := hst
      exact lawc_23 Z hX hbl n hn7 hL hcs X M (r1, X') (r2, M') h1 h2 H locs ls hP hD hS hl nxt
    · refine lv_tableIn (tgt := 818) (off := 785) hx hb dL_law_33 (by decide) (by decide) rfl (by decide) ?_
      obtain ⟨r1, r2, h1, h2⟩ := hst
      exact lawc_24 Z hX hbl n hn7 hL hcs X M (r1, X') (r2, M') h1 h2 H locs ls hP hD hS hl nxt
    · refine lv_tableIn (tgt := 831) (off := 798) hx hb dL_law_33 (by decide) (by decide) rfl (by decide) ?_
      obtain ⟨r1, r2, h1, h2⟩ := hst
      exact lawc_25 Z hX hbl n hn7 hL hcs X M (r1, X') (r2, M') h1 h2 H locs ls hP hD hS hl nxt
    · refine lv_tableIn (tgt := 844) (off := 811) hx hb dL_law_33 (by decide) (by decide) rfl (by decide) ?_
      obtain ⟨r1, r2, h1, h2⟩ := hst
      exact lawc_26 Z hX hbl n hn7 hL hcs X M (r1, X') (r2, M') h1 h2 H locs ls hP hD hS hl nxt
    · refine lv_tableIn (tgt := 919) (off := 886) hx hb dL_law_33 (by decide) (by decide) rfl (by decide) ?_
      obtain ⟨r1, r2, h1, h2, hcmp⟩ := hst
      exact lawc_27 Z hX hbl n hn7 hL hcs X M (r1, X') (r2, M') h1 h2 hcmp H locs ls hP hD hS hl nxt
    · refine lv_tableIn (tgt := 982) (off := 949) hx hb dL_law_33 (by decide) (by decide) rfl (by decide) ?_
      obtain ⟨r1, r2, h1, h2⟩ := hst
      exact lawc_28 Z hX hbl n hn7 hL hcs X M (r1, X') (r2, M') h1 h2 H locs ls hP hD hS hl nxt
    · refine lv_tableIn (tgt := 1025) (off := 992) hx hb dL_law_33 (by decide) (by decide) rfl (by decide) ?_
      obtain ⟨r1, r2, h1, h2⟩ := hst
      exact lawc_29 Z hX hbl n hn7 hL hcs X M (r1, X') (r2, M') h1 h2 H locs ls hP hD hS hl nxt
    · refine lv_tableIn (tgt := 1048) (off := 1015) hx hb dL_law_33 (by decide) (by decide) rfl (by decide) ?_
      obtain ⟨r1, r2, h1, h2⟩ := hst
      exact lawc_30 Z hX hbl n hn7 hL hcs X M (r1, X') (r2, M') h1 h2 H locs ls hP hD hS hl nxt
    · refine lv_tableIn (tgt := 1131) (off := 1098) hx hb dL_law_33 (by decide) (by decide) rfl (by decide) ?_
      obtain ⟨r1, r2, h1, h2⟩ := hst
      exact lawc_31 Z hX hbl n hn7 hL hcs X M (r1, X') (r2, M') h1 h2 H locs ls hP hD hS hl nxt

theorem ndX5_init : yX5_init.cls ≠ "java/lang/invoke/MethodHandle" ∧ yX5_init.cls ≠ "java/lang/invoke/VarHandle" ∧ (parseMethodDescriptor yX5_init.desc).map (fun d => d.parameters.length) = some 0 := by decide +kernel
theorem ndX6_init : yX6_init.cls ≠ "java/lang/invoke/MethodHandle" ∧ yX6_init.cls ≠ "java/lang/invoke/VarHandle" ∧ (parseMethodDescriptor yX6_init.desc).map (fun d => d.parameters.length) = some 0 := by decide +kernel
theorem mlL_9 : Cond.methodLink RL 9 yX5_init ∈ wsL_law := by decide +kernel
theorem mlL_12 : Cond.methodLink RL 12 yX6_init ∈ wsL_law := by decide +kernel
theorem mlL_i5 : Cond.initialized RX5 ∈ wsL_law := by decide +kernel
theorem mlL_i6 : Cond.initialized RX6 ∈ wsL_law := by decide +kernel
theorem mlL_m5 : Cond.instanceMethod yX5_init ∈ wsL_law := by decide +kernel
theorem mlL_m6 : Cond.instanceMethod yX6_init ∈ wsL_law := by decide +kernel
section NCALL2
variable {p : Program} {l : Launch} {e : Env} {R : Room} {s : State} {m : MethodId} {args : Array Value} {below : List Frame} {meth : Method} {c : Code} {H : Heap} {locs : List Loc} {cells slots : Nat} {Q : State → Prop}
variable {pc : Nat} {ls : Array Slot} {rest st0 : List Value} {a : Array Value} {A0 : Nat → Prop} {H0 : Heap} {D : va_G} {cA : Nat → ClassId} {cr : List va_W} {S : Type} {post : S → Prop} {wn : S → va_W} {mc ms h0 : Nat} {e0 : va_E}
variable {bc : ByteArray} {nL : Nat} {ret : Option FieldType} {w wy wy' : List Cond} {own : String} {y : MethodName} {rmy : Room} {index maxL : Nat} {bytes : ByteArray}
/-- a constructor -/
theorem kI (Z : Cx p s m args meth c bc nL ret w own D cA) (hN : KN s) (hM : CN l D cA y wy rmy mc ms h0 e0 H.size post wn) (hG : GoodIn w wy) (hw : wy = Cond.code y bytes maxL none :: wy')
    (hd : y.cls ≠ "java/lang/invoke/MethodHandle" ∧ y.cls ≠ "java/lang/invoke/VarHandle" ∧ (parseMethodDescriptor y.desc).map (fun d => d.parameters.length) = some 0) (hyn : y.name = "<init>") (hnk : Cond.methodLink own index y ∈ w) (hi1 : Cond.initialized y.cls ∈ w) (hi2 : Cond.instanceMethod y ∈ w)
    (hrc : rmy.cells = mc ∧ rmy.slots = ms) (hRm : rmy.frames + 1 ≤ R.frames ∧ 8 + (maxL + 11) + rmy.locals ≤ R.locals) (hcs : cells + mc ≤ R.cells ∧ slots + ms ≤ R.slots) (hP : va_P D vwCl (cr.flatten ++ [(h0, e0)]) H) (hD : va_D A0 (cr.flatten ++ [(h0, e0)])) (hS : va_S A0 H0 H locs) (hA : ∀ q, H0.size ≤ q → A0 q) (hls : ls.size = nL) (hst : st0 = .ref h0 :: rest) (hro : (rest.map fun v => v.category).sum ≤ 8) (hdg : decode bc pc = .ok (.invokespecial index, 3))
    (kk : ∀ (u : S) (H1 : Heap) (locs1 : List Loc), post u → va_P D vwCl (cr ++ [wn u]).flatten H1 → va_D A0 (cr ++ [wn u]).flatten → va_S A0 H0 H1 locs1 → W p l e R s m args below meth c H1 locs1 (cells + mc) (slots + ms) Q (F0 m (pc + 3) ls rest)) :
    W p l e R s m args below meth c H locs cells slots Q (F0 m pc ls st0) :=
  ch_new (va_runI (As := []) ⟨Z.1, Z.2.1, Z.2.2.1, Z.2.2.2.1, Z.2.2.2.2.1⟩ hM (cwI 0 Z.2.2.2.2.1 hG hw hrc.1 hrc.2 (Z.2.2.2.2.1 _ hi1) (Z.2.2.2.2.1 _ hnk) (Z.2.2.2.2.1 _ hi2) hyn hd hRm) (preN Z.2.2.2.2.2.2.2 hN hP) rfl rfl hls hst (lv_room hro) hdg hcs) hP hD hS hA kk
end NCALL2
set_option maxHeartbeats 8000000 in
set_option maxRecDepth 100000 in
theorem law_start {p : Program} {e : Env} {s : State} {m : MethodId} {below : List Frame} {meth : Method} {c : Code} (l : Launch) {b L : Nat} {xs : Nat → Int32} (hL : L ≤ 448) (C0 : lw_At p s m meth c b L xs) (Inv : SX → St6 → Prop) (step : ∀ (X : SX) (M : St6) (z : Nat → Int32) (j : Nat), Inv X M → j < 32 → z 0 &&& 31 = nI j → ∃ (X' : SX) (M' : St6), stepk z j X M X' M' ∧ Inv X' M') (h0 : Inv (0, st2_0, st1_0, st2_0, st1_0, st2_0, st4_0, st0_0, fun _ => st3_0) st6_0) : W p l e room_1 s m #[Value.ref b] below meth c s.heap [] 0 0 (lw_Z below #[Value.ref b] s) (entryFrame m ([Value.ref b] : List Value).toArray 4) := by
  obtain ⟨hx, hb, hr, hml, hown, htsT, hX, hbl, hlocks, hgv⟩ := id C0
  have hts : ∀ w ∈ wsL_law, w.before #[Value.ref b] s = true := fun w h => htsT w (wsL_law_in w h)
  have hA : ∀ q : Nat, s.heap.size ≤ q → old s q := fun _ h => h
  have hAo : ∀ a : Nat, a < s.heap.size → ¬ old s a := fun a h => Nat.not_le.mpr h
  obtain ⟨c0, iS0, hKn0⟩ := u_known (C := RX0) (T := TX0) (N := 3) (n := 3) htsT in_wsX00 (htsT (.instantiable RX0 3) (by decide +kernel))
  obtain ⟨c1, iS1, hKn1⟩ := u_known (C := RX1) (T := TX1) (N := 3) (n := 3) htsT in_wsX10 (htsT (.instantiable RX1 3) (by decide +kernel))
  obtain ⟨c2, iS2, hKn2⟩ := u_known (C := RX2) (T := TX2) (N := 7) (n := 7) htsT in_wsX20 (htsT (.instantiable RX2 7) (by decide +kernel))
  obtain ⟨c3, iS3, hKn3⟩ := u_known (C := RX3) (T := TX3) (N := 3) (n := 3) htsT in_wsX30 (htsT (.instantiable RX3 3) (by decide +kernel))
  obtain ⟨c4, iS4, hKn4⟩ := u_known (C := RX4) (T := TX4) (N := 3) (n := 3) htsT in_wsX40 (htsT (.instantiable RX4 3) (by decide +kernel))
  obtain ⟨c5, iS5, hKn5⟩ := u_known (C := RX5) (T := TX5) (N := 9) (n := 9) htsT in_wsX50 (htsT (.instantiable RX5 9) (by decide +kernel))
  obtain ⟨c6, iS6, hKn6⟩ := u_known (C := RX6) (T := TX6) (N := 19) (n := 19) htsT in_wsX60 (htsT (.instantiable RX6 19) (by decide +kernel))
  have hKN : KN s := ⟨va_AO.of (htsT (.arrayOver (.object "KeyedFeelings$People")) (by decide +kernel)), va_AO.of (htsT (.arrayOver (.object "KeyedFeelings$Sheet")) (by decide +kernel))⟩
  obtain ⟨aI, hI1, hI2⟩ := arrK (htsT (.arrayClass .int) (by decide +kernel))
  obtain ⟨aJ, hJ1, hJ2⟩ := arrK (htsT (.arrayClass .long) (by decide +kernel))
  obtain ⟨aP, hP1, hP2⟩ := arrO hKN.1
  obtain ⟨aS, hS1, hS2⟩ := arrO hKN.2
  obtain ⟨D, hDc⟩ : ∃ D : va_G, ∀ (k : Nat) (q : vw_C), vwCl[k]? = some q → u_Kn s q.1 q.2.1 q.2.2 (D.1 k) (D.2 k) := by
    refine ⟨(fun k => [c0, c1, c2, c3, c4, c5, c6].getD k c0, fun k => [iS0, iS1, iS2, iS3, iS4, iS5, iS6].getD k iS0), ?_⟩
    intro k q hq
    match k, hq with
    | 0, hq => cases hq; exact hKn0
    | 1, hq => cases hq; exact hKn1
    | 2, hq => cases hq; exact hKn2
    | 3, hq => cases hq; exact hKn3
    | 4, hq => cases hq; exact hKn4
    | 5, hq => cases hq; exact hKn5
    | 6, hq => cases hq; exact hKn6
    | k + 7, hq => simp [vwCl] at hq
  obtain ⟨cA, e0, e1, e2, e3⟩ : ∃ cA : Nat → ClassId, cA 0 = aI ∧ cA 1 = aJ ∧ cA 2 = aP ∧ cA 3 = aS := ⟨fun k => [aI, aJ, aP, aS].getD k aI, rfl, rfl, rfl, rfl⟩
  have hK : va_K D vwCl (tysG cA) s := by
    refine ⟨hDc, fun k q hk => ?_⟩
    match k, hk with
    | 0, hk => cases hk; rw [e0]; exact ⟨hI1, hI2⟩
    | 1, hk => cases hk; rw [e1]; exact ⟨hJ1, hJ2⟩
    | 2, hk => cases hk; rw [e2]; exact ⟨hP1, hP2⟩
    | 3, hk => cases hk; rw [e3]; exact ⟨hS1, hS2⟩
    | k + 4, hk => simp [tysG] at hk
  have hKK : KK D cA s := ⟨hK, fun w hw => nest_of (List.all_eq_true.mp nestW_ok w hw) (htsT w (nestW_in w hw))⟩
  have Z : Cx p s m #[Value.ref b] meth c cL_law 4 (some .boolean) wsL_law RL D cA := ⟨hx, hb, hml, hown, hts, hr, hlocks, hKK⟩
  have hfl := flat_of_before _ hgv
  obtain ⟨adK, adV, hvS, hvt⟩ := vk_Sof (args := #[Value.ref b]) (s := s) (N := 1) (tm := fun _ => Term.string "KeyedFeelings$Tape" 64) (len := [5]) (byt := [[103, 99, 116, 112, 108]]) (A := old s)
    (fun i hi => by rcases (show i = 0 by omega) with rfl; decide)
    (fun i hi => hfl _ (by decide +kernel)) (fun i hi => hfl _ (by decide +kernel)) (fun i hi => hfl _ (by decide +kernel))
    (fun i hi => by rcases (show i = 0 by omega) with rfl; exact hfl _ (by decide +kernel))
    (fun i hi j hj => by
      rcases (show i = 0 by omega) with rfl
      have hj : j < 5 := hj
      rcases (show j = 0 ∨ j = 1 ∨ j = 2 ∨ j = 3 ∨ j = 4 by omega) with rfl | rfl | rfl | rfl | rfl <;> exact hfl _ (by decide +kernel))
    (fun i j hi hj hij => absurd (show i = j by omega) hij) hAo
  obtain ⟨sf, hZf⟩ : ∃ sf : Option Nat, va_Z "jdk/internal/util/Preconditions" "SIOOBE_FORMATTER" "Ljava/util/function/BiFunction;" (va_rf sf) (old s) s s.heap := by
    rcases va_Zqof (A := old s) (htsT (.laysStatic "jdk/internal/util/Preconditions" "SIOOBE_FORMATTER" "Ljava/util/function/BiFunction;") (by decide +kernel)) (htsT (.initialized "jdk/internal/util/Preconditions") (by decide +kernel)) (hfl _ (by decide +kernel)) hAo with h | ⟨t, h⟩
    · exact ⟨none, h⟩
    · exact ⟨some t, h⟩
  have hv0 := hvS.1 0 (by decide)
  have hSF : SF (adK 0) (adV 0) sf (old s) s := ⟨hv0.1, hv0.2.1, hv0.2.2.1, hv0.2.2.2, va_Zof (htsT (.laysStatic "java/lang/String" "COMPACT_STRINGS" "Z") (by decide +kernel)) (htsT (.initialized "java/lang/String") (by decide +kernel)) (va_eqi (hfl _ (by decide +kernel))) hAo, hZf, vk_R.of (htsT (.stringRef "KeyedFeelings$Tape" 64 "gctpl") (by decide +kernel)) (hvt 0 (by decide))⟩
  have hS : va_S (old s) s.heap s.heap [] := va_S.rf
  have hP : va_P D vwCl (([] : List va_W).flatten) s.heap := fun k q h => by simp at h
  have hD : va_D (old s) (([] : List va_W).flatten) := ⟨fun i j p q h => by simp at h, fun k q h => by simp at h⟩
  have hl := lv_entry ([.ref b]) (n := 4) (Nat.le_of_ble_eq_true rfl)
  rw [lg_entry_eq]
  generalize (lg_sl ([.ref b]) ++ List.replicate (4 - (lg_sl ([.ref b])).length) Slot.unset).toArray = ls at hl ⊢
  have hl : lv_has ls 4 [(0, .ref b)] := hl
  refine va_new (ci := 5) (fs := [.null, .null, .null, .null, .int 0, .null, .null, .null, .null]) (C := RX5) (T := TX5) (N := 9) hx hb hts inlX5 tyX5 tyX5_ok hown (hts (.classLink RL 7 RX5) (by decide +kernel)) (hts (.instantiable RX5 9) (by decide +kernel)) (hts (.initialized RX5) (by decide +kernel)) hK hP hD hS hA rfl (fun j hj => by rcases (show j = 0 ∨ j = 1 ∨ j = 2 ∨ j = 3 ∨ j = 4 ∨ j = 5 ∨ j = 6 ∨ j = 7 ∨ j = 8 by omega) with rfl | rfl | rfl | rfl | rfl | rfl | rfl | rfl | rfl <;> rfl) (Nat.le_of_ble_eq_true rfl) (Nat.le_of_ble_eq_true rfl) dL_law_0 (fun q5 H hP hD hS => ?_)
  refine lv_dup hx hb dL_law_3 rfl ?_
  refine kI (cr := []) (rest := [.ref q5]) Z hKN (c_X5_init l D cA q5 _) gL_law_X5_init rfl ndX5_init rfl mlL_9 mlL_i5 mlL_m5 ⟨rfl, rfl⟩ ⟨Nat.le_of_ble_eq_true rfl, Nat.le_of_ble_eq_true rfl⟩ ⟨Nat.le_of_ble_eq_true rfl, Nat.le_of_ble_eq_true rfl⟩ hP hD hS hA hl.1 rfl (Nat.le_of_ble_eq_true rfl) dL_law_4 (fun o H1_ locs1_ ho hP1_ hD1_ hS1_ => ?_)
  subst ho
  have hP := hP1_
  have hD := hD1_
  have hS := hS1_
  refine lv_astore_n (lv' := [(1, .ref (o 0 0)), (0, .ref b)]) hx hb dL_law_7 rfl hl (by decide) rfl (fun ls hl => ?_)
  refine va_new (ci := 6) (fs := [.null, .null, .null, .int 0, .int 0, .int 0, .null, .null, .int 0, .null, .null, .null, .null, .int 0, .int 0, .null, .null, .null, .null]) (C := RX6) (T := TX6) (N := 19) hx hb hts inlX6 tyX6 tyX6_ok hown (hts (.classLink RL 10 RX6) (by decide +kernel)) (hts (.instantiable RX6 19) (by decide +kernel)) (hts (.initialized RX6) (by decide +kernel)) hK hP hD hS hA rfl (fun j hj => by rcases (show j = 0 ∨ j = 1 ∨ j = 2 ∨ j = 3 ∨ j = 4 ∨ j = 5 ∨ j = 6 ∨ j = 7 ∨ j = 8 ∨ j = 9 ∨ j = 10 ∨ j = 11 ∨ j = 12 ∨ j = 13 ∨ j = 14 ∨ j = 15 ∨ j = 16 ∨ j = 17 ∨ j = 18 by omega) with rfl | rfl | rfl | rfl | rfl | rfl | rfl | rfl | rfl | rfl | rfl | rfl | rfl | rfl | rfl | rfl | rfl | rfl | rfl <;> rfl) (Nat.le_of_ble_eq_true rfl) (Nat.le_of_ble_eq_true rfl) dL_law_8 (fun q6 H hP hD hS => ?_)
  refine lv_dup hx hb dL_law_11 rfl ?_
  refine kI (rest := [.ref q6]) Z hKN (c_X6_init l D cA q6 _) gL_law_X6_init rfl ndX6_init rfl mlL_12 mlL_i6 mlL_m6 ⟨rfl, rfl⟩ ⟨Nat.le_of_ble_eq_true rfl, Nat.le_of_ble_eq_true rfl⟩ ⟨Nat.le_of_ble_eq_true rfl, Nat.le_of_ble_eq_true rfl⟩ hP hD hS hA hl.1 rfl (Nat.le_of_ble_eq_true rfl) dL_law_12 (fun a H2_ locs2_ ha hP2_ hD2_ hS2_ => ?_)
  subst ha
  refine lv_astore_n (lv' := [(2, .ref (a 0)), (1, .ref (o 0 0)), (0, .ref b)]) hx hb dL_law_15 rfl hl (by decide) rfl (fun ls hl => ?_)
  refine lv_iconst (v := nI 0) hx hb dL_law_16 (by decide) ?_
  refine lv_istore_n (lv' := [(3, .int (nI 0)), (2, .ref (a 0)), (1, .ref (o 0 0)), (0, .ref b)]) hx hb dL_law_17 rfl hl (by decide) rfl (fun ls hl => ?_)
  exact law_loop (sk := adK 0) (sv := adV 0) (sf := sf) Z hX hbl hSF hL ⟨Nat.le_of_ble_eq_true rfl, Nat.le_of_ble_eq_true rfl⟩ Inv step 448 0 _ _ (Nat.zero_le _) (by omega) h0 _ _ _ hP2_ hD2_ hS2_ hl
