noncomputable abbrev SX : Type := St5 × St2 × St1 × St2 × St1 × St2 × St4 × St0 × (Nat → St3)
noncomputable abbrev xk (X : SX) : St5 := X.1
noncomputable abbrev xnw (X : SX) : St2 := X.2.1
noncomputable abbrev xps (X : SX) : St1 := X.2.2.1
noncomputable abbrev xkn (X : SX) : St2 := X.2.2.2.1
noncomputable abbrev xkp (X : SX) : St1 := X.2.2.2.2.1
noncomputable abbrev xtr (X : SX) : St2 := X.2.2.2.2.2.1
noncomputable abbrev xtp (X : SX) : St4 := X.2.2.2.2.2.2.1
noncomputable abbrev xmt (X : SX) : St0 := X.2.2.2.2.2.2.2.1
noncomputable abbrev xsh (X : SX) : (Nat → St3) := X.2.2.2.2.2.2.2.2
noncomputable abbrev sxk (X : SX) (v : St5) : SX := (v, X.2)
noncomputable abbrev sxnw (X : SX) (v : St2) : SX := (X.1, v, X.2.2)
noncomputable abbrev sxps (X : SX) (v : St1) : SX := (X.1, X.2.1, v, X.2.2.2)
noncomputable abbrev sxkn (X : SX) (v : St2) : SX := (X.1, X.2.1, X.2.2.1, v, X.2.2.2.2)
noncomputable abbrev sxkp (X : SX) (v : St1) : SX := (X.1, X.2.1, X.2.2.1, X.2.2.2.1, v, X.2.2.2.2.2)
noncomputable abbrev sxtr (X : SX) (v : St2) : SX := (X.1, X.2.1, X.2.2.1, X.2.2.2.1, X.2.2.2.2.1, v, X.2.2.2.2.2.2)
noncomputable abbrev sxtp (X : SX) (v : St4) : SX := (X.1, X.2.1, X.2.2.1, X.2.2.2.1, X.2.2.2.2.1, X.2.2.2.2.2.1, v, X.2.2.2.2.2.2.2)
noncomputable abbrev sxmt (X : SX) (v : St0) : SX := (X.1, X.2.1, X.2.2.1, X.2.2.2.1, X.2.2.2.2.1, X.2.2.2.2.2.1, X.2.2.2.2.2.2.1, v, X.2.2.2.2.2.2.2.2)
noncomputable abbrev sxsh (X : SX) (v : (Nat → St3)) : SX := (X.1, X.2.1, X.2.2.1, X.2.2.2.1, X.2.2.2.2.1, X.2.2.2.2.2.1, X.2.2.2.2.2.2.1, X.2.2.2.2.2.2.2.1, v)
noncomputable def WX (cA : Nat → ClassId) (o : Nat → Nat → Nat) (X : SX) : List va_W := w5all cA o (xk X) (xnw X) (xps X) (xkn X) (xkp X) (xtr X) (xtp X) (xmt X) (xsh X 0) (xsh X 1) (xsh X 2) (xsh X 3)
noncomputable def wX (cA : Nat → ClassId) (o : Nat → Nat → Nat) (X : SX) : va_W := (WX cA o X).flatten
noncomputable def sj (x : Int32) : Nat := if inB x 4 = true then x.toNatClampNeg else 0
theorem sj_lt (x : Int32) : sj x < 4 := by
  unfold sj
  by_cases h : inB x 4 = true
  · rw [if_pos h]
    simp only [inB, Bool.and_eq_true, decide_eq_true_eq] at h
    exact h.2
  · rw [if_neg h]; decide
theorem sj_hj (x : Int32) : inB x 4 = true → x.toNatClampNeg = sj x := fun h => by unfold sj; rw [if_pos h]
theorem four {j : Nat} (h : j < 4) : j = 0 ∨ j = 1 ∨ j = 2 ∨ j = 3 := by omega
noncomputable def FX_person (X : SX) (x1 : Int32) (x2 : Int32) : Option (Int32 × SX) := (f_X5_person (xk X) (xnw X) (xps X) x1 x2).bind (fun r => some (r.1, (sxps (sxnw X r.2.1) r.2.2)))
set_option maxRecDepth 100000 in
theorem cw_X5_person (l : Launch) (D : va_G) (cA : Nat → ClassId) (o : Nat → Nat → Nat) (X : SX) (x1 : Int32) (x2 : Int32) (res : Int32 × SX) (h : FX_person X x1 x2 = some res) : CT l D cA yX5_person wsX5_person rmX5_person [.ref (o 0 0), .int x1, .int x2] [wX cA o X] [wX cA o res.2] (some (.int res.1)) := by
  obtain ⟨r, hr, h⟩ := bind_inv h
  have h := Option.some.inj h
  subst h
  exact CT.one (CT.frame (cs := WX cA o X) (cs' := WX cA o (sxps (sxnw X r.2.1) r.2.2)) (cr := [w2 cA (o 3) (xkn X), w1 cA (fun i => o (30 + i)) (xkp X), w2 cA (o 5) (xtr X), w4 cA (o 6) (xtp X), w0 cA (o 7) (xmt X), wS cA o (), w3 cA (o 9) (xsh X 0), w3 cA (o 10) (xsh X 1), w3 cA (o 11) (xsh X 2), w3 cA (o 12) (xsh X 3)]) (c_X5_person l D cA o (xk X) (xnw X) (xps X) x1 x2 r hr) [0, 1, 2] [3, 4, 5, 6, 7, 8, 9, 10, 11, 12] [10, 11, 12, 0, 1, 2, 3, 4, 5, 6, 7, 8, 9] rfl rfl rfl rfl rfl)
noncomputable def FX_of (X : SX) (x1 : Int32) (x2 : Int32) : Option (Int32 × SX) := (f_X5_of (xk X) (xnw X) x1 x2).bind (fun r => some (r, X))
set_option maxRecDepth 100000 in
theorem cw_X5_of (l : Launch) (D : va_G) (cA : Nat → ClassId) (o : Nat → Nat → Nat) (X : SX) (x1 : Int32) (x2 : Int32) (res : Int32 × SX) (h : FX_of X x1 x2 = some res) : CT l D cA yX5_of wsX5_of rmX5_of [.ref (o 0 0), .int x1, .int x2] [wX cA o X] [wX cA o res.2] (some (.int res.1)) := by
  obtain ⟨r, hr, h⟩ := bind_inv h
  have h := Option.some.inj h
  subst h
  exact CT.one (CT.frame (cs := WX cA o X) (cs' := WX cA o X) (cr := [w1 cA (fun i => o (20 + i)) (xps X), w2 cA (o 3) (xkn X), w1 cA (fun i => o (30 + i)) (xkp X), w2 cA (o 5) (xtr X), w4 cA (o 6) (xtp X), w0 cA (o 7) (xmt X), wS cA o (), w3 cA (o 9) (xsh X 0), w3 cA (o 10) (xsh X 1), w3 cA (o 11) (xsh X 2), w3 cA (o 12) (xsh X 3)]) (c_X5_of l D cA o (xk X) (xnw X) x1 x2 r hr) [0, 1] [2, 3, 4, 5, 6, 7, 8, 9, 10, 11, 12] [11, 12, 0, 1, 2, 3, 4, 5, 6, 7, 8, 9, 10] rfl rfl rfl rfl rfl)
noncomputable def FX_type (X : SX) (x1 : Int32) : Option (Int32 × SX) := (f_X5_type (xk X) (xtp X) x1).bind (fun r => some (r.1, (sxtp X r.2)))
set_option maxRecDepth 100000 in
theorem cw_X5_type (l : Launch) (D : va_G) (cA : Nat → ClassId) (o : Nat → Nat → Nat) (X : SX) (x1 : Int32) (res : Int32 × SX) (h : FX_type X x1 = some res) : CT l D cA yX5_type wsX5_type rmX5_type [.ref (o 0 0), .int x1] [wX cA o X] [wX cA o res.2] (some (.int res.1)) := by
  obtain ⟨r, hr, h⟩ := bind_inv h
  have h := Option.some.inj h
  subst h
  exact CT.one (CT.frame (cs := WX cA o X) (cs' := WX cA o (sxtp X r.2)) (cr := [w2 cA (o 1) (xnw X), w1 cA (fun i => o (20 + i)) (xps X), w2 cA (o 3) (xkn X), w1 cA (fun i => o (30 + i)) (xkp X), w2 cA (o 5) (xtr X), w0 cA (o 7) (xmt X), wS cA o (), w3 cA (o 9) (xsh X 0), w3 cA (o 10) (xsh X 1), w3 cA (o 11) (xsh X 2), w3 cA (o 12) (xsh X 3)]) (c_X5_type l D cA o (xk X) (xtp X) x1 r hr) [0, 6] [1, 2, 3, 4, 5, 7, 8, 9, 10, 11, 12] [11, 0, 1, 2, 3, 4, 12, 5, 6, 7, 8, 9, 10] rfl rfl rfl rfl rfl)
noncomputable def FX_close (X : SX)  : Option (Int32 × SX) := (f_X5_close (xk X) (xnw X) (xps X) (xtr X) (xtp X) ).bind (fun r => some (r.1, (sxtp (sxtr (sxps (sxnw X r.2.1) r.2.2.1) r.2.2.2.1) r.2.2.2.2)))
set_option maxRecDepth 100000 in
theorem cw_X5_close (l : Launch) (D : va_G) (cA : Nat → ClassId) (sk sv : Nat) (sf : Option Nat) (o : Nat → Nat → Nat) (X : SX)  (res : Int32 × SX) (h : FX_close X  = some res) : CTs l D cA yX5_close wsX5_close rmX5_close [.ref (o 0 0)] [wX cA o X] [wX cA o res.2] (some (.int res.1)) sk sv sf := by
  obtain ⟨r, hr, h⟩ := bind_inv h
  have h := Option.some.inj h
  subst h
  exact CTs.one (CTs.frame (cs := WX cA o X) (cs' := WX cA o (sxtp (sxtr (sxps (sxnw X r.2.1) r.2.2.1) r.2.2.2.1) r.2.2.2.2)) (cr := [w2 cA (o 3) (xkn X), w1 cA (fun i => o (30 + i)) (xkp X), w0 cA (o 7) (xmt X), wS cA o (), w3 cA (o 9) (xsh X 0), w3 cA (o 10) (xsh X 1), w3 cA (o 11) (xsh X 2), w3 cA (o 12) (xsh X 3)]) (c_X5_close l D cA sk sv sf o (xk X) (xnw X) (xps X) (xtr X) (xtp X)  r hr) [0, 1, 2, 5, 6] [3, 4, 7, 8, 9, 10, 11, 12] [8, 9, 10, 0, 1, 11, 12, 2, 3, 4, 5, 6, 7] rfl rfl rfl rfl rfl)
noncomputable def FX_count (X : SX) (x1 : Int32) : Option (Int32 × SX) := (f_X5_count (xk X) (xnw X) (xps X) x1).bind (fun r => some (r, X))
set_option maxRecDepth 100000 in
theorem cw_X5_count (l : Launch) (D : va_G) (cA : Nat → ClassId) (o : Nat → Nat → Nat) (X : SX) (x1 : Int32) (res : Int32 × SX) (h : FX_count X x1 = some res) : CT l D cA yX5_count wsX5_count rmX5_count [.ref (o 0 0), .int x1] [wX cA o X] [wX cA o res.2] (some (.int res.1)) := by
  obtain ⟨r, hr, h⟩ := bind_inv h
  have h := Option.some.inj h
  subst h
  exact CT.one (CT.frame (cs := WX cA o X) (cs' := WX cA o X) (cr := [w2 cA (o 3) (xkn X), w1 cA (fun i => o (30 + i)) (xkp X), w2 cA (o 5) (xtr X), w4 cA (o 6) (xtp X), w0 cA (o 7) (xmt X), wS cA o (), w3 cA (o 9) (xsh X 0), w3 cA (o 10) (xsh X 1), w3 cA (o 11) (xsh X 2), w3 cA (o 12) (xsh X 3)]) (c_X5_count l D cA o (xk X) (xnw X) (xps X) x1 r hr) [0, 1, 2] [3, 4, 5, 6, 7, 8, 9, 10, 11, 12] [10, 11, 12, 0, 1, 2, 3, 4, 5, 6, 7, 8, 9] rfl rfl rfl rfl rfl)
noncomputable def FX_hours (X : SX) (x1 : Int32) : Option (Int32 × SX) := (f_X5_hours (xk X) (xnw X) (xps X) x1).bind (fun r => some (r.1, (sxps (sxnw X r.2.1) r.2.2)))
set_option maxRecDepth 100000 in
theorem cw_X5_hours (l : Launch) (D : va_G) (cA : Nat → ClassId) (o : Nat → Nat → Nat) (X : SX) (x1 : Int32) (res : Int32 × SX) (h : FX_hours X x1 = some res) : CT l D cA yX5_hours wsX5_hours rmX5_hours [.ref (o 0 0), .int x1] [wX cA o X] [wX cA o res.2] (some (.int res.1)) := by
  obtain ⟨r, hr, h⟩ := bind_inv h
  have h := Option.some.inj h
  subst h
  exact CT.one (CT.frame (cs := WX cA o X) (cs' := WX cA o (sxps (sxnw X r.2.1) r.2.2)) (cr := [w2 cA (o 3) (xkn X), w1 cA (fun i => o (30 + i)) (xkp X), w2 cA (o 5) (xtr X), w4 cA (o 6) (xtp X), w0 cA (o 7) (xmt X), wS cA o (), w3 cA (o 9) (xsh X 0), w3 cA (o 10) (xsh X 1), w3 cA (o 11) (xsh X 2), w3 cA (o 12) (xsh X 3)]) (c_X5_hours l D cA o (xk X) (xnw X) (xps X) x1 r hr) [0, 1, 2] [3, 4, 5, 6, 7, 8, 9, 10, 11, 12] [10, 11, 12, 0, 1, 2, 3, 4, 5, 6, 7, 8, 9] rfl rfl rfl rfl rfl)
noncomputable def FX_lend (X : SX) (x1 : Int32) (x2 : Int32) : Option (Int32 × SX) := (f_X5_lend (xk X) (xnw X) (xps X) x1 x2).bind (fun r => some (r.1, (sxps (sxnw X r.2.1) r.2.2)))
set_option maxRecDepth 100000 in
theorem cw_X5_lend (l : Launch) (D : va_G) (cA : Nat → ClassId) (o : Nat → Nat → Nat) (X : SX) (x1 : Int32) (x2 : Int32) (res : Int32 × SX) (h : FX_lend X x1 x2 = some res) : CT l D cA yX5_lend wsX5_lend rmX5_lend [.ref (o 0 0), .int x1, .int x2] [wX cA o X] [wX cA o res.2] (some (.int res.1)) := by
  obtain ⟨r, hr, h⟩ := bind_inv h
  have h := Option.some.inj h
  subst h
  exact CT.one (CT.frame (cs := WX cA o X) (cs' := WX cA o (sxps (sxnw X r.2.1) r.2.2)) (cr := [w2 cA (o 3) (xkn X), w1 cA (fun i => o (30 + i)) (xkp X), w2 cA (o 5) (xtr X), w4 cA (o 6) (xtp X), w0 cA (o 7) (xmt X), wS cA o (), w3 cA (o 9) (xsh X 0), w3 cA (o 10) (xsh X 1), w3 cA (o 11) (xsh X 2), w3 cA (o 12) (xsh X 3)]) (c_X5_lend l D cA o (xk X) (xnw X) (xps X) x1 x2 r hr) [0, 1, 2] [3, 4, 5, 6, 7, 8, 9, 10, 11, 12] [10, 11, 12, 0, 1, 2, 3, 4, 5, 6, 7, 8, 9] rfl rfl rfl rfl rfl)
noncomputable def FX_tell (X : SX) (x1 : Int32) (x2 : Int32) : Option (Int32 × SX) := (f_X5_tell (xk X) (xnw X) (xps X) x1 x2).bind (fun r => some (r.1, (sxps (sxnw X r.2.1) r.2.2)))
set_option maxRecDepth 100000 in
theorem cw_X5_tell (l : Launch) (D : va_G) (cA : Nat → ClassId) (o : Nat → Nat → Nat) (X : SX) (x1 : Int32) (x2 : Int32) (res : Int32 × SX) (h : FX_tell X x1 x2 = some res) : CT l D cA yX5_tell wsX5_tell rmX5_tell [.ref (o 0 0), .int x1, .int x2] [wX cA o X] [wX cA o res.2] (some (.int res.1)) := by
  obtain ⟨r, hr, h⟩ := bind_inv h
  have h := Option.some.inj h
  subst h
  exact CT.one (CT.frame (cs := WX cA o X) (cs' := WX cA o (sxps (sxnw X r.2.1) r.2.2)) (cr := [w2 cA (o 3) (xkn X), w1 cA (fun i => o (30 + i)) (xkp X), w2 cA (o 5) (xtr X), w4 cA (o 6) (xtp X), w0 cA (o 7) (xmt X), wS cA o (), w3 cA (o 9) (xsh X 0), w3 cA (o 10) (xsh X 1), w3 cA (o 11) (xsh X 2), w3 cA (o 12) (xsh X 3)]) (c_X5_tell l D cA o (xk X) (xnw X) (xps X) x1 x2 r hr) [0, 1, 2] [3, 4, 5, 6, 7, 8, 9, 10, 11, 12] [10, 11, 12, 0, 1, 2, 3, 4, 5, 6, 7, 8, 9] rfl rfl rfl rfl rfl)
noncomputable def FX_cut (X : SX) (x1 : Int32) (x2 : Int32) : Option (Int32 × SX) := (f_X5_cut (xk X) (xnw X) (xps X) x1 x2).bind (fun r => some (r.1, (sxps (sxnw X r.2.1) r.2.2)))
set_option maxRecDepth 100000 in
theorem cw_X5_cut (l : Launch) (D : va_G) (cA : Nat → ClassId) (o : Nat → Nat → Nat) (X : SX) (x1 : Int32) (x2 : Int32) (res : Int32 × SX) (h : FX_cut X x1 x2 = some res) : CT l D cA yX5_cut wsX5_cut rmX5_cut [.ref (o 0 0), .int x1, .int x2] [wX cA o X] [wX cA o res.2] (some (.int res.1)) := by
  obtain ⟨r, hr, h⟩ := bind_inv h
  have h := Option.some.inj h
  subst h
  exact CT.one (CT.frame (cs := WX cA o X) (cs' := WX cA o (sxps (sxnw X r.2.1) r.2.2)) (cr := [w2 cA (o 3) (xkn X), w1 cA (fun i => o (30 + i)) (xkp X), w2 cA (o 5) (xtr X), w4 cA (o 6) (xtp X), w0 cA (o 7) (xmt X), wS cA o (), w3 cA (o 9) (xsh X 0), w3 cA (o 10) (xsh X 1), w3 cA (o 11) (xsh X 2), w3 cA (o 12) (xsh X 3)]) (c_X5_cut l D cA o (xk X) (xnw X) (xps X) x1 x2 r hr) [0, 1, 2] [3, 4, 5, 6, 7, 8, 9, 10, 11, 12] [10, 11, 12, 0, 1, 2, 3, 4, 5, 6, 7, 8, 9] rfl rfl rfl rfl rfl)
noncomputable def FX_drift (X : SX) (x1 : Int32) : Option (Int32 × SX) := (f_X5_drift (xk X) (xnw X) (xps X) x1).bind (fun r => some (r.1, (sxps (sxnw X r.2.1) r.2.2)))
set_option maxRecDepth 100000 in
theorem cw_X5_drift (l : Launch) (D : va_G) (cA : Nat → ClassId) (o : Nat → Nat → Nat) (X : SX) (x1 : Int32) (res : Int32 × SX) (h : FX_drift X x1 = some res) : CT l D cA yX5_drift wsX5_drift rmX5_drift [.ref (o 0 0), .int x1] [wX cA o X] [wX cA o res.2] (some (.int res.1)) := by
  obtain ⟨r, hr, h⟩ := bind_inv h
  have h := Option.some.inj h
  subst h
  exact CT.one (CT.frame (cs := WX cA o X) (cs' := WX cA o (sxps (sxnw X r.2.1) r.2.2)) (cr := [w2 cA (o 3) (xkn X), w1 cA (fun i => o (30 + i)) (xkp X), w2 cA (o 5) (xtr X), w4 cA (o 6) (xtp X), w0 cA (o 7) (xmt X), wS cA o (), w3 cA (o 9) (xsh X 0), w3 cA (o 10) (xsh X 1), w3 cA (o 11) (xsh X 2), w3 cA (o 12) (xsh X 3)]) (c_X5_drift l D cA o (xk X) (xnw X) (xps X) x1 r hr) [0, 1, 2] [3, 4, 5, 6, 7, 8, 9, 10, 11, 12] [10, 11, 12, 0, 1, 2, 3, 4, 5, 6, 7, 8, 9] rfl rfl rfl rfl rfl)
noncomputable def FX_undo (X : SX)  : Option (Int32 × SX) := (f_X5_undo (xk X) (xnw X) (xps X) ).bind (fun r => some (r.1, (sxps (sxnw X r.2.1) r.2.2)))
set_option maxRecDepth 100000 in
theorem cw_X5_undo (l : Launch) (D : va_G) (cA : Nat → ClassId) (o : Nat → Nat → Nat) (X : SX)  (res : Int32 × SX) (h : FX_undo X  = some res) : CT l D cA yX5_undo wsX5_undo rmX5_undo [.ref (o 0 0)] [wX cA o X] [wX cA o res.2] (some (.int res.1)) := by
  obtain ⟨r, hr, h⟩ := bind_inv h
  have h := Option.some.inj h
  subst h
  exact CT.one (CT.frame (cs := WX cA o X) (cs' := WX cA o (sxps (sxnw X r.2.1) r.2.2)) (cr := [w2 cA (o 3) (xkn X), w1 cA (fun i => o (30 + i)) (xkp X), w2 cA (o 5) (xtr X), w4 cA (o 6) (xtp X), w0 cA (o 7) (xmt X), wS cA o (), w3 cA (o 9) (xsh X 0), w3 cA (o 10) (xsh X 1), w3 cA (o 11) (xsh X 2), w3 cA (o 12) (xsh X 3)]) (c_X5_undo l D cA o (xk X) (xnw X) (xps X)  r hr) [0, 1, 2] [3, 4, 5, 6, 7, 8, 9, 10, 11, 12] [10, 11, 12, 0, 1, 2, 3, 4, 5, 6, 7, 8, 9] rfl rfl rfl rfl rfl)
noncomputable def FX_seed (X : SX) (x1 : Int32) : Option (Int32 × SX) := (f_X5_seed (xk X) (xnw X) x1).bind (fun r => some (r.1, (sxnw X r.2)))
set_option maxRecDepth 100000 in
theorem cw_X5_seed (l : Launch) (D : va_G) (cA : Nat → ClassId) (o : Nat → Nat → Nat) (X : SX) (x1 : Int32) (res : Int32 × SX) (h : FX_seed X x1 = some res) : CT l D cA yX5_seed wsX5_seed rmX5_seed [.ref (o 0 0), .int x1] [wX cA o X] [wX cA o res.2] (some (.int res.1)) := by
  obtain ⟨r, hr, h⟩ := bind_inv h
  have h := Option.some.inj h
  subst h
  exact CT.one (CT.frame (cs := WX cA o X) (cs' := WX cA o (sxnw X r.2)) (cr := [w1 cA (fun i => o (20 + i)) (xps X), w2 cA (o 3) (xkn X), w1 cA (fun i => o (30 + i)) (xkp X), w2 cA (o 5) (xtr X), w4 cA (o 6) (xtp X), w0 cA (o 7) (xmt X), wS cA o (), w3 cA (o 9) (xsh X 0), w3 cA (o 10) (xsh X 1), w3 cA (o 11) (xsh X 2), w3 cA (o 12) (xsh X 3)]) (c_X5_seed l D cA o (xk X) (xnw X) x1 r hr) [0, 1] [2, 3, 4, 5, 6, 7, 8, 9, 10, 11, 12] [11, 12, 0, 1, 2, 3, 4, 5, 6, 7, 8, 9, 10] rfl rfl rfl rfl rfl)
noncomputable def FX_ahead (X : SX) (x1 : Int32) (x2 : Int32) : Option (Int32 × SX) := (f_X5_ahead (xk X) (xnw X) (xtr X) x1 x2).bind (fun r => some (r.1, (sxtr X r.2)))
set_option maxRecDepth 100000 in
theorem cw_X5_ahead (l : Launch) (D : va_G) (cA : Nat → ClassId) (o : Nat → Nat → Nat) (X : SX) (x1 : Int32) (x2 : Int32) (res : Int32 × SX) (h : FX_ahead X x1 x2 = some res) : CT l D cA yX5_ahead wsX5_ahead rmX5_ahead [.ref (o 0 0), .int x1, .int x2] [wX cA o X] [wX cA o res.2] (some (.int res.1)) := by
  obtain ⟨r, hr, h⟩ := bind_inv h
  have h := Option.some.inj h
  subst h
  exact CT.one (CT.frame (cs := WX cA o X) (cs' := WX cA o (sxtr X r.2)) (cr := [w1 cA (fun i => o (20 + i)) (xps X), w2 cA (o 3) (xkn X), w1 cA (fun i => o (30 + i)) (xkp X), w4 cA (o 6) (xtp X), w0 cA (o 7) (xmt X), wS cA o (), w3 cA (o 9) (xsh X 0), w3 cA (o 10) (xsh X 1), w3 cA (o 11) (xsh X 2), w3 cA (o 12) (xsh X 3)]) (c_X5_ahead l D cA o (xk X) (xnw X) (xtr X) x1 x2 r hr) [0, 1, 5] [2, 3, 4, 6, 7, 8, 9, 10, 11, 12] [10, 11, 0, 1, 2, 12, 3, 4, 5, 6, 7, 8, 9] rfl rfl rfl rfl rfl)
noncomputable def FX_then (X : SX) (x1 : Int32) : Option (Int32 × SX) := (f_X5_then (xk X) (xnw X) (xtr X) x1).bind (fun r => some (r.1, (sxtr X r.2)))
set_option maxRecDepth 100000 in
theorem cw_X5_then (l : Launch) (D : va_G) (cA : Nat → ClassId) (o : Nat → Nat → Nat) (X : SX) (x1 : Int32) (res : Int32 × SX) (h : FX_then X x1 = some res) : CT l D cA yX5_then wsX5_then rmX5_then [.ref (o 0 0), .int x1] [wX cA o X] [wX cA o res.2] (some (.int res.1)) := by
  obtain ⟨r, hr, h⟩ := bind_inv h
  have h := Option.some.inj h
  subst h
  exact CT.one (CT.frame (cs := WX cA o X) (cs' := WX cA o (sxtr X r.2)) (cr := [w1 cA (fun i => o (20 + i)) (xps X), w2 cA (o 3) (xkn X), w1 cA (fun i => o (30 + i)) (xkp X), w4 cA (o 6) (xtp X), w0 cA (o 7) (xmt X), wS cA o (), w3 cA (o 9) (xsh X 0), w3 cA (o 10) (xsh X 1), w3 cA (o 11) (xsh X 2), w3 cA (o 12) (xsh X 3)]) (c_X5_then l D cA o (xk X) (xnw X) (xtr X) x1 r hr) [0, 1, 5] [2, 3, 4, 6, 7, 8, 9, 10, 11, 12] [10, 11, 0, 1, 2, 12, 3, 4, 5, 6, 7, 8, 9] rfl rfl rfl rfl rfl)
noncomputable def FX_stops (X : SX) (x1 : Int32) : Option (Int32 × SX) := (f_X5_stops (xk X) (xnw X) (xtr X) x1).bind (fun r => some (r.1, (sxtr X r.2)))
set_option maxRecDepth 100000 in
theorem cw_X5_stops (l : Launch) (D : va_G) (cA : Nat → ClassId) (o : Nat → Nat → Nat) (X : SX) (x1 : Int32) (res : Int32 × SX) (h : FX_stops X x1 = some res) : CT l D cA yX5_stops wsX5_stops rmX5_stops [.ref (o 0 0), .int x1] [wX cA o X] [wX cA o res.2] (some (.int res.1)) := by
  obtain ⟨r, hr, h⟩ := bind_inv h
  have h := Option.some.inj h
  subst h
  exact CT.one (CT.frame (cs := WX cA o X) (cs' := WX cA o (sxtr X r.2)) (cr := [w1 cA (fun i => o (20 + i)) (xps X), w2 cA (o 3) (xkn X), w1 cA (fun i => o (30 + i)) (xkp X), w4 cA (o 6) (xtp X), w0 cA (o 7) (xmt X), wS cA o (), w3 cA (o 9) (xsh X 0), w3 cA (o 10) (xsh X 1), w3 cA (o 11) (xsh X 2), w3 cA (o 12) (xsh X 3)]) (c_X5_stops l D cA o (xk X) (xnw X) (xtr X) x1 r hr) [0, 1, 5] [2, 3, 4, 6, 7, 8, 9, 10, 11, 12] [10, 11, 0, 1, 2, 12, 3, 4, 5, 6, 7, 8, 9] rfl rfl rfl rfl rfl)
noncomputable def FX_all (X : SX)  : Option (Int32 × SX) := (f_X5_all (xk X) (xnw X) (xtr X) ).bind (fun r => some (r.1, (sxtr X r.2)))
set_option maxRecDepth 100000 in
theorem cw_X5_all (l : Launch) (D : va_G) (cA : Nat → ClassId) (o : Nat → Nat → Nat) (X : SX)  (res : Int32 × SX) (h : FX_all X  = some res) : CT l D cA yX5_all wsX5_all rmX5_all [.ref (o 0 0)] [wX cA o X] [wX cA o res.2] (some (.int res.1)) := by
  obtain ⟨r, hr, h⟩ := bind_inv h
  have h := Option.some.inj h
  subst h
  exact CT.one (CT.frame (cs := WX cA o X) (cs' := WX cA o (sxtr X r.2)) (cr := [w1 cA (fun i => o (20 + i)) (xps X), w2 cA (o 3) (xkn X), w1 cA (fun i => o (30 + i)) (xkp X), w4 cA (o 6) (xtp X), w0 cA (o 7) (xmt X), wS cA o (), w3 cA (o 9) (xsh X 0), w3 cA (o 10) (xsh X 1), w3 cA (o 11) (xsh X 2), w3 cA (o 12) (xsh X 3)]) (c_X5_all l D cA o (xk X) (xnw X) (xtr X)  r hr) [0, 1, 5] [2, 3, 4, 6, 7, 8, 9, 10, 11, 12] [10, 11, 0, 1, 2, 12, 3, 4, 5, 6, 7, 8, 9] rfl rfl rfl rfl rfl)
noncomputable def FX_ever (X : SX)  : Option (Int32 × SX) := (f_X5_ever (xk X) (xnw X) (xtr X) ).bind (fun r => some (r.1, (sxtr X r.2)))
set_option maxRecDepth 100000 in
theorem cw_X5_ever (l : Launch) (D : va_G) (cA : Nat → ClassId) (o : Nat → Nat → Nat) (X : SX)  (res : Int32 × SX) (h : FX_ever X  = some res) : CT l D cA yX5_ever wsX5_ever rmX5_ever [.ref (o 0 0)] [wX cA o X] [wX cA o res.2] (some (.int res.1)) := by
  obtain ⟨r, hr, h⟩ := bind_inv h
  have h := Option.some.inj h
  subst h
  exact CT.one (CT.frame (cs := WX cA o X) (cs' := WX cA o (sxtr X r.2)) (cr := [w1 cA (fun i => o (20 + i)) (xps X), w2 cA (o 3) (xkn X), w1 cA (fun i => o (30 + i)) (xkp X), w4 cA (o 6) (xtp X), w0 cA (o 7) (xmt X), wS cA o (), w3 cA (o 9) (xsh X 0), w3 cA (o 10) (xsh X 1), w3 cA (o 11) (xsh X 2), w3 cA (o 12) (xsh X 3)]) (c_X5_ever l D cA o (xk X) (xnw X) (xtr X)  r hr) [0, 1, 5] [2, 3, 4, 6, 7, 8, 9, 10, 11, 12] [10, 11, 0, 1, 2, 12, 3, 4, 5, 6, 7, 8, 9] rfl rfl rfl rfl rfl)
noncomputable def FX_chain (X : SX) (x1 : Int32) (x2 : Int32) : Option (Int32 × SX) := (f_X5_chain (xk X) (xnw X) x1 x2).bind (fun r => some (r, X))
set_option maxRecDepth 100000 in
theorem cw_X5_chain (l : Launch) (D : va_G) (cA : Nat → ClassId) (o : Nat → Nat → Nat) (X : SX) (x1 : Int32) (x2 : Int32) (res : Int32 × SX) (h : FX_chain X x1 x2 = some res) : CT l D cA yX5_chain wsX5_chain rmX5_chain [.ref (o 0 0), .int x1, .int x2] [wX cA o X] [wX cA o res.2] (some (.int res.1)) := by
  obtain ⟨r, hr, h⟩ := bind_inv h
  have h := Option.some.inj h
  subst h
  exact CT.one (CT.frame (cs := WX cA o X) (cs' := WX cA o X) (cr := [w1 cA (fun i => o (20 + i)) (xps X), w2 cA (o 3) (xkn X), w1 cA (fun i => o (30 + i)) (xkp X), w2 cA (o 5) (xtr X), w4 cA (o 6) (xtp X), w0 cA (o 7) (xmt X), wS cA o (), w3 cA (o 9) (xsh X 0), w3 cA (o 10) (xsh X 1), w3 cA (o 11) (xsh X 2), w3 cA (o 12) (xsh X 3)]) (c_X5_chain l D cA o (xk X) (xnw X) x1 x2 r hr) [0, 1] [2, 3, 4, 5, 6, 7, 8, 9, 10, 11, 12] [11, 12, 0, 1, 2, 3, 4, 5, 6, 7, 8, 9, 10] rfl rfl rfl rfl rfl)
noncomputable def FX_lends (X : SX) (x1 : Int32) (x2 : Int32) (x3 : Int32) : Option (Int32 × SX) := (f_X5_lends (xk X) (xnw X) (xtr X) x1 x2 x3).bind (fun r => some (r.1, (sxtr X r.2)))
set_option maxRecDepth 100000 in
theorem cw_X5_lends (l : Launch) (D : va_G) (cA : Nat → ClassId) (o : Nat → Nat → Nat) (X : SX) (x1 : Int32) (x2 : Int32) (x3 : Int32) (res : Int32 × SX) (h : FX_lends X x1 x2 x3 = some res) : CT l D cA yX5_lends wsX5_lends rmX5_lends [.ref (o 0 0), .int x1, .int x2, .int x3] [wX cA o X] [wX cA o res.2] (some (.int res.1)) := by
  obtain ⟨r, hr, h⟩ := bind_inv h
  have h := Option.some.inj h
  subst h
  exact CT.one (CT.frame (cs := WX cA o X) (cs' := WX cA o (sxtr X r.2)) (cr := [w1 cA (fun i => o (20 + i)) (xps X), w2 cA (o 3) (xkn X), w1 cA (fun i => o (30 + i)) (xkp X), w4 cA (o 6) (xtp X), w0 cA (o 7) (xmt X), wS cA o (), w3 cA (o 9) (xsh X 0), w3 cA (o 10) (xsh X 1), w3 cA (o 11) (xsh X 2), w3 cA (o 12) (xsh X 3)]) (c_X5_lends l D cA o (xk X) (xnw X) (xtr X) x1 x2 x3 r hr) [0, 1, 5] [2, 3, 4, 6, 7, 8, 9, 10, 11, 12] [10, 11, 0, 1, 2, 12, 3, 4, 5, 6, 7, 8, 9] rfl rfl rfl rfl rfl)
noncomputable def FX_instead (X : SX) (x1 : Int32) (x2 : Int32) (x3 : Int32) : Option (Int32 × SX) := (f_X5_instead (xk X) (xnw X) (xtr X) x1 x2 x3).bind (fun r => some (r.1, (sxtr X r.2)))
set_option maxRecDepth 100000 in
theorem cw_X5_instead (l : Launch) (D : va_G) (cA : Nat → ClassId) (o : Nat → Nat → Nat) (X : SX) (x1 : Int32) (x2 : Int32) (x3 : Int32) (res : Int32 × SX) (h : FX_instead X x1 x2 x3 = some res) : CT l D cA yX5_instead wsX5_instead rmX5_instead [.ref (o 0 0), .int x1, .int x2, .int x3] [wX cA o X] [wX cA o res.2] (some (.int res.1)) := by
  obtain ⟨r, hr, h⟩ := bind_inv h
  have h := Option.some.inj h
  subst h
  exact CT.one (CT.frame (cs := WX cA o X) (cs' := WX cA o (sxtr X r.2)) (cr := [w1 cA (fun i => o (20 + i)) (xps X), w2 cA (o 3) (xkn X), w1 cA (fun i => o (30 + i)) (xkp X), w4 cA (o 6) (xtp X), w0 cA (o 7) (xmt X), wS cA o (), w3 cA (o 9) (xsh X 0), w3 cA (o 10) (xsh X 1), w3 cA (o 11) (xsh X 2), w3 cA (o 12) (xsh X 3)]) (c_X5_instead l D cA o (xk X) (xnw X) (xtr X) x1 x2 x3 r hr) [0, 1, 5] [2, 3, 4, 6, 7, 8, 9, 10, 11, 12] [10, 11, 0, 1, 2, 12, 3, 4, 5, 6, 7, 8, 9] rfl rfl rfl rfl rfl)
noncomputable def FX_needs (X : SX) (x1 : Int32) (x2 : Int32) : Option (Int32 × SX) := (f_X5_needs (xk X) (xnw X) (xtr X) x1 x2).bind (fun r => some (r.1, (sxtr X r.2)))
set_option maxRecDepth 100000 in
theorem cw_X5_needs (l : Launch) (D : va_G) (cA : Nat → ClassId) (o : Nat → Nat → Nat) (X : SX) (x1 : Int32) (x2 : Int32) (res : Int32 × SX) (h : FX_needs X x1 x2 = some res) : CT l D cA yX5_needs wsX5_needs rmX5_needs [.ref (o 0 0), .int x1, .int x2] [wX cA o X] [wX cA o res.2] (some (.int res.1)) := by
  obtain ⟨r, hr, h⟩ := bind_inv h
  have h := Option.some.inj h
  subst h
  exact CT.one (CT.frame (cs := WX cA o X) (cs' := WX cA o (sxtr X r.2)) (cr := [w1 cA (fun i => o (20 + i)) (xps X), w2 cA (o 3) (xkn X), w1 cA (fun i => o (30 + i)) (xkp X), w4 cA (o 6) (xtp X), w0 cA (o 7) (xmt X), wS cA o (), w3 cA (o 9) (xsh X 0), w3 cA (o 10) (xsh X 1), w3 cA (o 11) (xsh X 2), w3 cA (o 12) (xsh X 3)]) (c_X5_needs l D cA o (xk X) (xnw X) (xtr X) x1 x2 r hr) [0, 1, 5] [2, 3, 4, 6, 7, 8, 9, 10, 11, 12] [10, 11, 0, 1, 2, 12, 3, 4, 5, 6, 7, 8, 9] rfl rfl rfl rfl rfl)
noncomputable def FX_match (X : SX) (x1 : Int32) : Option (Int32 × SX) := (f_X5_match (xk X) (xnw X) (xmt X) x1).bind (fun r => some (r.1, (sxmt X r.2)))
set_option maxRecDepth 100000 in
theorem cw_X5_match (l : Launch) (D : va_G) (cA : Nat → ClassId) (o : Nat → Nat → Nat) (X : SX) (x1 : Int32) (res : Int32 × SX) (h : FX_match X x1 = some res) : CT l D cA yX5_match wsX5_match rmX5_match [.ref (o 0 0), .int x1] [wX cA o X] [wX cA o res.2] (some (.int res.1)) := by
  obtain ⟨r, hr, h⟩ := bind_inv h
  have h := Option.some.inj h
  subst h
  exact CT.one (CT.frame (cs := WX cA o X) (cs' := WX cA o (sxmt X r.2)) (cr := [w1 cA (fun i => o (20 + i)) (xps X), w2 cA (o 3) (xkn X), w1 cA (fun i => o (30 + i)) (xkp X), w2 cA (o 5) (xtr X), w4 cA (o 6) (xtp X), wS cA o (), w3 cA (o 9) (xsh X 0), w3 cA (o 10) (xsh X 1), w3 cA (o 11) (xsh X 2), w3 cA (o 12) (xsh X 3)]) (c_X5_match l D cA o (xk X) (xnw X) (xmt X) x1 r hr) [0, 1, 7] [2, 3, 4, 5, 6, 8, 9, 10, 11, 12] [10, 11, 0, 1, 2, 3, 4, 12, 5, 6, 7, 8, 9] rfl rfl rfl rfl rfl)
noncomputable def FX_again (X : SX)  : Option (Int32 × SX) := (f_X5_again (xk X) (xnw X) (xtr X) ).bind (fun r => some (r.1, (sxtr X r.2)))
set_option maxRecDepth 100000 in
theorem cw_X5_again (l : Launch) (D : va_G) (cA : Nat → ClassId) (o : Nat → Nat → Nat) (X : SX)  (res : Int32 × SX) (h : FX_again X  = some res) : CT l D cA yX5_again wsX5_again rmX5_again [.ref (o 0 0)] [wX cA o X] [wX cA o res.2] (some (.int res.1)) := by
  obtain ⟨r, hr, h⟩ := bind_inv h
  have h := Option.some.inj h
  subst h
  exact CT.one (CT.frame (cs := WX cA o X) (cs' := WX cA o (sxtr X r.2)) (cr := [w1 cA (fun i => o (20 + i)) (xps X), w2 cA (o 3) (xkn X), w1 cA (fun i => o (30 + i)) (xkp X), w4 cA (o 6) (xtp X), w0 cA (o 7) (xmt X), wS cA o (), w3 cA (o 9) (xsh X 0), w3 cA (o 10) (xsh X 1), w3 cA (o 11) (xsh X 2), w3 cA (o 12) (xsh X 3)]) (c_X5_again l D cA o (xk X) (xnw X) (xtr X)  r hr) [0, 1, 5] [2, 3, 4, 6, 7, 8, 9, 10, 11, 12] [10, 11, 0, 1, 2, 12, 3, 4, 5, 6, 7, 8, 9] rfl rfl rfl rfl rfl)
noncomputable def FX_forget (X : SX) (x1 : Int32) (x2 : Int32) (x3 : Int32) : Option (Int32 × SX) := (f_X5_forget (xk X) (xnw X) (xtr X) x1 x2 x3).bind (fun r => some (r.1, (sxtr X r.2)))
set_option maxRecDepth 100000 in
theorem cw_X5_forget (l : Launch) (D : va_G) (cA : Nat → ClassId) (o : Nat → Nat → Nat) (X : SX) (x1 : Int32) (x2 : Int32) (x3 : Int32) (res : Int32 × SX) (h : FX_forget X x1 x2 x3 = some res) : CT l D cA yX5_forget wsX5_forget rmX5_forget [.ref (o 0 0), .int x1, .int x2, .int x3] [wX cA o X] [wX cA o res.2] (some (.int res.1)) := by
  obtain ⟨r, hr, h⟩ := bind_inv h
  have h := Option.some.inj h
  subst h
  exact CT.one (CT.frame (cs := WX cA o X) (cs' := WX cA o (sxtr X r.2)) (cr := [w1 cA (fun i => o (20 + i)) (xps X), w2 cA (o 3) (xkn X), w1 cA (fun i => o (30 + i)) (xkp X), w4 cA (o 6) (xtp X), w0 cA (o 7) (xmt X), wS cA o (), w3 cA (o 9) (xsh X 0), w3 cA (o 10) (xsh X 1), w3 cA (o 11) (xsh X 2), w3 cA (o 12) (xsh X 3)]) (c_X5_forget l D cA o (xk X) (xnw X) (xtr X) x1 x2 x3 r hr) [0, 1, 5] [2, 3, 4, 6, 7, 8, 9, 10, 11, 12] [10, 11, 0, 1, 2, 12, 3, 4, 5, 6, 7, 8, 9] rfl rfl rfl rfl rfl)
noncomputable def FX_image (X : SX)  : Option (Int32 × SX) := (f_X5_image (xk X) (xnw X) (xps X) (xkn X) (xkp X) ).bind (fun r => some (r.1, (sxkp (sxkn (sxk X r.2.1) r.2.2.1) r.2.2.2)))
set_option maxRecDepth 100000 in
theorem cw_X5_image (l : Launch) (D : va_G) (cA : Nat → ClassId) (o : Nat → Nat → Nat) (X : SX)  (res : Int32 × SX) (h : FX_image X  = some res) : CT l D cA yX5_image wsX5_image rmX5_image [.ref (o 0 0)] [wX cA o X] [wX cA o res.2] (some (.int res.1)) := by
  obtain ⟨r, hr, h⟩ := bind_inv h
  have h := Option.some.inj h
  subst h
  exact CT.one (CT.frame (cs := WX cA o X) (cs' := WX cA o (sxkp (sxkn (sxk X r.2.1) r.2.2.1) r.2.2.2)) (cr := [w2 cA (o 5) (xtr X), w4 cA (o 6) (xtp X), w0 cA (o 7) (xmt X), wS cA o (), w3 cA (o 9) (xsh X 0), w3 cA (o 10) (xsh X 1), w3 cA (o 11) (xsh X 2), w3 cA (o 12) (xsh X 3)]) (c_X5_image l D cA o (xk X) (xnw X) (xps X) (xkn X) (xkp X)  r hr) [0, 1, 2, 3, 4] [5, 6, 7, 8, 9, 10, 11, 12] [8, 9, 10, 11, 12, 0, 1, 2, 3, 4, 5, 6, 7] rfl rfl rfl rfl rfl)
noncomputable def FX_restore (X : SX)  : Option (Int32 × SX) := (f_X5_restore (xk X) (xnw X) (xps X) (xkn X) (xkp X) ).bind (fun r => some (r.1, (sxps (sxnw X r.2.1) r.2.2)))
set_option maxRecDepth 100000 in
theorem cw_X5_restore (l : Launch) (D : va_G) (cA : Nat → ClassId) (o : Nat → Nat → Nat) (X : SX)  (res : Int32 × SX) (h : FX_restore X  = some res) : CT l D cA yX5_restore wsX5_restore rmX5_restore [.ref (o 0 0)] [wX cA o X] [wX cA o res.2] (some (.int res.1)) := by
  obtain ⟨r, hr, h⟩ := bind_inv h
  have h := Option.some.inj h
  subst h
  exact CT.one (CT.frame (cs := WX cA o X) (cs' := WX cA o (sxps (sxnw X r.2.1) r.2.2)) (cr := [w2 cA (o 5) (xtr X), w4 cA (o 6) (xtp X), w0 cA (o 7) (xmt X), wS cA o (), w3 cA (o 9) (xsh X 0), w3 cA (o 10) (xsh X 1), w3 cA (o 11) (xsh X 2), w3 cA (o 12) (xsh X 3)]) (c_X5_restore l D cA o (xk X) (xnw X) (xps X) (xkn X) (xkp X)  r hr) [0, 1, 2, 3, 4] [5, 6, 7, 8, 9, 10, 11, 12] [8, 9, 10, 11, 12, 0, 1, 2, 3, 4, 5, 6, 7] rfl rfl rfl rfl rfl)
noncomputable def FX_heard (X : SX) (x1 : Int32) (x2 : Int32) (x3 : Int32) (x4 : Int32) (x5 : Int32) (x6 : Int32) : Option (Int32 × SX) := (f_X5_heard (xk X) (xnw X) (xtr X) () (xsh X (sj x2)) x1 x2 x3 x4 x5 x6).bind (fun r => some (r.1, (sxtr X r.2)))
set_option maxRecDepth 100000 in
theorem cw_X5_heard (l : Launch) (D : va_G) (cA : Nat → ClassId) (o : Nat → Nat → Nat) (X : SX) (x1 : Int32) (x2 : Int32) (x3 : Int32) (x4 : Int32) (x5 : Int32) (x6 : Int32) (res : Int32 × SX) (h : FX_heard X x1 x2 x3 x4 x5 x6 = some res) : CT l D cA yX5_heard wsX5_heard rmX5_heard [.ref (o 0 0), .int x1, .int x2, .int x3, .int x4, .int x5, .int x6] [wX cA o X] [wX cA o res.2] (some (.int res.1)) := by
  obtain ⟨r, hr, h⟩ := bind_inv h
  have h := Option.some.inj h
  subst h
  have hj := sj_hj x2
  have hlt := sj_lt x2
  generalize sj x2 = j at hj hlt hr ⊢
  rcases four hlt with rfl | rfl | rfl | rfl
  · exact CT.one (CT.frame (cs := WX cA o X) (cs' := WX cA o (sxtr X r.2)) (cr := [w1 cA (fun i => o (20 + i)) (xps X), w2 cA (o 3) (xkn X), w1 cA (fun i => o (30 + i)) (xkp X), w4 cA (o 6) (xtp X), w0 cA (o 7) (xmt X), w3 cA (o 10) (xsh X 1), w3 cA (o 11) (xsh X 2), w3 cA (o 12) (xsh X 3)]) (c_X5_heard l D cA o 0 (xk X) (xnw X) (xtr X) () (xsh X 0) x1 x2 x3 x4 x5 x6 hj r hr) [0, 1, 5, 8, 9] [2, 3, 4, 6, 7, 10, 11, 12] [8, 9, 0, 1, 2, 10, 3, 4, 11, 12, 5, 6, 7] rfl rfl rfl rfl rfl)
  · exact CT.one (CT.frame (cs := WX cA o X) (cs' := WX cA o (sxtr X r.2)) (cr := [w1 cA (fun i => o (20 + i)) (xps X), w2 cA (o 3) (xkn X), w1 cA (fun i => o (30 + i)) (xkp X), w4 cA (o 6) (xtp X), w0 cA (o 7) (xmt X), w3 cA (o 9) (xsh X 0), w3 cA (o 11) (xsh X 2), w3 cA (o 12) (xsh X 3)]) (c_X5_heard l D cA o 1 (xk X) (xnw X) (xtr X) () (xsh X 1) x1 x2 x3 x4 x5 x6 hj r hr) [0, 1, 5, 8, 10] [2, 3, 4, 6, 7, 9, 11, 12] [8, 9, 0, 1, 2, 10, 3, 4, 11, 5, 12, 6, 7] rfl rfl rfl rfl rfl)
  · exact CT.one (CT.frame (cs := WX cA o X) (cs' := WX cA o (sxtr X r.2)) (cr := [w1 cA (fun i => o (20 + i)) (xps X), w2 cA (o 3) (xkn X), w1 cA (fun i => o (30 + i)) (xkp X), w4 cA (o 6) (xtp X), w0 cA (o 7) (xmt X), w3 cA (o 9) (xsh X 0), w3 cA (o 10) (xsh X 1), w3 cA (o 12) (xsh X 3)]) (c_X5_heard l D cA o 2 (xk X) (xnw X) (xtr X) () (xsh X 2) x1 x2 x3 x4 x5 x6 hj r hr) [0, 1, 5, 8, 11] [2, 3, 4, 6, 7, 9, 10, 12] [8, 9, 0, 1, 2, 10, 3, 4, 11, 5, 6, 12, 7] rfl rfl rfl rfl rfl)
  · exact CT.one (CT.frame (cs := WX cA o X) (cs' := WX cA o (sxtr X r.2)) (cr := [w1 cA (fun i => o (20 + i)) (xps X), w2 cA (o 3) (xkn X), w1 cA (fun i => o (30 + i)) (xkp X), w4 cA (o 6) (xtp X), w0 cA (o 7) (xmt X), w3 cA (o 9) (xsh X 0), w3 cA (o 10) (xsh X 1), w3 cA (o 11) (xsh X 2)]) (c_X5_heard l D cA o 3 (xk X) (xnw X) (xtr X) () (xsh X 3) x1 x2 x3 x4 x5 x6 hj r hr) [0, 1, 5, 8, 12] [2, 3, 4, 6, 7, 9, 10, 11] [8, 9, 0, 1, 2, 10, 3, 4, 11, 5, 6, 7, 12] rfl rfl rfl rfl rfl)

noncomputable def FX_film (X : SX) (x1 : Int32) (x2 : Int32) (x3 : Int32) (x4 : Int32) (x5 : Int32) : Option (Int32 × SX) := (f_X5_film (xk X) (xnw X) (xtr X) () (xsh X (sj x3)) x1 x2 x3 x4 x5).bind (fun r => some (r.1, (sxsh (sxtr X r.2.1) (va_up (xsh X) (sj x3) r.2.2))))
set_option maxRecDepth 100000 in
theorem cw_X5_film (l : Launch) (D : va_G) (cA : Nat → ClassId) (o : Nat → Nat → Nat) (X : SX) (x1 : Int32) (x2 : Int32) (x3 : Int32) (x4 : Int32) (x5 : Int32) (res : Int32 × SX) (h : FX_film X x1 x2 x3 x4 x5 = some res) : CT l D cA yX5_film wsX5_film rmX5_film [.ref (o 0 0), .int x1, .int x2, .int x3, .int x4, .int x5] [wX cA o X] [wX cA o res.2] (some (.int res.1)) := by
  obtain ⟨r, hr, h⟩ := bind_inv h
  have h := Option.some.inj h
  subst h
  have hj := sj_hj x3
  have hlt := sj_lt x3
  generalize sj x3 = j at hj hlt hr ⊢
  rcases four hlt with rfl | rfl | rfl | rfl
  · exact CT.one (CT.frame (cs := WX cA o X) (cs' := WX cA o (sxsh (sxtr X r.2.1) (va_up (xsh X) 0 r.2.2))) (cr := [w1 cA (fun i => o (20 + i)) (xps X), w2 cA (o 3) (xkn X), w1 cA (fun i => o (30 + i)) (xkp X), w4 cA (o 6) (xtp X), w0 cA (o 7) (xmt X), w3 cA (o 10) (xsh X 1), w3 cA (o 11) (xsh X 2), w3 cA (o 12) (xsh X 3)]) (c_X5_film l D cA o 0 (xk X) (xnw X) (xtr X) () (xsh X 0) x1 x2 x3 x4 x5 hj r hr) [0, 1, 5, 8, 9] [2, 3, 4, 6, 7, 10, 11, 12] [8, 9, 0, 1, 2, 10, 3, 4, 11, 12, 5, 6, 7] rfl rfl rfl rfl rfl)
  · exact CT.one (CT.frame (cs := WX cA o X) (cs' := WX cA o (sxsh (sxtr X r.2.1) (va_up (xsh X) 1 r.2.2))) (cr := [w1 cA (fun i => o (20 + i)) (xps X), w2 cA (o 3) (xkn X), w1 cA (fun i => o (30 + i)) (xkp X), w4 cA (o 6) (xtp X), w0 cA (o 7) (xmt X), w3 cA (o 9) (xsh X 0), w3 cA (o 11) (xsh X 2), w3 cA (o 12) (xsh X 3)]) (c_X5_film l D cA o 1 (xk X) (xnw X) (xtr X) () (xsh X 1) x1 x2 x3 x4 x5 hj r hr) [0, 1, 5, 8, 10] [2, 3, 4, 6, 7, 9, 11, 12] [8, 9, 0, 1, 2, 10, 3, 4, 11, 5, 12, 6, 7] rfl rfl rfl rfl rfl)
  · exact CT.one (CT.frame (cs := WX cA o X) (cs' := WX cA o (sxsh (sxtr X r.2.1) (va_up (xsh X) 2 r.2.2))) (cr := [w1 cA (fun i => o (20 + i)) (xps X), w2 cA (o 3) (xkn X), w1 cA (fun i => o (30 + i)) (xkp X), w4 cA (o 6) (xtp X), w0 cA (o 7) (xmt X), w3 cA (o 9) (xsh X 0), w3 cA (o 10) (xsh X 1), w3 cA (o 12) (xsh X 3)]) (c_X5_film l D cA o 2 (xk X) (xnw X) (xtr X) () (xsh X 2) x1 x2 x3 x4 x5 hj r hr) [0, 1, 5, 8, 11] [2, 3, 4, 6, 7, 9, 10, 12] [8, 9, 0, 1, 2, 10, 3, 4, 11, 5, 6, 12, 7] rfl rfl rfl rfl rfl)
  · exact CT.one (CT.frame (cs := WX cA o X) (cs' := WX cA o (sxsh (sxtr X r.2.1) (va_up (xsh X) 3 r.2.2))) (cr := [w1 cA (fun i => o (20 + i)) (xps X), w2 cA (o 3) (xkn X), w1 cA (fun i => o (30 + i)) (xkp X), w4 cA (o 6) (xtp X), w0 cA (o 7) (xmt X), w3 cA (o 9) (xsh X 0), w3 cA (o 10) (xsh X 1), w3 cA (o 11) (xsh X 2)]) (c_X5_film l D cA o 3 (xk X) (xnw X) (xtr X) () (xsh X 3) x1 x2 x3 x4 x5 hj r hr) [0, 1, 5, 8, 12] [2, 3, 4, 6, 7, 9, 10, 11] [8, 9, 0, 1, 2, 10, 3, 4, 11, 5, 6, 7, 12] rfl rfl rfl rfl rfl)

noncomputable def FX_sheet (X : SX) (x1 : Int32) (x2 : Int32) (x3 : Int32) : Option (Int32 × SX) := (f_X5_sheet (xk X) () (xsh X (sj x1)) x1 x2 x3).bind (fun r => some (r.1, (sxsh X (va_up (xsh X) (sj x1) r.2))))
set_option maxRecDepth 100000 in
theorem cw_X5_sheet (l : Launch) (D : va_G) (cA : Nat → ClassId) (o : Nat → Nat → Nat) (X : SX) (x1 : Int32) (x2 : Int32) (x3 : Int32) (res : Int32 × SX) (h : FX_sheet X x1 x2 x3 = some res) : CT l D cA yX5_sheet wsX5_sheet rmX5_sheet [.ref (o 0 0), .int x1, .int x2, .int x3] [wX cA o X] [wX cA o res.2] (some (.int res.1)) := by
  obtain ⟨r, hr, h⟩ := bind_inv h
  have h := Option.some.inj h
  subst h
  have hj := sj_hj x1
  have hlt := sj_lt x1
  generalize sj x1 = j at hj hlt hr ⊢
  rcases four hlt with rfl | rfl | rfl | rfl
  · exact CT.one (CT.frame (cs := WX cA o X) (cs' := WX cA o (sxsh X (va_up (xsh X) 0 r.2))) (cr := [w2 cA (o 1) (xnw X), w1 cA (fun i => o (20 + i)) (xps X), w2 cA (o 3) (xkn X), w1 cA (fun i => o (30 + i)) (xkp X), w2 cA (o 5) (xtr X), w4 cA (o 6) (xtp X), w0 cA (o 7) (xmt X), w3 cA (o 10) (xsh X 1), w3 cA (o 11) (xsh X 2), w3 cA (o 12) (xsh X 3)]) (c_X5_sheet l D cA o 0 (xk X) () (xsh X 0) x1 x2 x3 hj r hr) [0, 8, 9] [1, 2, 3, 4, 5, 6, 7, 10, 11, 12] [10, 0, 1, 2, 3, 4, 5, 6, 11, 12, 7, 8, 9] rfl rfl rfl rfl rfl)
  · exact CT.one (CT.frame (cs := WX cA o X) (cs' := WX cA o (sxsh X (va_up (xsh X) 1 r.2))) (cr := [w2 cA (o 1) (xnw X), w1 cA (fun i => o (20 + i)) (xps X), w2 cA (o 3) (xkn X), w1 cA (fun i => o (30 + i)) (xkp X), w2 cA (o 5) (xtr X), w4 cA (o 6) (xtp X), w0 cA (o 7) (xmt X), w3 cA (o 9) (xsh X 0), w3 cA (o 11) (xsh X 2), w3 cA (o 12) (xsh X 3)]) (c_X5_sheet l D cA o 1 (xk X) () (xsh X 1) x1 x2 x3 hj r hr) [0, 8, 10] [1, 2, 3, 4, 5, 6, 7, 9, 11, 12] [10, 0, 1, 2, 3, 4, 5, 6, 11, 7, 12, 8, 9] rfl rfl rfl rfl rfl)
  · exact CT.one (CT.frame (cs := WX cA o X) (cs' := WX cA o (sxsh X (va_up (xsh X) 2 r.2))) (cr := [w2 cA (o 1) (xnw X), w1 cA (fun i => o (20 + i)) (xps X), w2 cA (o 3) (xkn X), w1 cA (fun i => o (30 + i)) (xkp X), w2 cA (o 5) (xtr X), w4 cA (o 6) (xtp X), w0 cA (o 7) (xmt X), w3 cA (o 9) (xsh X 0), w3 cA (o 10) (xsh X 1), w3 cA (o 12) (xsh X 3)]) (c_X5_sheet l D cA o 2 (xk X) () (xsh X 2) x1 x2 x3 hj r hr) [0, 8, 11] [1, 2, 3, 4, 5, 6, 7, 9, 10, 12] [10, 0, 1, 2, 3, 4, 5, 6, 11, 7, 8, 12, 9] rfl rfl rfl rfl rfl)
  · exact CT.one (CT.frame (cs := WX cA o X) (cs' := WX cA o (sxsh X (va_up (xsh X) 3 r.2))) (cr := [w2 cA (o 1) (xnw X), w1 cA (fun i => o (20 + i)) (xps X), w2 cA (o 3) (xkn X), w1 cA (fun i => o (30 + i)) (xkp X), w2 cA (o 5) (xtr X), w4 cA (o 6) (xtp X), w0 cA (o 7) (xmt X), w3 cA (o 9) (xsh X 0), w3 cA (o 10) (xsh X 1), w3 cA (o 11) (xsh X 2)]) (c_X5_sheet l D cA o 3 (xk X) () (xsh X 3) x1 x2 x3 hj r hr) [0, 8, 12] [1, 2, 3, 4, 5, 6, 7, 9, 10, 11] [10, 0, 1, 2, 3, 4, 5, 6, 11, 7, 8, 9, 12] rfl rfl rfl rfl rfl)

noncomputable def FX_drop (X : SX) (x1 : Int32) : Option (Int32 × SX) := (f_X5_drop (xk X) () (xsh X (sj x1)) x1).bind (fun r => some (r.1, (sxsh X (va_up (xsh X) (sj x1) r.2))))
set_option maxRecDepth 100000 in
theorem cw_X5_drop (l : Launch) (D : va_G) (cA : Nat → ClassId) (o : Nat → Nat → Nat) (X : SX) (x1 : Int32) (res : Int32 × SX) (h : FX_drop X x1 = some res) : CT l D cA yX5_drop wsX5_drop rmX5_drop [.ref (o 0 0), .int x1] [wX cA o X] [wX cA o res.2] (some (.int res.1)) := by
  obtain ⟨r, hr, h⟩ := bind_inv h
  have h := Option.some.inj h
  subst h
  have hj := sj_hj x1
  have hlt := sj_lt x1
  generalize sj x1 = j at hj hlt hr ⊢
  rcases four hlt with rfl | rfl | rfl | rfl
  · exact CT.one (CT.frame (cs := WX cA o X) (cs' := WX cA o (sxsh X (va_up (xsh X) 0 r.2))) (cr := [w2 cA (o 1) (xnw X), w1 cA (fun i => o (20 + i)) (xps X), w2 cA (o 3) (xkn X), w1 cA (fun i => o (30 + i)) (xkp X), w2 cA (o 5) (xtr X), w4 cA (o 6) (xtp X), w0 cA (o 7) (xmt X), w3 cA (o 10) (xsh X 1), w3 cA (o 11) (xsh X 2), w3 cA (o 12) (xsh X 3)]) (c_X5_drop l D cA o 0 (xk X) () (xsh X 0) x1 hj r hr) [0, 8, 9] [1, 2, 3, 4, 5, 6, 7, 10, 11, 12] [10, 0, 1, 2, 3, 4, 5, 6, 11, 12, 7, 8, 9] rfl rfl rfl rfl rfl)
  · exact CT.one (CT.frame (cs := WX cA o X) (cs' := WX cA o (sxsh X (va_up (xsh X) 1 r.2))) (cr := [w2 cA (o 1) (xnw X), w1 cA (fun i => o (20 + i)) (xps X), w2 cA (o 3) (xkn X), w1 cA (fun i => o (30 + i)) (xkp X), w2 cA (o 5) (xtr X), w4 cA (o 6) (xtp X), w0 cA (o 7) (xmt X), w3 cA (o 9) (xsh X 0), w3 cA (o 11) (xsh X 2), w3 cA (o 12) (xsh X 3)]) (c_X5_drop l D cA o 1 (xk X) () (xsh X 1) x1 hj r hr) [0, 8, 10] [1, 2, 3, 4, 5, 6, 7, 9, 11, 12] [10, 0, 1, 2, 3, 4, 5, 6, 11, 7, 12, 8, 9] rfl rfl rfl rfl rfl)
  · exact CT.one (CT.frame (cs := WX cA o X) (cs' := WX cA o (sxsh X (va_up (xsh X) 2 r.2))) (cr := [w2 cA (o 1) (xnw X), w1 cA (fun i => o (20 + i)) (xps X), w2 cA (o 3) (xkn X), w1 cA (fun i => o (30 + i)) (xkp X), w2 cA (o 5) (xtr X), w4 cA (o 6) (xtp X), w0 cA (o 7) (xmt X), w3 cA (o 9) (xsh X 0), w3 cA (o 10) (xsh X 1), w3 cA (o 12) (xsh X 3)]) (c_X5_drop l D cA o 2 (xk X) () (xsh X 2) x1 hj r hr) [0, 8, 11] [1, 2, 3, 4, 5, 6, 7, 9, 10, 12] [10, 0, 1, 2, 3, 4, 5, 6, 11, 7, 8, 12, 9] rfl rfl rfl rfl rfl)
  · exact CT.one (CT.frame (cs := WX cA o X) (cs' := WX cA o (sxsh X (va_up (xsh X) 3 r.2))) (cr := [w2 cA (o 1) (xnw X), w1 cA (fun i => o (20 + i)) (xps X), w2 cA (o 3) (xkn X), w1 cA (fun i => o (30 + i)) (xkp X), w2 cA (o 5) (xtr X), w4 cA (o 6) (xtp X), w0 cA (o 7) (xmt X), w3 cA (o 9) (xsh X 0), w3 cA (o 10) (xsh X 1), w3 cA (o 11) (xsh X 2)]) (c_X5_drop l D cA o 3 (xk X) () (xsh X 3) x1 hj r hr) [0, 8, 12] [1, 2, 3, 4, 5, 6, 7, 9, 10, 11] [10, 0, 1, 2, 3, 4, 5, 6, 11, 7, 8, 9, 12] rfl rfl rfl rfl rfl)

noncomputable def FX_item (X : SX) (x1 : Int32) (x2 : Int32) (x3 : Int32) (x4 : Int64) : Option (Int32 × SX) := (f_X5_item (xk X) () (xsh X (sj x1)) x1 x2 x3 x4).bind (fun r => some (r.1, (sxsh X (va_up (xsh X) (sj x1) r.2))))
set_option maxRecDepth 100000 in
theorem cw_X5_item (l : Launch) (D : va_G) (cA : Nat → ClassId) (o : Nat → Nat → Nat) (X : SX) (x1 : Int32) (x2 : Int32) (x3 : Int32) (x4 : Int64) (res : Int32 × SX) (h : FX_item X x1 x2 x3 x4 = some res) : CT l D cA yX5_item wsX5_item rmX5_item [.ref (o 0 0), .int x1, .int x2, .int x3, .long x4] [wX cA o X] [wX cA o res.2] (some (.int res.1)) := by
  obtain ⟨r, hr, h⟩ := bind_inv h
  have h := Option.some.inj h
  subst h
  have hj := sj_hj x1
  have hlt := sj_lt x1
  generalize sj x1 = j at hj hlt hr ⊢
  rcases four hlt with rfl | rfl | rfl | rfl
  · exact CT.one (CT.frame (cs := WX cA o X) (cs' := WX cA o (sxsh X (va_up (xsh X) 0 r.2))) (cr := [w2 cA (o 1) (xnw X), w1 cA (fun i => o (20 + i)) (xps X), w2 cA (o 3) (xkn X), w1 cA (fun i => o (30 + i)) (xkp X), w2 cA (o 5) (xtr X), w4 cA (o 6) (xtp X), w0 cA (o 7) (xmt X), w3 cA (o 10) (xsh X 1), w3 cA (o 11) (xsh X 2), w3 cA (o 12) (xsh X 3)]) (c_X5_item l D cA o 0 (xk X) () (xsh X 0) x1 x2 x3 x4 hj r hr) [0, 8, 9] [1, 2, 3, 4, 5, 6, 7, 10, 11, 12] [10, 0, 1, 2, 3, 4, 5, 6, 11, 12, 7, 8, 9] rfl rfl rfl rfl rfl)
  · exact CT.one (CT.frame (cs := WX cA o X) (cs' := WX cA o (sxsh X (va_up (xsh X) 1 r.2))) (cr := [w2 cA (o 1) (xnw X), w1 cA (fun i => o (20 + i)) (xps X), w2 cA (o 3) (xkn X), w1 cA (fun i => o (30 + i)) (xkp X), w2 cA (o 5) (xtr X), w4 cA (o 6) (xtp X), w0 cA (o 7) (xmt X), w3 cA (o 9) (xsh X 0), w3 cA (o 11) (xsh X 2), w3 cA (o 12) (xsh X 3)]) (c_X5_item l D cA o 1 (xk X) () (xsh X 1) x1 x2 x3 x4 hj r hr) [0, 8, 10] [1, 2, 3, 4, 5, 6, 7, 9, 11, 12] [10, 0, 1, 2, 3, 4, 5, 6, 11, 7, 12, 8, 9] rfl rfl rfl rfl rfl)
  · exact CT.one (CT.frame (cs := WX cA o X) (cs' := WX cA o (sxsh X (va_up (xsh X) 2 r.2))) (cr := [w2 cA (o 1) (xnw X), w1 cA (fun i => o (20 + i)) (xps X), w2 cA (o 3) (xkn X), w1 cA (fun i => o (30 + i)) (xkp X), w2 cA (o 5) (xtr X), w4 cA (o 6) (xtp X), w0 cA (o 7) (xmt X), w3 cA (o 9) (xsh X 0), w3 cA (o 10) (xsh X 1), w3 cA (o 12) (xsh X 3)]) (c_X5_item l D cA o 2 (xk X) () (xsh X 2) x1 x2 x3 x4 hj r hr) [0, 8, 11] [1, 2, 3, 4, 5, 6, 7, 9, 10, 12] [10, 0, 1, 2, 3, 4, 5, 6, 11, 7, 8, 12, 9] rfl rfl rfl rfl rfl)
  · exact CT.one (CT.frame (cs := WX cA o X) (cs' := WX cA o (sxsh X (va_up (xsh X) 3 r.2))) (cr := [w2 cA (o 1) (xnw X), w1 cA (fun i => o (20 + i)) (xps X), w2 cA (o 3) (xkn X), w1 cA (fun i => o (30 + i)) (xkp X), w2 cA (o 5) (xtr X), w4 cA (o 6) (xtp X), w0 cA (o 7) (xmt X), w3 cA (o 9) (xsh X 0), w3 cA (o 10) (xsh X 1), w3 cA (o 11) (xsh X 2)]) (c_X5_item l D cA o 3 (xk X) () (xsh X 3) x1 x2 x3 x4 hj r hr) [0, 8, 12] [1, 2, 3, 4, 5, 6, 7, 9, 10, 11] [10, 0, 1, 2, 3, 4, 5, 6, 11, 7, 8, 9, 12] rfl rfl rfl rfl rfl)

noncomputable def FX_copy (X : SX) (x1 x2 x3 x4 x5 : Int32) : Option (Int32 × SX) := if sj x1 = sj x3 then (f_X5_copyS (xk X) () (xsh X (sj x1)) x1 x2 x3 x4 x5).bind (fun r => some (r.1, sxsh X (va_up (xsh X) (sj x1) r.2))) else (f_X5_copy (xk X) () (xsh X (sj x1)) (xsh X (sj x3)) x1 x2 x3 x4 x5).bind (fun r => some (r.1, sxsh X (va_up (xsh X) (sj x3) r.2)))
set_option maxRecDepth 100000 in
set_option maxHeartbeats 4000000 in
theorem cw_X5_copy (l : Launch) (D : va_G) (cA : Nat → ClassId) (o : Nat → Nat → Nat) (X : SX) (x1 x2 x3 x4 x5 : Int32) (res : Int32 × SX) (h : FX_copy X x1 x2 x3 x4 x5 = some res) : CT l D cA yX5_copy wsX5_copy rmX5_copy [.ref (o 0 0), .int x1, .int x2, .int x3, .int x4, .int x5] [wX cA o X] [wX cA o res.2] (some (.int res.1)) := by
  unfold FX_copy at h
  have hj := sj_hj x1
  have hlt := sj_lt x1
  have hj2 := sj_hj x3
  have hlt2 := sj_lt x3
  generalize sj x1 = j at hj hlt h
  generalize sj x3 = j2 at hj2 hlt2 h
  by_cases he : j = j2
  · subst he
    rw [if_pos rfl] at h
    obtain ⟨r, hr, h⟩ := bind_inv h
    have h := Option.some.inj h
    subst h
    rcases four hlt with rfl | rfl | rfl | rfl
    · exact CT.one (CT.frame (cs := WX cA o X) (cs' := WX cA o (sxsh X (va_up (xsh X) 0 r.2))) (cr := [w2 cA (o 1) (xnw X), w1 cA (fun i => o (20 + i)) (xps X), w2 cA (o 3) (xkn X), w1 cA (fun i => o (30 + i)) (xkp X), w2 cA (o 5) (xtr X), w4 cA (o 6) (xtp X), w0 cA (o 7) (xmt X), w3 cA (o 10) (xsh X 1), w3 cA (o 11) (xsh X 2), w3 cA (o 12) (xsh X 3)]) (c_X5_copyS l D cA o 0 (xk X) () (xsh X 0) x1 x2 x3 x4 x5 hj hj2 r hr) [0, 8, 9] [1, 2, 3, 4, 5, 6, 7, 10, 11, 12] [10, 0, 1, 2, 3, 4, 5, 6, 11, 12, 7, 8, 9] rfl rfl rfl rfl rfl)
    · exact CT.one (CT.frame (cs := WX cA o X) (cs' := WX cA o (sxsh X (va_up (xsh X) 1 r.2))) (cr := [w2 cA (o 1) (xnw X), w1 cA (fun i => o (20 + i)) (xps X), w2 cA (o 3) (xkn X), w1 cA (fun i => o (30 + i)) (xkp X), w2 cA (o 5) (xtr X), w4 cA (o 6) (xtp X), w0 cA (o 7) (xmt X), w3 cA (o 9) (xsh X 0), w3 cA (o 11) (xsh X 2), w3 cA (o 12) (xsh X 3)]) (c_X5_copyS l D cA o 1 (xk X) () (xsh X 1) x1 x2 x3 x4 x5 hj hj2 r hr) [0, 8, 10] [1, 2, 3, 4, 5, 6, 7, 9, 11, 12] [10, 0, 1, 2, 3, 4, 5, 6, 11, 7, 12, 8, 9] rfl rfl rfl rfl rfl)
    · exact CT.one (CT.frame (cs := WX cA o X) (cs' := WX cA o (sxsh X (va_up (xsh X) 2 r.2))) (cr := [w2 cA (o 1) (xnw X), w1 cA (fun i => o (20 + i)) (xps X), w2 cA (o 3) (xkn X), w1 cA (fun i => o (30 + i)) (xkp X), w2 cA (o 5) (xtr X), w4 cA (o 6) (xtp X), w0 cA (o 7) (xmt X), w3 cA (o 9) (xsh X 0), w3 cA (o 10) (xsh X 1), w3 cA (o 12) (xsh X 3)]) (c_X5_copyS l D cA o 2 (xk X) () (xsh X 2) x1 x2 x3 x4 x5 hj hj2 r hr) [0, 8, 11] [1, 2, 3, 4, 5, 6, 7, 9, 10, 12] [10, 0, 1, 2, 3, 4, 5, 6, 11, 7, 8, 12, 9] rfl rfl rfl rfl rfl)
    · exact CT.one (CT.frame (cs := WX cA o X) (cs' := WX cA o (sxsh X (va_up (xsh X) 3 r.2))) (cr := [w2 cA (o 1) (xnw X), w1 cA (fun i => o (20 + i)) (xps X), w2 cA (o 3) (xkn X), w1 cA (fun i => o (30 + i)) (xkp X), w2 cA (o 5) (xtr X), w4 cA (o 6) (xtp X), w0 cA (o 7) (xmt X), w3 cA (o 9) (xsh X 0), w3 cA (o 10) (xsh X 1), w3 cA (o 11) (xsh X 2)]) (c_X5_copyS l D cA o 3 (xk X) () (xsh X 3) x1 x2 x3 x4 x5 hj hj2 r hr) [0, 8, 12] [1, 2, 3, 4, 5, 6, 7, 9, 10, 11] [10, 0, 1, 2, 3, 4, 5, 6, 11, 7, 8, 9, 12] rfl rfl rfl rfl rfl)
  · rw [if_neg he] at h
    obtain ⟨r, hr, h⟩ := bind_inv h
    have h := Option.some.inj h
    subst h
    rcases four hlt with rfl | rfl | rfl | rfl <;> rcases four hlt2 with rfl | rfl | rfl | rfl
    · exact absurd rfl he
    · exact CT.one (CT.frame (cs := WX cA o X) (cs' := WX cA o (sxsh X (va_up (xsh X) 1 r.2))) (cr := [w2 cA (o 1) (xnw X), w1 cA (fun i => o (20 + i)) (xps X), w2 cA (o 3) (xkn X), w1 cA (fun i => o (30 + i)) (xkp X), w2 cA (o 5) (xtr X), w4 cA (o 6) (xtp X), w0 cA (o 7) (xmt X), w3 cA (o 11) (xsh X 2), w3 cA (o 12) (xsh X 3)]) (c_X5_copy l D cA o 0 1 (xk X) () (xsh X 0) (xsh X 1) x1 x2 x3 x4 x5 hj hj2 r hr) [0, 8, 9, 10] [1, 2, 3, 4, 5, 6, 7, 11, 12] [9, 0, 1, 2, 3, 4, 5, 6, 10, 11, 12, 7, 8] rfl rfl rfl rfl rfl)
    · exact CT.one (CT.frame (cs := WX cA o X) (cs' := WX cA o (sxsh X (va_up (xsh X) 2 r.2))) (cr := [w2 cA (o 1) (xnw X), w1 cA (fun i => o (20 + i)) (xps X), w2 cA (o 3) (xkn X), w1 cA (fun i => o (30 + i)) (xkp X), w2 cA (o 5) (xtr X), w4 cA (o 6) (xtp X), w0 cA (o 7) (xmt X), w3 cA (o 10) (xsh X 1), w3 cA (o 12) (xsh X 3)]) (c_X5_copy l D cA o 0 2 (xk X) () (xsh X 0) (xsh X 2) x1 x2 x3 x4 x5 hj hj2 r hr) [0, 8, 9, 11] [1, 2, 3, 4, 5, 6, 7, 10, 12] [9, 0, 1, 2, 3, 4, 5, 6, 10, 11, 7, 12, 8] rfl rfl rfl rfl rfl)
    · exact CT.one (CT.frame (cs := WX cA o X) (cs' := WX cA o (sxsh X (va_up (xsh X) 3 r.2))) (cr := [w2 cA (o 1) (xnw X), w1 cA (fun i => o (20 + i)) (xps X), w2 cA (o 3) (xkn X), w1 cA (fun i => o (30 + i)) (xkp X), w2 cA (o 5) (xtr X), w4 cA (o 6) (xtp X), w0 cA (o 7) (xmt X), w3 cA (o 10) (xsh X 1), w3 cA (o 11) (xsh X 2)]) (c_X5_copy l D cA o 0 3 (xk X) () (xsh X 0) (xsh X 3) x1 x2 x3 x4 x5 hj hj2 r hr) [0, 8, 9, 12] [1, 2, 3, 4, 5, 6, 7, 10, 11] [9, 0, 1, 2, 3, 4, 5, 6, 10, 11, 7, 8, 12] rfl rfl rfl rfl rfl)
    · exact CT.one (CT.frame (cs := WX cA o X) (cs' := WX cA o (sxsh X (va_up (xsh X) 0 r.2))) (cr := [w2 cA (o 1) (xnw X), w1 cA (fun i => o (20 + i)) (xps X), w2 cA (o 3) (xkn X), w1 cA (fun i => o (30 + i)) (xkp X), w2 cA (o 5) (xtr X), w4 cA (o 6) (xtp X), w0 cA (o 7) (xmt X), w3 cA (o 11) (xsh X 2), w3 cA (o 12) (xsh X 3)]) (c_X5_copy l D cA o 1 0 (xk X) () (xsh X 1) (xsh X 0) x1 x2 x3 x4 x5 hj hj2 r hr) [0, 8, 10, 9] [1, 2, 3, 4, 5, 6, 7, 11, 12] [9, 0, 1, 2, 3, 4, 5, 6, 10, 12, 11, 7, 8] rfl rfl rfl rfl rfl)
    · exact absurd rfl he
    · exact CT.one (CT.frame (cs := WX cA o X) (cs' := WX cA o (sxsh X (va_up (xsh X) 2 r.2))) (cr := [w2 cA (o 1) (xnw X), w1 cA (fun i => o (20 + i)) (xps X), w2 cA (o 3) (xkn X), w1 cA (fun i => o (30 + i)) (xkp X), w2 cA (o 5) (xtr X), w4 cA (o 6) (xtp X), w0 cA (o 7) (xmt X), w3 cA (o 9) (xsh X 0), w3 cA (o 12) (xsh X 3)]) (c_X5_copy l D cA o 1 2 (xk X) () (xsh X 1) (xsh X 2) x1 x2 x3 x4 x5 hj hj2 r hr) [0, 8, 10, 11] [1, 2, 3, 4, 5, 6, 7, 9, 12] [9, 0, 1, 2, 3, 4, 5, 6, 10, 7, 11, 12, 8] rfl rfl rfl rfl rfl)
    · exact CT.one (CT.frame (cs := WX cA o X) (cs' := WX cA o (sxsh X (va_up (xsh X) 3 r.2))) (cr := [w2 cA (o 1) (xnw X), w1 cA (fun i => o (20 + i)) (xps X), w2 cA (o 3) (xkn X), w1 cA (fun i => o (30 + i)) (xkp X), w2 cA (o 5) (xtr X), w4 cA (o 6) (xtp X), w0 cA (o 7) (xmt X), w3 cA (o 9) (xsh X 0), w3 cA (o 11) (xsh X 2)]) (c_X5_copy l D cA o 1 3 (xk X) () (xsh X 1) (xsh X 3) x1 x2 x3 x4 x5 hj hj2 r hr) [0, 8, 10, 12] [1, 2, 3, 4, 5, 6, 7, 9, 11] [9, 0, 1, 2, 3, 4, 5, 6, 10, 7, 11, 8, 12] rfl rfl rfl rfl rfl)
    · exact CT.one (CT.frame (cs := WX cA o X) (cs' := WX cA o (sxsh X (va_up (xsh X) 0 r.2))) (cr := [w2 cA (o 1) (xnw X), w1 cA (fun i => o (20 + i)) (xps X), w2 cA (o 3) (xkn X), w1 cA (fun i => o (30 + i)) (xkp X), w2 cA (o 5) (xtr X), w4 cA (o 6) (xtp X), w0 cA (o 7) (xmt X), w3 cA (o 10) (xsh X 1), w3 cA (o 12) (xsh X 3)]) (c_X5_copy l D cA o 2 0 (xk X) () (xsh X 2) (xsh X 0) x1 x2 x3 x4 x5 hj hj2 r hr) [0, 8, 11, 9] [1, 2, 3, 4, 5, 6, 7, 10, 12] [9, 0, 1, 2, 3, 4, 5, 6, 10, 12, 7, 11, 8] rfl rfl rfl rfl rfl)
    · exact CT.one (CT.frame (cs := WX cA o X) (cs' := WX cA o (sxsh X (va_up (xsh X) 1 r.2))) (cr := [w2 cA (o 1) (xnw X), w1 cA (fun i => o (20 + i)) (xps X), w2 cA (o 3) (xkn X), w1 cA (fun i => o (30 + i)) (xkp X), w2 cA (o 5) (xtr X), w4 cA (o 6) (xtp X), w0 cA (o 7) (xmt X), w3 cA (o 9) (xsh X 0), w3 cA (o 12) (xsh X 3)]) (c_X5_copy l D cA o 2 1 (xk X) () (xsh X 2) (xsh X 1) x1 x2 x3 x4 x5 hj hj2 r hr) [0, 8, 11, 10] [1, 2, 3, 4, 5, 6, 7, 9, 12] [9, 0, 1, 2, 3, 4, 5, 6, 10, 7, 12, 11, 8] rfl rfl rfl rfl rfl)
    · exact absurd rfl he
    · exact CT.one (CT.frame (cs := WX cA o X) (cs' := WX cA o (sxsh X (va_up (xsh X) 3 r.2))) (cr := [w2 cA (o 1) (xnw X), w1 cA (fun i => o (20 + i)) (xps X), w2 cA (o 3) (xkn X), w1 cA (fun i => o (30 + i)) (xkp X), w2 cA (o 5) (xtr X), w4 cA (o 6) (xtp X), w0 cA (o 7) (xmt X), w3 cA (o 9) (xsh X 0), w3 cA (o 10) (xsh X 1)]) (c_X5_copy l D cA o 2 3 (xk X) () (xsh X 2) (xsh X 3) x1 x2 x3 x4 x5 hj hj2 r hr) [0, 8, 11, 12] [1, 2, 3, 4, 5, 6, 7, 9, 10] [9, 0, 1, 2, 3, 4, 5, 6, 10, 7, 8, 11, 12] rfl rfl rfl rfl rfl)
    · exact CT.one (CT.frame (cs := WX cA o X) (cs' := WX cA o (sxsh X (va_up (xsh X) 0 r.2))) (cr := [w2 cA (o 1) (xnw X), w1 cA (fun i => o (20 + i)) (xps X), w2 cA (o 3) (xkn X), w1 cA (fun i => o (30 + i)) (xkp X), w2 cA (o 5) (xtr X), w4 cA (o 6) (xtp X), w0 cA (o 7) (xmt X), w3 cA (o 10) (xsh X 1), w3 cA (o 11) (xsh X 2)]) (c_X5_copy l D cA o 3 0 (xk X) () (xsh X 3) (xsh X 0) x1 x2 x3 x4 x5 hj hj2 r hr) [0, 8, 12, 9] [1, 2, 3, 4, 5, 6, 7, 10, 11] [9, 0, 1, 2, 3, 4, 5, 6, 10, 12, 7, 8, 11] rfl rfl rfl rfl rfl)
    · exact CT.one (CT.frame (cs := WX cA o X) (cs' := WX cA o (sxsh X (va_up (xsh X) 1 r.2))) (cr := [w2 cA (o 1) (xnw X), w1 cA (fun i => o (20 + i)) (xps X), w2 cA (o 3) (xkn X), w1 cA (fun i => o (30 + i)) (xkp X), w2 cA (o 5) (xtr X), w4 cA (o 6) (xtp X), w0 cA (o 7) (xmt X), w3 cA (o 9) (xsh X 0), w3 cA (o 11) (xsh X 2)]) (c_X5_copy l D cA o 3 1 (xk X) () (xsh X 3) (xsh X 1) x1 x2 x3 x4 x5 hj hj2 r hr) [0, 8, 12, 10] [1, 2, 3, 4, 5, 6, 7, 9, 11] [9, 0, 1, 2, 3, 4, 5, 6, 10, 7, 12, 8, 11] rfl rfl rfl rfl rfl)
    · exact CT.one (CT.frame (cs := WX cA o X) (cs' := WX cA o (sxsh X (va_up (xsh X) 2 r.2))) (cr := [w2 cA (o 1) (xnw X), w1 cA (fun i => o (20 + i)) (xps X), w2 cA (o 3) (xkn X), w1 cA (fun i => o (30 + i)) (xkp X), w2 cA (o 5) (xtr X), w4 cA (o 6) (xtp X), w0 cA (o 7) (xmt X), w3 cA (o 9) (xsh X 0), w3 cA (o 10) (xsh X 1)]) (c_X5_copy l D cA o 3 2 (xk X) () (xsh X 3) (xsh X 2) x1 x2 x3 x4 x5 hj hj2 r hr) [0, 8, 12, 11] [1, 2, 3, 4, 5, 6, 7, 9, 10] [9, 0, 1, 2, 3, 4, 5, 6, 10, 7, 8, 12, 11] rfl rfl rfl rfl rfl)
    · exact absurd rfl he

