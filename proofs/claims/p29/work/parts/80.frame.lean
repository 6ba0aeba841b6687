/-! FRAME: a contract over more chunks -/
theorem nd_left : ∀ (a b : List Nat), va_nd (a ++ b) = true → va_nd a = true := by
  intro a b
  induction a with
  | nil => intro _; rfl
  | cons x xs ih => intro h; simp only [List.cons_append, va_nd, Bool.and_eq_true, decide_eq_true_eq] at h ⊢; exact ⟨fun hx => h.1 (List.mem_append_left _ hx), ih h.2⟩
theorem nd_right : ∀ (a b : List Nat), va_nd (a ++ b) = true → va_nd b = true := by
  intro a b
  induction a with
  | nil => exact id
  | cons x xs ih => intro h; simp only [List.cons_append, va_nd, Bool.and_eq_true] at h; exact ih h.2
theorem QR.frame {D : va_G} {cs cs' cr cc cc' : List va_W} {v : Option Value} {a : Array Value} {st t : State} {oc : Outcome} (isC isR js : List Nat) (hC : isC.map (fun i => cs[i]?) = cc.map some) (hR : isR.map (fun i => cs[i]?) = cr.map some) (hn : va_nd (isC ++ isR) = true) (hJ : js.map (fun i => (cr ++ cc')[i]?) = cs'.map some) (hj : va_nd js = true)
    (hP : va_P D vwCl cs.flatten st.heap) (hD : va_D (fun _ => True) cs.flatten) (h : QR D cc cc' v a st oc t) : QR D cs cs' v a st oc t := by
  obtain ⟨h1, hp, hd, hz, hk⟩ := h
  have hDc := Dc_iff.mp hD
  have hPc := Pc_iff.mp hP
  have hsub : ∀ q, aIn cc.flatten q → aIn cs.flatten q := by
    rintro q ⟨x, hx, rfl⟩
    obtain ⟨w, hw, hx⟩ := List.mem_flatten.mp hx
    obtain ⟨i, -, hi⟩ := pick_mem hC hw
    exact ⟨x, List.mem_flatten.mpr ⟨w, List.mem_of_getElem? hi, hx⟩, rfl⟩
  have hfar : ∀ w ∈ cr, ∀ q ∈ w, ¬ aIn cc.flatten q.1 := by
    rintro w hw q hq ⟨x, hx, he⟩
    obtain ⟨w2, hw2, hx⟩ := List.mem_flatten.mp hx
    obtain ⟨k, hk2⟩ := List.getElem?_of_mem hw
    obtain ⟨k3, hk3⟩ := List.getElem?_of_mem hw2
    obtain ⟨i, hi, hi2⟩ := pick_at hR hk2
    obtain ⟨j, hj, hj2⟩ := pick_at hC hk3
    refine pw_ne hDc.2.1 hi2 hj2 (fun e => ?_) q hq x hx he.symm
    subst e
    have hl : k3 < isC.length := (List.getElem?_eq_some_iff.mp hj).1
    have := va_nd_inj (isC ++ isR) hn (isC.length + k) k3 i (by rw [List.getElem?_append_right (by omega)]; simpa using hi) (by rw [List.getElem?_append_left hl]; exact hj)
    omega
  have hP1 : va_P D vwCl (cr ++ cc').flatten t.heap := by
    rw [Pc_iff]
    intro w hw q hq
    rcases List.mem_append.mp hw with h | h
    · obtain ⟨i, -, hi⟩ := pick_mem hR h
      have h2 := hPc w (List.mem_of_getElem? hi) q hq
      exact h2.kept (hk _ h2.lt (hfar w h q hq))
    · exact Pc_iff.mp hp w h q hq
  have hD1 : va_D (aIn cs.flatten) (cr ++ cc').flatten := by
    have hr1 := Dc_iff.mp (chD hD isR (nd_right _ _ hn) hR)
    have hc1 := Dc_iff.mp hd
    rw [Dc_iff]
    refine ⟨fun w hw => ?_, ?_, fun w hw q hq => ?_⟩
    · rcases List.mem_append.mp hw with h | h
      · exact hr1.1 w h
      · exact hc1.1 w h
    · rw [List.pairwise_append]
      refine ⟨hr1.2.1, hc1.2.1, fun w1 h1 w2 h2 x hx y hy he => ?_⟩
      exact hfar w1 h1 x hx (by rw [he]; exact hc1.2.2 w2 h2 y hy)
    · rcases List.mem_append.mp hw with h | h
      · obtain ⟨i, -, hi⟩ := pick_mem hR h
        exact ⟨q, List.mem_flatten.mpr ⟨w, List.mem_of_getElem? hi, hq⟩, rfl⟩
      · exact hsub _ (hc1.2.2 w h q hq)
  exact ⟨h1, chP hP1 js hJ, chD hD1 js hj hJ, hz, fun q h1 h2 => hk q h1 (fun z => h2 (hsub q z))⟩
theorem aIn_mono {cs cc : List va_W} (isC : List Nat) (hC : isC.map (fun i => cs[i]?) = cc.map some) : ∀ q, aIn cc.flatten q → aIn cs.flatten q := by
  rintro q ⟨x, hx, rfl⟩
  obtain ⟨w, hw, hx⟩ := List.mem_flatten.mp hx
  obtain ⟨i, -, hi⟩ := pick_mem hC hw
  exact ⟨x, List.mem_flatten.mpr ⟨w, List.mem_of_getElem? hi, hx⟩, rfl⟩
theorem CT.frame {l : Launch} {D : va_G} {cA : Nat → ClassId} {y : MethodName} {w : List Cond} {rm : Room} {av : List Value} {cs cs' cr cc cc' : List va_W} {v : Option Value} (h : CT l D cA y w rm av cc cc' v) (isC isR js : List Nat)
    (hC : isC.map (fun i => cs[i]?) = cc.map some) (hR : isR.map (fun i => cs[i]?) = cr.map some) (hn : va_nd (isC ++ isR) = true) (hJ : js.map (fun i => (cr ++ cc')[i]?) = cs'.map some) (hj : va_nd js = true) : CT l D cA y w rm av cs cs' v := by
  intro p e h1 h2 h3 s m args below hf happ hP hK
  obtain ⟨ha, hp, hk, hd⟩ := hP
  obtain ⟨n, o, a1, a2, a3, q, L, a5, a6⟩ := h p e h1 h2 h3 s m args below hf happ ⟨ha, chP hp isC hC, hk, chD hd isC (nd_left _ _ hn) hC⟩ hK
  exact ⟨n, o, a1, a2, a3, q.frame isC isR js hC hR hn hJ hj hp hd, L, a5, fun x hx => aIn_mono isC hC _ (a6 x hx)⟩
theorem CTs.frame {l : Launch} {D : va_G} {cA : Nat → ClassId} {y : MethodName} {w : List Cond} {rm : Room} {av : List Value} {cs cs' cr cc cc' : List va_W} {v : Option Value} {sk sv : Nat} {sf : Option Nat} (h : CTs l D cA y w rm av cc cc' v sk sv sf) (isC isR js : List Nat)
    (hC : isC.map (fun i => cs[i]?) = cc.map some) (hR : isR.map (fun i => cs[i]?) = cr.map some) (hn : va_nd (isC ++ isR) = true) (hJ : js.map (fun i => (cr ++ cc')[i]?) = cs'.map some) (hj : va_nd js = true) : CTs l D cA y w rm av cs cs' v sk sv sf := by
  intro p e h1 h2 h3 s m args below hf happ hP hK
  obtain ⟨ha, ⟨hp, hk, hd⟩, hsf⟩ := hP
  obtain ⟨n, o, a1, a2, a3, q, L, a5, a6⟩ := h p e h1 h2 h3 s m args below hf happ ⟨ha, ⟨chP hp isC hC, hk, chD hd isC (nd_left _ _ hn) hC⟩, by
    obtain ⟨f1, f2, f3, f4, f5, f6, f7⟩ := hsf
    have hB := aIn_mono (cs := cs) isC hC
    exact ⟨f1.narrow hB, f2.narrow hB, f3.narrow hB, f4.narrow hB, f5.narrow hB, f6.narrow hB, f7⟩⟩ hK
  exact ⟨n, o, a1, a2, a3, q.frame isC isR js hC hR hn hJ hj hp hd, L, a5, fun x hx => aIn_mono isC hC _ (a6 x hx)⟩
theorem CT.one {l : Launch} {D : va_G} {cA : Nat → ClassId} {y : MethodName} {w : List Cond} {rm : Room} {av : List Value} {cs cs' : List va_W} {v : Option Value} (h : CT l D cA y w rm av cs cs' v) : CT l D cA y w rm av [cs.flatten] [cs'.flatten] v := by
  unfold CT PR QR at h ⊢
  simp only [List.flatten_cons, List.flatten_nil, List.append_nil]
  exact h
theorem CTs.one {l : Launch} {D : va_G} {cA : Nat → ClassId} {y : MethodName} {w : List Cond} {rm : Room} {av : List Value} {cs cs' : List va_W} {v : Option Value} {sk sv : Nat} {sf : Option Nat} (h : CTs l D cA y w rm av cs cs' v sk sv sf) : CTs l D cA y w rm av [cs.flatten] [cs'.flatten] v sk sv sf := by
  unfold CTs PRs PR QR at h ⊢
  simp only [List.flatten_cons, List.flatten_nil, List.append_nil]
  exact h
