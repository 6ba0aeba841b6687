/-! PAST: eight moments -/
theorem addr_iff {A : Nat → Prop} {ws : va_W} : va_D A ws ↔ (ws.map Prod.fst).Pairwise (fun x y => x ≠ y) ∧ ∀ q ∈ ws.map Prod.fst, A q := by
  rw [D_iff, List.pairwise_map]
  constructor
  · intro h
    exact ⟨h.1, fun q hq => by obtain ⟨x, hx, rfl⟩ := List.mem_map.mp hq; exact h.2 x hx⟩
  · intro h
    exact ⟨h.1, fun q hq => h.2 q.1 (List.mem_map.mpr ⟨q, hq, rfl⟩)⟩
theorem CT.post {l : Launch} {D : va_G} {cA : Nat → ClassId} {y : MethodName} {w : List Cond} {rm : Room} {av : List Value} {cs cs' cs'' : List va_W} {v : Option Value} (h : CT l D cA y w rm av cs cs' v) (hc : ∀ H : Heap, va_P D vwCl cs'.flatten H → va_P D vwCl cs''.flatten H) (ha : cs'.flatten.map Prod.fst = cs''.flatten.map Prod.fst) : CT l D cA y w rm av cs cs'' v := by
  intro p e h1 h2 h3 s m args below hf happ hP hK
  obtain ⟨n, o, a1, a2, a3, ⟨q1, q2, q3, q4⟩, a5⟩ := h p e h1 h2 h3 s m args below hf happ hP hK
  exact ⟨n, o, a1, a2, a3, ⟨q1, hc _ q2, by rw [addr_iff] at q3 ⊢; rw [← ha]; exact q3, q4⟩, a5⟩
theorem CT.pre {l : Launch} {D : va_G} {cA : Nat → ClassId} {y : MethodName} {w : List Cond} {rm : Room} {av : List Value} {cs cs0 cs' : List va_W} {v : Option Value} (h : CT l D cA y w rm av cs cs' v) (hc : cs0.flatten = cs.flatten) : CT l D cA y w rm av cs0 cs' v := by
  unfold CT PR QR at h ⊢
  rw [hc]
  exact h
theorem arrV_congr {c : ClassId} {n : Nat} {f g : Nat → Value} (h : ∀ j, j < n → f j = g j) : arrV c n f = arrV c n g := by
  unfold arrV
  congr 1
  apply Array.ext
  · simp
  · intro i h1 h2
    simp at h1
    simp [h i h1]
noncomputable def eq2 (r t : St2) : Prop := p2_size r = p2_size t ∧ p2_hour r = p2_hour t ∧ p2_draw r = p2_draw t ∧ (∀ j, j < 6 → p2_kinds r j = p2_kinds t j) ∧ (∀ j, j < 6 → p2_turns r j = p2_turns t j) ∧ (∀ j, j < 6 → p2_winds r j = p2_winds t j) ∧ ∀ j, j < 6 → p2_keys r j = p2_keys t j
theorem eq2.rf (r : St2) : eq2 r r := ⟨rfl, rfl, rfl, fun _ _ => rfl, fun _ _ => rfl, fun _ _ => rfl, fun _ _ => rfl⟩
theorem at_arr {D : va_G} {cl : List vw_C} {a n : Nat} {c : ClassId} {f g : Nat → Int32} {H : Heap} (h : ∀ j, j < n → f j = g j) (hh : va_at D cl (a, .inl (c, n, .inl f)) H) : va_at D cl (a, .inl (c, n, .inl g)) H := by
  have hh : H[a]? = some (vp_cell c (n, .inl f)) := hh
  show H[a]? = some (vp_cell c (n, .inl g))
  rw [hh, vp_cell_i, vp_cell_i, arrV_congr (fun j hj => by rw [h j hj])]
theorem w2_congr {D : va_G} {cA : Nat → ClassId} {a : Nat → Nat} {r t : St2} {H : Heap} (h : eq2 r t) (hh : ∀ q ∈ w2 cA a r, va_at D vwCl q H) : ∀ q ∈ w2 cA a t, va_at D vwCl q H := by
  obtain ⟨h1, h2, h3, h4, h5, h6, h7⟩ := h
  simp only [w2, List.forall_mem_cons] at hh ⊢
  rw [← h1, ← h2, ← h3]
  exact ⟨hh.1, at_arr h4 hh.2.1, at_arr h5 hh.2.2.1, at_arr h6 hh.2.2.2.1, at_arr h7 hh.2.2.2.2.1, hh.2.2.2.2.2⟩
theorem inB_nI {i n : Nat} (h : i < n) (hn : n < 2 ^ 31) : inB (nI i) n = true := by
  have h1 : ¬ nI i < 0 := nI_pos (by omega)
  have h2 := nI_clamp (n := i) (by omega)
  simp [inB, h1, h2, h]
theorem be_step (t : St2) (n i : Nat) (s : St2) (hi : i < 6) : lp_X2_become_26 t (n + 1) (nI i) s = lp_X2_become_26 t n (nI (i + 1)) (s2_keys (s2_winds (s2_turns (s2_kinds s (upd (p2_kinds s) i ((p2_kinds t) i))) (upd (p2_turns s) i ((p2_turns t) i))) (upd (p2_winds s) i ((p2_winds t) i))) (upd (p2_keys s) i ((p2_keys t) i))) := by
  rw [lp_X2_become_26]
  have hb := inB_nI hi (by decide)
  have hc := nI_clamp (n := i) (by omega)
  rw [if_neg (show ¬ (6 : Int32) ≤ nI i from nI_ge hi (by decide)), if_pos hb, if_pos hb, if_pos hb, if_pos hb, if_pos hb, if_pos hb, if_pos hb, if_pos hb, hc, nI_succ]
theorem be_ok (s t : St2) : ∃ r, f_X2_become s t = some r ∧ eq2 r t := by
  rw [f_X2_become]
  rw [show FU = 99993 + 1 + 1 + 1 + 1 + 1 + 1 + 1 from rfl]
  rw [show (0 : Int32) = nI 0 from rfl, be_step _ _ 0 _ (by decide), be_step _ _ 1 _ (by decide), be_step _ _ 2 _ (by decide), be_step _ _ 3 _ (by decide), be_step _ _ 4 _ (by decide), be_step _ _ 5 _ (by decide), lp_X2_become_26, if_pos (show (6 : Int32) ≤ nI (5 + 1) by decide)]
  refine ⟨_, rfl, rfl, rfl, rfl, ?_, ?_, ?_, ?_⟩ <;>
  · intro j hj
    rcases (show j = 0 ∨ j = 1 ∨ j = 2 ∨ j = 3 ∨ j = 4 ∨ j = 5 by omega) with rfl | rfl | rfl | rfl | rfl | rfl <;> rfl
/-- become: he is as the other -/
theorem c_become (l : Launch) (D : va_G) (cA : Nat → ClassId) (a b : Nat → Nat) (s t : St2) : CT l D cA yX2_become wsX2_become rmX2_become [.ref (a 0), .ref (b 0)] [w2 cA a s, w2 cA b t] [w2 cA a t, w2 cA b t] none := by
  obtain ⟨r, h, he⟩ := be_ok s t
  refine CT.post (c_X2_become l D cA a b s t r h) (fun H hh => ?_) rfl
  rw [Pc_iff] at hh ⊢
  simp only [List.forall_mem_cons] at hh ⊢
  exact ⟨w2_congr he hh.1, hh.2⟩
-- the shape
noncomputable abbrev St1 : Type := Int32 × Int32 × (Nat → St2)
noncomputable abbrev p1_size (q : St1) : Int32 := q.1
noncomputable abbrev p1_next (q : St1) : Int32 := q.2.1
noncomputable abbrev p1_ms (q : St1) : Nat → St2 := q.2.2
noncomputable abbrev s1_size (q : St1) (v : Int32) : St1 := (v, q.2)
noncomputable abbrev s1_next (q : St1) (v : Int32) : St1 := (q.1, v, q.2.2)
noncomputable def w1h (cA : Nat → ClassId) (a : Nat → Nat → Nat) (q : St1) : va_W := [(a 0 0, .inr (1, [.int (p1_size q), .int (p1_next q), .ref (a 0 1)])), (a 0 1, .inl (cA 2, 8, .inr (.inr (.inr (.inr (fun i => some (a (i + 1) 0)))))))]
noncomputable def w1 (cA : Nat → ClassId) (a : Nat → Nat → Nat) (q : St1) : va_W := w1h cA a q ++ (w2 cA (a 1) (p1_ms q 0) ++ (w2 cA (a 2) (p1_ms q 1) ++ (w2 cA (a 3) (p1_ms q 2) ++ (w2 cA (a 4) (p1_ms q 3) ++ (w2 cA (a 5) (p1_ms q 4) ++ (w2 cA (a 6) (p1_ms q 5) ++ (w2 cA (a 7) (p1_ms q 6) ++ w2 cA (a 8) (p1_ms q 7))))))))
noncomputable abbrev cs1 (cA : Nat → ClassId) (a : Nat → Nat → Nat) (q : St1) (m0 m1 m2 m3 m4 m5 m6 m7 : St2) : List va_W := [w1h cA a q, w2 cA (a 1) m0, w2 cA (a 2) m1, w2 cA (a 3) m2, w2 cA (a 4) m3, w2 cA (a 5) m4, w2 cA (a 6) m5, w2 cA (a 7) m6, w2 cA (a 8) m7]
theorem w1_fl (cA : Nat → ClassId) (a : Nat → Nat → Nat) (q : St1) (r : List va_W) : ((w1 cA a q) :: r).flatten = (cs1 cA a q (p1_ms q 0) (p1_ms q 1) (p1_ms q 2) (p1_ms q 3) (p1_ms q 4) (p1_ms q 5) (p1_ms q 6) (p1_ms q 7) ++ r).flatten := by
  simp [w1, cs1, List.append_assoc]
