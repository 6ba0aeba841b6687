/-! THE FULL RELATION: needs, again -/
theorem bit_full : ∀ A, A < 64 → ∀ j, j < 6 → ((nI A &&& ((1 : Int32) <<< (nI j &&& 31))) = ((1 : Int32) <<< (nI j &&& 31)) ↔ A.testBit j = true) := by decide +kernel
section
variable {N : Nat} {p : St2} {σ : St6}
theorem hit1 (hN : N ≤ 6) {a : Nat} (ha : a < N) (q : St2) (j : Nat) : hitS N q ((1 : Int32) <<< (nI a &&& 31)) j ↔ p2_turns (passI N j q) a = 0 := by
  unfold hitS
  rw [bit_full _ (stN_64 hN _) a (by omega), stN_bit ha]
  exact decide_eq_true_iff
/-- he never stops in 0 to n hours -/
noncomputable def alv (N : Nat) (q : St2) (a n : Nat) : Prop := ∀ j, j ≤ n → ¬ p2_turns (passI N j q) a = 0
noncomputable def withT (p : St2) (a v : Nat) : St2 := s2_turns p (upd (p2_turns p) a (nI v))
theorem nI_m4 {j : Nat} (h : j < 2 ^ 31) : ¬ nI j = -4 := fun q => by
  have := nI_toInt h
  rw [q] at this
  have h4 : (-4 : Int32).toInt = -4 := rfl
  omega
/-- the first v of 0 to 30 with which one goes on -/
noncomputable def ND (P : Nat → Prop) (r : Int32) : Prop := (r = -4 ∧ ∀ v, v < 31 → ¬ P v) ∨ ∃ v, v < 31 ∧ r = nI v ∧ P v ∧ ∀ i, i < v → ¬ P i
theorem ND.eq {P : Nat → Prop} (a b : Int32) (h1 : ND P a) (h2 : ND P b) : a = b := by
  rcases h1 with ⟨e1, n1⟩ | ⟨j, hj, e1, t1, l1⟩ <;> rcases h2 with ⟨e2, n2⟩ | ⟨i, hi, e2, t2, l2⟩
  · rw [e1, e2]
  · exact absurd t2 (n1 i hi)
  · exact absurd t1 (n2 j hj)
  · have : i = j := by
      rcases Nat.lt_trichotomy i j with q | q | q
      · exact absurd t2 (l1 i q)
      · exact q
      · exact absurd t1 (l2 j q)
    rw [e1, e2, this]
theorem c_needs (h : PMo N p (p6_now σ) 0) (κ : St5) (tr : St2) {a K : Nat} (ha : a < N) (hK : K ≤ 40) : ok (fun q => ND (fun v => alv N (withT p a v) a K) q.1) (lp_X5_needs_22 κ p (nI a) (nI K) FU 0 tr) := by
  have hN := h.1
  refine ok_loop0 (fun m z s => lp_X5_needs_22 κ p (nI a) (nI K) m z s) 31 (by decide) (fun k _ => ∀ v, v < k → ¬ alv N (withT p a v) a K) _ tr (fun v hv => by omega) ?_ ?_
  · intro m s hs
    show ok _ (if (30 : Int32) < nI 31 then _ else _)
    rw [if_pos (by decide)]
    exact ok_s (Or.inl ⟨rfl, hs⟩)
  · intro m k s hk hs ih
    show ok _ (if (30 : Int32) < nI k then _ else _)
    rw [if_neg (show ¬ (30 : Int32) < nI k from nI_nlt (a := 30) (by omega) (by decide)), if_pos (inB_nI (show a < 6 by omega) (by decide)), nI_clamp (by omega)]
    have hc : CPo N (withT p a k) := by
      have := (h.t1 ha (v := nI k) (rg_nI (by omega))).cp
      exact this
    refine ok_b (c_until (p := withT p a k) hc _ (n := K) (by omega)) (fun q hq => ?_)
    rcases hq with ⟨e, n1⟩ | ⟨j, hj, e, t, -⟩
    · rw [if_pos e]
      refine ok_s (Or.inr ⟨k, hk, rfl, fun j hj c => ?_, hs⟩)
      exact n1 j hj ((hit1 hN ha _ j).mpr c)
    · rw [e, if_neg (nI_m4 (by omega))]
      refine ih _ (fun v hv c => ?_)
      by_cases ev : v = k
      · subst ev
        exact c j hj ((hit1 hN ha _ j).mp t)
      · exact hs v (by omega) c
theorem m_alv {s : St6} {q : St2} (hm : MA σ s) (hq : PMo N q (p6_now s) 0) {a K : Nat} (ha : a < N) (hK : K ≤ 40) (x4 : Int32) {b : Int32} (hb : b = if p2_turns q a = 0 then 0 else 1) : ok (fun z => MA σ z.2.2 ∧ ((z.1 = 0 ∧ ¬ alv N q a K) ∨ (z.1 = 1 ∧ alv N q a K))) (lp_X6_needs_68 (nI a) (nI K) x4 FU b 0 s) := by
  have hN := hq.1
  refine lpG (fun m z (s : Int32 × St6) => lp_X6_needs_68 (nI a) (nI K) x4 m s.1 z s.2) K (by omega) (fun k s => MA σ s.2 ∧ PMo N (passI N k q) (p6_now s.2) 0 ∧ ((s.1 = 0 ∧ ¬ alv N q a k) ∨ (s.1 = 1 ∧ alv N q a k))) _ (fun m z s => rfl) (fun _ _ _ => rfl) (fun s hs => ok_s ⟨hs.1, hs.2.2⟩) (fun m k s hk hs ih => ?_) (b, s) ⟨hm, hq, ?_⟩
  · refine ok_b (m_goesBy hs.2.1 0) (fun t ht => ?_)
    have ht2 : PMo N (passI N (k + 1) q) (p6_now t) 0 := ht.2
    rcases hs.2.2 with ⟨e, n⟩ | ⟨e, n⟩
    · rw [if_pos e]
      exact ih (_, _) ⟨hs.1.sn ht.1, ht2, Or.inl ⟨rfl, fun c => n (fun j hj => c j (by omega))⟩⟩
    · rw [if_neg (by rw [e]; decide), bd_eq (ht2.stop ha)]
      by_cases e0 : p2_turns (passI N (k + 1) q) a = 0
      · rw [if_pos e0, if_neg (by decide)]
        exact ih (_, _) ⟨hs.1.sn ht.1, ht2, Or.inl ⟨rfl, fun c => c (k + 1) (Nat.le_refl _) e0⟩⟩
      · rw [if_neg e0, if_pos rfl]
        refine ih (_, _) ⟨hs.1.sn ht.1, ht2, Or.inr ⟨rfl, fun j hj => ?_⟩⟩
        by_cases ej : j = k + 1
        · rw [ej]; exact e0
        · exact n j (by omega)
  · show (b = 0 ∧ _) ∨ (b = 1 ∧ _)
    rw [hb]
    by_cases e0 : p2_turns q a = 0
    · rw [if_pos e0]
      exact Or.inl ⟨rfl, fun c => c 0 (Nat.le_refl _) e0⟩
    · rw [if_neg e0]
      refine Or.inr ⟨rfl, fun j hj => ?_⟩
      rw [show j = 0 by omega]; exact e0
theorem m_needs {r : St6} (h : PMo N p (p6_now σ) 0) (hm : MA σ r) (hq : MQu σ r) {a K : Nat} (ha : a < N) (hK : K ≤ 40) : ok (fun q => ND (fun v => alv N (withT p a v) a K) q.1 ∧ MQu σ q.2.2) (lp_X6_needs_32 (nI a) (nI K) FU (-4) 0 r) := by
  have hN := h.1
  refine lpG (fun m z (s : Int32 × St6) => lp_X6_needs_32 (nI a) (nI K) m s.1 z s.2) 31 (by decide) (fun k s => MA σ s.2 ∧ MQu σ s.2 ∧ ((s.1 = -4 ∧ ∀ v, v < k → ¬ alv N (withT p a v) a K) ∨ ∃ v, v < k ∧ s.1 = nI v ∧ alv N (withT p a v) a K ∧ ∀ i, i < v → ¬ alv N (withT p a i) a K)) _ (fun m z s => rfl) (fun _ _ _ => rfl) (fun s hs => ok_s ⟨hs.2.2, hs.2.1⟩) (fun m k s hk hs ih => ?_) (-4, r) ⟨hm, hq, Or.inl ⟨rfl, fun v hv => by omega⟩⟩
  rcases hs.2.2 with ⟨e, n⟩ | ⟨v, hv, e, t, l⟩
  · rw [if_pos e, show (1 : Int32) = nI 1 from rfl, bd_eq (tells_eq s.2 (show a < 6 by omega) (by decide) _)]
    have hp : PMo N (withT p a k) (p6_now (s6_now s.2 (upd (p6_now s.2) (3 + 4 * a + 1) (nI k)))) 0 := (hs.2.1.pr h).t1 ha (rg_nI (by omega))
    have ht : p2_turns (withT p a k) a = nI k := by
      show upd (p2_turns p) a (nI k) a = _
      exact pk_us
    have fin : ∀ (z : Int32 × Int32 × St6), (MA σ z.2.2 ∧ ((z.1 = 0 ∧ ¬ alv N (withT p a k) a K) ∨ (z.1 = 1 ∧ alv N (withT p a k) a K))) → ok (fun q => ND (fun v => alv N (withT p a v) a K) q.1 ∧ MQu σ q.2.2) (if z.1 = 0 then ((f_X6_backs z.2.2).bind (fun r17 => lp_X6_needs_32 (nI a) (nI K) m (-4) (nI k + 1) r17)) else ((f_X6_backs z.2.2).bind (fun r18 => lp_X6_needs_32 (nI a) (nI K) m (nI k) (nI k + 1) r18))) := by
      intro z hz
      rcases hz.2 with ⟨e, na⟩ | ⟨e, al⟩
      · rw [if_pos e]
        refine ok_b (bks hz.1) (fun t ht => ih (_, _) ⟨ht.1, ht.2, Or.inl ⟨rfl, fun v hv => ?_⟩⟩)
        by_cases ev : v = k
        · rw [ev]; exact na
        · exact n v (by omega)
      · rw [if_neg (by rw [e]; decide)]
        exact ok_b (bks hz.1) (fun t ht => ih (_, _) ⟨ht.1, ht.2, Or.inr ⟨k, by omega, rfl, al, n⟩⟩)
    by_cases e0 : k = 0
    · rw [if_pos (show nI k ≤ 0 by rw [e0]; exact Int32.le_refl _)]
      exact ok_b (m_alv (hs.1.nw _) hp ha hK _ (b := 0) (by rw [ht, e0, if_pos (show nI 0 = (0 : Int32) from rfl)])) fin
    · rw [if_neg (nI_nle (by omega) (by omega))]
      exact ok_b (m_alv (hs.1.nw _) hp ha hK _ (b := 1) (by rw [ht, if_neg (nI_ne0 (by omega) (by omega))])) fin
  · rw [if_neg (by rw [e]; exact nI_m4 (by omega))]
    refine ok_s ⟨Or.inr ⟨v, by omega, e, t, l⟩, hs.2.1⟩
theorem q_needs (h : PMo N p (p6_now σ) 0) (κ : St5) (tr : St2) (x1 x2 : Int32) : AL σ (f_X5_needs κ p tr x1 x2) (f_X6_needs σ x1 x2) := by
  unfold f_X5_needs f_X6_needs
  rcases pq h x1 with ⟨a, ha, rfl, e1, e2⟩ | ⟨e1, e2⟩
  rotate_left
  · rw [bd_eq e1, bd_eq e2, i0, i0]
    exact al_same
  rw [bd_eq e1, bd_eq e2, i1, i1]
  rcases q_adv x2 with ⟨K, hK1, hK, rfl, e1, e2⟩ | ⟨e1, e2⟩
  rotate_left
  · rw [bd_eq e1, bd_eq e2, i0, i0]
    exact al_same
  rw [bd_eq e1, bd_eq e2, i1, i1]
  exact al_ok _ ND.eq (c_needs h κ tr ha hK) (ok_b (asd σ) (fun r hr => ok_b (m_needs h hr.1 hr.2.1 ha hK) (fun q hq => ok_s hq)))
-- again
theorem passI_add (N : Nat) (p : St2) (a : Nat) : ∀ b, passI N (a + b) p = passI N b (passI N a p) := by
  intro b
  induction b with
  | zero => rfl
  | succ b ih =>
    show passP N (passI N (a + b) p) = passP N (passI N b (passI N a p))
    rw [ih]
noncomputable def sameD (N : Nat) (p : St2) (d : Nat) : Prop := ∀ i, i < N → p2_turns (passI N (24 * d) p) i = p2_turns p i
theorem c_hasTurns {q : St2} (hs : p2_size q = nI N) (hN : N ≤ 6) (τ : St2) : ok (fun r => (r = 1 ∧ ∀ i, i < N → p2_turns q i = p2_turns τ i) ∨ (r = 0 ∧ ¬ ∀ i, i < N → p2_turns q i = p2_turns τ i)) (f_X2_hasTurnsOf q τ) := by
  unfold f_X2_hasTurnsOf
  refine lpG (fun m z (s : Unit) => lp_X2_hasTurnsOf_2 q τ m z) N (by omega) (fun k _ => ∀ i, i < k → p2_turns q i = p2_turns τ i) _ (fun m z s => rfl) (fun _ _ _ => hs) (fun s hs => ok_s (Or.inl ⟨rfl, hs⟩)) (fun m k s hk hs ih => ?_) () (fun i hi => by omega)
  rw [if_pos (inB_nI (show k < 6 by omega) (by decide)), if_pos (inB_nI (show k < 6 by omega) (by decide)), nI_clamp (by omega)]
  by_cases e : p2_turns q k = p2_turns τ k
  · rw [if_pos e]
    refine ih () (fun i hi => ?_)
    by_cases ei : i = k
    · rw [ei]; exact e
    · exact hs i (by omega)
  · rw [if_neg e]
    exact ok_s (Or.inr ⟨rfl, fun c => e (c k hk)⟩)
theorem m_isAs {r : St6} {q : St2} (h : PMo N p (p6_now σ) 0) (hm : MA σ r) (hq : PMo N q (p6_now r) 0) : ok (fun r => (r = 1 ∧ ∀ i, i < N → p2_turns q i = p2_turns p i) ∨ (r = 0 ∧ ¬ ∀ i, i < N → p2_turns q i = p2_turns p i)) (f_X6_isAsAside r) := by
  have hN := h.1
  unfold f_X6_isAsAside
  refine ok_b (P := fun z => (z.1 = 1 ∧ ∀ i, i < N → p2_turns q i = p2_turns p i) ∨ (z.1 = 0 ∧ ¬ ∀ i, i < N → p2_turns q i = p2_turns p i)) ?_ (fun z hz => ?_)
  · refine lpG (fun m z s => lp_X6_isAsAside_4 r m s z) N (by omega) (fun k s => (s = 1 ∧ ∀ i, i < k → p2_turns q i = p2_turns p i) ∨ (s = 0 ∧ ¬ ∀ i, i < N → p2_turns q i = p2_turns p i)) _ (fun m z s => rfl) (fun _ _ _ => hq.n) (fun s hs => ok_s hs) (fun m k s hk hs ih => ?_) 1 (Or.inl ⟨rfl, fun i hi => by omega⟩)
    rcases hs with ⟨e, l⟩ | ⟨e, l⟩
    · rw [if_neg (by rw [e]; decide), bd_eq (hq.turns hk)]
      have hix : (3 + 4 * nI k) + 1 = nI (3 + 4 * k + 1) := told_ix (show k < 6 by omega) (w := 1) (by decide)
      rw [hix, if_pos (inB_nI (show 3 + 4 * k + 1 < 27 by omega) (by decide)), nI_clamp (by omega), hm.as (by omega), show 3 + 4 * k + 1 = 4 + 4 * k by omega, h.tn hk]
      by_cases e2 : p2_turns q k = p2_turns p k
      · rw [if_pos e2]
        refine ih _ (Or.inl ⟨rfl, fun i hi => ?_⟩)
        by_cases ei : i = k
        · rw [ei]; exact e2
        · exact l i (by omega)
      · rw [if_neg e2]
        exact ih _ (Or.inr ⟨rfl, fun c => e2 (c k hk)⟩)
    · rw [if_pos e]
      exact ih _ (Or.inr ⟨rfl, l⟩)
  · rcases hz with ⟨e, l⟩ | ⟨e, l⟩
    · rw [if_pos (Or.inr e)]; exact ok_s (Or.inl ⟨e, l⟩)
    · rw [if_pos (Or.inl e)]; exact ok_s (Or.inr ⟨e, l⟩)
/-- the first of ten days behind which all is as it was -/
noncomputable def AG (P : Nat → Prop) (r : Int32) : Prop := (r = -4 ∧ ∀ d, 1 ≤ d → d < 11 → ¬ P d) ∨ ∃ d, 1 ≤ d ∧ d < 11 ∧ r = nI (24 * d) ∧ P d ∧ ∀ i, 1 ≤ i → i < d → ¬ P i
theorem AG.eq {P : Nat → Prop} (a b : Int32) (h1 : AG P a) (h2 : AG P b) : a = b := by
  rcases h1 with ⟨e1, n1⟩ | ⟨j, gj, hj, e1, t1, l1⟩ <;> rcases h2 with ⟨e2, n2⟩ | ⟨i, gi, hi, e2, t2, l2⟩
  · rw [e1, e2]
  · exact absurd t2 (n1 i gi hi)
  · exact absurd t1 (n2 j gj hj)
  · have : i = j := by
      rcases Nat.lt_trichotomy i j with q | q | q
      · exact absurd t2 (l1 i gi q)
      · exact q
      · exact absurd t1 (l2 j gj q)
    rw [e1, e2, this]
theorem q_again (h : PMo N p (p6_now σ) 0) (κ : St5) (tr : St2) : AL σ (f_X5_again κ p tr) (f_X6_again σ) := by
  have hN := h.1
  have hc := h.cp
  unfold f_X5_again f_X6_again
  refine al_ok (AG (sameD N p)) AG.eq ?_ (ok_b (asd σ) (fun r hr => ok_b (P := fun q => AG (sameD N p) q.1 ∧ MA σ q.2.2) ?_ (fun q hq => ok_b (bks hq.2) (fun t ht => ok_s ⟨hq.1, ht.2⟩))))
  · refine ok_loop (fun m z s => lp_X5_again_13 κ p m z s) 11 (fun k s => 1 ≤ k ∧ s = passI N (24 * (k - 1)) p ∧ ∀ d, 1 ≤ d → d < k → ¬ sameD N p d) _ ?_ ?_ FU 1 p (by decide) (by decide) ⟨by decide, rfl, fun d h1 h2 => by omega⟩
    · intro m s hs
      show ok _ (if (10 : Int32) < nI 11 then _ else _)
      rw [if_pos (by decide)]
      exact ok_s (Or.inl ⟨rfl, hs.2.2⟩)
    · intro m k s hk hs ih
      show ok _ (if (10 : Int32) < nI k then _ else _)
      have e24 : passI N 24 s = passI N (24 * k) p := by
        rw [hs.2.1, ← passI_add, show 24 * (k - 1) + 24 = 24 * k by omega]
      have hcs : CPo N s := by rw [hs.2.1]; exact hc.pass _
      rw [if_neg (show ¬ (10 : Int32) < nI k from nI_nlt (a := 10) (by omega) (by decide)), show (24 : Int32) = nI 24 from rfl, bd_eq (c_passHours hcs (K := 24) (by decide)), e24]
      refine ok_b (c_hasTurns (hc.pass (24 * k)).2.1 hN p) (fun z hz => ?_)
      rcases hz with ⟨e, l⟩ | ⟨e, l⟩
      · rw [if_neg (by rw [e]; decide)]
        refine ok_s (Or.inr ⟨k, hs.1, hk, ?_, l, hs.2.2⟩)
        show nI k * nI 24 = _
        rw [nI_mul, Nat.mul_comm]
      · rw [if_pos e]
        refine ih _ ⟨by omega, rfl, fun d h1 h2 => ?_⟩
        by_cases ed : d = k
        · rw [ed]; exact l
        · exact hs.2.2 d h1 (by omega)
  · have key := ok_loop (fun m z (s : Int32 × St6) => lp_X6_again_10 m s.1 (24 * z) s.2) 11 (fun k s => 1 ≤ k ∧ MA σ s.2 ∧ ((s.1 = -4 ∧ PMo N (passI N (24 * (k - 1)) p) (p6_now s.2) 0 ∧ ∀ d, 1 ≤ d → d < k → ¬ sameD N p d) ∨ ∃ d, 1 ≤ d ∧ d < k ∧ s.1 = nI (24 * d) ∧ sameD N p d ∧ ∀ i, 1 ≤ i → i < d → ¬ sameD N p i)) (fun q => AG (sameD N p) q.1 ∧ MA σ q.2.2) ?_ ?_ FU 1 (-4, r) (by decide) (by decide) ⟨by decide, hr.1, Or.inl ⟨rfl, h.nw hr.2.2, fun d h1 h2 => by omega⟩⟩
    · exact key
    · intro m s hs
      show ok _ (if (241 : Int32) ≤ 24 * nI 11 then _ else _)
      rw [if_pos (by decide)]
      rcases hs.2.2 with ⟨e, l, n⟩ | ⟨d, h1, h2, e, l, n⟩
      · exact ok_s ⟨Or.inl ⟨e, n⟩, hs.2.1⟩
      · exact ok_s ⟨Or.inr ⟨d, h1, h2, e, l, n⟩, hs.2.1⟩
    · intro m k s hk hs ih
      have e24 : (24 : Int32) * nI k = nI (24 * k) := by rw [show (24 : Int32) = nI 24 from rfl, nI_mul]
      have e25 : (24 : Int32) * nI k + 24 = 24 * (nI k + 1) := by
        rw [nI_1, show (24 : Int32) = nI 24 from rfl, nI_mul, nI_mul, nI_add]
        congr 1
      show ok _ (if (241 : Int32) ≤ 24 * nI k then _ else (if s.1 = -4 then _ else _))
      rw [if_neg (show ¬ (241 : Int32) ≤ 24 * nI k by rw [e24]; exact nI_ge (b := 241) (by omega) (by decide))]
      rcases hs.2.2 with ⟨e, l, n⟩ | ⟨d, h1, h2, e, l, n⟩
      · rw [if_pos e, e25, show (f_X6_goesOn s.2 24) = f_X6_goesOn s.2 (nI 24) from rfl]
        refine ok_b (m_goesOn l (K := 24) (by decide)) (fun t ht => ?_)
        have ht2 : PMo N (passI N (24 * k) p) (p6_now t) 0 := by
          have := ht.2
          rw [← passI_add, show 24 * (k - 1) + 24 = 24 * k by have := hs.1; omega] at this
          exact this
        have hm := hs.2.1.sn ht.1
        refine ok_b (m_isAs h hm ht2) (fun z hz => ?_)
        rcases hz with ⟨e, l⟩ | ⟨e, l⟩
        · rw [if_neg (by rw [e]; decide)]
          exact ih (_, _) ⟨by omega, hm, Or.inr ⟨k, hs.1, by omega, e24, l, n⟩⟩
        · rw [if_pos e]
          refine ih (_, _) ⟨by omega, hm, Or.inl ⟨rfl, ht2, fun d h1 h2 => ?_⟩⟩
          by_cases ed : d = k
          · rw [ed]; exact l
          · exact n d h1 (by omega)
      · rw [if_neg (by rw [e]; exact nI_m4 (by omega))]
        exact ok_s ⟨Or.inr ⟨d, h1, by omega, e, l, n⟩, hs.2.1⟩
end
