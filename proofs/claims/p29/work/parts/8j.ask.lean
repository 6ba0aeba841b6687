/-! THE FULL RELATION: what is foretold -/
/-- the reference but for what it reckons with: now is as it was -/
noncomputable def MQu (σ r : St6) : Prop := ∃ (n c a : Nat → Int32), r = s6_aside (s6_change (s6_now σ n) c) a ∧ ∀ i, i < 27 → n i = p6_now σ i
/-- the reference in the midst of a trial: what was now lies aside -/
noncomputable def MA (σ r : St6) : Prop := ∃ (n c a : Nat → Int32), r = s6_aside (s6_change (s6_now σ n) c) a ∧ ∀ i, i < 27 → a i = p6_now σ i
theorem MQu.refl (σ : St6) : MQu σ σ := ⟨p6_now σ, p6_change σ, p6_aside σ, rfl, fun _ _ => rfl⟩
theorem MA.sn {σ r s : St6} (h : MA σ r) (h2 : SN r s) : MA σ s := by
  obtain ⟨n, c, a, rfl, e⟩ := h
  obtain ⟨c', f, rfl⟩ := h2
  exact ⟨f, c', a, rfl, e⟩
theorem MA.nw {σ r : St6} (h : MA σ r) (f : Nat → Int32) : MA σ (s6_now r f) := by
  obtain ⟨n, c, a, rfl, e⟩ := h
  exact ⟨f, c, a, rfl, e⟩
theorem MA.as {σ r : St6} (h : MA σ r) {i : Nat} (hi : i < 27) : p6_aside r i = p6_now σ i := by
  obtain ⟨n, c, a, rfl, e⟩ := h
  exact e i hi
theorem cpf_27 {f g : Nat → Int32} {i : Nat} (h : i < 27) : cpf f g 0 0 27 i = g i := by
  unfold cpf; rw [if_pos ⟨Nat.zero_le _, by omega⟩]; rfl
theorem MQu.pr {σ r : St6} {N : Nat} {p : St2} (h : MQu σ r) (hp : PMo N p (p6_now σ) 0) : PMo N p (p6_now r) 0 := by
  obtain ⟨n, c, a, rfl, e⟩ := h
  exact hp.cg (fun i hi => by rw [Nat.zero_add]; exact (e i hi).symm)
theorem asd (σ : St6) : ok (fun r => MA σ r ∧ MQu σ r ∧ p6_now r = p6_now σ) (f_X6_asides σ) := by
  refine ok_w (asides_ok σ) (fun r hr => ?_)
  subst hr
  exact ⟨⟨p6_now σ, p6_change σ, _, rfl, fun i hi => cpf_27 hi⟩, ⟨p6_now σ, p6_change σ, _, rfl, fun _ _ => rfl⟩, rfl⟩
theorem bks {σ r : St6} (h : MA σ r) : ok (fun s => MA σ s ∧ MQu σ s) (f_X6_backs r) := by
  refine ok_w (backs_ok r) (fun s hs => ?_)
  subst hs
  obtain ⟨n, c, a, rfl, e⟩ := h
  refine ⟨⟨_, c, a, rfl, e⟩, ⟨_, c, a, rfl, fun i hi => ?_⟩⟩
  exact (cpf_27 hi).trans (e i hi)
theorem i1 {α : Type} {a b : α} : (if (1 : Int32) = 0 then a else b) = b := if_neg (by decide)
theorem i0 {α : Type} {a b : α} : (if (0 : Int32) = 0 then a else b) = a := if_pos rfl
-- numbers within bounds
theorem inqN (x : Int32) (a b : Nat) {a' b' : Int64} (hab : a < 2 ^ 31 ∧ b < 2 ^ 31) (ha' : a'.toInt = (a : Int)) (hb' : b'.toInt = (b : Int)) : (∃ K, a ≤ K ∧ K ≤ b ∧ x = nI K ∧ f_X6_in x.toInt64 a' b' = some 1) ∨ ((x < nI a ∨ nI b < x) ∧ f_X6_in x.toInt64 a' b' = some 0) := by
  rw [in_eq, w64, ha', hb']
  by_cases h : (a : Int) ≤ x.toInt ∧ x.toInt ≤ (b : Int)
  · rw [if_pos h]
    obtain ⟨K, hK, e⟩ := rg_int (x := x) (n := b) (by omega) h.2 hab.2
    subst e
    rw [nI_toInt (by omega)] at h
    exact Or.inl ⟨K, by omega, by omega, rfl, rfl⟩
  · rw [if_neg h]
    refine Or.inr ⟨?_, rfl⟩
    by_cases h1 : (a : Int) ≤ x.toInt
    · refine Or.inr (Int32.lt_iff_toInt_lt.mpr ?_)
      rw [nI_toInt hab.2]; omega
    · refine Or.inl (Int32.lt_iff_toInt_lt.mpr ?_)
      rw [nI_toInt hab.1]; omega
theorem gd1 {α : Type} {x a b : Int32} {A B : α} (h : x < a ∨ b < x) : (if x < a then A else (if x ≤ b then B else A)) = A := by
  by_cases h1 : x < a
  · rw [if_pos h1]
  · rw [if_neg h1, if_neg (fun q => by
      have h2 := Int32.lt_iff_toInt_lt.mp (h.resolve_left h1)
      have h3 := Int32.le_iff_toInt_le.mp q
      omega)]
theorem gd2 {α : Type} {x a b : Int32} {A B : α} (h : x < a ∨ b < x) : (if x < a then A else (if b < x then A else B)) = A := by
  by_cases h1 : x < a
  · rw [if_pos h1]
  · rw [if_neg h1, if_pos (h.resolve_left h1)]
theorem gp1 {α : Type} {K a b : Nat} {A B : α} (h1 : a ≤ K) (h2 : K ≤ b) (hb : b < 2 ^ 31) : (if nI K < nI a then A else (if nI K ≤ nI b then B else A)) = B := by
  rw [if_neg (nI_nlt h1 (by omega)), if_pos (nI_le h2 hb)]
theorem gp2 {α : Type} {K a b : Nat} {A B : α} (h1 : a ≤ K) (h2 : K ≤ b) (hb : b < 2 ^ 31) : (if nI K < nI a then A else (if nI b < nI K then A else B)) = B := by
  rw [if_neg (nI_nlt h1 (by omega)), if_neg (nI_nlt h2 hb)]
/-- is there such a person: on both sides alike -/
theorem pq {N : Nat} {p : St2} {σ : St6} (h : PMo N p (p6_now σ) 0) (x : Int32) : (∃ k, k < N ∧ x = nI k ∧ f_X2_has p x = some 1 ∧ f_X6_isPerson σ x = some 1) ∨ (f_X2_has p x = some 0 ∧ f_X6_isPerson σ x = some 0) := by
  have hN := h.1
  have h3 : (nI N - 1).toInt = (N : Int) - 1 := pk_sub_toInt (a := N) (b := 1) (by omega) (by decide)
  unfold f_X2_has f_X6_isPerson
  rw [h.n, in_eq, w64, w64, h3, h.2.1, show (0 : Int64).toInt = 0 from rfl]
  rcases pk_ix x (n := N) (by omega) with q | q | ⟨k, hk, e⟩
  · refine Or.inr ⟨by rw [if_pos q], ?_⟩
    have q2 := Int32.lt_iff_toInt_lt.mp q
    have z : (0 : Int32).toInt = 0 := rfl
    rw [if_neg (by omega)]; rfl
  · refine Or.inr ⟨?_, ?_⟩
    · by_cases h0 : x < 0
      · rw [if_pos h0]
      · rw [if_neg h0, if_pos q]
    · have q2 := Int32.le_iff_toInt_le.mp q
      rw [nI_toInt (by omega)] at q2
      rw [if_neg (by omega)]; rfl
  · subst e
    refine Or.inl ⟨k, hk, rfl, by rw [if_neg (nI_pos (by omega)), if_neg (nI_ge hk (by omega))], ?_⟩
    rw [nI_toInt (by omega), if_pos (by omega)]; rfl
/-- alike: the same answer, and the reference's state as it was -/
noncomputable def AL (M : St6) (fx : Option (Int32 × St2)) (fm : Option (Int32 × St6)) : Prop := ∃ r t M', fx = some (r, t) ∧ fm = some (r, M') ∧ MQu M M'
theorem al_mk {M : St6} {fx : Option (Int32 × St2)} {fm : Option (Int32 × St6)} {r : Int32} {t : St2} (h1 : fx = some (r, t)) (h2 : ok (fun q => q.1 = r ∧ MQu M q.2) fm) : AL M fx fm := by
  obtain ⟨⟨a, M'⟩, e, h3, h4⟩ := h2
  have h3' : a = r := h3
  subst h3'
  exact ⟨a, t, M', h1, e, h4⟩
theorem al_ok {M : St6} {fx : Option (Int32 × St2)} {fm : Option (Int32 × St6)} (L : Int32 → Prop) (hu : ∀ a b, L a → L b → a = b) (h1 : ok (fun q => L q.1) fx) (h2 : ok (fun q => L q.1 ∧ MQu M q.2) fm) : AL M fx fm := by
  obtain ⟨⟨a, t⟩, e1, l1⟩ := h1
  obtain ⟨⟨b, M'⟩, e2, l2, h4⟩ := h2
  have := hu a b l1 l2
  subst this
  exact ⟨a, t, M', e1, e2, h4⟩
theorem al_same {M : St6} {r : Int32} {t : St2} : AL M (some (r, t)) (some (r, M)) := ⟨r, t, M, rfl, rfl, MQu.refl M⟩
section
variable {N : Nat} {p : St2} {σ : St6}
theorem PMo.nw {r : St6} (h : PMo N p (p6_now σ) 0) (e : p6_now r = p6_now σ) : PMo N p (p6_now r) 0 := by rw [e]; exact h
theorem q_ahead (h : PMo N p (p6_now σ) 0) (κ : St5) (tr : St2) (x1 x2 : Int32) : AL σ (f_X5_ahead κ p tr x1 x2) (f_X6_ahead σ x1 x2) := by
  have hN := h.1
  unfold f_X5_ahead f_X6_ahead
  rcases pq h x1 with ⟨k, hk, rfl, e1, e2⟩ | ⟨e1, e2⟩
  · rw [bd_eq e1, bd_eq e2, i1, i1]
    rcases inqN x2 0 80 (a' := 0) (b' := 80) (by decide) rfl rfl with ⟨K, -, hK, rfl, e3⟩ | ⟨hx, e3⟩
    · rw [bd_eq e3, i1, show (if nI K < 0 then some ((-1 : Int32), tr) else (if nI K ≤ 80 then ((f_X2_passHours p (nI K)).bind (fun r6 => (if inB (nI k) 6 = true then some ((p2_turns r6) (nI k).toNatClampNeg, r6) else none))) else some ((-1), tr))) = ((f_X2_passHours p (nI K)).bind (fun r6 => (if inB (nI k) 6 = true then some ((p2_turns r6) (nI k).toNatClampNeg, r6) else none))) from gp1 (a := 0) (b := 80) (Nat.zero_le _) hK (by decide), bd_eq (c_passHours h.cp (K := K) (by omega)), if_pos (inB_nI (show k < 6 by omega) (by decide)), nI_clamp (by omega)]
      refine al_mk rfl (ok_b (asd σ) (fun r hr => ok_b (m_goesOn (h.nw hr.2.2) (K := K) (by omega)) (fun s hs => ?_)))
      rw [bd_eq (hs.2.turns hk)]
      exact ok_b (bks (hr.1.sn hs.1)) (fun t ht => ok_s ⟨rfl, ht.2⟩)
    · rw [bd_eq e3, i0, show (if x2 < 0 then some ((-1 : Int32), tr) else (if x2 ≤ 80 then ((f_X2_passHours p x2).bind (fun r6 => (if inB (nI k) 6 = true then some ((p2_turns r6) (nI k).toNatClampNeg, r6) else none))) else some ((-1), tr))) = some ((-1 : Int32), tr) from gd1 hx]
      exact al_same
  · rw [bd_eq e1, bd_eq e2, i0, i0]
    exact al_same
theorem m_stoppedBehind {r : St6} {q : St2} (ha : MA σ r) (hq : PMo N q (p6_now r) 0) {K : Nat} (hK : K ≤ 50000) : ok (fun z => z.1 = nI (stN N (passI N K q)) ∧ MA σ z.2 ∧ MQu σ z.2) (f_X6_stoppedBehind r (nI K)) := by
  unfold f_X6_stoppedBehind
  refine ok_b (m_goesOn hq hK) (fun s hs => ?_)
  rw [bd_eq (m_stopped hs.2)]
  exact ok_b (bks (ha.sn hs.1)) (fun t ht => ok_s ⟨rfl, ht⟩)
theorem q_then (h : PMo N p (p6_now σ) 0) (κ : St5) (tr : St2) (x1 : Int32) : AL σ (f_X5_then κ p tr x1) (f_X6_then σ x1) := by
  have hN := h.1
  unfold f_X5_then f_X6_then
  rcases inqN x1 0 80 (a' := 0) (b' := 80) (by decide) rfl rfl with ⟨K, -, hK, rfl, e3⟩ | ⟨hx, e3⟩
  · rw [bd_eq e3, i1]
    refine al_mk (r := nI (stN N (passI N K p))) (t := passI N K p) ?_ (?_ : ok _ _)
    rotate_left
    · exact ok_b (asd σ) (fun r hr => ok_b (m_stoppedBehind hr.1 (h.nw hr.2.2) (K := K) (by omega)) (fun s hs => ok_s ⟨hs.1, hs.2.2⟩))
    refine (gp1 (a := 0) (b := 80) (Nat.zero_le _) hK (by decide)).trans ?_
    rw [bd_eq (c_passHours h.cp (K := K) (by omega)), bd_eq (c_stopped (h.cp.pass K).2.1 hN)]
  · rw [bd_eq e3, i0]
    refine al_mk (r := -1) (t := tr) (gd1 hx) (ok_s ⟨rfl, MQu.refl σ⟩)
/-- the first of 0 to n hours at which something is so -/
noncomputable def LE1 (hit : Nat → Prop) (n : Nat) (r : Int32) : Prop := (r = -4 ∧ ∀ j, j ≤ n → ¬ hit j) ∨ ∃ j, j ≤ n ∧ r = nI j ∧ hit j ∧ ∀ i, i < j → ¬ hit i
theorem LE1.eq {hit : Nat → Prop} {n : Nat} (a b : Int32) (h1 : LE1 hit n a) (h2 : LE1 hit n b) : a = b := by
  rcases h1 with ⟨e1, n1⟩ | ⟨j, hj, e1, t1, l1⟩ <;> rcases h2 with ⟨e2, n2⟩ | ⟨i, hi, e2, t2, l2⟩
  · rw [e1, e2]
  · exact absurd t2 (n1 i hi)
  · exact absurd t1 (n2 j hj)
  · have : i = j := by
      rcases Nat.lt_trichotomy i j with q | q | q
      · exact absurd t2 (l1 i q)
      · exact q
      · exact absurd t1 (l2 j q)
    rw [e1, e2, this]
noncomputable def hitS (N : Nat) (p : St2) (S : Int32) (j : Nat) : Prop := (nI (stN N (passI N j p)) &&& S) = S
theorem c_until (h : CPo N p) (S : Int32) {n : Nat} (hn : n ≤ 50000) : ok (fun q => LE1 (hitS N p S) n q.1) (f_X2_passUntilStopped p S (nI n)) := by
  have hN := h.1
  unfold f_X2_passUntilStopped
  refine lpG (fun m z s => lp_X2_passUntilStopped_2 S (nI n) m z s) n hn (fun k s => s = passI N k p ∧ ∀ i, i < k → ¬ hitS N p S i) _ (fun m z s => rfl) (fun _ _ _ => rfl) (fun s hs => ?_) (fun m k s hk hs ih => ?_) p ⟨rfl, fun i hi => by omega⟩
  · rw [hs.1, bd_eq (c_stopped (h.pass n).2.1 hN)]
    by_cases e : (nI (stN N (passI N n p)) &&& S) = S
    · rw [if_pos e]
      exact ok_s (Or.inr ⟨n, Nat.le_refl _, rfl, e, hs.2⟩)
    · rw [if_neg e]
      refine ok_s (Or.inl ⟨rfl, fun j hj => ?_⟩)
      by_cases ej : j = n
      · rw [ej]; exact e
      · exact hs.2 j (by omega)
  · rw [hs.1, bd_eq (c_stopped (h.pass k).2.1 hN)]
    by_cases e : (nI (stN N (passI N k p)) &&& S) = S
    · rw [if_pos e]
      exact ok_s (Or.inr ⟨k, by omega, rfl, e, hs.2⟩)
    · rw [if_neg e, bd_eq (c_passHour (h.pass k))]
      refine ih _ ⟨rfl, fun i hi => ?_⟩
      by_cases ej : i = k
      · rw [ej]; exact e
      · exact hs.2 i (by omega)
theorem m_whenAll (h : PMo N p (p6_now σ) 0) (S : Int32) : ok (fun q => LE1 (hitS N p S) 80 q.1 ∧ MQu σ q.2) (f_X6_whenAll σ S) := by
  unfold f_X6_whenAll
  refine ok_b (asd σ) (fun r hr => ok_b (P := fun q => MA σ q.2 ∧ ((q.1 = 81 ∧ LE1 (hitS N p S) 80 (-4)) ∨ (¬ (81 : Int32) ≤ q.1 ∧ LE1 (hitS N p S) 80 q.1))) ?_ (fun q hq => ok_b (bks hq.1) (fun t ht => ?_)))
  · refine lpG (fun m z s => lp_X6_whenAll_6 S m z s) 81 (by decide) (fun k s => MA σ s ∧ PMo N (passI N k p) (p6_now s) 0 ∧ ∀ i, i < k → ¬ hitS N p S i) _ (fun m z s => rfl) (fun _ _ _ => rfl) (fun s hs => ?_) (fun m k s hk hs ih => ?_) r ⟨hr.1, h.nw hr.2.2, fun i hi => by omega⟩
    · exact ok_s ⟨hs.1, Or.inl ⟨rfl, Or.inl ⟨rfl, fun j hj => hs.2.2 j (by omega)⟩⟩⟩
    · rw [bd_eq (m_stopped hs.2.1)]
      by_cases e : (nI (stN N (passI N k p)) &&& S) = S
      · rw [if_pos e]
        exact ok_s ⟨hs.1, Or.inr ⟨nI_ge (b := 81) hk (by decide), Or.inr ⟨k, by omega, rfl, e, hs.2.2⟩⟩⟩
      · rw [if_neg e]
        refine ok_b (m_goesBy hs.2.1 0) (fun t ht => ih _ ⟨hs.1.sn ht.1, ht.2, fun i hi => ?_⟩)
        by_cases ej : i = k
        · rw [ej]; exact e
        · exact hs.2.2 i (by omega)
  · rcases hq.2 with ⟨e, l⟩ | ⟨e, l⟩
    · rw [e, if_pos (Int32.le_refl _)]
      exact ok_s ⟨l, ht.2⟩
    · rw [if_neg e]
      exact ok_s ⟨l, ht.2⟩
theorem q_stops (h : PMo N p (p6_now σ) 0) (κ : St5) (tr : St2) (x1 : Int32) : AL σ (f_X5_stops κ p tr x1) (f_X6_stops σ x1) := by
  unfold f_X5_stops f_X6_stops
  rcases pq h x1 with ⟨k, hk, rfl, e1, e2⟩ | ⟨e1, e2⟩
  · rw [bd_eq e1, bd_eq e2, i1, i1]
    exact al_ok _ LE1.eq (ok_b (c_until h.cp _ (n := 80) (by decide)) (fun q hq => ok_s hq)) (ok_b (m_whenAll h _) (fun q hq => ok_s hq))
  · rw [bd_eq e1, bd_eq e2, i0, i0]
    exact al_same
theorem q_all (h : PMo N p (p6_now σ) 0) (κ : St5) (tr : St2) : AL σ (f_X5_all κ p tr) (f_X6_all σ) := by
  unfold f_X5_all f_X6_all f_X2_everybody
  rw [h.n, h.2.1, bd_eq rfl]
  exact al_ok _ LE1.eq (ok_b (c_until h.cp _ (n := 80) (by decide)) (fun q hq => ok_s hq)) (ok_b (m_whenAll h _) (fun q hq => ok_s hq))
/-- who is stopped at any of the hours -/
noncomputable def evS (N : Nat) (p : St2) : Nat → Int32
  | 0 => nI (stN N p)
  | k + 1 => evS N p k ||| nI (stN N (passI N (k + 1) p))
theorem q_ever (h : PMo N p (p6_now σ) 0) (κ : St5) (tr : St2) : AL σ (f_X5_ever κ p tr) (f_X6_ever σ) := by
  have hN := h.1
  obtain ⟨F, hF0, hFs⟩ : ∃ F : Nat → Int32, F 0 = nI (stN N p) ∧ ∀ k, F (k + 1) = F k ||| nI (stN N (passI N (k + 1) p)) := ⟨evS N p, rfl, fun _ => rfl⟩
  obtain ⟨G, hG0, hGs⟩ : ∃ G : Nat → St2, G 0 = p ∧ ∀ k, G k = passI N k p := ⟨fun k => passI N k p, rfl, fun _ => rfl⟩
  unfold f_X5_ever f_X6_ever
  rw [bd_eq (c_stopped h.2.1 hN), ← hF0]
  refine al_ok (fun r => r = F 80) (fun a b ha hb => ha.trans hb.symm) (ok_b (P := fun q => q.1 = F 80) ?_ (fun q hq => ok_s hq)) (ok_b (asd σ) (fun r hr => ?_))
  · refine lpG (fun m z (s : Int32 × St2) => lp_X5_ever_21 κ p m s.1 z s.2) 80 (by decide) (fun k s => s.1 = F k ∧ s.2 = G k) _ (fun m z s => rfl) (fun _ _ _ => rfl) (fun s hs => ok_s hs.1) (fun m k s hk hs ih => ?_) (F 0, p) ⟨rfl, hG0.symm⟩
    rw [hs.2, hGs k, bd_eq (c_passHour (h.cp.pass k))]
    have e1 : passP N (passI N k p) = passI N (k + 1) p := rfl
    rw [e1, bd_eq (c_stopped (h.cp.pass (k + 1)).2.1 hN)]
    exact ih (_, _) ⟨by rw [hs.1, hFs], (hGs (k + 1)).symm⟩
  · rw [bd_eq (m_stopped (h.nw hr.2.2)), ← hF0]
    refine ok_b (P := fun q => q.1 = F 80 ∧ MA σ q.2.2) ?_ (fun q hq => ok_b (bks hq.2) (fun t ht => ok_s ⟨hq.1, ht.2⟩))
    refine lpG (fun m z (s : Int32 × St6) => lp_X6_ever_11 m s.1 z s.2) 80 (by decide) (fun k s => s.1 = F k ∧ MA σ s.2 ∧ PMo N (G k) (p6_now s.2) 0) _ (fun m z s => rfl) (fun _ _ _ => rfl) (fun s hs => ok_s ⟨hs.1, hs.2.1⟩) (fun m k s hk hs ih => ?_) (F 0, r) ⟨rfl, hr.1, by rw [hG0]; exact h.nw hr.2.2⟩
    refine ok_b (m_goesBy hs.2.2 0) (fun t ht => ?_)
    have ht2 : PMo N (G (k + 1)) (p6_now t) 0 := by
      have := ht.2
      rw [hGs k] at this
      rw [hGs (k + 1)]; exact this
    rw [bd_eq (m_stopped ht2)]
    exact ih (_, _) ⟨by rw [hs.1, hFs, hGs (k + 1)], hs.2.1.sn ht.1, ht2⟩
end
