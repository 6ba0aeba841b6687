noncomputable abbrev St5 : Type := Int32
noncomputable abbrev p5_isKept (σ : St5) : Int32 := σ
noncomputable abbrev s5_isKept (_ : St5) (v : Int32) : St5 := v
noncomputable def w5 (_ : Nat → ClassId) (o : Nat → Nat → Nat) (σ : St5) : va_W := [(o 0 0, .inr (5, [.ref (o 1 0), .ref (o 20 0), .ref (o 3 0), .ref (o 30 0), .int σ, .ref (o 5 0), .ref (o 6 0), .ref (o 7 0), .ref (o 8 0)]))]
noncomputable abbrev StS : Type := Unit
noncomputable def wS (cA : Nat → ClassId) (o : Nat → Nat → Nat) (_ : StS) : va_W := [(o 8 0, .inl (cA 3, 4, .inr (.inr (.inr (.inr (fun i => some (o (9 + i) 0)))))))]
