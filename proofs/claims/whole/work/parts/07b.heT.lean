theorem heT_0 (B : Bx) (g : Nat → Nat) (t : Nat) : ∀ s : TS, (encT B g t s)[0]? = some (g t, .inr (2, [.ref (g (t + 1)), .int (tPp s), .ref (g (t + 2)), .int (tNn s), .ref (g (t + 3)), .int (tHh s), .ref (g (t + 4)), .int (tYr s)])) := fun _ => rfl
theorem heT_1 (B : Bx) (g : Nat → Nat) (t : Nat) : ∀ s : TS, (encT B g t s)[1]? = some (g (t + 1), .inl (B.2.1, 42, .inl (tPt s))) := fun _ => rfl
theorem heT_2 (B : Bx) (g : Nat → Nat) (t : Nat) : ∀ s : TS, (encT B g t s)[2]? = some (g (t + 2), .inl (B.2.1, 72, .inl (tNt s))) := fun _ => rfl
theorem heT_3 (B : Bx) (g : Nat → Nat) (t : Nat) : ∀ s : TS, (encT B g t s)[3]? = some (g (t + 3), .inl (B.2.1, 1350, .inl (tBt s))) := fun _ => rfl
theorem heT_4 (B : Bx) (g : Nat → Nat) (t : Nat) : ∀ s : TS, (encT B g t s)[4]? = some (g (t + 4), .inl (B.2.1, 4, .inl (tSe s))) := fun _ => rfl
