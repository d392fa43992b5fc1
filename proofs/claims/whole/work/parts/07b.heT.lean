theorem heT_0 (B : Bx) (g : Nat → Nat) (t : Nat) : ∀ s : TS, (encT B g t s)[0]? = some (g t, .inr (2, [.ref (g (t + 1)), .int (tPp s), .ref (g (t + 2)), .int (tNn s), .ref (g (t + 3)), .int (tHh s), .ref (g (t + 4)), .int (tYr s)])) := fun _ => rfl
theorem heT_1 (B : Bx) (g : Nat → Nat) (t : Nat) : ∀ s : TS, (encT B g t s)[1]? = some (g (t + 1), .inl (B.2.1, 42, .inl (tPt s))) := fun _ => rfl
theorem heT_2 (B : Bx) (g : Nat → Nat) (t : Nat) : ∀ s : TS, (encT B g t s)[2]? = some (g (t + 2), .inl (B.2.1, 72, .inl (tNt s))) := fun _ => rfl
theorem heT_3 (B : Bx) (g : Nat → Nat) (t : Nat) : ∀ s : TS, (encT B g t s)[3]? = some (g (t + 3), .inl (B.2.1, 1350, .inl (tBt s))) := fun _ => rfl
theorem heT_4 (B : Bx) (g : Nat → Nat) (t : Nat) : ∀ s : TS, (encT B g t s)[4]? = some (g (t + 4), .inl (B.2.1, 4, .inl (tSe s))) := fun _ => rfl
theorem heDT_0 (B : Bx) (g : Nat → Nat) (t t2 : Nat) : ∀ s : DT, (encDT B g t t2 s)[0]? = some (g t, .inr (2, [.ref (g (t + 1)), .int (dAPp s), .ref (g (t + 2)), .int (dANn s), .ref (g (t + 3)), .int (dAHh s), .ref (g (t + 4)), .int (dAYr s)])) := fun _ => rfl
theorem heDT_1 (B : Bx) (g : Nat → Nat) (t t2 : Nat) : ∀ s : DT, (encDT B g t t2 s)[1]? = some (g (t + 1), .inl (B.2.1, 42, .inl (dAPt s))) := fun _ => rfl
theorem heDT_2 (B : Bx) (g : Nat → Nat) (t t2 : Nat) : ∀ s : DT, (encDT B g t t2 s)[2]? = some (g (t + 2), .inl (B.2.1, 72, .inl (dANt s))) := fun _ => rfl
theorem heDT_3 (B : Bx) (g : Nat → Nat) (t t2 : Nat) : ∀ s : DT, (encDT B g t t2 s)[3]? = some (g (t + 3), .inl (B.2.1, 1350, .inl (dABt s))) := fun _ => rfl
theorem heDT_4 (B : Bx) (g : Nat → Nat) (t t2 : Nat) : ∀ s : DT, (encDT B g t t2 s)[4]? = some (g (t + 4), .inl (B.2.1, 4, .inl (dASe s))) := fun _ => rfl
theorem heDT_5 (B : Bx) (g : Nat → Nat) (t t2 : Nat) : ∀ s : DT, (encDT B g t t2 s)[5]? = some (g t2, .inr (2, [.ref (g (t2 + 1)), .int (dOPp s), .ref (g (t2 + 2)), .int (dONn s), .ref (g (t2 + 3)), .int (dOHh s), .ref (g (t2 + 4)), .int (dOYr s)])) := fun _ => rfl
theorem heDT_6 (B : Bx) (g : Nat → Nat) (t t2 : Nat) : ∀ s : DT, (encDT B g t t2 s)[6]? = some (g (t2 + 1), .inl (B.2.1, 42, .inl (dOPt s))) := fun _ => rfl
theorem heDT_7 (B : Bx) (g : Nat → Nat) (t t2 : Nat) : ∀ s : DT, (encDT B g t t2 s)[7]? = some (g (t2 + 2), .inl (B.2.1, 72, .inl (dONt s))) := fun _ => rfl
theorem heDT_8 (B : Bx) (g : Nat → Nat) (t t2 : Nat) : ∀ s : DT, (encDT B g t t2 s)[8]? = some (g (t2 + 3), .inl (B.2.1, 1350, .inl (dOBt s))) := fun _ => rfl
theorem heDT_9 (B : Bx) (g : Nat → Nat) (t t2 : Nat) : ∀ s : DT, (encDT B g t t2 s)[9]? = some (g (t2 + 4), .inl (B.2.1, 4, .inl (dOSe s))) := fun _ => rfl
