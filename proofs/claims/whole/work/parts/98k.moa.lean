noncomputable section
def upP (w : Nat) (f : Int32) (x : Nat × Int32) : Nat × Int32 := if x.1 ≤ w then (w + 1, f) else x
def lpF (W : Nat → Nat) (F : Nat → Int32) (av : Nat → Bool) : Nat → Nat → Nat × Int32 → Nat × Int32
  | 0, c, x => upP (W c) (F c) x
  | k + 1, c, x => lpF W F av k (c + 1) (if av c = true then upP (W c) (F c) x else x)
theorem lpF_s (W : Nat → Nat) (F : Nat → Int32) (av : Nat → Bool) (k c : Nat) (x : Nat × Int32) : lpF W F av (k + 1) c x = lpF W F av k (c + 1) (if av c = true then upP (W c) (F c) x else x) := rfl
theorem upP_up (a b : Nat) (f : Int32) (x : Nat × Int32) : upP a f (upP b f x) = upP (max a b) f x := by
  unfold upP
  by_cases h1 : x.1 ≤ b
  · rw [if_pos h1, if_pos (show x.1 ≤ max a b by omega)]
    by_cases h2 : b + 1 ≤ a
    · rw [if_pos (show (b + 1, f).1 ≤ a from h2), show max a b = a by omega]
    · rw [if_neg (show ¬ (b + 1, f).1 ≤ a from h2), show max a b = b by omega]
  · rw [if_neg h1]
    by_cases h2 : x.1 ≤ a
    · rw [if_pos h2, if_pos (by omega), show max a b = a by omega]
    · rw [if_neg h2, if_neg (by omega)]
theorem lpF_c {W : Nat → Nat} {F : Nat → Int32} {av : Nat → Bool} {f : Int32} (hF : ∀ c, F c = f) : ∀ k c x b, lpF W F av k c (upP b f x) = upP (max (W (c + k)) (mxU (fun p => if av p = true then W p else 0) c k b)) f x := by
  intro k
  induction k with
  | zero =>
    intro c x b
    show upP (W c) (F c) (upP b f x) = _
    rw [hF, upP_up]
    rfl
  | succ k ih =>
    intro c x b
    rw [lpF_s, hF]
    have e : (if av c = true then upP (W c) f (upP b f x) else upP b f x) = upP (max b (if av c = true then W c else 0)) f x := by
      by_cases h : av c = true
      · rw [if_pos h, if_pos h, upP_up, Nat.max_comm]
      · rw [if_neg h, if_neg h, Nat.max_zero]
    rw [e, ih, show c + 1 + k = c + (k + 1) by omega]
    rfl
theorem lpF_c0 {W : Nat → Nat} {F : Nat → Int32} {av : Nat → Bool} {f : Int32} (hF : ∀ c, F c = f) : ∀ k c x, lpF W F av k c x = upP (max (W (c + k)) (mxU (fun p => if av p = true then W p else 0) c k 0)) f x := by
  intro k
  induction k with
  | zero =>
    intro c x
    show upP (W c) (F c) x = _
    rw [hF]
    show _ = upP (max (W c) 0) f x
    rw [Nat.max_zero]
  | succ k ih =>
    intro c x
    rw [lpF_s, hF]
    have e1 : mxU (fun p => if av p = true then W p else 0) c (k + 1) 0 = mxU (fun p => if av p = true then W p else 0) (c + 1) k (max 0 (if av c = true then W c else 0)) := rfl
    rw [e1]
    by_cases h : av c = true
    · rw [if_pos h, if_pos h, lpF_c hF, Nat.zero_max, show c + 1 + k = c + (k + 1) by omega]
    · rw [if_neg h, if_neg h, ih, Nat.max_zero, show c + 1 + k = c + (k + 1) by omega]
theorem mxU_shift {av : Nat → Bool} {g : Nat → Nat} {sv V : Nat} : ∀ k c b b2, max (sv + V) b = sv + max V b2 → max (sv + V) (mxU (fun p => if av p = true then sv + g p else 0) c k b) = sv + max V (mxU (fun p => if av p = true then g p else 0) c k b2) := by
  intro k
  induction k with
  | zero => exact fun c b b2 h => h
  | succ k ih =>
    intro c b b2 h
    refine ih (c + 1) _ _ ?_
    dsimp only
    by_cases hc : av c = true
    · rw [if_pos hc, if_pos hc]
      omega
    · rw [if_neg hc, if_neg hc]
      omega
theorem mxU_ext {f g : Nat → Nat} : ∀ k c b, (∀ p, c ≤ p → p < c + k → f p = g p) → mxU f c k b = mxU g c k b := by
  intro k
  induction k with
  | zero => exact fun _ _ _ => rfl
  | succ k ih =>
    intro c b h
    show mxU f (c + 1) k (max b (f c)) = mxU g (c + 1) k (max b (g c))
    rw [h c (Nat.le_refl _) (by omega)]
    exact ih (c + 1) _ (fun p h1 h2 => h p (by omega) (by omega))
theorem mxU_zero {f : Nat → Nat} : ∀ k c b, (∀ p, c ≤ p → p < c + k → f p = 0) → mxU f c k b = b := by
  intro k
  induction k with
  | zero => exact fun _ _ _ => rfl
  | succ k ih =>
    intro c b h
    show mxU f (c + 1) k (max b (f c)) = b
    rw [h c (Nat.le_refl _) (by omega), Nat.max_zero]
    exact ih (c + 1) _ (fun p h1 h2 => h p (by omega) (by omega))
theorem mxU_cut {f : Nat → Nat} : ∀ P k c b, (∀ p, c + P ≤ p → p < c + P + k → f p = 0) → mxU f c (P + k) b = mxU f c P b := by
  intro P
  induction P with
  | zero => exact fun k c b h => by rw [Nat.zero_add]; exact mxU_zero k c b (fun p h1 h2 => h p (by omega) (by omega))
  | succ P ih =>
    intro k c b h
    rw [show P + 1 + k = (P + k) + 1 by omega]
    show mxU f (c + 1) (P + k) (max b (f c)) = mxU f (c + 1) P (max b (f c))
    exact ih k (c + 1) _ (fun p h1 h2 => h p (by omega) (by omega))
/-- the fold of a deeper hand is the most of it -/
theorem lpF_Vl {gd : Nat → Nat → Nat} {st : Nat → Nat → Nat → Nat → Bool} {a : Nat → Nat → Bool} {n d P sv : Nat} {F : Nat → Int32} {f : Int32} (hF : ∀ c, F c = f) (hP : P ≤ 7) (ha : ∀ p, P ≤ p → p < 7 → a d p = false) (x : Nat × Int32) :
    lpF (fun c => if c = P then sv + Vl gd st n (d + 1) a else sv + gd d c + Vl gd st n (d + 1) (stA a st d c)) F (a d) P 0 x = upP (sv + Vl gd st (n + 1) d a) f x := by
  rw [lpF_c0 hF, Nat.zero_add, if_pos rfl, Vl_s]
  have e1 : mxU (fun p => if a d p = true then (if p = P then sv + Vl gd st n (d + 1) a else sv + gd d p + Vl gd st n (d + 1) (stA a st d p)) else 0) 0 P 0 = mxU (fun p => if a d p = true then sv + (gd d p + Vl gd st n (d + 1) (stA a st d p)) else 0) 0 P 0 := mxU_ext P 0 0 (fun p h1 h2 => by
    rw [if_neg (show ¬ p = P by omega), Nat.add_assoc])
  have e2 := mxU_shift (av := a d) (g := fun p => gd d p + Vl gd st n (d + 1) (stA a st d p)) (sv := sv) (V := Vl gd st n (d + 1) a) P 0 0 0 (by omega)
  have e3 : mxU (fun p => if a d p = true then gd d p + Vl gd st n (d + 1) (stA a st d p) else 0) 0 (P + (7 - P)) 0 = mxU (fun p => if a d p = true then gd d p + Vl gd st n (d + 1) (stA a st d p) else 0) 0 P 0 := mxU_cut P (7 - P) 0 0 (fun p h1 h2 => by rw [ha p (by omega) (by omega), if_neg Bool.false_ne_true])
  rw [show P + (7 - P) = 7 by omega, mxU_7, Nat.zero_max] at e3
  rw [e1, e2, ← e3]
theorem gB_cut {W : Nat → Nat} {av : Nat → Bool} : ∀ k c x, (∀ p, c ≤ p → p < c + k → av p = false) → gB W av k c x = x := by
  intro k
  induction k with
  | zero => exact fun _ _ _ => rfl
  | succ k ih =>
    intro c x h
    rw [gB_s, h c (Nat.le_refl _) (by omega), if_neg (fun z => Bool.false_ne_true z.1)]
    exact ih (c + 1) x (fun p h1 h2 => h p (by omega) (by omega))
/-- the fold of the first hand is the class's -/
theorem lpF_gB {W W2 : Nat → Nat} {F : Nat → Int32} {av : Nat → Bool} {V : Nat} : ∀ k c j x, (∀ p, c ≤ p → p < c + k → av p = true → W p = W2 p ∧ F p = nI p) → W (c + k) = V → F (c + k) = -9 → (∀ p, c + k ≤ p → p < c + k + j → av p = false) → lpF W F av k c x = gE V (gB W2 av (k + j) c x) := by
  intro k
  induction k with
  | zero =>
    intro c j x _ h1 h2 h3
    rw [Nat.zero_add, gB_cut j c x (fun p a b => h3 p (by omega) (by omega))]
    show upP (W (c + 0)) (F (c + 0)) x = gE V x
    rw [h1, h2]
    rfl
  | succ k ih =>
    intro c j x h0 h1 h2 h3
    rw [lpF_s, show k + 1 + j = (k + j) + 1 by omega, gB_s]
    have e : (if av c = true then upP (W c) (F c) x else x) = (if av c = true ∧ x.1 ≤ W2 c then (W2 c + 1, nI c) else x) := by
      by_cases h : av c = true
      · obtain ⟨q1, q2⟩ := h0 c (Nat.le_refl _) (by omega) h
        rw [if_pos h, q1, q2]
        unfold upP
        by_cases h4 : x.1 ≤ W2 c
        · rw [if_pos h4, if_pos ⟨h, h4⟩]
        · rw [if_neg h4, if_neg (fun z => h4 z.2)]
      · rw [if_neg h, if_neg (fun z => h z.1)]
    rw [e]
    exact ih (c + 1) j _ (fun p a b => h0 p (by omega) (by omega)) (by rw [show c + 1 + k = c + (k + 1) by omega]; exact h1) (by rw [show c + 1 + k = c + (k + 1) by omega]; exact h2) (fun p a b => h3 p (by omega) (by omega))
end
