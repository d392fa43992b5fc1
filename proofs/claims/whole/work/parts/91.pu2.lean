noncomputable section
theorem R_ruled {T : TS} {M : MS} {cn mn p : Nat} (h : RC T M cn mn) (hp : p < 7) (hl : tLoss T (nI p) (nI cn) = uLoss M p mn) (r : Int32) : tRuled T r (nI p) (nI cn) = uLeft M r (nI p) mn := by
  have hw := RN_w h.2.1
  unfold tRuled uLeft
  rw [R_good h.1.1 h.2.1 hp, hl, hw, nI_clamp (show p < 2 ^ 31 by omega)]
  have e1 : decide (nI p = mA 4 M mn + 1) = decide (nI p - mA 4 M mn = 1) := decide_eq_decide.mpr ⟨fun z => by rw [z, Int32.add_comm]; exact Int32.add_sub_cancel _ _, fun z => by rw [← z, Int32.add_comm]; exact (Int32.sub_add_cancel _ _).symm⟩
  have e3 : mA 4 M mn - 1 = -1 + mA 4 M mn := by rw [Int32.sub_eq_add_neg, Int32.add_comm]
  have e2 : decide (nI p = mA 4 M mn - 1) = decide (nI p - mA 4 M mn = -1) := decide_eq_decide.mpr ⟨fun z => by rw [z, e3]; exact Int32.add_sub_cancel _ _, fun z => by rw [e3, ← z]; exact (Int32.sub_add_cancel _ _).symm⟩
  rw [e1, e2]
  have h34 : r = 3 → ¬ r = 4 := fun z y => by rw [z] at y; exact absurd y (by decide)
  by_cases h3 : r = 3
  · rw [if_pos h3]
    simp only [decide_eq_true h3, decide_eq_false (h34 h3), Bool.true_and, Bool.false_and, Bool.or_false]
  · rw [if_neg h3]
    by_cases h4 : r = 4
    · rw [if_pos h4]
      simp only [decide_eq_true h4, decide_eq_false h3, Bool.true_and, Bool.false_and, Bool.false_or]
    · rw [if_neg h4]
      simp only [decide_eq_false h4, decide_eq_false h3, Bool.false_and, Bool.or_false]
theorem R_price {T : TS} {M : MS} {cn mn p : Nat} (h : RC T M cn mn) (hp : p < 7) (hl : tLoss T (nI p) (nI cn) = uLoss M p mn) {r : Int32} (hr : r = 0 ∨ r = 1 ∨ r = 2 ∨ r = 3 ∨ r = 4) : tPrice T r (nI p) (nI cn) = uAg M r p mn := by
  obtain ⟨w, hw7, ew⟩ := h.2.1.2.2.1.1
  have hw := RN_w h.2.1
  have hm : tMin T (nI p) (tOfN T (nI cn) 0) = uMin M p (mA 4 M mn).toNatClampNeg := by rw [hw, ew, RQ_min h.1.1 hp hw7, nI_clamp (show w < 2 ^ 31 by omega)]
  unfold tPrice uAg
  rw [R_good h.1.1 h.2.1 hp, hl, hm]
  rcases hr with rfl | rfl | rfl | rfl | rfl <;> rfl
theorem R_chF {T : TS} {M : MS} {cn mn : Nat} (h : RC T M cn mn) (hl : ∀ p, p < 7 → tLoss T (nI p) (nI cn) = uLoss M p mn) {r : Int32} (hr : r = 0 ∨ r = 1 ∨ r = 2 ∨ r = 3 ∨ r = 4) : ∀ k, k ≤ uPeople M → chF T r (nI cn) k = uChF M r (nI mn) k ∧ ((uChF M r (nI mn) k).1 = -9 ∨ ∃ j, j < 7 ∧ (uChF M r (nI mn) k).1 = nI j) := by
  obtain ⟨e1, e2⟩ := ppB_c h.1.1.2.2.2.2
  have hm : mn < 13 := h.2.1.1.2
  intro k
  induction k with
  | zero => exact fun _ => ⟨rfl, Or.inl rfl⟩
  | succ k ih =>
    intro hk
    obtain ⟨i1, i2⟩ := ih (by omega)
    have h1 : uOne M (nI k) = true := by
      unfold uOne
      rw [e1]
      exact decide_eq_true ⟨nI_nlt0 (by omega), (nI_ltJ (by omega) (by omega)).mpr (by omega)⟩
    simp only [chF, uChF]
    rw [i1, R_mayW h (by omega) h1, R_ruled h (by omega) (hl k (by omega)), R_price h (by omega) (hl k (by omega)) hr, nI_clamp (show mn < 2 ^ 31 by omega)]
    generalize uChF M r (nI mn) k = z at i2 ⊢
    cases uMayW M (nI k) (nI mn) && !uLeft M r (nI k) mn
    · exact ⟨rfl, i2⟩
    · simp only [reduceIte]
      rcases i2 with i2 | ⟨j, hj, i2⟩
      · have n0 : ¬ (0 ≤ z.1 ∧ z.2 ≤ uAg M r k mn) := by rw [i2]; rintro ⟨q, -⟩; exact absurd q (by decide)
        rw [if_pos (Or.inl i2), if_neg n0]
        exact ⟨rfl, Or.inr ⟨k, by omega, rfl⟩⟩
      · have h9 : ¬ z.1 = -9 := by
          rw [i2]
          intro y
          exact nI_nlt0 (a := j) (by omega) (by rw [y]; decide)
        have h0 : 0 ≤ z.1 := by rw [i2]; exact Int32.not_lt.mp (nI_nlt0 (by omega))
        by_cases hlt : uAg M r k mn < z.2
        · rw [if_pos (Or.inr hlt), if_neg (fun y => absurd hlt (Int32.not_lt.mpr y.2))]
          exact ⟨rfl, Or.inr ⟨k, by omega, rfl⟩⟩
        · rw [if_neg (by rintro (y | y); exact h9 y; exact hlt y), if_pos ⟨h0, Int32.not_lt.mp hlt⟩]
          exact ⟨rfl, Or.inr ⟨j, hj, i2⟩⟩
theorem firstIdx_congr {f g : Nat → Bool} : ∀ n, (∀ k, k < n → f k = g k) → firstIdx f n = firstIdx g n := by
  intro n
  induction n with
  | zero => exact fun _ => rfl
  | succ n ih =>
    intro h
    simp only [firstIdx]
    rw [ih (fun k hk => h k (by omega)), h n (by omega)]
/-- the rows of both are the same -/
def RR (ro : Nat → Int32) (rl : Int32) (M : MS) : Prop := rl = mS 35 M ∧ rwB M ∧ ∀ k, k < uRow M → ro k = mA 34 M k
theorem RR_n {ro : Nat → Int32} {rl : Int32} {M : MS} (h : RR ro rl M) : rowN rl = uRow M := by
  obtain ⟨e, h10⟩ := rwB_c h.2.1
  unfold rowN
  rw [h.1]
  show min (uRow M) 10 = uRow M
  omega
theorem R_told {T : TS} {M : MS} {cn mn : Nat} (h : RC T M cn mn) {ro : Nat → Int32} {rl : Int32} (hr : RR ro rl M) : cTold ro (rowN rl) T (nI cn) = uTold M (nI mn) := by
  unfold cTold uTold
  rw [RR_n hr]
  have e : firstIdx (fun k => tMayW T (ro k) (nI cn)) (uRow M) = firstIdx (uTok M (nI mn)) (uRow M) := firstIdx_congr _ (fun k hk => by
    unfold uTok
    rw [hr.2.2 k hk, R_mayW_row h])
  rw [e]
  by_cases hlt : firstIdx (uTok M (nI mn)) (uRow M) < uRow M
  · rw [if_pos hlt, if_pos hlt, hr.2.2 _ hlt]
  · rw [if_neg hlt, if_neg hlt]
def isRl (r : Int32) : Prop := 0 ≤ r ∧ r < 6
theorem isRl_c {r : Int32} (h : isRl r) : r = 5 ∨ r = 0 ∨ r = 1 ∨ r = 2 ∨ r = 3 ∨ r = 4 := by
  obtain ⟨j, hj, rfl⟩ := nI_of (Int32.not_lt.mpr h.1)
  have h2 : nI j < nI 6 := h.2
  rw [nI_ltJ hj (by decide)] at h2
  match j, h2 with
  | 0, _ => exact Or.inr (Or.inl rfl)
  | 1, _ => exact Or.inr (Or.inr (Or.inl rfl))
  | 2, _ => exact Or.inr (Or.inr (Or.inr (Or.inl rfl)))
  | 3, _ => exact Or.inr (Or.inr (Or.inr (Or.inr (Or.inl rfl))))
  | 4, _ => exact Or.inr (Or.inr (Or.inr (Or.inr (Or.inr rfl))))
  | 5, _ => exact Or.inl rfl
theorem R_chose {T : TS} {M : MS} {cn mn : Nat} (h : RC T M cn mn) (hl : ∀ p, p < 7 → tLoss T (nI p) (nI cn) = uLoss M p mn) {ro : Nat → Int32} {rl : Int32} (hr : RR ro rl M) {r : Int32} (hrl : isRl r) : cChose ro (rowN rl) T r (nI cn) = uChose M r (nI mn) := by
  unfold cChose uChose
  rcases isRl_c hrl with h5 | h5
  · rw [if_pos h5, if_pos h5, R_told h hr]
  · have n5 : ¬ r = 5 := fun z => by rw [z] at h5; revert h5; decide
    have e : tPeople T = uPeople M := by unfold tPeople uPeople; rw [h.1.1.2.1]
    rw [if_neg n5, if_neg n5, e, (R_chF h hl h5 _ (Nat.le_refl _)).1]
/-- whom a rule chooses may help; or it's nobody -/
theorem uChF_may (M : MS) (r n : Int32) : ∀ k, (uChF M r n k).1 = -9 ∨ ∃ j, j < k ∧ (uChF M r n k).1 = nI j ∧ uMayW M (nI j) n = true := by
  intro k
  induction k with
  | zero => exact Or.inl rfl
  | succ k ih =>
    have up : (uChF M r n k).1 = -9 ∨ ∃ j, j < k + 1 ∧ (uChF M r n k).1 = nI j ∧ uMayW M (nI j) n = true := by
      rcases ih with h | ⟨j, h1, h2, h3⟩
      · exact Or.inl h
      · exact Or.inr ⟨j, by omega, h2, h3⟩
    simp only [uChF]
    split
    · rename_i hb
      split
      · exact up
      · exact Or.inr ⟨k, by omega, rfl, (Bool.and_eq_true _ _ ▸ hb).1⟩
    · exact up
theorem firstIdx_ok {f : Nat → Bool} : ∀ n, firstIdx f n < n → f (firstIdx f n) = true := by
  intro n
  induction n with
  | zero => exact fun h => absurd h (by omega)
  | succ n ih =>
    intro h
    simp only [firstIdx] at h ⊢
    by_cases h1 : firstIdx f n < n
    · rw [if_pos h1]
      exact ih h1
    · rw [if_neg h1] at h ⊢
      cases hf : f n
      · rw [hf] at h
        simp only [Bool.false_eq_true, reduceIte] at h
        omega
      · rw [if_pos rfl]
        exact hf
theorem uChose_may {M : MS} (hp : ppB M) (r n : Int32) : uChose M r n = -9 ∨ ∃ j, j < 7 ∧ uChose M r n = nI j ∧ uOne M (nI j) = true ∧ uMayW M (nI j) n = true := by
  obtain ⟨e1, e2⟩ := ppB_c hp
  unfold uChose
  split
  · unfold uTold
    split
    · rename_i h
      have h2 := firstIdx_ok _ h
      unfold uTok at h2
      rw [Bool.and_eq_true] at h2
      obtain ⟨j, hj, e⟩ := uOne_ix hp h2.1
      refine Or.inr ⟨j, hj, e, ?_, ?_⟩
      · rw [← e]; exact h2.1
      · rw [← e]; exact h2.2
    · exact Or.inl rfl
  · rcases uChF_may M r n (uPeople M) with h | ⟨j, h1, h2, h3⟩
    · exact Or.inl h
    · refine Or.inr ⟨j, by omega, h2, ?_, h3⟩
      unfold uOne
      rw [e1]
      exact decide_eq_true ⟨nI_nlt0 (by omega), (nI_ltJ (by omega) (by omega)).mpr h1⟩
end
