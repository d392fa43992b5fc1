noncomputable section
theorem lDg_n (L : LtS) (p : Int32) : ∃ d, d ≤ 9 ∧ lDg L p = nI d := by
  unfold lDg
  cases h : lDig L p
  · exact ⟨0, by omega, if_neg Bool.false_ne_true⟩
  · rw [if_pos rfl]
    unfold lDig at h
    have h := of_decide_eq_true h
    obtain ⟨j, hj, e⟩ := nI_of (fun z : lLet L p < 0 => absurd (Int32.lt_of_le_of_lt h.1 z) (by decide))
    rw [e] at h ⊢
    have a1 : 48 ≤ j := (nI_leJ (a := 48) (by decide) hj).mp h.1
    have a2 : j ≤ 57 := (nI_leJ (b := 57) hj (by decide)).mp h.2
    exact ⟨j - 48, by omega, nI_sub (a := j) (b := 48) (by omega)⟩
/-- what a statement that is told changes of the model -/
def CF2 (M M2 : MS) : Prop := (∀ i, i = 27 ∨ i = 29 ∨ i = 31 ∨ i = 35 → mS i M2 = mS i M) ∧ (∀ i, i = 0 ∨ i = 23 ∨ i = 24 ∨ i = 25 ∨ i = 26 ∨ i = 34 ∨ i = 30 → mA i M2 = mA i M)
theorem TW_law {T : TS} {M : MS} (h : TW T M) (hw : nwB M) {L : LtS} {p k : Nat} (hl : lLet L (nI p) = 108) (hv : VT L p k (mA 26 M)) : (uCl M k).1 = lawAll L (nI p) ∧ ((uCl M k).1 = false → (uCl M k).2 = M) ∧ ((uCl M k).1 = true → TW (lawT L (nI p) T 3) (uCl M k).2 ∧ nwB (uCl M k).2) ∧ CF2 M (uCl M k).2 := by
  have hT := hv.2.2 hl
  have e0 : lV L (nI p) (nI 0) = mA 26 M (6 * k) := by
    have := hT 0 (by omega)
    rw [Nat.add_zero] at this
    rw [this]
    unfold lV
    rw [nI_1, nI_add]
  have e1 : lV L (nI p) (nI 1) = mA 26 M (6 * k + 1) := by
    rw [hT 1 (by omega)]
    unfold lV
    rw [nI_1, nI_add]
  have e2 : lV L (nI p) (nI 2) = mA 26 M (6 * k + 2) := by
    rw [hT 2 (by omega)]
    unfold lV
    rw [nI_1, nI_add]
  obtain ⟨d0, b0, f0⟩ := lDg_n L (nI p + 1 + nI 0)
  obtain ⟨d1, b1, f1⟩ := lDg_n L (nI p + 1 + nI 1)
  obtain ⟨d2, b2, f2⟩ := lDg_n L (nI p + 1 + nI 2)
  have g0 : mA 26 M (6 * k) = nI d0 := e0.symm.trans f0
  have g1 : mA 26 M (6 * k + 1) = nI d1 := e1.symm.trans f1
  have g2 : mA 26 M (6 * k + 2) = nI d2 := e2.symm.trans f2
  have eA : lawAll L (nI p) = (lawOk L (nI p) 0 && (lawOk L (nI p) 1 && (lawOk L (nI p) 2 && true))) := rfl
  have l0 : lawOk L (nI p) 0 = !decide (3 < d0) := by
    unfold lawOk
    rw [e0, g0, if_neg (by decide), if_pos (by decide), decide_eq_false (nI_nlt0 (by omega)), show decide ((3 : Int32) < nI d0) = decide (3 < d0) from decide_eq_decide.mpr (nI_ltJ (a := 3) (by decide) (by omega))]
    simp
  have l1 : lawOk L (nI p) 1 = !decide (d1 = 0) := by
    unfold lawOk
    rw [e1, g1, if_pos (by decide), if_neg (by decide), show decide (nI d1 < (1 : Int32)) = decide (d1 = 0) from decide_eq_decide.mpr ((nI_ltJ (b := 1) (by omega) (by decide)).trans (by omega)), decide_eq_false (show ¬ (9 : Int32) < nI d1 from fun z => by have := (nI_ltJ (a := 9) (by decide) (by omega)).mp z; omega)]
    simp
  have l2 : lawOk L (nI p) 2 = true := by
    unfold lawOk
    rw [e2, g2, if_neg (by decide), if_neg (by decide), decide_eq_false (nI_nlt0 (by omega)), decide_eq_false (show ¬ (9 : Int32) < nI d2 from fun z => by have := (nI_ltJ (a := 9) (by decide) (by omega)).mp z; omega)]
    rfl
  rw [eA, l0, l1, l2]
  unfold uCl
  have c0 : ((3 : Int32) < mA 26 M (6 * k)) ↔ 3 < d0 := by rw [g0]; exact nI_ltJ (a := 3) (by decide) (by omega)
  have c1 : (mA 26 M (6 * k + 1) = 0) ↔ d1 = 0 := by rw [g1]; exact nI_inj (b := 0) (by omega) (by decide)
  by_cases h0 : 3 < d0
  · rw [if_pos (c0.mpr h0), decide_eq_true h0]
    exact ⟨rfl, fun _ => rfl, fun z => absurd z Bool.false_ne_true, fun _ _ => rfl, fun _ _ => rfl⟩
  · rw [if_neg (fun z => h0 (c0.mp z)), decide_eq_false h0]
    by_cases h1 : d1 = 0
    · rw [if_pos (c1.mpr h1), decide_eq_true h1]
      exact ⟨rfl, fun _ => rfl, fun z => absurd z Bool.false_ne_true, fun _ _ => rfl, fun _ _ => rfl⟩
    · rw [if_neg (fun z => h1 (c1.mp z)), decide_eq_false h1]
      refine ⟨rfl, fun z => Bool.noConfusion (show true = false from z), fun _ => ⟨?_, hw⟩, fun i hi => ?_, fun _ _ => rfl⟩
      · have eT : lawT L (nI p) T 3 = taSe (taSe (taSe T 0 (mA 26 M (6 * k))) 1 (mA 26 M (6 * k + 1))) 2 (mA 26 M (6 * k + 2)) := by
          rw [← e0, ← e1, ← e2]
          rfl
        rw [eT]
        exact ⟨RT_set2 (RT_set1 (RT_set0 h.1 _) _) _, h.2⟩
      · dsimp only
        rw [mS_ne (by omega), mS_ne (by omega), mS_ne (by omega)]
end
