noncomputable section
theorem TW_need {T : TS} {M : MS} (h : TW T M) (hw : nwB M) {L : LtS} {p k : Nat} (hl : lLet L (nI p) = 110) (hv : VT L p k (mA 26 M)) : (uCn M (6 * k)).1 = nnOk L (nI p) T ∧ ((uCn M (6 * k)).1 = false → (uCn M (6 * k)).2 = M) ∧ ((uCn M (6 * k)).1 = true → TW (nnAll L (nI p) T) (uCn M (6 * k)).2 ∧ nwB (uCn M (6 * k)).2) ∧ CF2 M (uCn M (6 * k)).2 := by
  have hT := hv.2.1 hl
  have ht := h.1.1.1
  obtain ⟨en, hn12⟩ := nnB_c h.1.2.1.2
  have eT : tNn T = nI (uNeeds M) := h.1.2.1.1.trans en
  obtain ⟨d0, b0, f0⟩ := lDg_n L (nI (p + 1 + 0))
  obtain ⟨d1, b1, f1⟩ := lDg_n L (nI (p + 1 + 1))
  obtain ⟨d2, b2, f2⟩ := lDg_n L (nI (p + 1 + 2))
  obtain ⟨d3, b3, f3⟩ := lDg_n L (nI (p + 1 + 3))
  obtain ⟨d4, b4, f4⟩ := lDg_n L (nI (p + 1 + 4))
  have g0 : mA 26 M (6 * k) = nI d0 := (hT 0 (by omega)).trans f0
  have g1 : mA 26 M (6 * k + 1) = nI d1 := (hT 1 (by omega)).trans f1
  have g2 : mA 26 M (6 * k + 2) = nI d2 := (hT 2 (by omega)).trans f2
  have g3 : mA 26 M (6 * k + 3) = nI d3 := (hT 3 (by omega)).trans f3
  have g4 : mA 26 M (6 * k + 4) = nI d4 := (hT 4 (by omega)).trans f4
  have x1 : lDg L (nI p + 1) = nI d0 := by rw [show nI p + 1 = nI (p + 1) from nI_add p 1]; exact f0
  have x2 : lDg L (nI p + 2) = nI d1 := by rw [show nI p + 2 = nI (p + 2) from nI_add p 2]; exact f1
  have x3 : lDg L (nI p + 3) = nI d2 := by rw [show nI p + 3 = nI (p + 3) from nI_add p 3]; exact f2
  have x4 : lDg L (nI p + 4) = nI d3 := by rw [show nI p + 4 = nI (p + 4) from nI_add p 4]; exact f3
  have c12 : ((12 : Int32) ≤ nI (uNeeds M)) ↔ uNeeds M = 12 := (nI_leJ (a := 12) (by decide) (by omega)).trans (by omega)
  have c12' : (nI (uNeeds M) = 12) ↔ uNeeds M = 12 := nI_inj (b := 12) (by omega) (by decide)
  have eq1 : uCnB M (6 * k) = nnOk L (nI p) T := by
    unfold uCnB nnOk uIn
    rw [x1, x2, x3, x4, g0, g1, g2, g3, eT, en, RQ_P ht,
      show decide ((12 : Int32) ≤ nI (uNeeds M)) = decide (uNeeds M = 12) from decide_eq_decide.mpr c12,
      show decide (nI (uNeeds M) = (12 : Int32)) = decide (uNeeds M = 12) from decide_eq_decide.mpr c12',
      show decide (nI d1 < (4 : Int32)) = !decide ((3 : Int32) < nI d1) from by
        rw [← decide_not]
        exact decide_eq_decide.mpr ((nI_ltJ (b := 4) (by omega) (by decide)).trans ((show d1 < 4 ↔ ¬ 3 < d1 by omega).trans (not_congr (nI_ltJ (a := 3) (by decide) (by omega)).symm))),
      show decide (nI d2 < (1 : Int32)) = decide (nI d2 = 0) from decide_eq_decide.mpr ((nI_ltJ (b := 1) (by omega) (by decide)).trans ((show d2 < 1 ↔ d2 = 0 by omega).trans (nI_inj (b := 0) (by omega) (by decide)).symm)),
      show decide ((1 : Int32) ≤ nI d3 ∧ nI d3 ≤ 3) = (!decide (nI d3 < (1 : Int32)) && decide (nI d3 ≤ (3 : Int32))) from by
        rw [Bool.decide_and, ← decide_not]
        exact congrArg (· && decide (nI d3 ≤ (3 : Int32))) (decide_eq_decide.mpr Int32.not_lt.symm)]
    cases decide (uNeeds M = 12) <;> cases uOne M (nI d0) <;> cases decide ((3 : Int32) < nI d1) <;> cases decide (nI d2 = 0) <;> cases decide (nI d3 < (1 : Int32)) <;> cases decide (nI d3 ≤ (3 : Int32)) <;> rfl
  unfold uCn
  rw [← eq1]
  cases hb : uCnB M (6 * k)
  · rw [if_neg Bool.false_ne_true]
    exact ⟨rfl, fun _ => rfl, fun z => absurd z Bool.false_ne_true, fun _ _ => rfl, fun _ _ => rfl⟩
  · rw [if_pos rfl]
    have hb2 := hb
    unfold uCnB at hb2
    rw [Bool.and_eq_true, Bool.and_eq_true, Bool.and_eq_true, Bool.and_eq_true, g0, g1, g3, en] at hb2
    obtain ⟨k1, k2, -, k4, k5⟩ := hb2
    have hN : uNeeds M < 12 := by
      have : ¬ uNeeds M = 12 := fun z => by
        rw [decide_eq_true (c12'.mpr z)] at k5
        exact absurd k5 (by decide)
      omega
    have hd1 : d1 < 4 := by
      rcases Nat.lt_or_ge d1 4 with q | q
      · exact q
      · simp only [Bool.not_eq_true', decide_eq_false_iff_not] at k2
        exact absurd ((nI_ltJ (a := 3) (by decide) (by omega)).mpr (by omega)) k2
    have hd3 : d3 ≤ 3 := (nI_leJ (b := 3) (by omega) (by decide)).mp (of_decide_eq_true k4).2
    have iw : ixB 7 (nI d0) := uOne_ix ht.2.2.2.2 k1
    have m4 : mA 4 (uCn0 M (6 * k)) = upd (mA 4 M) (uNeeds M) (nI d0) := by rw [← g0]; rfl
    have m5 : mA 5 (uCn0 M (6 * k)) = upd (mA 5 M) (uNeeds M) (nI d1) := by rw [← g1]; rfl
    have m6 : mA 6 (uCn0 M (6 * k)) = upd (mA 6 M) (uNeeds M) (nI d2) := by rw [← g2]; rfl
    have m7 : mA 7 (uCn0 M (6 * k)) = upd (mA 7 M) (uNeeds M) (nI d3) := by rw [← g3]; rfl
    have m8 : mA 8 (uCn0 M (6 * k)) = upd (mA 8 M) (uNeeds M) (nI d4) := by rw [← g4]; rfl
    have m9 : mA 9 (uCn0 M (6 * k)) = upd (mA 9 M) (uNeeds M) 0 := rfl
    have mA' : ∀ i, (i < 4 ∨ 9 < i) → mA i (uCn0 M (6 * k)) = mA i M := fun i hi => by
      unfold uCn0
      rw [mA_S, mA_a, if_neg (by omega), mA_a, if_neg (by omega), mA_a, if_neg (by omega), mA_a, if_neg (by omega), mA_a, if_neg (by omega), mA_a, if_neg (by omega)]
    have m16 : mS 16 (uCn0 M (6 * k)) = nI (uNeeds M + 1) := by
      unfold uCn0
      rw [mS_S, if_pos rfl, en]
      exact nI_1 _
    have mS' : ∀ i, ¬ i = 16 → mS i (uCn0 M (6 * k)) = mS i M := fun i hi => by
      unfold uCn0
      rw [mS_ne hi]
      rfl
    generalize uCn0 M (6 * k) = N at m4 m5 m6 m7 m8 m9 mA' m16 mS' ⊢
    have hrow : ∀ m, m ≤ 5 → ∃ f, nnT L (nI p) T m = tsNt T f ∧ (∀ i, i < m → f (uNeeds M * 6 + i) = lDg L (nI (p + 1 + i))) ∧ ∀ j, (j < uNeeds M * 6 ∨ uNeeds M * 6 + 6 ≤ j) → f j = tNt T j := by
      intro m
      induction m with
      | zero => exact fun _ => ⟨tNt T, rfl, fun i hi => absurd hi (Nat.not_lt_zero i), fun _ _ => rfl⟩
      | succ m ih =>
        intro hm
        obtain ⟨f, a1, a2, a3⟩ := ih (by omega)
        refine ⟨upd f (uNeeds M * 6 + m) (lDg L (nI (p + 1 + m))), ?_, fun i hi => ?_, fun j hj => ?_⟩
        · simp only [nnT]
          rw [a1, eT, tPutN_n _ _ (show uNeeds M < 12 from hN) (show m < 6 by omega), show nI p + 1 + nI m = nI (p + 1 + m) from by rw [nI_1, nI_add]]
          rfl
        · by_cases e : i = m
          · rw [e, upd_eq]
          · rw [upd_ne (by omega)]; exact a2 i (by omega)
        · rw [upd_ne (by omega)]; exact a3 j hj
    obtain ⟨f, a1, a2, a3⟩ := hrow 5 (Nat.le_refl _)
    have eAll : nnAll L (nI p) T = tsNn (tsNt T (upd f (uNeeds M * 6 + 5) 0)) (nI (uNeeds M + 1)) := by
      unfold nnAll
      rw [a1, eT, show (5 : Int32) = nI 5 from rfl, tPutN_n _ 0 (show uNeeds M < 12 from hN) (show 5 < 6 by decide), nI_1]
      rfl
    rw [eAll]
    obtain ⟨t1, t2, t3, t4, t5, t6, t7⟩ := h
    have eHp : uHelps N = uHelps M := by unfold uHelps; rw [mS' 17 (by decide)]
    have eNp : uNeeds N = uNeeds M + 1 := by unfold uNeeds; rw [m16, nI_clamp (by omega)]; rfl
    have hone : ∀ x, uOne N x = uOne M x := fun x => by unfold uOne; rw [mS' 15 (by decide)]
    have hhas : ∀ a b, uHas N a b = uHas M a b := fun a b => by
      unfold uHas
      rw [eHp, mA' 14 (by omega), mA' 10 (by omega)]
    have hno : ∀ a, uHas M a (nI (uNeeds M)) = false := fun a => by
      cases hu : uHas M a (nI (uNeeds M))
      · rfl
      · unfold uHas at hu
        obtain ⟨i, hi, hi2⟩ := List.any_eq_true.mp hu
        rw [Bool.and_eq_true] at hi2
        obtain ⟨n, n1, n2, n3⟩ := t7 i (List.mem_range.mp hi)
        have := n3.symm.trans (of_decide_eq_true hi2.1)
        rw [nI_inj (by omega) (by omega)] at this
        omega
    have hw2 : nwB N := by
      intro x hx
      rw [m4, m5]
      by_cases e : x = uNeeds M
      · rw [e, upd_eq, upd_eq]
        exact ⟨iw, d1, hd1, rfl⟩
      · rw [upd_ne e, upd_ne e]
        exact hw x hx
    refine ⟨rfl, fun z => Bool.noConfusion (show true = false from z), fun _ => ⟨⟨⟨⟨⟨fun x hx => ?_, t1.1.1.2.1.trans (mS' 15 (by decide)).symm, t1.1.1.2.2.1.trans (mS' 22 (by decide)).symm, ?_, ppB_of t1.1.1.2.2.2.2 (mS' 15 (by decide))⟩, ⟨t1.1.2.1.1.trans (mS' 17 (by decide)).symm, hpB_of t1.1.2.1.2.1 (mS' 17 (by decide)), fun x hx => ?_⟩, fun x hx => ?_⟩, ⟨m16.symm, ⟨uNeeds M + 1, by omega, m16⟩⟩, fun x hx => ?_, fun x hx => ?_, ⟨fun x hx => ?_, fun x y hxy hx => ?_⟩⟩, fun x hx => ?_, ?_, fun x hx => ?_, hpB_of t5 (mS' 17 (by decide)), ?_, fun x hx => ?_⟩, hw2⟩, fun i hi => mS' i (by omega), fun i hi => mA' i (by omega)⟩
    · rw [mA' 1 (by omega), mA' 2 (by omega), mA' 3 (by omega)]
      exact t1.1.1.1 x hx
    · rw [mS' 18 (by decide), mS' 19 (by decide), mS' 20 (by decide), mS' 21 (by decide)]
      exact t1.1.1.2.2.2.1
    · rw [eHp] at hx
      rw [mA' 10 (by omega), mA' 11 (by omega), mA' 12 (by omega), mA' 13 (by omega)]
      exact t1.1.2.1.2.2 x hx
    · rw [m7, m9]
      by_cases e : x = uNeeds M
      · rw [e, upd_eq, upd_eq]
        exact ⟨⟨d3, hd3, rfl⟩, ⟨0, by omega, rfl⟩⟩
      · rw [upd_ne e, upd_ne e]
        exact t1.1.2.2 x hx
    · by_cases e : x = uNeeds M
      · subst e
        have ef : ∀ i, i < 5 → upd f (uNeeds M * 6 + 5) 0 (uNeeds M * 6 + i) = lDg L (nI (p + 1 + i)) := fun i hi => by
          rw [upd_ne (by omega)]
          exact a2 i hi
        refine ⟨⟨hx, by omega⟩, ⟨?_, ?_, ?_, ?_, ?_⟩, hw2 _ (by omega), 0, by omega, ?_, ?_, fun z hz => ?_⟩
        · rw [m4, upd_eq, ← f0]; exact ef 0 (by omega)
        · rw [m5, upd_eq, ← f1]; exact ef 1 (by omega)
        · rw [m6, upd_eq, ← f2]; exact ef 2 (by omega)
        · rw [m7, upd_eq, ← f3]; exact ef 3 (by omega)
        · rw [m8, upd_eq, ← f4]; exact ef 4 (by omega)
        · show upd f (uNeeds M * 6 + 5) 0 (uNeeds M * 6 + 5) = nI 0
          rw [upd_eq]
          rfl
        · rw [m9, upd_eq]
          rfl
        · have : hsF N (uNeeds M) z = false := by
            unfold hsF
            rw [hhas, hno, Bool.and_false]
          rw [this]
          exact Nat.zero_testBit z
      · obtain ⟨r1, r2, r3, y, y1, y2, y3, y4⟩ := t1.2.2.1 x hx
        have ef : ∀ i, i < 6 → upd f (uNeeds M * 6 + 5) 0 (x * 6 + i) = tNt T (x * 6 + i) := fun i hi => by
          rw [upd_ne (by omega)]
          exact a3 _ (by omega)
        refine ⟨r1, ⟨?_, ?_, ?_, ?_, ?_⟩, hw2 x (by omega), y, y1, ?_, ?_, fun z hz => ?_⟩
        · rw [m4, upd_ne e]; exact (ef 0 (by omega)).trans r2.1
        · rw [m5, upd_ne e]; exact (ef 1 (by omega)).trans r2.2.1
        · rw [m6, upd_ne e]; exact (ef 2 (by omega)).trans r2.2.2.1
        · rw [m7, upd_ne e]; exact (ef 3 (by omega)).trans r2.2.2.2.1
        · rw [m8, upd_ne e]; exact (ef 4 (by omega)).trans r2.2.2.2.2
        · exact (ef 5 (by omega)).trans y2
        · rw [m9, upd_ne e]; exact y3
        · rw [y4 z hz]
          unfold hsF
          rw [hhas]
    · rw [eNp] at hx
      rw [hone, m4]
      by_cases e : x = uNeeds M
      · rw [e, upd_eq]; exact k1
      · rw [upd_ne e]; exact t1.2.2.2.1 x (by omega)
    · rw [eHp] at hx
      rw [mA' 14 (by omega), mA' 10 (by omega)]
      exact t1.2.2.2.2.1 x hx
    · rw [eHp] at hx
      rw [mA' 14 (by omega), mA' 10 (by omega)]
      exact t1.2.2.2.2.2 x y hxy hx
    · rw [eNp] at hx
      rw [m8, m7, m9]
      by_cases e : x = uNeeds M
      · rw [e, upd_eq, upd_eq, upd_eq]
        exact ⟨⟨d4, b4, rfl⟩, d3, 0, by omega, hd3, rfl, rfl⟩
      · rw [upd_ne e, upd_ne e, upd_ne e]
        exact t2 x (by omega)
    · unfold VP
      rw [mA' 2 (by omega), mA' 3 (by omega)]
      exact t3
    · rw [eNp] at hx
      rw [m6]
      by_cases e : x = uNeeds M
      · rw [e, upd_eq]; exact ⟨d2, b2, rfl⟩
      · rw [upd_ne e]; exact t4 x (by omega)
    · rw [mS' 22 (by decide)]
      exact t6
    · rw [eHp] at hx
      obtain ⟨n, n1, n2, n3⟩ := t7 x hx
      exact ⟨n, by rw [eNp]; omega, n2, by rw [mA' 14 (by omega)]; exact n3⟩
end
