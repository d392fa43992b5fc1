noncomputable section
theorem TW_person {T : TS} {M : MS} (h : TW T M) (hw : nwB M) {L : LtS} {p k : Nat} (hl : lLet L (nI p) = 112) (hv : VT L p k (mA 26 M)) : (uCp M (6 * k)).1 = pnOk L (nI p) T ∧ ((uCp M (6 * k)).1 = false → (uCp M (6 * k)).2 = M) ∧ ((uCp M (6 * k)).1 = true → TW (pnAll L (nI p) T) (uCp M (6 * k)).2 ∧ nwB (uCp M (6 * k)).2) ∧ CF2 M (uCp M (6 * k)).2 := by
  obtain ⟨v0, v1, v2⟩ := hv.1 hl
  have ht := h.1.1.1
  obtain ⟨ep, hp7⟩ := ppB_c ht.2.2.2.2
  have eT : tPp T = nI (uPeople M) := ht.2.1.trans ep
  obtain ⟨d0, b0, f0⟩ := lDg_n L (nI (p + 1))
  have e1 : lDg L (nI p + 1) = nI d0 := by rw [nI_1]; exact f0
  have g0 : mA 26 M (6 * k) = nI d0 := v0.trans f0
  have c6 : ((6 : Int32) < nI d0) ↔ 6 < d0 := nI_ltJ (a := 6) (by decide) (by omega)
  have c7 : (nI (uPeople M) = 7) ↔ uPeople M = 7 := nI_inj (b := 7) (by omega) (by decide)
  have c8 : ((7 : Int32) ≤ nI (uPeople M)) ↔ 7 ≤ uPeople M := nI_leJ (a := 7) (by decide) (by omega)
  unfold uCp pnOk
  rw [e1, eT, g0, ep]
  by_cases h6 : 6 < d0
  · rw [if_pos (c6.mpr h6), decide_eq_true (c6.mpr h6)]
    exact ⟨by simp, fun _ => rfl, fun z => absurd z Bool.false_ne_true, fun _ _ => rfl, fun _ _ => rfl⟩
  · rw [if_neg (fun z => h6 (c6.mp z)), decide_eq_false (fun z => h6 (c6.mp z))]
    by_cases h7 : uPeople M = 7
    · rw [if_pos (c7.mpr h7), decide_eq_true (c8.mpr (by omega))]
      exact ⟨rfl, fun _ => rfl, fun z => absurd z Bool.false_ne_true, fun _ _ => rfl, fun _ _ => rfl⟩
    · rw [if_neg (fun z => h7 (c7.mp z)), decide_eq_false (fun z => by have := c8.mp z; omega)]
      have hP : uPeople M < 7 := by omega
      have hcp : ∀ n hh N, (∀ i, mS i (cpL (6 * k) (uPeople M) hh n N) = mS i N) ∧ (∀ i, ¬ i = 3 → mA i (cpL (6 * k) (uPeople M) hh n N) = mA i N) ∧ ∀ j, mA 3 (cpL (6 * k) (uPeople M) hh n N) j = if 4 * uPeople M + hh ≤ j ∧ j < 4 * uPeople M + hh + n then mA 26 N (6 * k + 2 + (j - 4 * uPeople M)) else mA 3 N j := by
        intro n
        induction n with
        | zero => exact fun hh N => ⟨fun _ => rfl, fun _ _ => rfl, fun j => by rw [if_neg (by omega)]; rfl⟩
        | succ n ih =>
          intro hh N
          rw [cpL_s]
          obtain ⟨i1, i2, i3⟩ := ih (hh + 1) (maA 3 N (4 * uPeople M + hh) (mA 26 N (6 * k + 2 + hh)))
          refine ⟨fun i => i1 i, fun i hi => (i2 i hi).trans (by rw [mA_a, if_neg hi]), fun j => ?_⟩
          rw [i3 j]
          by_cases ej : j = 4 * uPeople M + hh
          · rw [if_neg (by omega), if_pos (by omega), mA_a, if_pos rfl, ej, upd_eq, show 4 * uPeople M + hh - 4 * uPeople M = hh by omega]
          · rw [mA_a, if_neg (show ¬ 26 = 3 by decide), mA_a, if_pos rfl, upd_ne ej]
            by_cases e2 : 4 * uPeople M + (hh + 1) ≤ j ∧ j < 4 * uPeople M + (hh + 1) + n
            · rw [if_pos e2, if_pos (by omega)]
            · rw [if_neg e2, if_neg (by omega)]
      obtain ⟨q1, q2, q3⟩ := hcp 4 0 (maA 2 (maA 1 M (uPeople M) (mA 26 M (6 * k))) (uPeople M) (mA 26 M (6 * k + 1)))
      have eU : uCp0 M (6 * k) = cpL (6 * k) (uPeople M) 0 4 (maA 2 (maA 1 M (uPeople M) (mA 26 M (6 * k))) (uPeople M) (mA 26 M (6 * k + 1))) := rfl
      rw [← eU] at q1 q2 q3
      have q1' : ∀ i, mS i (uCp0 M (6 * k)) = mS i M := fun i => q1 i
      have qk : mA 1 (uCp0 M (6 * k)) = upd (mA 1 M) (uPeople M) (mA 26 M (6 * k)) := (q2 1 (by decide)).trans (by rw [mA_a, if_neg (by decide), mA_a, if_pos rfl])
      have qp : mA 2 (uCp0 M (6 * k)) = upd (mA 2 M) (uPeople M) (mA 26 M (6 * k + 1)) := (q2 2 (by decide)).trans (by rw [mA_a, if_pos rfl, mA_a, if_neg (by decide)])
      have qA : ∀ i, ¬ i = 1 → ¬ i = 2 → ¬ i = 3 → mA i (uCp0 M (6 * k)) = mA i M := fun i a b c => (q2 i c).trans (by rw [mA_a, if_neg b, mA_a, if_neg a])
      have q3' : ∀ j, mA 3 (uCp0 M (6 * k)) j = if 4 * uPeople M ≤ j ∧ j < 4 * uPeople M + 4 then mA 26 M (6 * k + 2 + (j - 4 * uPeople M)) else mA 3 M j := fun j => q3 j
      have q17 : mS 15 (uCp0 M (6 * k)) + 1 = nI (uPeople M + 1) := by rw [q1', ep]; exact nI_1 _
      rw [q17]
      generalize uCp0 M (6 * k) = N at q1' qk qp qA q3' ⊢
      have sS : ∀ i, ¬ i = 15 → mS i (msS 15 N (nI (uPeople M + 1))) = mS i M := fun i hi => (mS_ne hi).trans (q1' i)
      have s15 : mS 15 (msS 15 N (nI (uPeople M + 1))) = nI (uPeople M + 1) := by rw [mS_S, if_pos rfl]
      have sA : ∀ i, mA i (msS 15 N (nI (uPeople M + 1))) = mA i N := fun i => rfl
      -- the class's row
      have hrow : ∀ m, m ≤ 4 → ∃ f, pnT L (nI p) T m = tsPt T f ∧ f (uPeople M * 6) = nI d0 ∧ f (uPeople M * 6 + 1) = pnM L (nI p) ∧ (∀ hh, hh < m → f (uPeople M * 6 + (2 + hh)) = lDg L (pnS L (nI p) + nI hh)) ∧ ∀ j, (j < uPeople M * 6 ∨ uPeople M * 6 + 6 ≤ j) → f j = tPt T j := by
        intro m
        induction m with
        | zero =>
          intro _
          refine ⟨upd (upd (tPt T) (uPeople M * 6 + 0) (nI d0)) (uPeople M * 6 + 1) (pnM L (nI p)), ?_, ?_, ?_, fun hh z => absurd z (Nat.not_lt_zero hh), fun j hj => ?_⟩
          · simp only [pnT]
            rw [eT, e1, show (0 : Int32) = nI 0 from rfl, tPutP_n T (nI d0) hP (by decide), show (1 : Int32) = nI 1 from rfl, tPutP_n _ (pnM L (nI p)) hP (by decide)]
            rfl
          · rw [upd_ne (by omega), Nat.add_zero, upd_eq]
          · rw [upd_eq]
          · rw [upd_ne (by omega), upd_ne (by omega)]
        | succ m ih =>
          intro hm
          obtain ⟨f, a1, a2, a3, a4, a5⟩ := ih (by omega)
          refine ⟨upd f (uPeople M * 6 + (2 + m)) (lDg L (pnS L (nI p) + nI m)), ?_, ?_, ?_, fun hh z => ?_, fun j hj => ?_⟩
          · simp only [pnT]
            rw [a1, eT, show (2 : Int32) + nI m = nI (2 + m) from nI_add 2 m, tPutP_n _ (lDg L (pnS L (nI p) + nI m)) hP (by omega)]
            rfl
          · rw [upd_ne (by omega)]; exact a2
          · rw [upd_ne (by omega)]; exact a3
          · by_cases e : hh = m
            · rw [e, upd_eq]
            · rw [upd_ne (by omega)]; exact a4 hh (by omega)
          · rw [upd_ne (by omega)]; exact a5 j hj
      obtain ⟨f, a1, a2, a3, a4, a5⟩ := hrow 4 (Nat.le_refl _)
      have eAll : pnAll L (nI p) T = tsPp (tsPt T f) (nI (uPeople M + 1)) := by
        unfold pnAll
        rw [a1, eT, nI_1]
      rw [eAll]
      obtain ⟨t1, t2, t3, t4, t5, t6, t7⟩ := h
      have eHp : uHelps (msS 15 N (nI (uPeople M + 1))) = uHelps M := by unfold uHelps; rw [sS 17 (by decide)]
      have eNp : uNeeds (msS 15 N (nI (uPeople M + 1))) = uNeeds M := by unfold uNeeds; rw [sS 16 (by decide)]
      have hone : ∀ x, uOne M x = true → uOne (msS 15 N (nI (uPeople M + 1))) x = true := fun x hx => by
        unfold uOne at hx ⊢
        have hx := of_decide_eq_true hx
        rw [s15]
        rw [ep] at hx
        obtain ⟨j, hj, rfl⟩ := nI_of hx.1
        have h2 := (nI_ltJ hj (by omega)).mp hx.2
        exact decide_eq_true ⟨hx.1, (nI_ltJ hj (by omega)).mpr (by omega)⟩
      have hhas : ∀ a b, uHas (msS 15 N (nI (uPeople M + 1))) a b = uHas M a b := fun a b => by
        unfold uHas
        rw [eHp, sA, sA, qA 14 (by decide) (by decide) (by decide), qA 10 (by decide) (by decide) (by decide)]
      have hpm : ∃ v, v ≤ 99 ∧ pnM L (nI p) = nI v := by
        unfold pnM
        obtain ⟨x1, y1, z1⟩ := lDg_n L (nI p + 2)
        obtain ⟨x2, y2, z2⟩ := lDg_n L (nI p + 3)
        rw [z1, z2]
        split
        · exact ⟨10 * x1 + x2, by omega, by rw [Int32.mul_comm, show (10 : Int32) = nI 10 from rfl, pk_mul, nI_add]⟩
        · exact ⟨x1, by omega, rfl⟩
      have hw2 : nwB (msS 15 N (nI (uPeople M + 1))) := nwB_of hw (qA 4 (by decide) (by decide) (by decide)) (qA 5 (by decide) (by decide) (by decide))
      refine ⟨rfl, fun z => Bool.noConfusion (show true = false from z), fun _ => ⟨⟨⟨⟨⟨fun x hx => ?_, s15.symm, t1.1.1.2.2.1.trans (sS 22 (by decide)).symm, ?_, ⟨uPeople M + 1, by omega, s15⟩⟩, ⟨t1.1.2.1.1.trans (sS 17 (by decide)).symm, hpB_of t1.1.2.1.2.1 (sS 17 (by decide)), fun x hx => ?_⟩, fun x hx => ?_⟩, ⟨t1.2.1.1.trans (sS 16 (by decide)).symm, nnB_of t1.2.1.2 (sS 16 (by decide))⟩, fun x hx => ?_, fun x hx => ?_, ⟨fun x hx => ?_, fun x y hxy hx => ?_⟩⟩, fun x hx => ?_, ⟨fun x hx => ?_, fun x hx => ?_⟩, fun x hx => ?_, hpB_of t5 (sS 17 (by decide)), ?_, fun x hx => ?_⟩, hw2⟩, fun i hi => sS i (by omega), fun i hi => qA i (by omega) (by omega) (by omega)⟩
      · obtain ⟨r1, r2, r3⟩ := t1.1.1.1 x hx
        show f (x * 6) = mA 1 N x ∧ f (x * 6 + 1) = mA 2 N x ∧ ∀ hh, hh < 4 → f (x * 6 + (2 + hh)) = mA 3 N (4 * x + hh)
        rw [qk, qp]
        by_cases e : x = uPeople M
        · rw [e, upd_eq, upd_eq, a2, a3, g0, v1]
          refine ⟨rfl, rfl, fun hh h4 => ?_⟩
          rw [a4 hh h4, q3', if_pos (by omega), show 4 * uPeople M + hh - 4 * uPeople M = hh by omega, v2 hh h4]
        · rw [upd_ne e, upd_ne e, a5 _ (by omega), a5 _ (by omega)]
          refine ⟨r1, r2, fun hh h4 => ?_⟩
          rw [a5 _ (by omega), q3', if_neg (by omega)]
          exact r3 hh h4
      · rw [sS 18 (by decide), sS 19 (by decide), sS 20 (by decide), sS 21 (by decide)]
        exact t1.1.1.2.2.2.1
      · rw [eHp] at hx
        rw [sA, sA, sA, sA, qA 10 (by decide) (by decide) (by decide), qA 11 (by decide) (by decide) (by decide), qA 12 (by decide) (by decide) (by decide), qA 13 (by decide) (by decide) (by decide)]
        exact t1.1.2.1.2.2 x hx
      · rw [sA, sA, qA 7 (by decide) (by decide) (by decide), qA 9 (by decide) (by decide) (by decide)]
        exact t1.1.2.2 x hx
      · obtain ⟨r1, r2, r3, y, y1, y2, y3, y4⟩ := t1.2.2.1 x hx
        refine ⟨r1, ?_, ?_, y, y1, y2, ?_, fun z hz => ?_⟩
        · rw [sA, sA, sA, sA, sA, qA 4 (by decide) (by decide) (by decide), qA 5 (by decide) (by decide) (by decide), qA 6 (by decide) (by decide) (by decide), qA 7 (by decide) (by decide) (by decide), qA 8 (by decide) (by decide) (by decide)]
          exact r2
        · rw [sA, sA, qA 4 (by decide) (by decide) (by decide), qA 5 (by decide) (by decide) (by decide)]
          exact r3
        · rw [sA, qA 9 (by decide) (by decide) (by decide)]
          exact y3
        · rw [y4 z hz]
          unfold hsF
          rw [hhas]
      · rw [eNp] at hx
        rw [sA, qA 4 (by decide) (by decide) (by decide)]
        exact hone _ (t1.2.2.2.1 x hx)
      · rw [eHp] at hx
        rw [sA, sA, qA 14 (by decide) (by decide) (by decide), qA 10 (by decide) (by decide) (by decide)]
        exact t1.2.2.2.2.1 x hx
      · rw [eHp] at hx
        rw [sA, sA, qA 14 (by decide) (by decide) (by decide), qA 10 (by decide) (by decide) (by decide)]
        exact t1.2.2.2.2.2 x y hxy hx
      · rw [eNp] at hx
        rw [sA, sA, sA, qA 8 (by decide) (by decide) (by decide), qA 7 (by decide) (by decide) (by decide), qA 9 (by decide) (by decide) (by decide)]
        exact t2 x hx
      · rw [sA, qp]
        by_cases e : x = uPeople M
        · rw [e, upd_eq, v1]
          exact hpm
        · rw [upd_ne e]
          exact t3.1 x hx
      · rw [sA, q3']
        by_cases e : 4 * uPeople M ≤ x ∧ x < 4 * uPeople M + 4
        · rw [if_pos e, v2 _ (by omega)]
          exact lDg_n L _
        · rw [if_neg e]
          exact t3.2 x hx
      · rw [eNp] at hx
        rw [sA, qA 6 (by decide) (by decide) (by decide)]
        exact t4 x hx
      · rw [sS 22 (by decide)]
        exact t6
      · rw [eHp] at hx
        rw [sA, eNp, qA 14 (by decide) (by decide) (by decide)]
        exact t7 x hx
end
