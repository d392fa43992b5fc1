noncomputable section
theorem sub_m1 (a b : Int32) : (a + -1) - (b + -1) = a - b := by grind
section SEARCH
variable {S : HS} {M : MS}
theorem hpB59 {N : MS} (h : hpB 60 N) (h60 : mS 17 N < 60) : hpB 59 N := by
  obtain ⟨e0, hH⟩ := hpB_c h (by decide)
  rw [e0] at h60
  have h60 : nI (uHelps N) < nI 60 := h60
  rw [nI_ltJ (by omega) (by decide)] at h60
  exact ⟨uHelps N, by omega, e0⟩
theorem wo_eq {N : MS} {l : List Nat} (h : LI S N) (hC : CZ N l) (h60 : mS 17 N < 60) {a : Int32} (b : Int32) (ha : uOne N a = true) : woPre N a b ∧ (hMo (hWith S a b)).1 = (uFM (uW N a b 9 (-1))).1 ∧ (∃ x, x ≤ 2001 ∧ (uFM (uW N a b 9 (-1))).1 = nI x + -1) ∧ CZ (uBack (uFM (uW N a b 9 (-1))).2) l ∧ gEq N (uBack (uFM (uW N a b 9 (-1))).2) ∧ LI (hMo (hWith S a b)).2 (uBack (uFM (uW N a b 9 (-1))).2) := by
  have hb := hpB59 h.1.2.2.2.2.1 h60
  obtain ⟨e0, hH⟩ := hpB_c hb (by decide)
  have hT : RT (fT (hEMind (hWith S a b))) (uW N a b 9 (-1)) := RT_write (RT_copy (A := hMind S) h.1.1) hb (by decide) (uOne_ix h.1.1.1.1.2.2.2.2 ha) b 9
  have e9 : mA 9 (uW N a b 9 (-1)) = mA 9 N := by rw [uW_9, if_pos (by decide)]
  have eA : ∀ i, (i < 10 ∨ 14 < i) → mA i (uW N a b 9 (-1)) = mA i N := fun i hi => by
    by_cases e : i = 9
    · rw [e]
      exact e9
    · exact uW_A i (by omega) _ _ _ _ _
  have e14 : mA 14 (uW N a b 9 (-1)) (uHelps N) = -1 := by rw [uW_14, upd_eq, if_neg (by decide)]
  have eR : ∀ i, 10 ≤ i ∧ i ≤ 14 → ∀ k, k < uHelps N → mA i (uW N a b 9 (-1)) k = mA i N k := fun i hi k hk => uW_row _ _ _ _ hi (by omega)
  have eHX := uHelps_W hb (by decide) a b 9 (-1)
  have eS : ∀ i, ¬ i = 17 → mS i (uW N a b 9 (-1)) = mS i N := fun i hi => uW_S i hi _ _ _ _ _
  have e17 := uW_17 N a b 9 (-1)
  have hbX : hpB 60 (uW N a b 9 (-1)) := hpB_W hb _ _ _ _
  have hCX : CZ (uW N a b 9 (-1)) l := CZ_of hC (fun i hi => eS i (by omega)) (fun i hi => eA i (by omega)) hbX
  have hyr : yrB (uW N a b 9 (-1)) := by
    unfold yrB
    rw [eS 22 (by decide)]
    exact (LI_pub h).2.2.1
  obtain ⟨m1, m2, m3, -, m5, m6⟩ := most_eq hT hCX hyr
  have hw1 : (hMo (hWith S a b)).1 = (uFM (uW N a b 9 (-1))).1 := m2
  have hst : ∀ N2, LI S N2 → LI (hMo (hWith S a b)).2 N2 := fun N2 q => LI_em (LI_mind q _) _
  unfold woPre
  generalize uW N a b 9 (-1) = X at m1 m3 m5 m6 hw1 eA eS e17 e14 eR eHX ⊢
  generalize (uFM X).2 = Y at m5 m6 ⊢
  have eh : mS 17 Y - 1 = mS 17 N := by
    rw [m5.1 17 (by decide) (by decide), e17]
    exact Int32.add_sub_cancel _ _
  have ec : (mS 17 Y - 1).toNatClampNeg = uHelps N := by rw [eh]; rfl
  have en : mA 14 Y (uHelps N) = -1 := by rw [m5.2.2.1 14 (by omega) (uHelps N) (by omega)]; exact e14
  have hneg : mA 14 Y (mS 17 Y - 1).toNatClampNeg < 0 := by rw [ec, en]; decide
  have bS : ∀ i, ¬ i = 43 → mS i (uBack Y) = mS i N := fun i hi => by
    rw [uBack_S]
    by_cases e : i = 17
    · rw [if_pos e, eh, e]
    · rw [if_neg e]
      by_cases e2 : i = 22
      · subst e2
        rw [m6]
        exact eS 22 (by decide)
      · rw [m5.1 i e2 hi]
        exact eS i e
  have bA : ∀ i, (i < 10 ∨ (14 < i ∧ ¬ i = 39 ∧ ¬ i = 40)) → mA i (uBack Y) = mA i N := fun i hi => by
    by_cases e : i = 9
    · subst e
      rw [uBack_9, if_pos hneg, m5.2.1 9 hi]
      exact eA 9 (by omega)
    · rw [uBack_A i e, m5.2.1 i hi]
      exact eA i (by omega)
  have hg : gEq N (uBack Y) := by
    refine ⟨⟨fun i hi => bS i (by omega), fun i hi => bA i (by omega), fun i hi k hk => ?_⟩, fun i hi => bS i (by omega), fun i hi => bA i (by omega)⟩
    rw [uBack_A i (by omega), m5.2.2.1 i hi k (by omega)]
    exact eR i hi k hk
  refine ⟨⟨hpB_le hb (by omega), m1, ⟨?_, Or.inl hneg⟩⟩, hw1, m3, CZ_of hC (fun i hi => bS i (by omega)) (fun i hi => bA i (by omega)) (hpB_of h.1.2.2.2.2.1 (bS 17 (by decide))), hg, hst _ (LI_g h hg)⟩
  rw [eh, e0]
  exact ⟨uHelps N, by omega, rfl⟩
theorem hPair_e (h : LI S M) (p q : Int32) : (hPair S p q = true) ↔ (uOne M p = true ∧ uOne M q = true ∧ ¬ p = q) := by
  have hq := h.1.1.1.1
  unfold hPair
  rw [RQ_P hq, RQ_P hq, Bool.and_eq_true, Bool.and_eq_true, Bool.not_eq_true', decide_eq_false_iff_not]
theorem full_e (h : LI S M) : (tFull (hNow S) = false) ↔ mS 17 M < 60 := by
  have eT : tHh (hNow S) = mS 17 M := h.1.1.1.2.1.1
  unfold tFull
  rw [eT, decide_eq_false_iff_not, Int32.not_le]
theorem uOne_g {M N : MS} (e : gEq M N) (p : Int32) : uOne N p = uOne M p := by unfold uOne; rw [e.1.1 15 (by omega)]
theorem pv_worth (h : LI S M) (p q : Int32) : ((uFH M).1 = true → mS 17 (uFH M).2 < 60 → uOne M p = true → uOne M q = true → ¬ p = q → woPre (uFM (uFH M).2).2 p q) ∧ PV (r_worth S p q) (v_worth M p q) := by
  obtain ⟨f1, f2, f3⟩ := LI_fits h
  have gZ := gEq_fhS (uFH_S M)
  have eh : mS 17 (uFH M).2 = mS 17 M := gZ.1.1 17 (by omega)
  have key : (uFH M).1 = true → mS 17 (uFH M).2 < 60 → uOne M p = true → (hMo (hCopy S)).1 = (uFM (uFH M).2).1 ∧ woPre (uFM (uFH M).2).2 p q ∧ (hMo (hWith (hMo (hCopy S)).2 p q)).1 = (uFM (uW (uFM (uFH M).2).2 p q 9 (-1))).1 ∧ LI (hMo (hWith (hMo (hCopy S)).2 p q)).2 (uBack (uFM (uW (uFM (uFH M).2).2 p q 9 (-1))).2) := by
    intro hf h60 hp
    obtain ⟨-, a2, -, -, a5, a6, a7⟩ := hMo_eq f2 (f3 hf)
    have h60' : mS 17 (uFM (uFH M).2).2 < 60 := by rw [a7.1.1 17 (by omega)]; exact h60
    obtain ⟨w1, w2, -, -, -, w6⟩ := wo_eq a5 a6 h60' q (by rw [uOne_g a7, uOne_g gZ]; exact hp)
    exact ⟨a2, w1, w2, w6⟩
  refine ⟨fun hf h60 hp _ _ => (key hf h60 hp).2.1, ?_⟩
  unfold r_worth v_worth
  by_cases hc : uOne M p = true ∧ uOne M q = true ∧ ¬ p = q
  · rw [if_pos ((hPair_e h p q).mpr hc), if_pos hc, ← f1]
    by_cases hd : (uFH M).1 = true ∧ mS 17 (uFH M).2 < 60
    · rw [if_pos hd, if_pos ⟨hd.1, (full_e h).mpr (by rw [← eh]; exact hd.2)⟩]
      obtain ⟨k1, -, k3, k4⟩ := key hd.1 hd.2 hc.1
      unfold v_wo
      rw [k1, k3]
      exact ⟨rfl, k4⟩
    · rw [if_neg hd, if_neg (fun z => hd ⟨z.1, by rw [eh]; exact (full_e h).mp z.2⟩)]
      exact PV_no f2 refI6 _
  · rw [if_neg (fun z => hc ((hPair_e h p q).mp z)), if_neg hc]
    exact PV_no h refI1 _
theorem ke_loop {l : List Nat} {q : Int32} {ab : Nat} (hab : ab ≤ 2001) : ∀ (n k : Nat) (kept : Int32) (lb : Nat) (S : HS) (N : MS), LI S N → CZ N l → mS 17 N < 60 → k + n = uPeople N → lb ≤ 2001 → (keF q k n kept (nI lb + -1) S).1 = (kpF q (nI ab + -1) k n kept (nI ab - nI lb) N).1 ∧ LI (keF q k n kept (nI lb + -1) S).2 (kpF q (nI ab + -1) k n kept (nI ab - nI lb) N).2 := by
  intro n
  induction n with
  | zero => exact fun k kept lb S N h _ _ _ _ => ⟨rfl, h⟩
  | succ n ih =>
    intro k kept lb S N h hC h60 hk hlb
    have hp7 := (ppB_c h.1.1.1.1.2.2.2.2).2
    rw [keF_s, kpF_s]
    by_cases e : nI k = q
    · rw [if_pos e, if_pos e]
      exact ih (k + 1) kept lb S N h hC h60 (by omega) hlb
    · rw [if_neg e, if_neg e]
      obtain ⟨-, w2, ⟨wb, hwb, w3⟩, w4, w5, w6⟩ := wo_eq h hC h60 q (uOne_lt h.1.1.1.1.2.2.2.2 (show k < uPeople N by omega))
      unfold v_wo
      dsimp only
      rw [w2, w3, sub_m1]
      have h60' : mS 17 (uBack (uFM (uW N (nI k) q 9 (-1))).2) < 60 := by rw [w5.1.1 17 (by omega)]; exact h60
      have eP : uPeople (uBack (uFM (uW N (nI k) q 9 (-1))).2) = uPeople N := by unfold uPeople; rw [w5.1.1 15 (by omega)]
      generalize uBack (uFM (uW N (nI k) q 9 (-1))).2 = N2 at w4 w5 w6 h60' eP ⊢
      generalize (hMo (hWith S (nI k) q)).2 = S2 at w6 ⊢
      by_cases hlt : wb < lb
      · have c1 : nI wb + -1 < nI lb + -1 := by
          rw [Int32.lt_iff_toInt_lt, m1_toInt (by omega), m1_toInt (by omega)]
          omega
        have c2 : nI ab - nI lb < nI ab - nI wb := by
          rw [Int32.lt_iff_toInt_lt, nI_subi (by omega) (by omega), nI_subi (by omega) (by omega)]
          omega
        rw [if_pos c1, if_pos c2]
        exact ih (k + 1) _ wb S2 N2 w6 w4 h60' (by omega) hwb
      · have c1 : ¬ nI wb + -1 < nI lb + -1 := by
          rw [Int32.lt_iff_toInt_lt, m1_toInt (by omega), m1_toInt (by omega)]
          omega
        have c2 : ¬ nI ab - nI lb < nI ab - nI wb := by
          rw [Int32.lt_iff_toInt_lt, nI_subi (by omega) (by omega), nI_subi (by omega) (by omega)]
          omega
        rw [if_neg c1, if_neg c2]
        exact ih (k + 1) _ lb S2 N2 w6 w4 h60' (by omega) hlb
theorem kpPre_e {N : MS} {l : List Nat} (h : LI S N) (hC : CZ N l) (h60 : mS 17 N < 60) (q : Int32) : kpPre N q := by
  obtain ⟨ep, hp7⟩ := ppB_c h.1.1.1.1.2.2.2.2
  refine ⟨uPeople N, fun N2 => LI S N2 ∧ CZ N2 l ∧ mS 17 N2 < 60 ∧ mS 15 N2 = nI (uPeople N), hp7, ⟨h, hC, h60, ep⟩, ?_⟩
  rintro N2 ⟨i1, i2, i3, i4⟩
  refine ⟨i4, fun k hk _ => ?_⟩
  have h1 : uOne N2 (nI k) = true := by
    unfold uOne
    rw [i4]
    exact decide_eq_true ⟨nI_nlt0 (by omega), (nI_ltJ (by omega) (by omega)).mpr hk⟩
  obtain ⟨w1, -, -, w4, w5, -⟩ := wo_eq i1 i2 i3 q h1
  refine ⟨w1, fun m => ⟨LI_g i1 w5, w4, ?_, ?_⟩⟩
  · have : mS 17 (uBack (uFM (uW N2 (nI k) q 9 (-1))).2) < 60 := by rw [w5.1.1 17 (by omega)]; exact i3
    exact this
  · have : mS 15 (uBack (uFM (uW N2 (nI k) q 9 (-1))).2) = nI (uPeople N) := by rw [w5.1.1 15 (by omega)]; exact i4
    exact this
theorem pv_keeps (h : LI S M) (q : Int32) : ((uFH M).1 = true → mS 17 (uFH M).2 < 60 → kpPre (uFM (uFH M).2).2 q) ∧ PV (r_keeps S q) (v_keeps M q) := by
  obtain ⟨f1, f2, f3⟩ := LI_fits h
  have gZ := gEq_fhS (uFH_S M)
  have eh : mS 17 (uFH M).2 = mS 17 M := gZ.1.1 17 (by omega)
  refine ⟨fun hf h60 => ?_, ?_⟩
  · obtain ⟨-, -, -, -, a5, a6, a7⟩ := hMo_eq f2 (f3 hf)
    exact kpPre_e a5 a6 (by rw [a7.1.1 17 (by omega)]; exact h60) q
  unfold r_keeps v_keeps
  rw [RQ_P h.1.1.1.1]
  by_cases hc : uOne M q = true
  · rw [if_pos hc, if_pos hc, ← f1]
    by_cases hd : (uFH M).1 = true ∧ mS 17 (uFH M).2 < 60
    · rw [if_pos hd, if_pos ⟨hd.1, (full_e h).mpr (by rw [← eh]; exact hd.2)⟩]
      obtain ⟨-, a2, ⟨ab, a3, a4⟩, -, a5, a6, a7⟩ := hMo_eq f2 (f3 hd.1)
      have h60' : mS 17 (uFM (uFH M).2).2 < 60 := by rw [a7.1.1 17 (by omega)]; exact hd.2
      have eP : tPeople (hNow S) = uPeople (uFM (uFH M).2).2 := by
        have e1 : tPp (hNow S) = mS 15 M := h.1.1.1.1.2.1
        unfold tPeople uPeople
        rw [e1, a7.1.1 15 (by omega), gZ.1.1 15 (by omega)]
      unfold hKe
      rw [a2, eP, a4]
      generalize (hMo (hCopy S)).2 = S1 at a5 ⊢
      generalize (uFM (uFH M).2).2 = N at a5 a6 h60' ⊢
      have hl := ke_loop (q := q) a3 (uPeople N) 0 (-9) ab S1 N a5 a6 h60' (Nat.zero_add _) a3
      rw [show nI ab - nI ab = 0 from Int32.sub_self _] at hl
      exact hl
    · rw [if_neg hd, if_neg (fun z => hd ⟨z.1, by rw [eh]; exact (full_e h).mp z.2⟩)]
      exact PV_no f2 refI6 _
  · rw [if_neg hc, if_neg hc]
    exact PV_no h refI1 _
end SEARCH
end
