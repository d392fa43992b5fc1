noncomputable section
theorem TW_eqT {T : TS} {M0 M2 : MS} (h : TW T M0) (e : eqT M2 M0) (hha : haB M2) : TW T M2 := by
  obtain ⟨t1, t2, t3, t4, t5, t6, t7⟩ := h
  have h12 := (nnB_c t1.2.1.2).2
  have hH := (hpB_c t5 (by decide)).2
  have en : uNeeds M2 = uNeeds M0 := by unfold uNeeds; rw [eqT_S e 16 (by omega)]
  refine ⟨RT_eqT e t5 (by omega) hha t1, fun n hn => ?_, ⟨fun p hp => ?_, fun j hj => ?_⟩, fun n hn => ?_, hpB_of t5 (eqT_S e 17 (by omega)), ?_, fun k hk => ?_⟩
  · rw [en] at hn
    have e7 := eqT_A e (7, 12) (by decide) (j := n) (show n < 12 by omega)
    have e8 := eqT_A e (8, 12) (by decide) (j := n) (show n < 12 by omega)
    have e9 := eqT_A e (9, 12) (by decide) (j := n) (show n < 12 by omega)
    dsimp only at e7 e8 e9
    rw [e7, e8, e9]
    exact t2 n hn
  · have e2 := eqT_A e (2, 7) (by decide) (j := p) hp
    dsimp only at e2
    rw [e2]
    exact t3.1 p hp
  · have e3 := eqT_A e (3, 28) (by decide) (j := j) hj
    dsimp only at e3
    rw [e3]
    exact t3.2 j hj
  · rw [en] at hn
    have e6 := eqT_A e (6, 12) (by decide) (j := n) (show n < 12 by omega)
    dsimp only at e6
    rw [e6]
    exact t4 n hn
  · rw [eqT_S e 22 (by omega)]
    exact t6
  · rw [eqT_H e] at hk
    have e14 := eqT_A e (14, 60) (by decide) (j := k) (show k < 60 by omega)
    dsimp only at e14
    rw [e14, en]
    exact t7 k hk
theorem TW_copy {A O : TS} {M : MS} (h : TW O M) : TW (tCopy A O) M := ⟨RT_copy h.1, h.2⟩
section SIMPLE
variable {S : HS} {M : MS}
theorem pv_row (h : LI S M) (p : Int32) : PV (r_row S p) (v_row M p) := by
  have hq := h.1.1.1.1
  unfold r_row v_row
  rw [RQ_P hq]
  cases hp : uOne M p
  · rw [if_pos rfl, if_pos rfl]
    exact PV_no h refI1 _
  · rw [if_neg (show ¬ (true = false) from Bool.noConfusion), if_neg (show ¬ (true = false) from Bool.noConfusion)]
    obtain ⟨h1, h2, h3, h4, h5, h6⟩ := h
    obtain ⟨r1, ⟨N, n1, n2⟩, r3⟩ := h3
    have eU : uRow M = N := by unfold uRow; rw [n2, nI_clamp (by omega)]
    rw [r1, n2]
    by_cases e : N = 10
    · subst e
      rw [if_pos (Or.inr (show (10 : Int32) ≤ nI 10 by decide)), if_pos (show nI 10 = 10 from rfl)]
      exact PV_no ⟨h1, h2, ⟨r1, ⟨10, n1, n2⟩, r3⟩, h4, h5, h6⟩ refI6 _
    · have n3 : ¬ nI N = 10 := fun z => by have z : nI N = nI 10 := z; rw [nI_inj (by omega) (by omega)] at z; exact e z
      have n4 : ¬ (nI N < 0 ∨ 10 ≤ nI N) := by
        rintro (z | z)
        · exact nI_nlt0 (by omega) z
        · have z : nI 10 ≤ nI N := z
          rw [nI_leJ (by omega) (by omega)] at z
          omega
      rw [if_neg n3, if_neg n4, nI_clamp (by omega)]
      refine ⟨rfl, TW_same h1 (fun i hi => mS_ne (by omega)) (fun i hi => ?_), nwB_of h2 ?_ ?_, ⟨?_, ⟨N + 1, by omega, ?_⟩, fun k hk => ?_⟩, LtB_k h4 ?_ ?_, fun k hk => ?_, ImB_k h6 ?_ (fun j _ => ?_)⟩
      · rw [mA_S, mA_a, if_neg (by omega)]
      · rw [mA_S, mA_a, if_neg (by omega)]
      · rw [mA_S, mA_a, if_neg (by omega)]
      · rw [mS_S, if_pos rfl]
        rfl
      · rw [mS_S, if_pos rfl]
        exact nI_1 N
      · have hk : k < N + 1 := by
          unfold uRow at hk
          rw [mS_S, if_pos rfl, nI_1, nI_clamp (by omega)] at hk
          exact hk
        rw [mA_S, mA_a, if_pos rfl]
        show upd (hRo S) N p k = upd (mA 34 M) N p k
        by_cases ek : k = N
        · rw [ek, upd_eq, upd_eq]
        · rw [upd_ne ek, upd_ne ek]
          exact r3 k (by omega)
      · rw [mS_ne (by decide)]; rfl
      · rw [mA_S, mA_a, if_neg (by decide)]
      · rw [mA_S, mA_a, if_neg (by decide)]
        exact h5 k hk
      · rw [mS_ne (by decide)]; rfl
      · rw [mA_S, mA_a, if_neg (by decide)]
theorem pv_clear (h : LI S M) : PV (r_clear S) (v_clear M) := by
  obtain ⟨h1, h2, h3, h4, h5, h6⟩ := h
  refine ⟨h3.1, TW_same h1 (fun i hi => mS_ne (by omega)) (fun _ _ => rfl), nwB_of h2 rfl rfl, ⟨?_, ⟨0, by omega, ?_⟩, fun k hk => ?_⟩, LtB_k h4 (mS_ne (by decide)) rfl, h5, ImB_k h6 (mS_ne (by decide)) (fun _ _ => rfl)⟩
  · exact (show mS 35 (msS 35 M 0) = 0 by rw [mS_S, if_pos rfl]).symm
  · exact (show mS 35 (msS 35 M 0) = 0 by rw [mS_S, if_pos rfl])
  · exfalso
    have hk : k < uRow (msS 35 M 0) := hk
    unfold uRow at hk
    rw [mS_S, if_pos rfl] at hk
    exact absurd hk (Nat.not_lt_zero k)
theorem pv_image (h : LI S M) : PV (r_image S) (v_image M) := by
  obtain ⟨p1, p2, p3, p4⟩ := uPA_keep (show 0 ≤ 1 by omega) (msS 31 M 1)
  rw [show (nI 0 : Int32) = 0 from rfl] at p1 p2 p3 p4
  unfold r_image v_image
  generalize uPA (msS 31 M 1) 0 1 = M2 at p1 p2 p3 p4 ⊢
  have eS : ∀ i, ¬ i = 31 → ¬ i = 32 → ¬ i = 33 → mS i M2 = mS i M := fun i a b c => by rw [p1 i b c, mS_ne a]
  have eA : ∀ i, ¬ i = 30 → mA i M2 = mA i M := fun i a => by rw [p2 i a]; rfl
  obtain ⟨h1, h2, h3, h4, h5, h6⟩ := h
  refine ⟨?_, TW_same h1 (fun i hi => eS i (by omega) (by omega) (by omega)) (fun i hi => eA i (by omega)), nwB_of h2 (eA 4 (by decide)) (eA 5 (by decide)), RR_of h3 (eS 35 (by decide) (by decide) (by decide)) (eA 34 (by decide)), LtB_k h4 (eS 27 (by decide) (by decide) (by decide)) (eA 23 (by decide)), fun k hk => ?_, ?_, fun _ => ⟨M, TW_copy h1, kpt_of p3 (fun _ _ _ => rfl) (fun _ _ _ => rfl) (fun i hi => (mS_ne (by omega)).symm)⟩⟩
  · rw [eS 22 (by decide) (by decide) (by decide)]
    exact h1.1.1.1.2.2.1
  · rw [eA 0 (by decide)]
    exact h5 k hk
  · rw [p1 31 (by decide) (by decide), mS_S, if_pos rfl]
    rfl
theorem pv_restore (h : LI S M) : PV (r_restore S) (v_restore M) := by
  have h6 := h.2.2.2.2.2
  unfold r_restore v_restore
  rw [h6.1]
  by_cases h0 : mS 31 M = 0
  · rw [if_pos h0, if_pos h0]
    exact PV_no h refI3 _
  · rw [if_neg h0, if_neg h0]
    obtain ⟨M0, t, k⟩ := h6.2 (by rw [h6.1]; exact h0)
    obtain ⟨b1, b2, b3, b4⟩ := uPA_back (show 0 ≤ 1 by omega) M
    obtain ⟨e1, e2⟩ := uPA_eqT (show 0 ≤ 1 by omega) k
    rw [show (nI 0 : Int32) = 0 from rfl] at b1 b2 b3 b4 e1 e2
    generalize uPA M 0 0 = M2 at b1 b2 b3 b4 e1 e2 ⊢
    have hha : haB M2 := by
      intro n hn
      rcases Nat.lt_or_eq_of_le (Nat.le_of_lt_succ hn) with hl | hl
      · rw [e1.1 (7, 12) (by decide) n hl, e1.1 (9, 12) (by decide) n hl]
        exact t.1.1.2.2 n hn
      · rw [e2 (7, 12) (by decide) n (by omega), e2 (9, 12) (by decide) n (by omega)]
        exact h.1.1.1.2.2 n hn
    have hnw : nwB M2 := by
      intro n hn
      rcases Nat.lt_or_eq_of_le (Nat.le_of_lt_succ hn) with hl | hl
      · rw [e1.1 (4, 12) (by decide) n hl, e1.1 (5, 12) (by decide) n hl]
        exact (t.1.2.2.1 n hl).2.2.1
      · rw [e2 (4, 12) (by decide) n (by omega), e2 (5, 12) (by decide) n (by omega)]
        exact h.2.1 n hn
    refine ⟨?_, LI_now h (TW_copy (TW_eqT t e1 hha)) hnw (fun i hi => b1 i (by omega) (by omega) (by omega)) (fun i hi => b2 i (by omega))⟩
    rw [eqT_S e1 22 (by omega)]
    exact t.1.1.1.2.2.1
theorem pv_count (h : LI S M) (w : Int32) : r_count S w = v_count M w := by
  have hT := h.1.1
  have e11 : (10 < w ∧ w ≤ 16) ↔ uIn w 11 16 = true := by
    unfold uIn
    rw [decide_eq_true_iff]
    by_cases h0 : w < 0
    · exact ⟨fun z => absurd (Int32.lt_trans z.1 h0) (by decide), fun z => absurd (Int32.lt_of_le_of_lt z.1 h0) (by decide)⟩
    · obtain ⟨j, hj, rfl⟩ := nI_of h0
      have a1 : (10 : Int32) < nI j ↔ 10 < j := nI_ltJ (a := 10) (by decide) hj
      have a2 : (11 : Int32) ≤ nI j ↔ 11 ≤ j := nI_leJ (a := 11) (by decide) hj
      rw [a1, a2]
      exact ⟨fun z => ⟨by omega, z.2⟩, fun z => ⟨by omega, z.2⟩⟩
  have eo : ∀ k, k ≤ uNeeds M → sumU (fun k => b2i (tOpen (hNow S) (nI k))) k = uOpenN M k := by
    intro k
    induction k with
    | zero => exact fun _ => rfl
    | succ k ih =>
      intro hk
      have e1 : sumU (fun k => b2i (tOpen (hNow S) (nI k))) (k + 1) = sumU (fun k => b2i (tOpen (hNow S) (nI k))) k + b2i (tOpen (hNow S) (nI k)) := rfl
      have e2 : uOpenN M (k + 1) = uOpenN M k + b2i (uOpen M k) := rfl
      have hC := RT_C hT (n := k) (by omega)
      rw [e1, e2, ih (by omega), R_open hT.1.1 hC.2.1 hT.1.2.2 hC.2.2.1]
  have en : tNeeds (hNow S) = uNeeds M := by unfold tNeeds uNeeds; rw [hT.2.1.1]
  obtain ⟨t, t1, t2, t3, t4⟩ := h.2.2.2.1
  unfold r_count v_count
  by_cases hc : 10 < w ∧ w ≤ 16
  · rw [if_pos hc, if_pos (e11.mp hc)]
    refine h.2.2.2.2.1 _ ?_
    obtain ⟨j, hj, rfl⟩ := nI_of (fun z : w < 0 => absurd (Int32.lt_trans hc.1 z) (by decide))
    have a1 : 10 < j := (nI_ltJ (a := 10) (by decide) hj).mp hc.1
    have a2 : j ≤ 16 := (nI_leJ (b := 16) hj (by decide)).mp hc.2
    have : nI j - 10 = nI (j - 10) := nI_sub (a := j) (b := 10) (by omega)
    rw [this, nI_clamp (by omega)]
    omega
  · rw [if_neg hc, if_neg (fun z => hc (e11.mpr z)), hT.1.1.2.1, hT.2.1.1, hT.1.2.1.1, hT.1.1.2.2.1, t2, t3, h.2.2.1.1]
    have e3 : tOpenN (hNow S) = uOpenN M (uNeeds M) := by unfold tOpenN; rw [en]; exact eo _ (Nat.le_refl _)
    have e4 : tSet (hNow S) 0 = mS 18 M := hT.1.1.2.2.2.1.1
    rw [e3, e4]
theorem pv_feed (h : LI S M) (v : Int32) : PV (r_feed S v) (v_feed M v) := by
  obtain ⟨t, t1, t2, t3, t4⟩ := h.2.2.2.1
  unfold r_feed v_feed
  by_cases c1 : v < 0
  · rw [if_pos c1, if_pos c1]
    exact PV_no h refI4 _
  · rw [if_neg c1, if_neg c1]
    by_cases c2 : 255 < v
    · rw [if_pos (Or.inl c2), if_pos c2]
      exact PV_no h refI6 _
    · rw [if_neg c2]
      by_cases c3 : t = 64
      · subst c3
        rw [if_pos (Or.inr (by unfold lFull; rw [t2]; decide)), t3, if_pos (show nI 64 = 64 from rfl)]
        exact PV_no h refI6 _
      · have n1 : ¬ nI t = 64 := fun z => by have z : nI t = nI 64 := z; rw [nI_inj (by omega) (by omega)] at z; exact c3 z
        have n2 : ¬ (64 : Int32) ≤ nI t := fun z => by have z : nI 64 ≤ nI t := z; rw [nI_leJ (by omega) (by omega)] at z; omega
        rw [if_neg (by
          rintro (z | z)
          · exact c2 z
          · unfold lFull at z
            rw [t2] at z
            exact n2 (of_decide_eq_true z)), t3, if_neg n1]
        have e1 : lTake (hL S) v = lsLn (laFd (hL S) t v) (nI (t + 1)) := by
          unfold lTake
          rw [t2, if_pos ⟨nI_nlt0 (by omega), Int32.not_le.mp n2⟩, nI_clamp (by omega), nI_1]
        obtain ⟨h1, h2, h3, h4, h5, h6⟩ := h
        rw [e1, nI_1, nI_clamp (by omega)]
        refine ⟨rfl, TW_same h1 (fun i hi => mS_ne (by omega)) (fun i hi => ?_), nwB_of h2 ?_ ?_, RR_of h3 (mS_ne (by decide)) ?_, ⟨t + 1, by omega, rfl, by rw [mS_S, if_pos rfl], fun j hj => ?_⟩, fun k hk => ?_, ImB_k h6 (mS_ne (by decide)) (fun j _ => ?_)⟩
        · rw [mA_S, mA_a, if_neg (by omega)]
        · rw [mA_S, mA_a, if_neg (by omega)]
        · rw [mA_S, mA_a, if_neg (by omega)]
        · rw [mA_S, mA_a, if_neg (by omega)]
        · rw [mA_S, mA_a, if_pos rfl]
          show upd (lFd (hL S)) t v j = upd (mA 23 M) t v j
          by_cases ej : j = t
          · rw [ej, upd_eq, upd_eq]
          · rw [upd_ne ej, upd_ne ej]
            exact t4 j (by omega)
        · rw [mA_S, mA_a, if_neg (by omega)]
          exact h5 k hk
        · rw [mA_S, mA_a, if_neg (by omega)]
end SIMPLE
end
