noncomputable section
theorem LI_now {S : HS} {M M2 : MS} {T2 : TS} (h : LI S M) (ht : TW T2 M2) (hw : nwB M2) (hS : ∀ i, i = 27 ∨ i = 31 ∨ i = 35 → mS i M2 = mS i M) (hA : ∀ i, i = 0 ∨ i = 23 ∨ i = 34 ∨ i = 30 → mA i M2 = mA i M) : LI (hsNow S T2) M2 := by
  obtain ⟨h1, h2, h3, h4, h5, h6⟩ := h
  refine ⟨ht, hw, RR_of h3 (hS 35 (by omega)) (hA 34 (by omega)), LtB_k h4 (hS 27 (by omega)) (hA 23 (by omega)), fun k hk => ?_, ImB_k h6 (hS 31 (by omega)) (fun j _ => by rw [hA 30 (by omega)])⟩
  rw [hA 0 (by omega)]
  exact h5 k hk
theorem RT_set0 {T : TS} {M : MS} (h : RT T M) (v : Int32) : RT (taSe T 0 v) (msS 18 M v) := ⟨⟨⟨h.1.1.1, h.1.1.2.1, h.1.1.2.2.1, ⟨rfl, h.1.1.2.2.2.1.2.1, h.1.1.2.2.2.1.2.2.1, h.1.1.2.2.2.1.2.2.2⟩, h.1.1.2.2.2.2⟩, h.1.2.1, h.1.2.2⟩, h.2⟩
theorem RT_set1 {T : TS} {M : MS} (h : RT T M) (v : Int32) : RT (taSe T 1 v) (msS 19 M v) := ⟨⟨⟨h.1.1.1, h.1.1.2.1, h.1.1.2.2.1, ⟨h.1.1.2.2.2.1.1, rfl, h.1.1.2.2.2.1.2.2.1, h.1.1.2.2.2.1.2.2.2⟩, h.1.1.2.2.2.2⟩, h.1.2.1, h.1.2.2⟩, h.2⟩
theorem RT_set2 {T : TS} {M : MS} (h : RT T M) (v : Int32) : RT (taSe T 2 v) (msS 20 M v) := ⟨⟨⟨h.1.1.1, h.1.1.2.1, h.1.1.2.2.1, ⟨h.1.1.2.2.2.1.1, h.1.1.2.2.2.1.2.1, rfl, h.1.1.2.2.2.1.2.2.2⟩, h.1.1.2.2.2.2⟩, h.1.2.1, h.1.2.2⟩, h.2⟩
theorem RT_set3 {T : TS} {M : MS} (h : RT T M) (v : Int32) : RT (taSe T 3 v) (msS 21 M v) := ⟨⟨⟨h.1.1.1, h.1.1.2.1, h.1.1.2.2.1, ⟨h.1.1.2.2.2.1.1, h.1.1.2.2.2.1.2.1, h.1.1.2.2.2.1.2.2.1, rfl⟩, h.1.1.2.2.2.2⟩, h.1.2.1, h.1.2.2⟩, h.2⟩
theorem uBd_c {v a b : Int32} : (v < a ∧ uBd v a b = -4) ∨ (¬ v < a ∧ b < v ∧ uBd v a b = -6) ∨ (¬ v < a ∧ ¬ b < v ∧ uBd v a b = 0) := by
  unfold uBd
  by_cases h : v < a
  · exact Or.inl ⟨h, if_pos h⟩
  · rw [if_neg h]
    by_cases h2 : b < v
    · exact Or.inr (Or.inl ⟨h, h2, if_pos h2⟩)
    · exact Or.inr (Or.inr ⟨h, h2, if_neg h2⟩)
section SIMPLE
variable {S : HS} {M : MS}
theorem pv_set (h : LI S M) (w v : Int32) : PV (r_set S w v) (v_set M w v) := by
  unfold r_set v_set
  by_cases hw : w < 0 ∨ 4 ≤ w
  · rw [if_pos hw, if_pos (show uIn w 0 3 = false from (uIn_f (b := 3) (by decide) w).mp hw)]
    exact PV_no h refI2 _
  · obtain ⟨e, k, hk, rfl⟩ := uIn_t (b := 3) (by decide) hw
    have e : uIn (nI k) 0 3 = true := e
    rw [if_neg hw, e, if_neg (show ¬ (true = false) from Bool.noConfusion)]
    generalize hlo : (if nI k = 1 then (1 : Int32) else 0) = lo
    generalize hhi : (if nI k = 0 then (3 : Int32) else 9) = hi
    rcases uBd_c (v := v) (a := lo) (b := hi) with ⟨c1, c2⟩ | ⟨c1, c2, c3⟩ | ⟨c1, c2, c3⟩
    · rw [if_pos c1, c2, if_neg (by decide)]
      exact PV_no h refI4 _
    · rw [if_neg c1, if_pos c2, c3, if_neg (by decide)]
      exact PV_no h refI6 _
    · rw [if_neg c1, if_neg c2, c3, if_pos rfl]
      have hq := h.1.1.1.1.2.2.2.1
      rcases (show k = 0 ∨ k = 1 ∨ k = 2 ∨ k = 3 by omega) with rfl | rfl | rfl | rfl
      · exact ⟨hq.1, LI_now h ⟨RT_set0 h.1.1 v, h.1.2⟩ h.2.1 (fun i hi => mS_ne (by omega)) (fun _ _ => rfl)⟩
      · exact ⟨hq.2.1, LI_now h ⟨RT_set1 h.1.1 v, h.1.2⟩ h.2.1 (fun i hi => mS_ne (by omega)) (fun _ _ => rfl)⟩
      · exact ⟨hq.2.2.1, LI_now h ⟨RT_set2 h.1.1 v, h.1.2⟩ h.2.1 (fun i hi => mS_ne (by omega)) (fun _ _ => rfl)⟩
      · exact ⟨hq.2.2.2, LI_now h ⟨RT_set3 h.1.1 v, h.1.2⟩ h.2.1 (fun i hi => mS_ne (by omega)) (fun _ _ => rfl)⟩
theorem TW_do {T : TS} (h : TW T M) {a n : Nat} (ha : a < 7) (hn : n < uNeeds M) (h12 : n < 12) (hop : uOpen M n = true) (hhs : uHas M (nI a) (nI n) = false) (h60 : mS 17 M < 60) : TW (tDo T (nI a) (nI n)) (uW M (nI a) (mA 4 M n) (mA 6 M n) (nI n)) := by
  obtain ⟨t1, t2, t3, t4, t5, t6, t7⟩ := h
  obtain ⟨e0, hH⟩ := hpB_c t5 (by decide)
  have h59 : uHelps M ≤ 59 := by
    rw [e0] at h60
    have h60 : nI (uHelps M) < nI 60 := h60
    rw [nI_ltJ (by omega) (by decide)] at h60
    omega
  have hb : hpB 59 M := ⟨uHelps M, h59, e0⟩
  refine ⟨RT_do t1 hb (by omega) ha h12 hop hhs, fun m hm => ?_, ?_, fun m hm => ?_, hpB_W hb _ _ _ _, ?_, fun k hk => ?_⟩
  · rw [uNeeds_W] at hm
    rw [uW_A 8 (by omega), uW_A 7 (by omega), uW_9, if_neg (nI_nlt0 (by omega)), nI_clamp (by omega)]
    obtain ⟨q1, hh, d, d1, d2, d3, d4⟩ := t2 m hm
    refine ⟨q1, ?_⟩
    by_cases e : m = n
    · subst e
      rw [upd_eq]
      unfold uOpen at hop
      rw [Bool.and_eq_true] at hop
      have hlt := of_decide_eq_true hop.2
      rw [d3, d4, nI_ltJ (by omega) (by omega)] at hlt
      exact ⟨hh, d + 1, by omega, d2, d3, by rw [d4]; exact nI_1 d⟩
    · rw [upd_ne e]
      exact ⟨hh, d, d1, d2, d3, d4⟩
  · unfold VP
    rw [uW_A 2 (by omega), uW_A 3 (by omega)]
    exact t3
  · rw [uNeeds_W] at hm
    rw [uW_A 6 (by omega)]
    exact t4 m hm
  · rw [uW_S 22 (by decide)]
    exact t6
  · rw [uHelps_W hb (by decide)] at hk
    by_cases e : k = uHelps M
    · rw [uW_14, e, upd_eq, if_neg]
      · exact ⟨n, by rw [uNeeds_W]; exact hn, h12, rfl⟩
      · intro z
        have z : nI n = nI 12 := z
        rw [nI_inj (by omega) (by omega)] at z
        omega
    · rw [uW_row _ _ _ _ (by omega) e, uNeeds_W]
      exact t7 k (by omega)
theorem pv_help (h : LI S M) (p n : Int32) : PV (r_help S p n) (v_help M p n) := by
  have hq := h.1.1.1.1
  unfold r_help v_help
  rw [RQ_P hq, RT_hn h.1.1]
  by_cases hc : uOne M p = true ∧ uNeed M n = true
  · rw [if_pos hc, if_pos hc]
    obtain ⟨a, ha, ea⟩ := uOne_ix hq.2.2.2.2 hc.1
    obtain ⟨b, hb, hb2, eb⟩ := uNeed_c h.1.1.2.1.2 hc.2
    subst ea; subst eb
    rw [R_mayW (RT_C h.1.1 hb) ha hc.1, nI_clamp (show a < 2 ^ 31 by omega), nI_clamp (show b < 2 ^ 31 by omega)]
    cases hm : uMayW M (nI a) (nI b)
    · rw [if_pos rfl, if_pos rfl]
      exact PV_no h refI3 _
    · rw [if_neg (show ¬ (true = false) from Bool.noConfusion), if_neg (show ¬ (true = false) from Bool.noConfusion)]
      have eT : tHh (hNow S) = mS 17 M := h.1.1.1.2.1.1
      by_cases h60 : mS 17 M < 60
      · rw [if_pos h60, if_neg (by unfold tFull; rw [eT, decide_eq_false (Int32.not_le.mpr h60)]; exact Bool.noConfusion)]
        obtain ⟨o1, o2, -⟩ := uMayW_c hb2 hm
        have ht := TW_do h.1 ha hb hb2 o1 o2 h60
        refine ⟨R_good ht.1.1.1 (ht.1.2.2.1 b hb2) ha, LI_now h ht (nwB_W h.2.1 _ _ _ _) (fun i hi => uW_S i (by omega) _ _ _ _ _) (fun i hi => uW_A i (by omega) _ _ _ _ _)⟩
      · rw [if_neg h60, if_pos (by unfold tFull; rw [eT]; exact decide_eq_true (Int32.not_lt.mp h60))]
        exact PV_no h refI6 _
  · rw [if_neg hc, if_neg hc]
    exact PV_no h refI1 _
theorem TW_back {T : TS} (h : TW T M) {H : Nat} (eH : uHelps M = H + 1) : TW (tBack T) (uBack M) := by
  obtain ⟨t1, t2, t3, t4, t5, t6, t7⟩ := h
  obtain ⟨e0, hH⟩ := hpB_c t5 (by decide)
  have hR := RT_back t1 eH
  have em : mS 17 M - 1 = nI H := by rw [e0, eH]; exact nI_sub (a := H + 1) (b := 1) (by omega)
  have en : uNeeds (uBack M) = uNeeds M := by unfold uNeeds; rw [uBack_S, if_neg (by decide)]
  have eHb : uHelps (uBack M) = H := by unfold uHelps; rw [uBack_S, if_pos rfl, em, nI_clamp (by omega)]
  have h12 := (nnB_c t1.2.1.2).2
  refine ⟨hR, fun m hm => ?_, ?_, fun m hm => ?_, ⟨H, by omega, by rw [uBack_S, if_pos rfl, em]⟩, ?_, fun k hk => ?_⟩
  · rw [en] at hm
    rw [uBack_A 8 (by decide), uBack_A 7 (by decide)]
    obtain ⟨q1, hh, d, d1, d2, d3, d4⟩ := t2 m hm
    refine ⟨q1, hh, ?_⟩
    have e9 := uBack_9 M
    obtain ⟨x, x1, -, x3, -⟩ := (hR.2.2.1 m (by omega)).2.2.2
    have hp7 := pop_le x x1
    by_cases hn : mA 14 M (mS 17 M - 1).toNatClampNeg < 0
    · rw [if_pos hn] at e9
      exact ⟨d, d1, d2, d3, by rw [e9]; exact d4⟩
    · rw [if_neg hn] at e9
      by_cases e : m = (mA 14 M (mS 17 M - 1).toNatClampNeg).toNatClampNeg
      · have e1 : mA 9 (uBack M) m = nI d - 1 := by rw [e9, ← e, upd_eq, d4]
        have e2 : nI d = nI (pop7 x + 1) := by
          rw [← nI_1, ← x3, e1, Int32.sub_add_cancel]
        have e3 := (nI_inj (by omega) (by omega)).mp e2
        exact ⟨pop7 x, by omega, d2, d3, x3⟩
      · exact ⟨d, d1, d2, d3, by rw [e9, upd_ne e]; exact d4⟩
  · unfold VP
    rw [uBack_A 2 (by decide), uBack_A 3 (by decide)]
    exact t3
  · rw [en] at hm
    rw [uBack_A 6 (by decide)]
    exact t4 m hm
  · rw [uBack_S, if_neg (by decide)]
    exact t6
  · rw [eHb] at hk
    rw [uBack_A 14 (by decide), en]
    exact t7 k (by omega)
theorem pv_back (h : LI S M) : PV (r_back S) (v_back M) := by
  have eT : tHh (hNow S) = mS 17 M := h.1.1.1.2.1.1
  unfold r_back v_back
  rw [eT]
  by_cases h0 : mS 17 M = 0
  · rw [if_pos h0, if_pos h0]
    exact PV_no h refI3 _
  · rw [if_neg h0, if_neg h0]
    obtain ⟨e0, hH⟩ := hpB_c h.1.2.2.2.2.1 (by decide)
    obtain ⟨H, eH⟩ : ∃ H, uHelps M = H + 1 := ⟨uHelps M - 1, by
      have : ¬ uHelps M = 0 := fun z => h0 (by rw [e0, z]; rfl)
      omega⟩
    have ht := TW_back h.1 eH
    exact ⟨ht.1.1.2.1.1, LI_now h ht (nwB_of h.2.1 (uBack_A 4 (by decide) M) (uBack_A 5 (by decide) M)) (fun i hi => by rw [uBack_S, if_neg (by omega)]) (fun i hi => uBack_A i (by omega) M)⟩
theorem pv_year (h : LI S M) : PV (r_year S) (v_year M) := by
  have eT : tYr (hNow S) = mS 22 M := h.1.1.1.1.2.2.1
  obtain ⟨y, y1, y2⟩ := h.1.2.2.2.2.2.1
  unfold r_year v_year
  rw [eT, y2]
  by_cases e : y = 99
  · subst e
    rw [if_pos (show (99 : Int32) ≤ nI 99 by decide), if_pos (show nI 99 = 99 from rfl)]
    exact PV_no h refI6 _
  · have n1 : ¬ nI y = 99 := fun z => by have z : nI y = nI 99 := z; rw [nI_inj (by omega) (by omega)] at z; exact e z
    have n2 : ¬ (99 : Int32) ≤ nI y := fun z => by have z : nI 99 ≤ nI y := z; rw [nI_leJ (by omega) (by omega)] at z; omega
    rw [if_neg n1, if_neg n2]
    exact ⟨rfl, LI_now h ⟨RT_year h.1.1 _, h.1.2.1, h.1.2.2.1, h.1.2.2.2.1, h.1.2.2.2.2.1, ⟨y + 1, by omega, by rw [mS_S, if_pos rfl]; exact nI_1 y⟩, h.1.2.2.2.2.2.2⟩ h.2.1 (fun i hi => mS_ne (by omega)) (fun _ _ => rfl)⟩
theorem pv_many (h : LI S M) (w n : Int32) : PV (r_many S w n) (v_many M w n) := by
  unfold r_many v_many
  by_cases hw : 0 ≤ w ∧ w ≤ 3
  · have e : uIn w 0 3 = true := decide_eq_true hw
    rw [if_pos hw, e, if_neg (show ¬ (true = false) from Bool.noConfusion)]
    rcases uBd_c (v := n) (a := 1) (b := 999) with ⟨c1, c2⟩ | ⟨c1, c2, c3⟩ | ⟨c1, c2, c3⟩
    · rw [if_pos c1, c2, if_neg (by decide)]
      exact PV_no h refI4 _
    · rw [if_neg c1, if_pos c2, c3, if_neg (by decide)]
      exact PV_no h refI6 _
    · rw [if_neg c1, if_neg c2, c3, if_pos rfl]
      by_cases e1 : w = 1
      · rw [if_pos e1, if_pos e1]
        exact ⟨rfl, h⟩
      · rw [if_neg e1, if_neg e1]
        exact ⟨rfl, h⟩
  · have e : uIn w 0 3 = false := decide_eq_false hw
    rw [if_neg hw, e, if_pos rfl]
    exact PV_no h refI2 _
theorem TW_move {T : TS} (h : TW T M) {a v : Nat} (ha : a < 7) (hv : v ≤ 99) : TW (tPutP T (nI a) 1 (nI v)) (maA 2 M a (nI v)) := by
  obtain ⟨t1, t2, t3, t4, t5, t6, t7⟩ := h
  rw [show (1 : Int32) = nI 1 from rfl, tPutP_n T (nI v) ha (by decide)]
  have e2 : ∀ j, mA 2 (maA 2 M a (nI v)) j = if j = a then nI v else mA 2 M j := fun j => by rw [mA_a, if_pos rfl]; rfl
  have eA : ∀ i, ¬ i = 2 → mA i (maA 2 M a (nI v)) = mA i M := fun i hi => by rw [mA_a, if_neg hi]
  have eP : ∀ j, tPt (taPt T (a * 6 + 1) (nI v)) j = if j = a * 6 + 1 then nI v else tPt T j := fun j => rfl
  refine ⟨⟨⟨⟨fun p hp => ?_, t1.1.1.2⟩, t1.1.2.1, t1.1.2.2⟩, t1.2⟩, t2, ⟨fun p hp => ?_, t3.2⟩, t4, t5, t6, t7⟩
  · obtain ⟨q1, q2, q3⟩ := t1.1.1.1 p hp
    rw [eP, eP, eA 1 (by decide), eA 3 (by decide), e2, if_neg (show ¬ p * 6 = a * 6 + 1 by omega)]
    refine ⟨q1, ?_, fun hh h4 => ?_⟩
    · by_cases e : p = a
      · rw [if_pos e, if_pos (by omega)]
      · rw [if_neg e, if_neg (by omega)]
        exact q2
    · rw [eP, if_neg (by omega)]
      exact q3 hh h4
  · rw [e2]
    by_cases e : p = a
    · rw [if_pos e]
      exact ⟨v, hv, rfl⟩
    · rw [if_neg e]
      exact t3.1 p hp
theorem pv_move (h : LI S M) (p v : Int32) : PV (r_move S p v) (v_move M p v) := by
  have hq := h.1.1.1.1
  unfold r_move v_move
  rw [RQ_P hq]
  cases hp : uOne M p
  · rw [if_pos rfl, if_pos rfl]
    exact PV_no h refI1 _
  · rw [if_neg (show ¬ (true = false) from Bool.noConfusion), if_neg (show ¬ (true = false) from Bool.noConfusion)]
    obtain ⟨a, ha, rfl⟩ := uOne_ix hq.2.2.2.2 hp
    rw [nI_clamp (show a < 2 ^ 31 by omega)]
    rcases uBd_c (v := v) (a := 0) (b := 99) with ⟨c1, c2⟩ | ⟨c1, c2, c3⟩ | ⟨c1, c2, c3⟩
    · rw [if_pos c1, c2, if_neg (by decide)]
      exact PV_no h refI4 _
    · rw [if_neg c1, if_pos c2, c3, if_neg (by decide)]
      exact PV_no h refI6 _
    · rw [if_neg c1, if_neg c2, c3, if_pos rfl]
      obtain ⟨j, hj, rfl⟩ := nI_of c1
      have hj99 : j ≤ 99 := by
        rcases Nat.lt_or_ge 99 j with q | q
        · exact absurd ((nI_ltJ (a := 99) (by decide) hj).mpr q) c2
        · exact q
      exact ⟨RQ_pl hq ha, LI_now h (TW_move h.1 ha hj99) (nwB_of h.2.1 rfl rfl) (fun _ _ => rfl) (fun i hi => by rw [mA_a, if_neg (by omega)])⟩
end SIMPLE
end
