noncomputable section
theorem LI_pEq {S : HS} {M M2 : MS} (h : LI S M) (e : pEq M M2) : LI S M2 := by
  obtain ⟨h1, h2, h3, h4, h5, h6⟩ := h
  refine ⟨TW_eqT h1 e.2.1 e.2.2.2.2, e.2.2.2.1, RR_of h3 (e.1.1 35 (by omega)) (e.1.2 34 (by omega)), LtB_k h4 (e.1.1 27 (by omega)) (e.1.2 23 (by omega)), fun k hk => ?_, ImB_k h6 (e.1.1 31 (by omega)) e.2.2.1⟩
  rw [e.1.2 0 (by omega)]
  exact h5 k hk
/-- what thinking leaves alone -/
def FR (M Z : MS) : Prop := nwB Z ∧ haB Z ∧ (∀ i, (i = 15 ∨ i = 27 ∨ i = 31 ∨ i = 35) → mS i Z = mS i M) ∧ ∀ i, (i = 0 ∨ i = 23 ∨ i = 34 ∨ i = 30) → mA i Z = mA i M
theorem FR_t {M X Z : MS} (h : FR M X) (k : FR X Z) : FR M Z := ⟨k.1, k.2.1, fun i hi => (k.2.2.1 i hi).trans (h.2.2.1 i hi), fun i hi => (k.2.2.2 i hi).trans (h.2.2.2 i hi)⟩
theorem FR_r {M : MS} (hw : nwB M) (hh : haB M) : FR M M := ⟨hw, hh, fun _ _ => rfl, fun _ _ => rfl⟩
theorem FR_S {M : MS} (hw : nwB M) (hh : haB M) {i : Nat} (hi : ¬ i = 15 ∧ ¬ i = 27 ∧ ¬ i = 31 ∧ ¬ i = 35) (v : Int32) : FR M (msS i M v) := ⟨hw, hh, fun j hj => mS_ne (by omega), fun _ _ => rfl⟩
theorem FR_pEq {M Z : MS} (hw : nwB M) (hh : haB M) (h : FR (uPA M 1 1) Z) : pEq M (uPA Z 1 0) := by
  obtain ⟨k0, k00, k1, k2⟩ := uPA_keep (show 1 ≤ 1 by omega) M
  rw [show (nI 1 : Int32) = 1 from rfl] at k0 k00 k1 k2
  have ek : mA 30 Z = mA 30 (uPA M 1 1) := h.2.2.2 30 (by omega)
  exact back_pEq (by rw [ek]; exact k1) (fun j hj => by rw [ek, k2 j (Or.inl (by omega))]) (fun i hi => by rw [h.2.2.1 i (by omega), k0 i (by omega) (by omega)]) (fun i hi => by rw [h.2.2.2 i (by omega), k00 i (by omega)]) h.1 h.2.1 hw hh
theorem FR_aa {M : MS} (hw : nwB M) (hh : haB M) {p q : Int32} (hp : ixB 7 p) (hq : ixB 4 q) (g r : Int32) : FR M (uAns (uAsk M p q g) r).2 := by
  have hw1 := nwB_ask hw hp hq (gr := g)
  have hh1 : haB (uAsk M p q g) := by
    intro n hn
    rw [uAsk_7, uAsk_9]
    by_cases e : n = 12
    · subst e
      rw [upd_eq, upd_eq]
      exact ⟨⟨1, by omega, rfl⟩, ⟨0, by omega, rfl⟩⟩
    · rw [upd_ne e, upd_ne e]
      exact hh n hn
  refine ⟨?_, ?_, fun i hi => (uAns_S i (by omega) _ r).trans rfl, fun i hi => (uAns_A i (by omega) _ r).trans (uAsk_A i (by omega) M p q g)⟩
  · unfold uAns
    split
    · exact hw1
    · dsimp only
      exact nwB_W hw1 _ _ _ _
  · unfold uAns
    split
    · exact hh1
    · dsimp only
      exact haB_W (n := 12) hh1 (by decide) ⟨0, by decide, by rw [uAsk_9, upd_eq]; rfl⟩ _ _ _
theorem FR_uLY {r h : Int32} (hh : ixB 4 h) : ∀ (n k : Nat) (M : MS), k + n ≤ 7 → nwB M → haB M → FR M (uLY r h k n M).2 := by
  intro n
  induction n with
  | zero => exact fun k M _ hw ha => FR_S hw ha (i := 22) (by decide) _
  | succ n ih =>
    intro k M hk hw ha
    rw [uLY_s]
    have h1 := FR_aa hw ha (p := nI k) ⟨k, by omega, rfl⟩ hh 5 r
    generalize uAns (uAsk M (nI k) h 5) r = y at h1 ⊢
    split
    · exact h1
    · exact FR_t h1 (ih (k + 1) _ (by omega) h1.1 h1.2.1)
theorem FR_mlF {r h : Int32} (hh : ixB 4 h) : ∀ (n y : Nat) (M : MS), ppB M → nwB M → haB M → FR M (mlF r h n y M).2 := by
  intro n
  induction n with
  | zero => exact fun y M _ hw ha => FR_r hw ha
  | succ n ih =>
    intro y M hp hw ha
    have hp7 := (ppB_c hp).2
    have h1 := FR_uLY (r := r) hh (uPeople M) 0 M (by omega) hw ha
    rw [mlF_s]
    split
    · exact FR_t h1 (ih (y + 1) _ (ppB_of hp (h1.2.2.1 15 (by omega))) h1.1 h1.2.1)
    · exact h1
theorem FR_usF {r : Int32} : ∀ (n k : Nat) (sm : Int32) (M : MS), ppB M → ¬ mS 15 M = 0 → nwB M → haB M → FR M (usF r k n sm M).2 := by
  intro n
  induction n with
  | zero => exact fun k sm M _ _ hw ha => FR_r hw ha
  | succ n ih =>
    intro k sm M hp h0 hw ha
    obtain ⟨e, h7⟩ := ppB_c hp
    have hpos : 0 < uPeople M := Nat.pos_of_ne_zero (fun z => h0 (by rw [e, z]; rfl))
    have i1 : ixB 7 (drawF (nxSeed (mS 44 M)) (mS 15 M)) := by rw [e]; exact ixB_le (drawF_ix _ hpos (by omega)) h7
    have i2 : ixB 4 (drawF (nxSeed (mS 44 (sdA M))) 4) := drawF_ix _ (k := 4) (by decide) (by decide)
    rw [usF_s]
    have a1 : FR M (sdA M) := FR_S hw ha (by decide) _
    have a2 : FR M (sdA (sdA M)) := FR_t a1 (FR_S a1.1 a1.2.1 (by decide) _)
    have a3 : FR M (sdA (sdA (sdA M))) := FR_t a2 (FR_S a2.1 a2.2.1 (by decide) _)
    have a4 : FR M (uAns (sdQ M) r).2 := FR_t a3 (FR_aa a3.1 a3.2.1 i1 i2 _ r)
    have a5 : FR M (sdZ k (uAns (sdQ M) r).2) := by
      unfold sdZ
      split
      · exact FR_t a4 (FR_S a4.1 a4.2.1 (by decide) _)
      · exact a4
    have e15 := a5.2.2.1 15 (by omega)
    exact FR_t a5 (ih (k + 1) _ _ (ppB_of hp e15) (by rw [e15]; exact h0) a5.1 a5.2.1)
theorem FR_ujN : ∀ (m n k : Nat) (M : MS), ujI k M → n + m = uNeeds M → FR M (ujN n m k M).2.2 := by
  intro m
  induction m with
  | zero => exact fun n k M h _ => FR_r h.2.1.2.1 h.2.2
  | succ m ih =>
    intro n k M h hn
    have h12 := (nnB_c h.2.1.2.2.1).2
    obtain ⟨j1, j2, j3⟩ := ujH_I (show n < 12 by omega) (uHd M n) k M h rfl
    rw [ujN_s]
    generalize ujH n (uHd M n) k M = z at j1 j2 j3 ⊢
    have h1 : FR M z.2.2 := ⟨j1.2.1.2.1, j1.2.2, fun i hi => j2 i (by omega), fun i hi => j3 i (by omega)⟩
    split
    · exact h1
    · refine FR_t h1 (ih (n + 1) _ _ j1 ?_)
      have : uNeeds z.2.2 = uNeeds M := by unfold uNeeds; rw [j2 16 (by decide)]
      omega
theorem pEq_set {M M1 : MS} {i : Nat} (hi : 15 ≤ i ∧ i ≤ 22) {v : Int32} (e : pEq (msS i M v) M1) : pEq M (msS i M1 (mS i M)) := by
  obtain ⟨⟨e1, e2⟩, ⟨e3, e4⟩, e5, e6, e7⟩ := e
  refine ⟨⟨fun j hj => ?_, fun j hj => e2 j hj⟩, ⟨fun q hq j hj => e3 q hq j hj, fun j hj => ?_⟩, fun j hj => e5 j hj, e6, e7⟩
  · rw [mS_ne (by omega), e1 j hj, mS_ne (by omega)]
  · by_cases ej : 15 + j = i
    · rw [ej, mS_S, if_pos rfl]
    · rw [mS_ne ej, e4 j hj, mS_ne ej]
section RUNS
variable {S : HS} {M : MS}
theorem LI_mind (h : LI S M) (T : TS) : LI (hsMind S T) M := h
theorem LI_clear (h : LI S M) : LI (hsRl S 0) (msS 35 M 0) := (pv_clear h).2
theorem LI_keep (h : LI S M) : RT (tCopy (hMind S) (hNow S)) (uPA M 1 1) ∧ RR (hRo S) (hRl S) (uPA M 1 1) ∧ VP (uPA M 1 1) ∧ nwB (uPA M 1 1) ∧ haB (uPA M 1 1) := by
  obtain ⟨p1, p2, -, -⟩ := uPA_keep (show 1 ≤ 1 by omega) M
  rw [show (nI 1 : Int32) = 1 from rfl] at p1 p2
  have hp := LI_pub h
  have hk := haB_keep hp.2.1
  generalize uPA M 1 1 = N at p1 p2 hk ⊢
  refine ⟨RT_same (RT_copy h.1.1) (fun i hi => p1 i (by omega) (by omega)) (fun i hi => p2 i (by omega)), RR_of h.2.2.1 (p1 35 (by decide) (by decide)) (p2 34 (by decide)), ?_, nwB_of h.2.1 (p2 4 (by decide)) (p2 5 (by decide)), hk⟩
  unfold VP
  rw [p2 2 (by decide), p2 3 (by decide)]
  exact h.1.2.2.1
theorem pv_run (h : LI S M) (r : Int32) : PV (r_run S r) (v_run M r) := by
  unfold r_run v_run
  by_cases hr : 0 ≤ r ∧ r ≤ 5
  · rw [if_pos hr, if_pos ((rl_iff r).mp hr)]
    exact ⟨(R_run (RT_copy h.1.1) (mPub_rn (LI_pub h)) h.2.2.1 ((rl_iff r).mp hr) 0).1, LI_pEq h (uRun_pEq (mPub_rn (LI_pub h)) r 0)⟩
  · rw [if_neg hr, if_neg (fun z => hr ((rl_iff r).mpr z))]
    exact PV_no h refI2 _
theorem pv_without (h : LI S M) (r : Int32) : PV (r_without S r) (v_without M r) := by
  unfold r_without v_without
  by_cases hr : 0 ≤ r ∧ r ≤ 5
  · rw [if_pos hr, if_pos ((rl_iff r).mp hr)]
    have hp := mPub_rn (LI_pub h)
    obtain ⟨-, y, hy⟩ := R_run (RT_copy (A := hMind S) h.1.1) hp h.2.2.1 ((rl_iff r).mp hr) 0
    refine ⟨?_, LI_mind (LI_pEq h (uRun_pEq hp r 0)) _⟩
    have e1 : tHLF (hRun S r 0).2.2 (tYr (tCopy (hMind S) (hNow S))) = mS 36 (uRz M r 0).2 := R_without hp h.1.2.1 hy h.1.1.1.1.2.2.1
    have e2 : mS 36 (uRun M r 0).2 = mS 36 (uRz M r 0).2 := by
      obtain ⟨b1, -, -, -⟩ := uPA_back (show 1 ≤ 1 by omega) (uRz M r 0).2
      rw [show (nI 1 : Int32) = 1 from rfl] at b1
      exact b1 36 (by decide) (by decide) (by decide)
    have e0 : tYr (tCopy (hMind S) (hNow S)) = tYr (hNow S) := rfl
    rw [e0] at e1
    dsimp only
    rw [e2]
    exact e1
  · rw [if_neg hr, if_neg (fun z => hr ((rl_iff r).mpr z))]
    exact PV_no h refI2 _
theorem pv_strangers (h : LI S M) (r : Int32) : PV (r_strangers S r) (v_strangers M r) := by
  unfold r_strangers v_strangers
  by_cases hr : 0 ≤ r ∧ r ≤ 5
  · rw [if_pos hr, if_pos ((rl_iff r).mp hr)]
    have e : tSet (hNow S) 3 = mS 21 M := h.1.1.1.1.2.2.2.1.2.2.2
    rw [e]
    exact ⟨(R_run (RT_copy h.1.1) (mPub_rn (LI_pub h)) h.2.2.1 ((rl_iff r).mp hr) _).1, LI_pEq h (uRun_pEq (mPub_rn (LI_pub h)) r _)⟩
  · rw [if_neg hr, if_neg (fun z => hr ((rl_iff r).mpr z))]
    exact PV_no h refI2 _
theorem pv_byLaw (h : LI S M) (w r : Int32) : PV (r_byLaw S w r) (v_byLaw M w r) := by
  unfold r_byLaw v_byLaw
  by_cases hc : (0 ≤ w ∧ w ≤ 3) ∧ 0 ≤ r ∧ r ≤ 5
  · have hc2 : uIn w 0 3 = true ∧ 0 ≤ r ∧ r < 6 := ⟨decide_eq_true hc.1, (rl_iff r).mp hc.2⟩
    rw [if_pos hc, if_pos hc2]
    have hp : rnPre (msS 18 M w) := mPub_rn (mPub_law (LI_pub h) w)
    have hR : RT (tSettle (tCopy (hMind S) (hNow S)) 0 w) (msS 18 M w) := RT_set0 (RT_copy h.1.1) w
    exact ⟨(R_run hR hp (RR_S h.2.2.1 (by decide) w) hc2.2 0).1, LI_pEq h (pEq_set (by decide) (uRun_pEq hp r 0))⟩
  · have hc2 : ¬ (uIn w 0 3 = true ∧ 0 ≤ r ∧ r < 6) := fun z => hc ⟨of_decide_eq_true z.1, (rl_iff r).mpr z.2⟩
    rw [if_neg hc, if_neg hc2]
    exact PV_no h refI2 _
theorem pv_lasts (h : LI S M) (r hl : Int32) : PV (r_lasts S r hl) (v_lasts M r hl) := by
  unfold r_lasts v_lasts
  by_cases hr : 0 ≤ r ∧ r ≤ 5
  · rw [if_pos hr, if_pos ((rl_iff r).mp hr)]
    by_cases hw : hl < 0 ∨ 4 ≤ hl
    · rw [if_pos hw, if_neg (by rw [show uIn hl 0 3 = false from (uIn_f (b := 3) (by decide) hl).mp hw]; exact Bool.noConfusion)]
      exact PV_no h refI1 _
    · obtain ⟨e, k, hk, rfl⟩ := uIn_t (b := 3) (by decide) hw
      rw [if_neg hw, if_pos (show uIn (nI k) 0 3 = true from e)]
      have ep : tPp (hNow S) = mS 15 M := h.1.1.1.1.2.1
      rw [ep]
      by_cases h0 : mS 15 M = 0
      · rw [if_pos h0, if_pos h0]
        exact PV_no h refI3 _
      · rw [if_neg h0, if_neg h0]
        have hp := LI_pub h
        obtain ⟨k1, k2, k3, k4, k5⟩ := LI_keep h
        have hok := (mOK_keep hp.1).1
        have hFR : ∀ N, FR (uPA M 1 1) N → pEq M (uPA N 1 0) := fun N => FR_pEq h.2.1 hp.2.1
        unfold uLa hLast
        generalize uPA M 1 1 = N at k1 k2 k3 k4 k5 hok hFR ⊢
        have hRA : RA (tCopy (hMind S) (hNow S)) N := ⟨k1.1.1, k1.1.2.1, k5, k1.2.1.2, k3⟩
        generalize tCopy (hMind S) (hNow S) = T at hRA ⊢
        have hv := R_lasts ((rl_iff r).mp hr) (show k < 4 by omega) 30 0 T N hRA k2 (hpB_le hok.1 (by omega)) rfl
        have hs := FR_mlF (r := r) (h := nI k) ⟨k, by omega, rfl⟩ 30 0 N hok.2.2.2.1 k4 k5
        generalize laF (hRo S) (rowN (hRl S)) r (nI k) 30 0 T = A at hv ⊢
        generalize mlF r (nI k) 30 0 N = B at hv hs ⊢
        exact ⟨hv, LI_mind (LI_pEq h (hFR _ hs)) _⟩
  · rw [if_neg hr, if_neg (fun z => hr ((rl_iff r).mpr z))]
    exact PV_no h refI2 _
theorem pv_seeds (h : LI S M) (r n z : Int32) : PV (r_seeds S r n z) (v_seeds M r n z) := by
  unfold r_seeds v_seeds
  by_cases hr : 0 ≤ r ∧ r ≤ 5
  · rw [if_pos hr, if_pos ((rl_iff r).mp hr)]
    by_cases c1 : n < 1
    · rw [if_pos c1, if_pos c1]
      exact PV_no h refI4 _
    · rw [if_neg c1, if_neg c1]
      by_cases c2 : 10 < n
      · rw [if_pos c2, if_pos c2]
        exact PV_no h refI6 _
      · rw [if_neg c2, if_neg c2]
        have ep : tPp (hNow S) = mS 15 M := h.1.1.1.1.2.1
        rw [ep]
        by_cases h0 : mS 15 M = 0
        · rw [if_pos h0, if_pos h0]
          exact PV_no h refI3 _
        · rw [if_neg h0, if_neg h0]
          have hp := LI_pub h
          obtain ⟨k1, k2, k3, k4, k5⟩ := LI_keep h
          have hok := (mOK_keep hp.1).1
          obtain ⟨j, hj, rfl⟩ := nI_of (fun q : n < 0 => c1 (Int32.lt_trans q (by decide)))
          have hj10 : j ≤ 10 := by
            rcases Nat.lt_or_ge 10 j with q | q
            · exact absurd ((nI_ltJ (a := 10) (by decide) hj).mpr q) c2
            · exact q
          have e1 : ((nI j : Int32) * 3).toNatClampNeg = 3 * j := by
            rw [Int32.mul_comm, show (3 : Int32) = nI 3 from rfl, pk_mul, nI_clamp (by omega)]
          have e2 : ((3 : Int32) * nI j).toNatClampNeg = 3 * j := by
            rw [show (3 : Int32) = nI 3 from rfl, pk_mul, nI_clamp (by omega)]
          have ek : mS 15 (uPA M 1 1) = mS 15 M := by
            have := (uPA_keep (show 1 ≤ 1 by omega) M).1 15 (by decide) (by decide)
            exact this
          unfold uSd hSeed
          rw [e1, e2]
          have hFR : ∀ N, FR (uPA M 1 1) N → pEq M (uPA N 1 0) := fun N => FR_pEq h.2.1 hp.2.1
          generalize uPA M 1 1 = N at k1 k2 k3 k4 k5 hok ek hFR ⊢
          have hRA : RA (tCopy (hMind S) (hNow S)) (msS 44 N z) := RA_lots ⟨k1.1.1, k1.1.2.1, k5, k1.2.1.2, k3⟩ z
          have hv := R_seeds ((rl_iff r).mp hr) (3 * j) 0 0 _ (msS 44 N z) hRA (RR_S k2 (by decide) z) (hpB_le hok.1 (by omega)) (by omega) (by rw [mS_ne (by decide), ek]; exact h0)
          rw [show mS 44 (msS 44 N z) = z from by rw [mS_S, if_pos rfl]] at hv
          have hl : FR N (msS 44 N z) := FR_S k4 k5 (by decide) z
          have hs := FR_usF (r := r) (3 * j) 0 0 (msS 44 N z) (ppB_of hok.2.2.2.1 (mS_ne (by decide))) (by rw [mS_ne (by decide), ek]; exact h0) k4 k5
          have hs2 := hFR _ (FR_t hl hs)
          generalize usF r 0 (3 * j) 0 (msS 44 N z) = B at hv hs2 ⊢
          generalize tCopy (hMind S) (hNow S) = T at hv ⊢
          generalize sdF (hRo S) (rowN (hRl S)) r 0 (3 * j) z 0 T = A at hv ⊢
          exact ⟨hv, LI_mind (LI_pEq h hs2) _⟩
  · rw [if_neg hr, if_neg (fun z => hr ((rl_iff r).mpr z))]
    exact PV_no h refI2 _
theorem pv_judge (h : LI S M) : PV (r_judge S) (v_judge M) := by
  have hp := LI_pub h
  obtain ⟨k1, k2, k3, k4, k5⟩ := LI_keep h
  have hok := (mOK_keep hp.1).1
  have hFR : ∀ N, FR (uPA M 1 1) N → pEq M (uPA N 1 0) := fun N => FR_pEq h.2.1 hp.2.1
  unfold r_judge v_judge
  generalize uPA M 1 1 = N at k1 k2 k3 k4 k5 hok hFR ⊢
  generalize tCopy (hMind S) (hNow S) = T at k1 ⊢
  have hF : FR N (ujS N).2.2 := FR_ujN _ 0 0 _ ⟨Nat.zero_le _, hok, k5⟩ (Nat.zero_add _)
  have hE := LI_pEq h (hFR _ hF)
  have hv := R_judge k1 k2 hok
  generalize ujS N = B at hv hE ⊢
  generalize jN (hRo S) (rowN (hRl S)) 0 (tNeeds T) 0 T = A at hv ⊢
  exact ⟨hv, LI_clear (LI_mind hE _)⟩
end RUNS
end
