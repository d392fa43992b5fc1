noncomputable section
theorem pEq_t {A B C : MS} (h : pEq A B) (k : pEq B C) : pEq A C := ⟨⟨fun i hi => (k.1.1 i hi).trans (h.1.1 i hi), fun i hi => (k.1.2 i hi).trans (h.1.2 i hi)⟩, ⟨fun q hq j hj => (k.2.1.1 q hq j hj).trans (h.2.1.1 q hq j hj), fun i hi => (k.2.1.2 i hi).trans (h.2.1.2 i hi)⟩, fun j hj => (k.2.2.1 j hj).trans (h.2.2.1 j hj), k.2.2.2⟩
theorem pEq_r {M : MS} (hw : nwB M) (hh : haB M) : pEq M M := ⟨⟨fun _ _ => rfl, fun _ _ => rfl⟩, ⟨fun _ _ _ _ => rfl, fun _ _ => rfl⟩, fun _ _ => rfl, hw, hh⟩
theorem pEq_pl {M N : MS} {a : Nat} {v : Int32} (e : pEq (maA 2 M a v) N) (w : Int32) : pEq (maA 2 M a w) (maA 2 N a w) := by
  obtain ⟨⟨e1, e2⟩, ⟨e3, e4⟩, e5, e6, e7⟩ := e
  refine ⟨⟨fun j hj => e1 j hj, fun j hj => ?_⟩, ⟨fun q hq j hj => ?_, fun j hj => e4 j hj⟩, fun j hj => ?_, e6, e7⟩
  · have := e2 j hj
    rw [mA_a, if_neg (by omega)] at this ⊢
    rw [mA_a, if_neg (by omega)]
    exact this
  · have := e3 q hq j hj
    by_cases eq : q.1 = 2
    · rw [eq, mA_a, if_pos rfl] at this ⊢
      rw [mA_a, if_pos rfl]
      by_cases ej : j = a
      · rw [ej, upd_eq, upd_eq]
      · rw [upd_ne ej] at this ⊢
        rw [upd_ne ej]
        exact this
    · rw [mA_a, if_neg eq] at this ⊢
      rw [mA_a, if_neg eq]
      exact this
  · have := e5 j hj
    rw [mA_a, if_neg (by decide)] at this ⊢
    rw [mA_a, if_neg (by decide)]
    exact this
theorem pEq_sz {Y N : MS} {i : Nat} (hi : 15 ≤ i ∧ i ≤ 22) {v : Int32} (e : pEq (msS i Y v) N) (w : Int32) : pEq (msS i Y w) (msS i N w) := by
  obtain ⟨⟨e1, e2⟩, ⟨e3, e4⟩, e5, e6, e7⟩ := e
  refine ⟨⟨fun j hj => ?_, fun j hj => e2 j hj⟩, ⟨fun q hq j hj => e3 q hq j hj, fun j hj => ?_⟩, fun j hj => e5 j hj, e6, e7⟩
  · have := e1 j hj
    rw [mS_ne (by omega)] at this ⊢
    rw [mS_ne (by omega)]
    exact this
  · by_cases ej : 15 + j = i
    · rw [ej, mS_S, mS_S, if_pos rfl, if_pos rfl]
    · have := e4 j hj
      rw [mS_ne ej] at this ⊢
      rw [mS_ne ej]
      exact this
theorem maA_same (i : Nat) (M : MS) (a : Nat) : maA i M a (mA i M a) = M := by
  have h1 : ∀ s : MS, s = (fun j => mS j s, fun j => mA j s) := fun _ => rfl
  rw [h1 (maA i M a (mA i M a)), h1 M]
  refine congrArg (Prod.mk _) (funext (fun j => ?_))
  rw [mA_a]
  by_cases e : j = i
  · rw [if_pos e]
    subst e
    funext k
    by_cases ek : k = a
    · rw [ek, upd_eq]; rfl
    · rw [upd_ne ek]; rfl
  · rw [if_neg e]; rfl
theorem msS_comm {i j : Nat} (h : ¬ i = j) (M : MS) (v w : Int32) : msS i (msS j M v) w = msS j (msS i M w) v := by
  have h1 : ∀ s : MS, s = (fun j => mS j s, fun j => mA j s) := fun _ => rfl
  rw [h1 (msS i (msS j M v) w), h1 (msS j (msS i M w) v)]
  refine Prod.ext (funext (fun k => ?_)) rfl
  show mS k (msS i (msS j M v) w) = mS k (msS j (msS i M w) v)
  rw [mS_S, mS_S, mS_S, mS_S]
  by_cases e1 : k = i
  · rw [if_pos e1, if_neg (fun z => h (e1.symm.trans z)), if_pos e1]
  · rw [if_neg e1, if_neg e1]
section RUNS
variable {S : HS} {M : MS}
theorem bp_loop (h : LI S M) {a : Nat} (ha : a < 7) : ∀ (j k : Nat) (b m : Int32) (T : TS) (N : MS) (v : Int32), pEq (maA 2 M a v) N → k + j = 10 → (bpF (hRo S) (rowN (hRl S)) (hNow S) (nI a) k j b m T).1 = (uBp a k j b m N).1 ∧ ∃ v2, pEq (maA 2 M a v2) (uBp a k j b m N).2 := by
  intro j
  induction j with
  | zero => exact fun k b m T N v e _ => ⟨rfl, v, e⟩
  | succ j ih =>
    intro k b m T N v e hk
    have e2 := pEq_pl e (nI (10 * k))
    have hw := TW_move (TW_copy (A := T) h.1) ha (show 10 * k ≤ 99 by omega)
    have hw2 := TW_eqT hw e2.2.1 e2.2.2.2.2
    have hp : mPub (maA 2 N a (nI (10 * k))) := pEq_pub (mPub_place (LI_pub h) a _) e2
    have hv := (R_run hw2.1 (mPub_rn hp) (RR_of h.2.2.1 (e2.1.1 35 (by omega)) ((e2.1.2 34 (by omega)).trans (by rw [mA_a, if_neg (by decide)]))) (rule := 1) ⟨by decide, by decide⟩ 0).1
    have e3 := pEq_t e2 (uRun_pEq (mPub_rn hp) 1 0)
    rw [bpF_s, uBp_s, hv]
    generalize runF (hRo S) (rowN (hRl S)) 1 0 (tPutP (tCopy T (hNow S)) (nI a) 1 (nI (10 * k))) = A at hv ⊢
    generalize uRun (maA 2 N a (nI (10 * k))) 1 0 = B at hv e3 ⊢
    split
    · exact ih (k + 1) _ _ _ _ _ e3 (by omega)
    · exact ih (k + 1) _ _ _ _ _ e3 (by omega)
theorem pv_bestPlace (h : LI S M) (p : Int32) : PV (r_bestPlace S p) (v_bestPlace M p) := by
  have hq := h.1.1.1.1
  have hp := LI_pub h
  unfold r_bestPlace v_bestPlace
  rw [RQ_P hq]
  cases hc : uOne M p
  · rw [if_pos rfl, if_pos rfl]
    exact PV_no h refI1 _
  · rw [if_neg (show ¬ (true = false) from Bool.noConfusion), if_neg (show ¬ (true = false) from Bool.noConfusion)]
    obtain ⟨a, ha, rfl⟩ := uOne_ix hq.2.2.2.2 hc
    rw [nI_clamp (show a < 2 ^ 31 by omega)]
    unfold hBest
    obtain ⟨l1, v2, l2⟩ := bp_loop h ha 10 0 0 (-1) (hMind S) M (mA 2 M a) (by rw [maA_same]; exact pEq_r h.2.1 hp.2.1) rfl
    have l3 := pEq_pl l2 (mA 2 M a)
    rw [maA_same] at l3
    generalize bpF (hRo S) (rowN (hRl S)) (hNow S) (nI a) 0 10 0 (-1) (hMind S) = A at l1 ⊢
    generalize uBp a 0 10 0 (-1) M = B at l1 l3 ⊢
    exact ⟨l1, LI_mind (LI_pEq h l3) _⟩
theorem sz_loop (h : LI S M) : ∀ (j k : Nat) (b m : Int32) (T : TS) (N : MS) (v : Int32), pEq (msS 20 (msS 18 M 3) v) N → k + j = 10 → (szF (hRo S) (rowN (hRl S)) (hNow S) k j b m T).1 = (uSm k j b m N).1 ∧ ∃ v2, pEq (msS 20 (msS 18 M 3) v2) (uSm k j b m N).2 := by
  intro j
  induction j with
  | zero => exact fun k b m T N v e _ => ⟨rfl, v, e⟩
  | succ j ih =>
    intro k b m T N v e hk
    have e2 := pEq_sz (by decide) e (nI k)
    have hw : TW (tSettle (tSettle (tCopy T (hNow S)) 0 3) 2 (nI k)) (msS 20 (msS 18 M 3) (nI k)) := ⟨RT_set2 (RT_set0 (RT_copy h.1.1) 3) (nI k), h.1.2⟩
    have hw2 := TW_eqT hw e2.2.1 e2.2.2.2.2
    have hp : mPub (msS 20 N (nI k)) := pEq_pub (mPub_size (mPub_law (LI_pub h) 3) _) e2
    have hv := (R_run hw2.1 (mPub_rn hp) (RR_of h.2.2.1 ((e2.1.1 35 (by omega)).trans (by rw [mS_ne (by decide), mS_ne (by decide)])) (e2.1.2 34 (by omega))) (rule := 1) ⟨by decide, by decide⟩ 0).1
    have e3 := pEq_t e2 (uRun_pEq (mPub_rn hp) 1 0)
    rw [szF_s, uSm_s, hv]
    generalize runF (hRo S) (rowN (hRl S)) 1 0 (tSettle (tSettle (tCopy T (hNow S)) 0 3) 2 (nI k)) = A at hv ⊢
    generalize uRun (msS 20 N (nI k)) 1 0 = B at hv e3 ⊢
    split
    · exact ih (k + 1) _ _ _ _ _ e3 (by omega)
    · exact ih (k + 1) _ _ _ _ _ e3 (by omega)
theorem pv_smallest (h : LI S M) : PV ((hSmall S).1, hsMind S (hSmall S).2) (v_smallest M) := by
  have hp := LI_pub h
  have e0 : msS 20 (msS 18 M 3) (mS 20 M) = msS 18 M 3 := msS_e 20 (msS 18 M 3)
  obtain ⟨l1, v2, l2⟩ := sz_loop h 10 0 0 (-1) (hMind S) (msS 18 M 3) (mS 20 M) (by rw [e0]; exact pEq_r h.2.1 hp.2.1) rfl
  unfold hSmall v_smallest uSz
  generalize szF (hRo S) (rowN (hRl S)) (hNow S) 0 10 0 (-1) (hMind S) = A at l1 ⊢
  generalize uSm 0 10 0 (-1) (msS 18 M 3) = B at l1 l2 ⊢
  have l3 := pEq_set (by decide) l2
  have l4 := pEq_set (by decide) l3
  rw [mS_ne (show ¬ 20 = 18 by decide), msS_comm (show ¬ 18 = 20 by decide)] at l4
  exact ⟨l1, LI_mind (LI_pEq h l4) _⟩
end RUNS
end
