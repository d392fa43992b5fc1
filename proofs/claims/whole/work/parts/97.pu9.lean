noncomputable section
theorem uAns_Sk (i : Nat) (hi : ¬ i = 17) (M : MS) (r : Int32) : mS i (uAns M r).2 = mS i M := uAns_S i hi M r
theorem uAns_A (i : Nat) (hi : i < 9 ∨ 14 < i) (M : MS) (r : Int32) : mA i (uAns M r).2 = mA i M := by
  unfold uAns
  split
  · rfl
  · dsimp only
    exact uW_A i hi _ _ _ _ _
theorem RR_ans {ro : Nat → Int32} {rl : Int32} {M : MS} (h : RR ro rl M) (p k g r : Int32) : RR ro rl (uAns (uAsk M p k g) r).2 := RR_of h ((uAns_Sk 35 (by decide) _ r).trans rfl) ((uAns_A 34 (by omega) _ r).trans (uAsk_A 34 (by omega) M p k g))
theorem hpB_ans {M : MS} {b : Nat} (h : hpB b M) (p k g r : Int32) : hpB (b + 1) (uAns (uAsk M p k g) r).2 := by
  have h0 : hpB b (uAsk M p k g) := h
  unfold uAns
  split
  · exact hpB_le h0 (by omega)
  · dsimp only
    exact hpB_W h0 _ _ _ _
theorem uOne_pp {M M2 : MS} (h : mS 15 M2 = mS 15 M) (p : Int32) : uOne M2 p = uOne M p := by unfold uOne; rw [h]
theorem uOne_lt {M : MS} (h : ppB M) {k : Nat} (hk : k < uPeople M) : uOne M (nI k) = true := by
  obtain ⟨e1, e2⟩ := ppB_c h
  unfold uOne
  rw [e1]
  exact decide_eq_true ⟨nI_nlt0 (by omega), (nI_ltJ (by omega) (by omega)).mpr hk⟩
/-- a year of LASTS -/
theorem R_year {ro : Nat → Int32} {rl : Int32} {r : Int32} (hr : isRl r) {hl : Nat} (hh : hl < 4) : ∀ (m k b : Nat) (T : TS) (M : MS), RA T M → RR ro rl M → hpB b M → b + m ≤ 270 → k + m = uPeople M →
    (ahF ro (rowN rl) r (nI hl) k m T).1 = (uLY r (nI hl) k m M).1 ∧ ((uLY r (nI hl) k m M).1 = true → RA (tsYr (ahF ro (rowN rl) r (nI hl) k m T).2 (tYr (ahF ro (rowN rl) r (nI hl) k m T).2 + 1)) (uLY r (nI hl) k m M).2 ∧ RR ro rl (uLY r (nI hl) k m M).2 ∧ hpB (b + m) (uLY r (nI hl) k m M).2 ∧ uPeople (uLY r (nI hl) k m M).2 = uPeople M) := by
  intro m
  induction m with
  | zero =>
    intro k b T M h hrr hb _ _
    refine ⟨rfl, fun _ => ⟨?_, RR_of hrr (mS_ne (by decide)) rfl, hb, rfl⟩⟩
    obtain ⟨⟨a1, a2, a3, a4, a5⟩, q2, q3, q4, q5⟩ := h
    refine ⟨⟨a1, a2, ?_, a4, a5⟩, q2, q3, q4, q5⟩
    show tYr T + 1 = mS 22 M + 1
    rw [a3]
  | succ m ih =>
    intro k b T M h hrr hb hbm hk
    have hp7 := (ppB_c h.1.2.2.2.2).2
    have h1 := uOne_lt h.1.2.2.2.2 (show k < uPeople M by omega)
    rw [ahF_s, uLY_s]
    have e5 : (5 : Int32) = nI 5 := rfl
    rcases RA_ans h hb (by omega) (show k < 7 by omega) h1 hh (gn := 5) (by decide) hrr hr with ⟨c1, c2⟩ | ⟨c1, ⟨v, hv, c2, c3⟩, c4⟩
    · rw [e5, if_pos c1, c2, if_pos (show ((-1 : Int32), uAsk M (nI k) (nI hl) (nI 5)).1 < 0 from by show (-1 : Int32) < 0; decide)]
      exact ⟨rfl, fun z => absurd z Bool.false_ne_true⟩
    · have c5 : ¬ (uAns (uAsk M (nI k) (nI hl) (nI 5)) r).1 < 0 := by rw [c3]; exact nI_nlt0 (by omega)
      have ep : uPeople (uAns (uAsk M (nI k) (nI hl) (nI 5)) r).2 = uPeople M := by unfold uPeople; rw [uAns_Sk 15 (by decide)]; rfl
      rw [e5, if_neg c1, if_neg c5]
      have := ih (k + 1) (b + 1) _ _ c4 (RR_ans hrr _ _ _ r) (hpB_ans hb _ _ _ r) (by omega) (by rw [ep]; omega)
      rw [ep, show b + 1 + m = b + (m + 1) by omega] at this
      exact this
theorem R_lasts {ro : Nat → Int32} {rl : Int32} {r : Int32} (hr : isRl r) {hl : Nat} (hh : hl < 4) : ∀ (m y : Nat) (T : TS) (M : MS), RA T M → RR ro rl M → hpB (60 + 7 * y) M → m + y = 30 → nI (laF ro (rowN rl) r (nI hl) m y T).1 = (mlF r (nI hl) m y M).1 := by
  intro m
  induction m with
  | zero => exact fun y T M _ _ _ _ => rfl
  | succ m ih =>
    intro y T M h hrr hb hm
    have hp7 := (ppB_c h.1.2.2.2.2).2
    have ep : tPeople T = uPeople M := by unfold tPeople uPeople; rw [h.1.2.1]
    obtain ⟨o1, o2⟩ := R_year hr hh (uPeople M) 0 (60 + 7 * y) T M h hrr hb (by omega) (by omega)
    rw [laF_s, mlF_s, ep]
    cases hc : (uLY r (nI hl) 0 (uPeople M) M).1
    · rw [hc] at o1
      rw [if_pos o1, if_neg Bool.false_ne_true]
    · rw [hc] at o1
      obtain ⟨a1, a2, a3, a4⟩ := o2 hc
      rw [if_neg (by rw [o1]; exact Bool.noConfusion), if_pos rfl]
      exact ih (y + 1) _ _ a1 a2 (hpB_le a3 (by omega)) (by omega)
/-- one drawn need -/
theorem sdT_e {T : TS} {M : MS} (h : RA T M) (h0 : ¬ mS 15 M = 0) : ∃ p k g, p < 7 ∧ k < 4 ∧ g ≤ 9 ∧ uOne M (nI p) = true ∧ sdT T (mS 44 M) = tOnly T (nI p) (nI k) (nI g) ∧ sdQ M = uAsk (sdA (sdA (sdA M))) (nI p) (nI k) (nI g) := by
  obtain ⟨e1, e2⟩ := ppB_c h.1.2.2.2.2
  have hp : 0 < uPeople M := Nat.pos_of_ne_zero (fun z => h0 (by rw [e1, z]; rfl))
  obtain ⟨p, hp1, ep⟩ := drawF_ix (nxSeed (mS 44 M)) hp (by omega)
  obtain ⟨k, hk, ek⟩ : ixB 4 (drawF (nxSeed (nxSeed (mS 44 M))) 4) := drawF_ix _ (k := 4) (by decide) (by decide)
  obtain ⟨g, hg, eg⟩ : ixB 9 (drawF (nxSeed (nxSeed (nxSeed (mS 44 M)))) 9) := drawF_ix _ (k := 9) (by decide) (by decide)
  have e1g : (1 : Int32) + nI g = nI (1 + g) := nI_add 1 g
  refine ⟨p, k, 1 + g, by omega, hk, by omega, uOne_lt h.1.2.2.2.2 hp1, ?_, ?_⟩
  · unfold sdT
    rw [h.1.2.1, if_pos (by rw [e1]; exact (nI_ltJ (a := 0) (by omega) (by omega)).mpr hp), e1, ep, ek, eg, e1g]
  · unfold sdQ
    have l1 : mS 44 (sdA M) = nxSeed (mS 44 M) := by unfold sdA; rw [mS_S, if_pos rfl]
    have l2 : mS 44 (sdA (sdA M)) = nxSeed (nxSeed (mS 44 M)) := by
      show mS 44 (msS 44 (sdA M) (nxSeed (mS 44 (sdA M)))) = _
      rw [mS_S, if_pos rfl, l1]
    rw [l1, l2, e1, ep, ek, eg, e1g]
theorem RA_lots {T : TS} {M : MS} (h : RA T M) (v : Int32) : RA T (msS 44 M v) := by
  obtain ⟨⟨a1, a2, a3, a4, a5⟩, q2, q3, q4, q5⟩ := h
  refine ⟨⟨a1, ?_, ?_, ?_, ppB_of a5 (mS_ne (by decide))⟩, ⟨q2.1.trans (mS_ne (by decide)).symm, hpB_of q2.2.1 (mS_ne (by decide)), fun k hk => ?_⟩, q3, nnB_of q4 (mS_ne (by decide)), q5⟩
  · rw [mS_ne (by decide)]; exact a2
  · rw [mS_ne (by decide)]; exact a3
  · rw [mS_ne (by decide), mS_ne (by decide), mS_ne (by decide), mS_ne (by decide)]; exact a4
  · have e : uHelps (msS 44 M v) = uHelps M := by unfold uHelps; rw [mS_ne (by decide)]
    rw [e] at hk
    exact q2.2.2 k hk
theorem R_seeds {ro : Nat → Int32} {rl : Int32} {r : Int32} (hr : isRl r) : ∀ (m k : Nat) (sm : Int32) (T : TS) (M : MS), RA T M → RR ro rl M → hpB (60 + k) M → k + m ≤ 30 → ¬ mS 15 M = 0 → (sdF ro (rowN rl) r k m (mS 44 M) sm T).1 = (usF r k m sm M).1 := by
  intro m
  induction m with
  | zero => exact fun k sm T M _ _ _ _ _ => rfl
  | succ m ih =>
    intro k sm T M h hrr hb hkm h0
    obtain ⟨p, c, g, hp, hc, hg, h1, eT, eM⟩ := sdT_e h h0
    have hA : RA T (sdA (sdA (sdA M))) := RA_lots (RA_lots (RA_lots h _) _) _
    have hrA : RR ro rl (sdA (sdA (sdA M))) := RR_S (RR_S (RR_S hrr (by decide) _) (by decide) _) (by decide) _
    have hbA : hpB (60 + k) (sdA (sdA (sdA M))) := hb
    have h1A : uOne (sdA (sdA (sdA M))) (nI p) = true := h1
    have l1 : ∀ N : MS, mS 44 (sdA N) = nxSeed (mS 44 N) := fun N => by unfold sdA; rw [mS_S, if_pos rfl]
    have lA : mS 44 (sdA (sdA (sdA M))) = nxSeed (nxSeed (nxSeed (mS 44 M))) := by rw [l1, l1, l1]
    have hpA : ¬ mS 15 (sdA (sdA (sdA M))) = 0 := h0
    rw [sdF_s, usF_s, eT, eM]
    generalize sdA (sdA (sdA M)) = N at *
    have hlots : mS 44 (uAns (uAsk N (nI p) (nI c) (nI g)) r).2 = nxSeed (nxSeed (nxSeed (mS 44 M))) := by rw [uAns_Sk 44 (by decide)]; exact lA
    have hpeo : mS 15 (uAns (uAsk N (nI p) (nI c) (nI g)) r).2 = mS 15 N := (uAns_Sk 15 (by decide) _ r).trans rfl
    have stepZ : ∀ (T2 : TS) (N2 : MS), RQ T2 N2 ∧ RK T2 N2 ∧ haB N2 ∧ nnB N2 ∧ VP N2 → RA (sdY k T2) (sdZ k N2) := fun T2 N2 hz => by
      unfold sdY sdZ
      by_cases e : nI k - nI k / 3 * 3 = 2
      · rw [if_pos e, if_pos e]
        obtain ⟨⟨a1, a2, a3, a4, a5⟩, q2, q3, q4, q5⟩ := hz
        refine ⟨⟨a1, a2, ?_, a4, a5⟩, q2, q3, q4, q5⟩
        show tYr T2 + 1 = mS 22 N2 + 1
        rw [a3]
      · rw [if_neg e, if_neg e]
        exact hz
    have zS : ∀ (i : Nat), ¬ i = 22 → ∀ N2, mS i (sdZ k N2) = mS i N2 := fun i hi N2 => by
      unfold sdZ
      split
      · exact mS_ne hi
      · rfl
    have zA : ∀ (i : Nat) (N2 : MS), mA i (sdZ k N2) = mA i N2 := fun i N2 => by
      unfold sdZ
      split <;> rfl
    have hb2 := hpB_ans hbA (nI p) (nI c) (nI g) r
    have hr2 := RR_ans hrA (nI p) (nI c) (nI g) r
    rcases RA_ans hA hbA (by omega) hp h1A hc hg hrA hr with ⟨c1, c2⟩ | ⟨c1, ⟨v, hv, c2, c3⟩, c4⟩
    · -- nobody does it: what was asked stays behind in both, and nobody looks at it again
      have hq : RQ (tOnly T (nI p) (nI c) (nI g)) (uAsk N (nI p) (nI c) (nI g)) ∧ RK (tOnly T (nI p) (nI c) (nI g)) (uAsk N (nI p) (nI c) (nI g)) ∧ haB (uAsk N (nI p) (nI c) (nI g)) ∧ nnB (uAsk N (nI p) (nI c) (nI g)) ∧ VP (uAsk N (nI p) (nI c) (nI g)) := by
        have hC := RA_ask hA hp h1A hc (nI g)
        refine ⟨hC.1.1, hC.1.2.1, hC.1.2.2, hA.2.2.2.1, fun j hj => ?_, fun j hj => ?_⟩
        · rw [uAsk_A 2 (by omega)]; exact hA.2.2.2.2.1 j hj
        · rw [uAsk_A 3 (by omega)]; exact hA.2.2.2.2.2 j hj
      rw [if_pos c1]
      have hres := ih (k + 1) (sm + (if (uAns (uAsk N (nI p) (nI c) (nI g)) r).1 < 0 then 0 else (uAns (uAsk N (nI p) (nI c) (nI g)) r).1)) (sdY k (tOnly T (nI p) (nI c) (nI g))) (sdZ k (uAns (uAsk N (nI p) (nI c) (nI g)) r).2) (stepZ _ _ (by rw [c2]; exact hq)) (RR_of hr2 (zS 35 (by decide) _) (zA 34 _)) (hpB_of hb2 (zS 17 (by decide) _)) (by omega) (by rw [zS 15 (by decide), hpeo]; exact hpA)
      rw [zS 44 (by decide), hlots] at hres
      rw [← hres, c2, if_pos (show ((-1 : Int32), uAsk N (nI p) (nI c) (nI g)).1 < 0 from by show (-1 : Int32) < 0; decide), Int32.add_zero]
    · rw [if_neg c1]
      have hres := ih (k + 1) (sm + (if (uAns (uAsk N (nI p) (nI c) (nI g)) r).1 < 0 then 0 else (uAns (uAsk N (nI p) (nI c) (nI g)) r).1)) (sdY k (tDo (tOnly T (nI p) (nI c) (nI g)) (cChose ro (rowN rl) (tOnly T (nI p) (nI c) (nI g)) r 0) 0)) (sdZ k (uAns (uAsk N (nI p) (nI c) (nI g)) r).2) (stepZ _ _ c4) (RR_of hr2 (zS 35 (by decide) _) (zA 34 _)) (hpB_of hb2 (zS 17 (by decide) _)) (by omega) (by rw [zS 15 (by decide), hpeo]; exact hpA)
      rw [zS 44 (by decide), hlots] at hres
      rw [← hres, c2, c3, if_neg (nI_nlt0 (by omega))]
end
