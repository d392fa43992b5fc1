noncomputable section
theorem uHas_back {M : MS} {H : Nat} (h : uHelps M = H + 1) (hb : H < 2 ^ 30) (p n : Int32) : uHas M p n = (uHas (uBack M) p n || (decide (mA 14 M H = n) && decide (mA 10 M H = p))) := by
  have e : uHelps (uBack M) = H := by
    have h0 : mS 17 M = nI (H + 1) := by
      have hx : (mS 17 M).toNatClampNeg = H + 1 := h
      have h1 : ¬ mS 17 M < 0 := fun z => by
        have : (mS 17 M).toInt.toNat = H + 1 := hx
        rw [Int32.lt_iff_toInt_lt] at z
        have z : (mS 17 M).toInt < 0 := z
        omega
      obtain ⟨j, hj, ej⟩ := nI_of h1
      rw [ej, nI_clamp hj] at hx
      rw [ej, hx]
    unfold uHelps
    rw [uBack_S, if_pos rfl, h0, show nI (H + 1) - 1 = nI H from nI_sub (a := H + 1) (b := 1) (by omega), nI_clamp (by omega)]
  unfold uHas
  rw [e, h, uBack_A 14 (by decide), uBack_A 10 (by decide), List.range_succ, List.any_append]
  simp only [List.any_cons, List.any_nil, Bool.or_false]
theorem uBack_9 (M : MS) : mA 9 (uBack M) = if mA 14 M (mS 17 M - 1).toNatClampNeg < 0 then mA 9 M else upd (mA 9 M) (mA 14 M (mS 17 M - 1).toNatClampNeg).toNatClampNeg (mA 9 M (mA 14 M (mS 17 M - 1).toNatClampNeg).toNatClampNeg - 1) := by
  unfold uBack
  split
  · rfl
  · rw [mA_a, if_pos rfl]
    rfl
/-- the last help is taken back -/
theorem RT_back {T : TS} {M : MS} (h : RT T M) {H : Nat} (eH : uHelps M = H + 1) : RT (tBack T) (uBack M) := by
  obtain ⟨⟨h1, h2, h3⟩, ⟨h4, h5⟩, h6, h7, h8⟩ := h
  obtain ⟨e0, hH⟩ := hpB_c h2.2.1 (by decide)
  rw [eH] at e0 hH
  have em : mS 17 M - 1 = nI H := by rw [e0]; exact nI_sub (a := H + 1) (b := 1) (by omega)
  have eT : tHh T = nI (H + 1) := h2.1.trans e0
  obtain ⟨k1, k2, k3⟩ := h8.1 H (by omega)
  obtain ⟨kb, -, -, -⟩ := h2.2.2 H (by omega)
  have eB : tBack T = tPutN (tsHh T (nI H)) (mA 14 M H) 5 (tOfN T (mA 14 M H) 5 &&& (tBit (mA 10 M H) ^^^ (-1))) := by
    unfold tBack
    rw [eT, if_neg ?_, show nI (H + 1) - 1 = nI H from nI_sub (a := H + 1) (b := 1) (by omega), nI_clamp (by omega), k1, kb]
    rintro (z | z)
    · have z : nI (H + 1) ≤ nI 0 := z
      rw [nI_leJ (by omega) (by decide)] at z
      omega
    · have z : nI 270 < nI (H + 1) := z
      rw [nI_ltJ (by decide) (by omega)] at z
      omega
  have eHb : uHelps (uBack M) = H := by unfold uHelps; rw [uBack_S, if_pos rfl, em, nI_clamp (by omega)]
  have eS : ∀ i, ¬ i = 17 → mS i (uBack M) = mS i M := fun i hi => by rw [uBack_S, if_neg hi]
  have eA : ∀ i, ¬ i = 9 → mA i (uBack M) = mA i M := fun i hi => uBack_A i hi M
  have en : uNeeds (uBack M) = uNeeds M := by unfold uNeeds; rw [eS 16 (by decide)]
  have e9 := uBack_9 M
  rw [em, nI_clamp (by omega)] at e9
  have hbk : ∀ T2 : TS, tBt T2 = tBt T → BK T2 (uBack M) := fun T2 e2 => by
    refine ⟨fun k hk => ?_, fun k j hjk hk => ?_⟩
    · rw [eHb] at hk
      rw [e2, eA 14 (by decide), eA 10 (by decide)]
      exact h8.1 k (by omega)
    · rw [eHb] at hk
      rw [eA 14 (by decide), eA 10 (by decide)]
      exact h8.2 k j hjk (by omega)
  have hq : ∀ T2 : TS, tPt T2 = tPt T → tPp T2 = tPp T → tYr T2 = tYr T → tSe T2 = tSe T → RQ T2 (uBack M) := fun T2 a b c d => by
    refine ⟨fun p hp => ?_, ?_, ?_, ?_, ppB_of h1.2.2.2.2 (eS 15 (by decide))⟩
    · rw [a, eA 1 (by decide), eA 2 (by decide), eA 3 (by decide)]; exact h1.1 p hp
    · rw [b, eS 15 (by decide)]; exact h1.2.1
    · rw [c, eS 22 (by decide)]; exact h1.2.2.1
    · rw [d, eS 18 (by decide), eS 19 (by decide), eS 20 (by decide), eS 21 (by decide)]; exact h1.2.2.2.1
  have hk2 : ∀ T2 : TS, tBt T2 = tBt T → tHh T2 = nI H → RK T2 (uBack M) := fun T2 a b => by
    refine ⟨by rw [b, uBack_S, if_pos rfl, em], ⟨H, by omega, by rw [uBack_S, if_pos rfl, em]⟩, fun k hk => ?_⟩
    rw [eHb] at hk
    rw [a, eA 10 (by decide), eA 11 (by decide), eA 12 (by decide), eA 13 (by decide)]
    exact h2.2.2 k (by omega)
  have h7' : ∀ n, n < uNeeds (uBack M) → uOne (uBack M) (mA 4 (uBack M) n) = true := fun n hn => by
    rw [en] at hn
    unfold uOne
    rw [eA 4 (by decide), eS 15 (by decide)]
    exact h7 n hn
  have hn' : nnB (uBack M) := nnB_of h5 (eS 16 (by decide))
  have hhas := fun p m => uHas_back eH (by omega) p m
  rcases k2 with k2 | ⟨n, hn, k2⟩
  · -- a help that belongs to no need
    have e1 : tBack T = tsHh T (nI H) := by
      rw [eB, k2]
      unfold tPutN
      rw [if_pos (Or.inl (by decide))]
    rw [e1]
    rw [k2, if_pos (by decide)] at e9
    refine ⟨⟨hq _ rfl rfl rfl rfl, hk2 _ rfl rfl, fun j hj => by rw [eA 7 (by decide), e9]; exact h3 j hj⟩, ⟨by rw [eS 16 (by decide)]; exact h4, hn'⟩, fun m hm => ?_, h7', hbk _ rfl⟩
    obtain ⟨i1, i2, i3, x, x1, x2, x3, x4⟩ := h6 m hm
    refine ⟨i1, ?_, ?_, x, x1, x2, by rw [e9]; exact x3, fun p hp => ?_⟩
    · rw [eA 4 (by decide), eA 5 (by decide), eA 6 (by decide), eA 7 (by decide), eA 8 (by decide)]; exact i2
    · rw [eA 4 (by decide), eA 5 (by decide)]; exact i3
    · rw [x4 p hp]
      unfold hsF
      rw [hhas, k2, decide_eq_false (show ¬ (-1 : Int32) = nI m from fun z => nI_nlt0 (a := m) (by omega) (by rw [← z]; decide)), Bool.false_and, Bool.or_false]
  · obtain ⟨j, hj, kj⟩ := k3
    obtain ⟨i1, i2, i3, x, x1, x2, x3, x4⟩ := h6 n hn
    have hone : hsF M n j = true := by
      unfold hsF
      rw [decide_eq_false (show ¬ n = 12 by omega), hhas, k2, kj, decide_eq_true rfl, decide_eq_true rfl, Bool.and_true, Bool.or_true]
      rfl
    have hxj : x.testBit j = true := by rw [x4 j hj]; exact hone
    have hfresh : hsF (uBack M) n j = false := by
      have hne : uHas (uBack M) (nI j) (nI n) = false := by
        cases hu : uHas (uBack M) (nI j) (nI n)
        · rfl
        · unfold uHas at hu
          rw [eHb, eA 14 (by decide), eA 10 (by decide)] at hu
          obtain ⟨i, hi, hi2⟩ := List.any_eq_true.mp hu
          rw [Bool.and_eq_true] at hi2
          exact absurd ⟨(of_decide_eq_true hi2.1).trans k2.symm, (of_decide_eq_true hi2.2).trans kj.symm⟩ (h8.2 H i (List.mem_range.mp hi) (by omega) (by rw [k2]; intro z; exact nI_nlt0 (a := n) (by omega) (by rw [z]; decide)))
      unfold hsF
      rw [hne, Bool.and_false]
    have epop := pop_cl x x1 j hj hxj
    have ehad : mA 9 M n - 1 = nI (pop7 (x &&& (127 ^^^ 2 ^ j))) := by
      rw [x3, ← epop]
      exact nI_sub (a := pop7 (x &&& (127 ^^^ 2 ^ j)) + 1) (b := 1) (by omega)
    have hp7 := pop_le x x1
    rw [k2, if_neg (nI_nlt0 (by omega)), nI_clamp (by omega), ehad] at e9
    have e1 : tBack T = taNt (tsHh T (nI H)) (n * 6 + 5) (nI (x &&& (127 ^^^ 2 ^ j))) := by
      rw [eB, k2, kj, show (5 : Int32) = nI 5 from rfl, tPutN_n _ _ hn (show 5 < 6 by decide), tOfN_n _ hn (show 5 < 6 by decide), x2, (bit_cl x x1 j hj).1]
    rw [e1]
    refine ⟨⟨hq _ rfl rfl rfl rfl, hk2 _ rfl rfl, fun m hm => ?_⟩, ⟨by rw [eS 16 (by decide)]; exact h4, hn'⟩, fun m hm => ?_, h7', hbk _ rfl⟩
    · rw [eA 7 (by decide), e9]
      refine ⟨(h3 m hm).1, ?_⟩
      by_cases e : m = n
      · subst e
        obtain ⟨d, hd, ed⟩ := (h3 m hm).2
        rw [x3] at ed
        have ed := (nI_inj (by omega) (by omega)).mp ed
        rw [upd_eq]
        exact ⟨_, by omega, rfl⟩
      · rw [upd_ne e]; exact (h3 m hm).2
    · obtain ⟨i1, i2, i3, y, y1, y2, y3, y4⟩ := h6 m hm
      refine ⟨i1, ?_, ?_, ?_⟩
      · rw [eA 4 (by decide), eA 5 (by decide), eA 6 (by decide), eA 7 (by decide), eA 8 (by decide)]
        show upd _ _ _ _ = _ ∧ upd _ _ _ _ = _ ∧ upd _ _ _ _ = _ ∧ upd _ _ _ _ = _ ∧ upd _ _ _ _ = _
        rw [upd_ne (by omega), upd_ne (by omega), upd_ne (by omega), upd_ne (by omega), upd_ne (by omega)]
        exact i2
      · rw [eA 4 (by decide), eA 5 (by decide)]; exact i3
      · by_cases e : m = n
        · subst e
          refine ⟨_, (bit_cl x x1 j hj).2, ?_, ?_, fun p hp => ?_⟩
          · show upd _ _ _ _ = _
            rw [upd_eq]
          · rw [e9, upd_eq]
          · rw [bit_cl_t j hj p hp x x1, x4 p hp]
            by_cases ep : p = j
            · subst ep
              rw [hfresh, decide_eq_true rfl]
              simp
            · rw [decide_eq_false ep]
              unfold hsF
              rw [hhas (nI p), kj, decide_eq_false (fun z => ep ((nI_inj (by omega) (by omega)).mp z).symm), Bool.and_false, Bool.or_false]
              simp
        · refine ⟨y, y1, ?_, ?_, fun p hp => ?_⟩
          · show upd _ _ _ _ = _
            rw [upd_ne (by omega)]
            exact y2
          · rw [e9, upd_ne e]
            exact y3
          · rw [y4 p hp]
            unfold hsF
            rw [hhas, k2, decide_eq_false (fun z => e ((nI_inj (by omega) (by omega)).mp z).symm), Bool.false_and, Bool.or_false]
/-- M2 is M, as far as a town goes: the book's rows behind the last help don't count -/
def mEq (M M2 : MS) : Prop := (∀ i, 15 ≤ i ∧ i ≤ 22 → mS i M2 = mS i M) ∧ (∀ i, 1 ≤ i ∧ i ≤ 9 → mA i M2 = mA i M) ∧ ∀ i, 10 ≤ i ∧ i ≤ 14 → ∀ k, k < uHelps M → mA i M2 k = mA i M k
theorem mEq_has {M M2 : MS} (e : mEq M M2) (p n : Int32) : uHas M2 p n = uHas M p n := by
  have eH : uHelps M2 = uHelps M := by unfold uHelps; rw [e.1 17 (by omega)]
  unfold uHas
  rw [eH]
  exact any_congr (fun k hk => by rw [e.2.2 14 (by omega) k hk, e.2.2 10 (by omega) k hk])
theorem RT_mEq {T : TS} {M M2 : MS} (e : mEq M M2) (h : RT T M) : RT T M2 := by
  have eH : uHelps M2 = uHelps M := by unfold uHelps; rw [e.1 17 (by omega)]
  have en : uNeeds M2 = uNeeds M := by unfold uNeeds; rw [e.1 16 (by omega)]
  have hh := mEq_has e
  obtain ⟨hS, hA, hB⟩ := e
  obtain ⟨⟨h1, h2, h3⟩, ⟨h4, h5⟩, h6, h7, h8⟩ := h
  refine ⟨⟨⟨fun p hp => ?_, ?_, ?_, ?_, ppB_of h1.2.2.2.2 (hS 15 (by omega))⟩, ⟨by rw [hS 17 (by omega)]; exact h2.1, hpB_of h2.2.1 (hS 17 (by omega)), fun k hk => ?_⟩, fun n hn => ?_⟩, ⟨by rw [hS 16 (by omega)]; exact h4, nnB_of h5 (hS 16 (by omega))⟩, fun n hn => ?_, fun n hn => ?_, fun k hk => ?_, fun k j hjk hk => ?_⟩
  · rw [hA 1 (by omega), hA 2 (by omega), hA 3 (by omega)]; exact h1.1 p hp
  · rw [hS 15 (by omega)]; exact h1.2.1
  · rw [hS 22 (by omega)]; exact h1.2.2.1
  · rw [hS 18 (by omega), hS 19 (by omega), hS 20 (by omega), hS 21 (by omega)]; exact h1.2.2.2.1
  · rw [eH] at hk
    rw [hB 10 (by omega) k hk, hB 11 (by omega) k hk, hB 12 (by omega) k hk, hB 13 (by omega) k hk]; exact h2.2.2 k hk
  · rw [hA 7 (by omega), hA 9 (by omega)]; exact h3 n hn
  · obtain ⟨i1, i2, i3, q, q1, q2, q3, q4⟩ := h6 n hn
    refine ⟨i1, ?_, ?_, q, q1, q2, ?_, fun p hp => ?_⟩
    · rw [hA 4 (by omega), hA 5 (by omega), hA 6 (by omega), hA 7 (by omega), hA 8 (by omega)]; exact i2
    · rw [hA 4 (by omega), hA 5 (by omega)]; exact i3
    · rw [hA 9 (by omega)]; exact q3
    · rw [q4 p hp]
      unfold hsF
      rw [hh]
  · rw [en] at hn
    unfold uOne
    rw [hA 4 (by omega), hS 15 (by omega)]; exact h7 n hn
  · rw [eH] at hk
    rw [hB 14 (by omega) k hk, hB 10 (by omega) k hk]; exact h8.1 k hk
  · rw [eH] at hk
    rw [hB 14 (by omega) k hk, hB 10 (by omega) k hk, hB 14 (by omega) j (by omega), hB 10 (by omega) j (by omega)]; exact h8.2 k j hjk hk
/-- a help that is written and taken back leaves nothing -/
theorem mEq_WB {M : MS} {b : Nat} (hb : hpB b M) (hb2 : b < 300) {n : Nat} (hn : n < 12) (x y z : Int32) : mEq M (uBack (uW M x y z (nI n))) := by
  obtain ⟨e0, h1⟩ := hpB_c hb (by omega)
  have e17 : mS 17 (uW M x y z (nI n)) - 1 = mS 17 M := by rw [uW_17]; exact Int32.add_sub_cancel _ _
  have n12 : ¬ nI n = 12 := fun z => by have z : nI n = nI 12 := z; rw [nI_inj (by omega) (by omega)] at z; omega
  have e9 := uBack_9 (uW M x y z (nI n))
  rw [e17, show (mS 17 M).toNatClampNeg = uHelps M from rfl, uW_14, upd_eq, if_neg n12, if_neg (nI_nlt0 (by omega)), nI_clamp (by omega), uW_9, if_neg (nI_nlt0 (by omega)), nI_clamp (by omega)] at e9
  refine ⟨fun i hi => ?_, fun i hi => ?_, fun i hi k hk => ?_⟩
  · rw [uBack_S]
    by_cases e : i = 17
    · rw [if_pos e, e17, e]
    · rw [if_neg e, uW_S i e]
  · by_cases e : i = 9
    · subst e
      rw [e9, upd_eq, Int32.add_sub_cancel]
      funext k
      by_cases ek : k = n
      · rw [ek, upd_eq]
      · rw [upd_ne ek, upd_ne ek]
    · rw [uBack_A i e, uW_A i (by omega)]
  · rw [uBack_A i (by omega)]
    rcases (show i = 10 ∨ i = 11 ∨ i = 12 ∨ i = 13 ∨ i = 14 by omega) with rfl | rfl | rfl | rfl | rfl
    · rw [uW_10, upd_ne (by omega)]
    · rw [uW_11, upd_ne (by omega)]
    · rw [uW_12, upd_ne (by omega)]
    · rw [uW_13, upd_ne (by omega)]
    · rw [uW_14, upd_ne (by omega)]
end
