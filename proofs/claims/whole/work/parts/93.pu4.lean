noncomputable section
/-- the class's town T2 is T, as far as it counts -/
def tEq (H : Nat) (T T2 : TS) : Prop := (∀ j, j < 42 → tPt T2 j = tPt T j) ∧ (∀ j, j < 72 → tNt T2 j = tNt T j) ∧ (∀ j, j < H * 5 → tBt T2 j = tBt T j) ∧ (∀ j, j < 4 → tSe T2 j = tSe T j) ∧ tPp T2 = tPp T ∧ tNn T2 = tNn T ∧ tHh T2 = tHh T ∧ tYr T2 = tYr T
theorem RQ_ext {H : Nat} {T T2 : TS} {M : MS} (e : tEq H T T2) (h : RQ T M) : RQ T2 M := by
  obtain ⟨e1, e2, e3, e4, e5, e6, e7, e8⟩ := e
  obtain ⟨h1, h2, h3, ⟨a1, a2, a3, a4⟩, h5⟩ := h
  refine ⟨fun p hp => ?_, by rw [e5]; exact h2, by rw [e8]; exact h3, ?_, h5⟩
  · rw [e1 _ (by omega), e1 _ (by omega)]
    exact ⟨(h1 p hp).1, (h1 p hp).2.1, fun k hk => by rw [e1 _ (by omega)]; exact (h1 p hp).2.2 k hk⟩
  · rw [e4 0 (by omega), e4 1 (by omega), e4 2 (by omega), e4 3 (by omega)]
    exact ⟨a1, a2, a3, a4⟩
theorem RT_ext {T T2 : TS} {M : MS} (e : tEq (uHelps M) T T2) (h : RT T M) : RT T2 M := by
  obtain ⟨⟨h1, h2, h3⟩, ⟨h4, h5⟩, h6, h7, h8⟩ := h
  have hq := RQ_ext e h1
  obtain ⟨e1, e2, e3, e4, e5, e6, e7, e8⟩ := e
  refine ⟨⟨hq, ⟨by rw [e7]; exact h2.1, h2.2.1, fun k hk => ?_⟩, h3⟩, ⟨by rw [e6]; exact h4, h5⟩, fun n hn => ?_, h7, fun k hk => ?_, h8.2⟩
  · rw [e3 _ (by omega), e3 _ (by omega), e3 _ (by omega), e3 _ (by omega)]
    exact h2.2.2 k hk
  · obtain ⟨i1, i2, i3, q, q1, q2, q3⟩ := h6 n hn
    refine ⟨i1, ?_, i3, q, q1, ?_, q3⟩
    · rw [e2 _ (by omega), e2 _ (by omega), e2 _ (by omega), e2 _ (by omega), e2 _ (by omega)]
      exact i2
    · rw [e2 _ (by omega)]
      exact q2
  · rw [e3 _ (by omega)]
    exact h8.1 k hk
theorem cpy_lt (f g : Nat → Int32) {n j : Nat} (h : j < n) : va_cpy f g 0 0 n j = f j := by
  unfold va_cpy
  rw [if_pos ⟨Nat.zero_le _, by omega⟩, Nat.zero_add, Nat.sub_zero]
theorem tCopy_eq {A O : TS} {H : Nat} (h : tHh O = nI H) (hH : H ≤ 270) : tEq H O (tCopy A O) := by
  have eb : ((imax 0 (if 270 < tHh O then 270 else tHh O)) * 5).toNatClampNeg = H * 5 := by
    have n0 : ¬ (270 : Int32) < nI H := fun z => by
      have z : nI 270 < nI H := z
      rw [nI_ltJ (by omega) (by omega)] at z
      omega
    rw [h, if_neg n0, imax0, if_neg (nI_nlt0 (by omega))]
    have : nI H * 5 = nI (H * 5) := pk_mul H 5
    rw [this, nI_clamp (by omega)]
  refine ⟨fun j hj => cpy_lt _ _ hj, fun j hj => cpy_lt _ _ hj, fun j hj => ?_, fun j hj => cpy_lt _ _ hj, rfl, rfl, rfl, rfl⟩
  show va_cpy (tBt O) (tBt A) 0 0 _ j = _
  rw [eb]
  exact cpy_lt _ _ hj
theorem RT_copy {A O : TS} {M : MS} (h : RT O M) : RT (tCopy A O) M := by
  obtain ⟨e, h1⟩ := hpB_c h.1.2.1.2.1 (by decide)
  exact RT_ext (tCopy_eq (h.1.2.1.1.trans e) h1) h
theorem eqT_A {A C : MS} (h : eqT A C) (q : Nat × Nat) (hq : q ∈ uPlist) {j : Nat} (hj : j < q.2) : mA q.1 A j = mA q.1 C j := h.1 q hq j hj
theorem eqT_S {A C : MS} (h : eqT A C) (i : Nat) (hi : 15 ≤ i ∧ i ≤ 22) : mS i A = mS i C := by
  have := h.2 (i - 15) (by omega)
  rw [show 15 + (i - 15) = i by omega] at this
  exact this
theorem eqT_H {A C : MS} (h : eqT A C) : uHelps A = uHelps C := by unfold uHelps; rw [eqT_S h 17 (by omega)]
theorem eqT_has {A C : MS} (h : eqT A C) {b : Nat} (hb : hpB b C) (hb2 : b ≤ 60) (p n : Int32) : uHas A p n = uHas C p n := by
  have h1 := (hpB_c hb (by omega)).2
  unfold uHas
  rw [eqT_H h]
  refine any_congr (fun k hk => ?_)
  rw [eqT_A h (14, 60) (by decide) (show k < 60 by omega), eqT_A h (10, 60) (by decide) (show k < 60 by omega)]
theorem RQ_eqT {T : TS} {M M2 : MS} (e : eqT M2 M) (h : RQ T M) : RQ T M2 := by
  obtain ⟨h1, h2, h3, ⟨a1, a2, a3, a4⟩, h5⟩ := h
  refine ⟨fun p hp => ?_, by rw [eqT_S e 15 (by omega)]; exact h2, by rw [eqT_S e 22 (by omega)]; exact h3, ?_, ppB_of h5 (eqT_S e 15 (by omega))⟩
  · rw [eqT_A e (1, 7) (by decide) hp, eqT_A e (2, 7) (by decide) hp]
    refine ⟨(h1 p hp).1, (h1 p hp).2.1, fun k hk => ?_⟩
    rw [eqT_A e (3, 28) (by decide) (show 4 * p + k < 28 by omega)]
    exact (h1 p hp).2.2 k hk
  · rw [eqT_S e 18 (by omega), eqT_S e 19 (by omega), eqT_S e 20 (by omega), eqT_S e 21 (by omega)]
    exact ⟨a1, a2, a3, a4⟩
theorem RK_eqT {T : TS} {M M2 : MS} (e : eqT M2 M) {b : Nat} (hb : hpB b M) (hb2 : b ≤ 60) (h : RK T M) : RK T M2 := by
  have h60 := (hpB_c hb (by omega)).2
  refine ⟨by rw [eqT_S e 17 (by omega)]; exact h.1, hpB_of h.2.1 (eqT_S e 17 (by omega)), fun k hk => ?_⟩
  rw [eqT_H e] at hk
  rw [eqT_A e (10, 60) (by decide) (show k < 60 by omega), eqT_A e (11, 60) (by decide) (show k < 60 by omega), eqT_A e (12, 60) (by decide) (show k < 60 by omega), eqT_A e (13, 60) (by decide) (show k < 60 by omega)]
  exact h.2.2 k hk
theorem RT_eqT {T : TS} {M M2 : MS} (e : eqT M2 M) {b : Nat} (hb : hpB b M) (hb2 : b ≤ 60) (hha : haB M2) (h : RT T M) : RT T M2 := by
  have h60 := (hpB_c hb (by omega)).2
  obtain ⟨⟨h1, h2, h3⟩, ⟨h4, h5⟩, h6, h7, h8⟩ := h
  have en : uNeeds M2 = uNeeds M := by unfold uNeeds; rw [eqT_S e 16 (by omega)]
  have h12 := (nnB_c h5).2
  refine ⟨⟨RQ_eqT e h1, RK_eqT e hb hb2 h2, hha⟩, ⟨by rw [eqT_S e 16 (by omega)]; exact h4, nnB_of h5 (eqT_S e 16 (by omega))⟩, fun n hn => ?_, fun n hn => ?_, fun k hk => ?_, fun k j hjk hk => ?_⟩
  · obtain ⟨i1, i2, i3, q, q1, q2, q3, q4⟩ := h6 n hn
    refine ⟨i1, ?_, ?_, q, q1, q2, ?_, fun p hp => ?_⟩
    · rw [eqT_A e (4, 12) (by decide) hn, eqT_A e (5, 12) (by decide) hn, eqT_A e (6, 12) (by decide) hn, eqT_A e (7, 12) (by decide) hn, eqT_A e (8, 12) (by decide) hn]
      exact i2
    · rw [eqT_A e (4, 12) (by decide) hn, eqT_A e (5, 12) (by decide) hn]
      exact i3
    · rw [eqT_A e (9, 12) (by decide) hn]
      exact q3
    · rw [q4 p hp]
      unfold hsF
      rw [eqT_has e hb hb2]
  · rw [en] at hn
    rw [eqT_A e (4, 12) (by decide) (show n < 12 by omega)]
    unfold uOne
    rw [eqT_S e 15 (by omega)]
    exact h7 n hn
  · rw [eqT_H e] at hk
    rw [eqT_A e (14, 60) (by decide) (show k < 60 by omega), eqT_A e (10, 60) (by decide) (show k < 60 by omega)]
    exact h8.1 k hk
  · rw [eqT_H e] at hk
    rw [eqT_A e (14, 60) (by decide) (show k < 60 by omega), eqT_A e (10, 60) (by decide) (show k < 60 by omega), eqT_A e (14, 60) (by decide) (show j < 60 by omega), eqT_A e (10, 60) (by decide) (show j < 60 by omega)]
    exact h8.2 k j hjk hk
theorem RR_of {ro : Nat → Int32} {rl : Int32} {M M2 : MS} (h : RR ro rl M) (e1 : mS 35 M2 = mS 35 M) (e2 : mA 34 M2 = mA 34 M) : RR ro rl M2 := by
  refine ⟨by rw [e1]; exact h.1, rwB_of h.2.1 e1, fun k hk => ?_⟩
  unfold uRow at hk
  rw [e1] at hk
  rw [e2]
  exact h.2.2 k hk
/-- M2 differs from M in its scratch alone -/
theorem RT_same {T : TS} {M M2 : MS} (h : RT T M) (hS : ∀ i, 15 ≤ i ∧ i ≤ 22 → mS i M2 = mS i M) (hA : ∀ i, 1 ≤ i ∧ i ≤ 14 → mA i M2 = mA i M) : RT T M2 := by
  obtain ⟨⟨h1, h2, h3⟩, ⟨h4, h5⟩, h6, h7, h8⟩ := h
  have eH : uHelps M2 = uHelps M := by unfold uHelps; rw [hS 17 (by omega)]
  have en : uNeeds M2 = uNeeds M := by unfold uNeeds; rw [hS 16 (by omega)]
  refine ⟨⟨⟨fun p hp => ?_, ?_, ?_, ?_, ppB_of h1.2.2.2.2 (hS 15 (by omega))⟩, ⟨by rw [hS 17 (by omega)]; exact h2.1, hpB_of h2.2.1 (hS 17 (by omega)), fun k hk => ?_⟩, fun n hn => ?_⟩, ⟨by rw [hS 16 (by omega)]; exact h4, nnB_of h5 (hS 16 (by omega))⟩, fun n hn => ?_, fun n hn => ?_, fun k hk => ?_, fun k j hjk hk => ?_⟩
  · rw [hA 1 (by omega), hA 2 (by omega), hA 3 (by omega)]; exact h1.1 p hp
  · rw [hS 15 (by omega)]; exact h1.2.1
  · rw [hS 22 (by omega)]; exact h1.2.2.1
  · rw [hS 18 (by omega), hS 19 (by omega), hS 20 (by omega), hS 21 (by omega)]; exact h1.2.2.2.1
  · rw [eH] at hk
    rw [hA 10 (by omega), hA 11 (by omega), hA 12 (by omega), hA 13 (by omega)]; exact h2.2.2 k hk
  · rw [hA 7 (by omega), hA 9 (by omega)]; exact h3 n hn
  · obtain ⟨i1, i2, i3, q, q1, q2, q3, q4⟩ := h6 n hn
    refine ⟨i1, ?_, ?_, q, q1, q2, ?_, fun p hp => ?_⟩
    · rw [hA 4 (by omega), hA 5 (by omega), hA 6 (by omega), hA 7 (by omega), hA 8 (by omega)]; exact i2
    · rw [hA 4 (by omega), hA 5 (by omega)]; exact i3
    · rw [hA 9 (by omega)]; exact q3
    · rw [q4 p hp]
      unfold hsF uHas
      rw [eH, hA 14 (by omega), hA 10 (by omega)]
  · rw [en] at hn
    unfold uOne
    rw [hA 4 (by omega), hS 15 (by omega)]; exact h7 n hn
  · rw [eH] at hk
    rw [hA 14 (by omega), hA 10 (by omega)]; exact h8.1 k hk
  · rw [eH] at hk
    rw [hA 14 (by omega), hA 10 (by omega)]; exact h8.2 k j hjk hk
/-- another year -/
theorem RT_year {T : TS} {M : MS} (h : RT T M) (y : Int32) : RT (tsYr T y) (msS 22 M y) := by
  obtain ⟨⟨h1, h2, h3⟩, ⟨h4, h5⟩, h6, h7, h8⟩ := h
  exact ⟨⟨⟨h1.1, h1.2.1, rfl, h1.2.2.2.1, h1.2.2.2.2⟩, h2, h3⟩, ⟨h4, h5⟩, h6, h7, h8⟩
end
