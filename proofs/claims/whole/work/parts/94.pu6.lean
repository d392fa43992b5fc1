noncomputable section
/-- a run of both -/
def Rn (ro : Nat → Int32) (rl : Int32) (r : RS) (x : Int32 × MS) : Prop := r.1 = x.1 ∧ r.2.1 = mS 37 x.2 ∧ RT r.2.2 x.2 ∧ RR ro rl x.2
theorem hStep_1 (ro : Nat → Int32) (N : Nat) (rule n : Int32) (s t : Int32) (T : TS) (h : cChose ro N T rule n < 0) (h2 : ¬ 0 < t) : hStep ro N rule n (s, t, T) = (s, t, T) := by
  unfold hStep; dsimp only; rw [if_pos h, if_neg h2]
theorem hStep_2 (ro : Nat → Int32) (N : Nat) (rule n : Int32) (s t : Int32) (T : TS) (h : cChose ro N T rule n < 0) (h2 : 0 < t) : hStep ro N rule n (s, t, T) = (s + 3 * tOfN T n 2, t + (-1), T) := by
  unfold hStep; dsimp only; rw [if_pos h, if_pos h2]
theorem hStep_3 (ro : Nat → Int32) (N : Nat) (rule n : Int32) (s t : Int32) (T : TS) (h : ¬ cChose ro N T rule n < 0) : hStep ro N rule n (s, t, T) = (s + tGood T (cChose ro N T rule n) n, t, tDo T (cChose ro N T rule n) n) := by
  unfold hStep; dsimp only; rw [if_neg h]
theorem RR_S {ro : Nat → Int32} {rl : Int32} {M : MS} (h : RR ro rl M) {i : Nat} (hi : ¬ 35 = i) (v : Int32) : RR ro rl (msS i M v) := RR_of h (mS_ne hi) rfl
theorem RT_S {T : TS} {M : MS} (h : RT T M) {i : Nat} (hi : i < 15 ∨ 22 < i) (v : Int32) : RT T (msS i M v) := RT_same h (fun j hj => mS_ne (by omega)) (fun _ _ => rfl)
theorem RR_W {ro : Nat → Int32} {rl : Int32} {M : MS} (h : RR ro rl M) (x y z n : Int32) : RR ro rl (uW M x y z n) := RR_of h (uW_S 35 (by decide) _ _ _ _ _) (uW_A 34 (by omega) _ _ _ _ _)
theorem Rn_Hs {ro : Nat → Int32} {rl : Int32} {r : RS} {x : Int32 × MS} (h : Rn ro rl r x) {q : Nat} (hq : q < uNeeds x.2) (hok : mOK 96 x.2) {rule : Int32} (hr : isRl rule) : Rn ro rl (hStep ro (rowN rl) rule (nI q) r) (uHs rule (nI q) x) := by
  obtain ⟨s, t, T⟩ := r
  obtain ⟨sm, M⟩ := x
  obtain ⟨h1, h2, h3, h4⟩ := h
  dsimp only at h1 h2 h3 h4 hq hok
  subst h1
  have h12 := (nnB_c h3.2.1.2).2
  have cq : (nI q).toNatClampNeg = q := nI_clamp (by omega)
  have ec := RT_chose h3 hq h4 hr
  rcases uChose_may h3.1.1.2.2.2.2 rule (nI q) with hn | ⟨j, hj, ej, hj1, hj2⟩
  · have hneg : uChose M rule (nI q) < 0 := by rw [hn]; decide
    by_cases hs : 0 < t
    · rw [hStep_2 _ _ _ _ _ _ _ (by rw [ec]; exact hneg) hs, uHs_2 _ _ _ _ hneg (by rw [← h2]; exact Int32.not_le.mpr hs), cq, RN_g (h3.2.2.1 q (by omega))]
      refine ⟨rfl, ?_, RT_S h3 (Or.inr (by decide)) _, RR_S h4 (by decide) _⟩
      show t + (-1) = mS 37 (msS 37 M _)
      rw [mS_S, if_pos rfl, h2, Int32.sub_eq_add_neg]
    · rw [hStep_1 _ _ _ _ _ _ _ (by rw [ec]; exact hneg) hs, uHs_1 _ _ _ _ hneg (by rw [← h2]; exact Int32.not_lt.mp hs)]
      exact ⟨rfl, h2, RT_S h3 (Or.inr (by decide)) _, RR_S h4 (by decide) _⟩
  · have hpos : ¬ uChose M rule (nI q) < 0 := by rw [ej]; exact nI_nlt0 (by omega)
    obtain ⟨o1, o2, -⟩ := uMayW_c (show q < 12 by omega) hj2
    rw [hStep_3 _ _ _ _ _ _ _ (by rw [ec]; exact hpos), uHs_3 _ _ _ _ hpos, cq, ec, ej, nI_clamp (show j < 2 ^ 31 by omega), R_good h3.1.1 (h3.2.2.1 q (by omega)) hj]
    refine ⟨rfl, ?_, RT_do h3 hok.1 (by omega) hj (by omega) o1 o2, RR_W h4 _ _ _ _⟩
    show t = mS 37 (uW _ _ _ _ _)
    rw [uW_S 37 (by decide)]
    exact h2
theorem Rn_it {ro : Nat → Int32} {rl : Int32} {q a b : Nat} (hb : b ≤ 60) {rule : Int32} (hr : isRl rule) : ∀ (j : Nat) (r : RS) (x : Int32 × MS), Rn ro rl r x → q < uNeeds x.2 → q < 12 → rI a b x.2 → (∃ d, mA 9 x.2 q = nI d ∧ d + j ≤ 3) → Rn ro rl (iterN (hStep ro (rowN rl) rule (nI q)) j r) (iterN (uHs rule (nI q)) j x) := by
  intro j
  induction j with
  | zero => exact fun r x h _ _ _ _ => h
  | succ j ih =>
    intro r x h hq hq2 hI hd
    obtain ⟨sm, M⟩ := x
    rw [iterN_s, iterN_s]
    refine ih _ _ (Rn_Hs h hq (rI_ok hI hb) hr) ?_ hq2 (rI_Hs hI hb hq2 hd rule sm) (uHs_had (by omega) hd rule sm).1
    show q < uNeeds (uHs rule (nI q) (sm, M)).2
    unfold uNeeds
    rw [uHs_S 16 (by decide) (by decide) (by decide)]
    exact hq
theorem uHs_add (rule n a s : Int32) (M : MS) : uHs rule n (a + s, M) = (a + (uHs rule n (s, M)).1, (uHs rule n (s, M)).2) := by
  by_cases h : uChose M rule n < 0
  · by_cases h2 : mS 37 M ≤ 0
    · rw [uHs_1 _ _ _ _ h h2, uHs_1 _ _ _ _ h h2]
    · rw [uHs_2 _ _ _ _ h h2, uHs_2 _ _ _ _ h h2]
      dsimp only
      rw [Int32.add_assoc]
  · rw [uHs_3 _ _ _ _ h, uHs_3 _ _ _ _ h]
    dsimp only
    rw [Int32.add_assoc]
theorem it_add (rule n a : Int32) : ∀ (j : Nat) (s : Int32) (M : MS), iterN (uHs rule n) j (a + s, M) = (a + (iterN (uHs rule n) j (s, M)).1, (iterN (uHs rule n) j (s, M)).2) := by
  intro j
  induction j with
  | zero => exact fun _ _ => rfl
  | succ j ih =>
    intro s M
    rw [iterN_s, iterN_s, uHs_add]
    generalize uHs rule n (s, M) = z
    obtain ⟨z1, z2⟩ := z
    exact ih z1 z2
def uLeftN (M : MS) (q : Nat) : Nat := if mA 8 M q = mS 22 M then (mA 7 M q - mA 9 M q).toNatClampNeg else 0
theorem uNd_it (rule : Int32) (q : Nat) (hq : q < 12) (s : Int32) (M : MS) : uNd rule q (s, M) = iterN (uHs rule (nI q)) (uLeftN M q) (s, M) := by
  unfold uNd uLeftN
  by_cases h : mA 8 M q = mS 22 M
  · rw [if_pos h, if_pos h]
    unfold uRN
    rw [nI_clamp (by omega)]
    have := it_add rule (nI q) s (mA 7 M q - mA 9 M q).toNatClampNeg 0 M
    rw [Int32.add_zero] at this
    exact this.symm
  · rw [if_neg h, if_neg h]
    rfl
theorem uLeftN_e {M : MS} {q : Nat} (h : haB M) (hq : q < 13) : ∃ hh d, hh ≤ 3 ∧ d ≤ 3 ∧ mA 7 M q = nI hh ∧ mA 9 M q = nI d ∧ uLeftN M q = if mA 8 M q = mS 22 M then hh - d else 0 := by
  obtain ⟨⟨hh, h1, h2⟩, d, h3, h4⟩ := h q hq
  refine ⟨hh, d, h1, h3, h2, h4, ?_⟩
  unfold uLeftN
  rw [h2, h4, clamp_sub (by omega) (by omega)]
theorem hHd_e {T : TS} {M : MS} (h : RT T M) {q : Nat} (hq : q < uNeeds M) : (hHd T (nI q)).toNatClampNeg = uLeftN M q := by
  have h12 := (nnB_c h.2.1.2).2
  obtain ⟨hh, d, h1, h3, h2, h4, e⟩ := uLeftN_e h.1.2.2 (show q < 13 by omega)
  have hC := RT_C h hq
  unfold hHd
  rw [R_open hC.1.1 hC.2.1 hC.1.2.2 hC.2.2.1, RN_hl hC.2.1, e]
  unfold uOpen
  rw [h2, h4]
  by_cases hy : mA 8 M q = mS 22 M
  · rw [decide_eq_true hy, if_pos hy, Bool.true_and]
    by_cases hl : d < hh
    · rw [decide_eq_true ((nI_ltJ (by omega) (by omega)).mpr hl), if_pos rfl, clamp_sub (by omega) (by omega)]
    · rw [decide_eq_false (fun z => hl ((nI_ltJ (by omega) (by omega)).mp z)), if_neg Bool.false_ne_true, show hh - d = 0 by omega]
      rfl
  · rw [decide_eq_false hy, if_neg hy, Bool.false_and, if_neg Bool.false_ne_true]
    rfl
theorem Rn_Nd {ro : Nat → Int32} {rl : Int32} {r : RS} {x : Int32 × MS} {a b : Nat} (hb : b ≤ 60) {rule : Int32} (hr : isRl rule) (h : Rn ro rl r x) {q : Nat} (hq : q < uNeeds x.2) (hI : rI a b x.2) : Rn ro rl (nStep ro (rowN rl) rule (nI q) r) (uNd rule q x) := by
  obtain ⟨sm, M⟩ := x
  have h12 := (nnB_c h.2.2.1.2.1.2).2
  dsimp only at hq h12 hI
  obtain ⟨hh, d, h1, h3, h2, h4, e⟩ := uLeftN_e hI.2.1 (show q < 13 by omega)
  rw [uNd_it _ _ (by omega)]
  unfold nStep
  rw [hHd_e h.2.2.1 hq]
  refine Rn_it hb hr _ _ _ h hq (by omega) hI ⟨d, h4, ?_⟩
  dsimp only
  rw [e]
  split <;> omega
theorem Rn_upto {ro : Nat → Int32} {rl : Int32} {a b : Nat} (hb : b ≤ 60) {rule : Int32} (hr : isRl rule) : ∀ (n k : Nat) (r : RS) (x : Int32 × MS), Rn ro rl r x → rI a b x.2 → k + n ≤ uNeeds x.2 → Rn ro rl (upto (fun k => nStep ro (rowN rl) rule (nI k)) k n r) (upto (uNd rule) k n x) := by
  intro n
  induction n with
  | zero => exact fun k r x h _ _ => h
  | succ n ih =>
    intro k r x h hI hk
    obtain ⟨sm, M⟩ := x
    rw [upto_s, upto_s]
    have h12 := (nnB_c h.2.2.1.2.1.2).2
    dsimp only at hk h12 hI
    obtain ⟨i1, i2, i3⟩ := rI_Nd hI hb (show k < 12 by omega) rule sm
    refine ih (k + 1) _ _ (Rn_Nd hb hr h (show k < uNeeds M by omega) hI) i1 ?_
    unfold uNeeds at hk ⊢
    rw [i2 16 (by decide) (by decide) (by decide)]
    omega
/-- at the head of a year -/
def Ry (ro : Nat → Int32) (rl : Int32) (y : Nat) (r : RS) (x : Int32 × MS) : Prop := r.1 = x.1 ∧ r.2.1 = mS 37 x.2 ∧ RT (tsYr r.2.2 (nI y)) x.2 ∧ RR ro rl x.2
theorem Ry_step {ro : Nat → Int32} {rl : Int32} {a b y : Nat} (hb : b ≤ 60) {rule : Int32} (hr : isRl rule) {r : RS} {x : Int32 × MS} (h : Ry ro rl y r x) (hI : rI a b x.2) : Ry ro rl (y + 1) (yStep ro (rowN rl) rule y r) (uYr rule x) := by
  obtain ⟨s, t, T⟩ := r
  obtain ⟨sm, M⟩ := x
  obtain ⟨h1, h2, h3, h4⟩ := h
  dsimp only at h1 h2 h3 h4 hI
  subst h1
  have en : tNeeds T = uNeeds M := by
    have := h3.2.1.1
    unfold tNeeds uNeeds
    rw [← this]
    rfl
  have hR : Rn ro rl (s, t, tsYr T (nI y)) (s, M) := ⟨rfl, h2, h3, h4⟩
  have hU := Rn_upto hb hr (uNeeds M) 0 _ _ hR hI (by dsimp only; omega)
  have e1 : yStep ro (rowN rl) rule y (s, t, T) = upto (fun k => nStep ro (rowN rl) rule (nI k)) 0 (uNeeds M) (s, t, tsYr T (nI y)) := by unfold yStep; dsimp only; rw [en]
  rw [e1, uYr_e rule s M rfl]
  have hyr : mS 22 (upto (uNd rule) 0 (uNeeds M) (s, M)).2 = nI y := by
    have h12 := (nnB_c h3.2.1.2).2
    obtain ⟨-, o2, -⟩ := rI_upto hb rule (uNeeds M) 0 s M hI (by omega)
    rw [o2 22 (by decide) (by decide) (by decide)]
    exact h3.1.1.2.2.1.symm
  generalize upto (uNd rule) 0 (uNeeds M) (s, M) = z at hU hyr ⊢
  generalize upto (fun k => nStep ro (rowN rl) rule (nI k)) 0 (uNeeds M) (s, t, tsYr T (nI y)) = w at hU ⊢
  obtain ⟨u1, u2, u3, u4⟩ := hU
  refine ⟨u1, u2, ?_, RR_S u4 (by decide) _⟩
  have := RT_year u3 (mS 22 z.2 + 1)
  dsimp only
  rw [hyr, nI_1] at this
  rw [hyr, nI_1]
  exact this
theorem Ry_iter {ro : Nat → Int32} {rl : Int32} {a b : Nat} (hb : b ≤ 60) {rule : Int32} (hr : isRl rule) : ∀ (n y : Nat) (r : RS) (x : Int32 × MS), Ry ro rl y r x → rI a b x.2 → Ry ro rl (y + n) (upto (yStep ro (rowN rl) rule) y n r) (iterN (uYr rule) n x) := by
  intro n
  induction n with
  | zero => exact fun y r x h _ => h
  | succ n ih =>
    intro y r x h hI
    obtain ⟨sm, M⟩ := x
    rw [upto_s, iterN_s]
    have := ih (y + 1) _ _ (Ry_step hb hr h hI) (rI_Yr hb rule sm hI).1
    rw [show y + (n + 1) = y + 1 + n by omega]
    exact this
/-- a run answers alike; the towns behind it are the same but for the year -/
theorem R_run {T : TS} {M : MS} (h : RT T M) (hp : rnPre M) {ro : Nat → Int32} {rl : Int32} (hrr : RR ro rl M) {rule : Int32} (hr : isRl rule) (f : Int32) : (runF ro (rowN rl) rule f T).1 = (uRun M rule f).1 ∧ ∃ y, RT (tsYr (runF ro (rowN rl) rule f T).2.2 y) (uRz M rule f).2 := by
  obtain ⟨yy, hy1, hy2⟩ := hp.2.2
  have ey : tYr T = nI yy := h.1.1.2.2.1.trans hy2
  have h0 : RT T (uR0 M f) := RT_same h (fun i hi => uR0_S i (by omega) (by omega) (by omega) (by omega) M f) (fun i hi => uR0_A i (by omega) M f)
  have hRy : Ry ro rl yy (0, f, T) (0, uR0 M f) := by
    refine ⟨rfl, ?_, ?_, RR_of hrr (uR0_S 35 (by decide) (by decide) (by decide) (by decide) M f) (uR0_A 34 (by decide) M f)⟩
    · unfold uR0
      rw [mS_S, if_pos rfl]
    · have : tsYr T (nI yy) = T := by rw [← ey]; rfl
      dsimp only
      rw [this]
      exact h0
  have := Ry_iter (hpB_c hp.1.1 (by decide)).2 hr (10 - yy) yy _ _ hRy (uR0_rI hp f)
  unfold uRun uRz runF
  rw [ey, hy2, nI_clamp (show yy < 2 ^ 31 by omega)]
  dsimp only
  exact ⟨this.1, _, this.2.2.1⟩
end
