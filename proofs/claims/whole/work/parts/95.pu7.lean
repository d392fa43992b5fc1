noncomputable section
/-- bounds of what is told: years, and no more hands had than wanted -/
def VB (M : MS) : Prop := ∀ n, n < uNeeds M → (∃ y, y ≤ 9 ∧ mA 8 M n = nI y) ∧ ∃ hh d, d ≤ hh ∧ hh ≤ 3 ∧ mA 7 M n = nI hh ∧ mA 9 M n = nI d
def HLn (M : MS) (n : Nat) : Nat := (mA 7 M n).toNatClampNeg - (mA 9 M n).toNatClampNeg
def Yn (M : MS) (n : Nat) : Nat := (mA 8 M n).toNatClampNeg
def dnF (y0 y k : Nat) (M : MS) (n : Nat) : Bool := decide (y0 ≤ Yn M n) && (decide (Yn M n < y) || (decide (Yn M n = y) && decide (n < k)))
def wSum (y0 y k : Nat) (M : MS) : Nat := sumN (fun n => if dnF y0 y k M n = true then HLn M n else 0) (uNeeds M)
/-- whom nobody helped, so far -/
def WI (y0 y k : Nat) (M : MS) : Prop := mS 37 M = 0 ∧ mS 36 M = nI (wSum y0 y k M) ∧ VB M
theorem WI_it {q : Nat} (hq : q < 12) (rule : Int32) : ∀ (j d w : Nat) (s : Int32) (M : MS), mS 37 M = 0 → mA 9 M q = nI d → d + j ≤ 3 → mS 36 M = nI w → mS 37 (iterN (uHs rule (nI q)) j (s, M)).2 = 0 ∧ (∀ i, (i < 9 ∨ 14 < i) → mA i (iterN (uHs rule (nI q)) j (s, M)).2 = mA i M) ∧ (∀ i, ¬ i = 17 → ¬ i = 36 → ¬ i = 37 → mS i (iterN (uHs rule (nI q)) j (s, M)).2 = mS i M) ∧ (∀ k, ¬ k = q → mA 9 (iterN (uHs rule (nI q)) j (s, M)).2 k = mA 9 M k) ∧ ∃ d', d' ≤ d + j ∧ mA 9 (iterN (uHs rule (nI q)) j (s, M)).2 q = nI d' ∧ mS 36 (iterN (uHs rule (nI q)) j (s, M)).2 = nI (w + (d + j - d')) := by
  intro j
  induction j with
  | zero => exact fun d w s M h1 h2 h3 h5 => ⟨h1, fun _ _ => rfl, fun _ _ _ _ => rfl, fun _ _ => rfl, d, by omega, h2, by rw [show w + (d + 0 - d) = w by omega]; exact h5⟩
  | succ j ih =>
    intro d w s M h1 h2 h3 h5
    rw [iterN_s]
    by_cases hc : uChose M rule (nI q) < 0
    · rw [uHs_1 _ _ _ _ hc (by rw [h1]; decide)]
      obtain ⟨o1, o2, o3, o4, d', o5, o6, o7⟩ := ih d (w + 1) s (msS 36 M (mS 36 M + 1)) ((mS_ne (by decide)).trans h1) h2 (by omega) (by rw [mS_S, if_pos rfl, h5, nI_1])
      refine ⟨o1, o2, fun i a1 a2 a3 => (o3 i a1 a2 a3).trans (mS_ne a2), o4, d', by omega, o6, ?_⟩
      rw [o7]
      congr 1
      omega
    · rw [uHs_3 _ _ _ _ hc]
      have e9 : ∀ k, mA 9 (uW M (uChose M rule (nI q)) (mA 4 M (nI q).toNatClampNeg) (mA 6 M (nI q).toNatClampNeg) (nI q)) k = if k = q then nI (d + 1) else mA 9 M k := fun k => by
        rw [uW_9, if_neg (nI_nlt0 (by omega)), nI_clamp (show q < 2 ^ 31 by omega), h2, nI_1]
        rfl
      obtain ⟨o1, o2, o3, o4, d', o5, o6, o7⟩ := ih (d + 1) w (s + uGood M (uChose M rule (nI q)).toNatClampNeg (nI q).toNatClampNeg) (uW M (uChose M rule (nI q)) (mA 4 M (nI q).toNatClampNeg) (mA 6 M (nI q).toNatClampNeg) (nI q)) ((uW_S 37 (by decide) _ _ _ _ _).trans h1) (by rw [e9, if_pos rfl]) (by omega) ((uW_S 36 (by decide) _ _ _ _ _).trans h5)
      refine ⟨o1, fun i hi => (o2 i hi).trans (uW_A i hi _ _ _ _ _), fun i a1 a2 a3 => (o3 i a1 a2 a3).trans (uW_S i a1 _ _ _ _ _), fun k hk => (o4 k hk).trans (by rw [e9, if_neg hk]), d', by omega, o6, ?_⟩
      rw [o7]
      congr 1
      omega
theorem uNeeds_S {M M2 : MS} (h : ∀ i, ¬ i = 17 → ¬ i = 36 → ¬ i = 37 → mS i M2 = mS i M) : uNeeds M2 = uNeeds M := by unfold uNeeds; rw [h 16 (by decide) (by decide) (by decide)]
theorem Yn_e {M : MS} {n y : Nat} (h : mA 8 M n = nI y) (hy : y ≤ 9) : Yn M n = y := by unfold Yn; rw [h, nI_clamp (by omega)]
theorem WI_Nd {y0 y q : Nat} {M : MS} (h : WI y0 y q M) (hq : q < uNeeds M) (hn : nnB M) (hy : mS 22 M = nI y) (hy0 : y0 ≤ y) (hyb : y < 1000) (rule s : Int32) : WI y0 y (q + 1) (uNd rule q (s, M)).2 := by
  have h12 := (nnB_c hn).2
  obtain ⟨h1, h2, h3⟩ := h
  obtain ⟨⟨yy, y1, y2⟩, hh, d, d1, d2, d3, d4⟩ := h3 q hq
  have eY := Yn_e y2 y1
  by_cases e : yy = y
  · subst e
    rw [uNd_it _ _ (by omega)]
    have eL : uLeftN M q = hh - d := by
      unfold uLeftN
      rw [y2, hy, d3, d4, clamp_sub (by omega) (by omega), if_pos rfl]
    rw [eL]
    obtain ⟨o1, o2, o3, o4, d', o5, o6, o7⟩ := WI_it (show q < 12 by omega) rule (hh - d) d (wSum y0 yy q M) s M h1 d4 (by omega) h2
    have en := uNeeds_S o3
    generalize (iterN (uHs rule (nI q)) (hh - d) (s, M)).2 = M2 at o1 o2 o3 o4 o6 o7 en ⊢
    refine ⟨o1, ?_, fun n hn2 => ?_⟩
    · rw [o7]
      congr 1
      have hYn : ∀ n, Yn M2 n = Yn M n := fun n => by unfold Yn; rw [o2 8 (by omega)]
      have hs := sumN_one (f := fun n => if dnF y0 yy q M n = true then HLn M n else 0) (f' := fun n => if dnF y0 yy (q + 1) M2 n = true then HLn M2 n else 0) (q := q) (uNeeds M) hq (fun k _ hkq => by
        have e1 : dnF y0 yy (q + 1) M2 k = dnF y0 yy q M k := by
          unfold dnF
          rw [hYn, show decide (k < q + 1) = decide (k < q) from decide_eq_decide.mpr ⟨fun z => by omega, fun z => by omega⟩]
        have e2 : HLn M2 k = HLn M k := by unfold HLn; rw [o2 7 (by omega), o4 k hkq]
        rw [e1, e2])
      have f0 : (if dnF y0 yy q M q = true then HLn M q else 0) = 0 := by
        rw [if_neg]
        unfold dnF
        rw [eY, decide_eq_false (Nat.lt_irrefl yy), decide_eq_false (Nat.lt_irrefl q), Bool.and_false, Bool.or_false, Bool.and_false]
        exact Bool.false_ne_true
      have f1 : (if dnF y0 yy (q + 1) M2 q = true then HLn M2 q else 0) = hh - d' := by
        rw [if_pos]
        · unfold HLn
          rw [o2 7 (by omega), d3, o6, nI_clamp (by omega), nI_clamp (by omega)]
        · unfold dnF
          rw [hYn, eY, decide_eq_true hy0, decide_eq_true (show q < q + 1 by omega), decide_eq_true rfl, Bool.and_true, Bool.or_true, Bool.and_true]
      rw [f0, f1] at hs
      unfold wSum at *
      rw [en]
      omega
    · rw [en] at hn2
      rw [o2 8 (by omega), o2 7 (by omega)]
      refine ⟨(h3 n hn2).1, ?_⟩
      by_cases e : n = q
      · subst e
        exact ⟨hh, d', by omega, d2, d3, o6⟩
      · rw [o4 n e]
        exact (h3 n hn2).2
  · have e0 : uNd rule q (s, M) = (s, M) := by
      unfold uNd
      rw [if_neg]
      dsimp only
      rw [y2, hy]
      exact fun z => e ((nI_inj (by omega) (by omega)).mp z)
    rw [e0]
    refine ⟨h1, ?_, h3⟩
    rw [h2]
    congr 1
    unfold wSum
    refine sumN_congr _ (fun k _ => ?_)
    have : dnF y0 y q M k = dnF y0 y (q + 1) M k := by
      unfold dnF
      by_cases ek : k = q
      · subst ek
        rw [eY, decide_eq_false e, Bool.false_and, Bool.false_and]
      · rw [show decide (k < q + 1) = decide (k < q) from decide_eq_decide.mpr ⟨fun z => by omega, fun z => by omega⟩]
    rw [this]
theorem WI_upto {y0 y : Nat} (hy0 : y0 ≤ y) (hyb : y < 1000) (rule : Int32) {a b : Nat} (hb : b ≤ 60) : ∀ (n k : Nat) (s : Int32) (M : MS), WI y0 y k M → rI a b M → mS 22 M = nI y → k + n ≤ uNeeds M → WI y0 y (k + n) (upto (uNd rule) k n (s, M)).2 := by
  intro n
  induction n with
  | zero => exact fun k s M h _ _ _ => h
  | succ n ih =>
    intro k s M h hI hy hk
    rw [upto_s]
    have hn := hI.1.2.1
    have h12 := (nnB_c hn).2
    obtain ⟨i1, i2, i3⟩ := rI_Nd hI hb (show k < 12 by omega) rule s
    have h2 := WI_Nd h (show k < uNeeds M by omega) hn hy hy0 hyb rule s
    have en : uNeeds (uNd rule k (s, M)).2 = uNeeds M := congrArg Int32.toNatClampNeg (i2 16 (by decide) (by decide) (by decide))
    have ey : mS 22 (uNd rule k (s, M)).2 = nI y := (i2 22 (by decide) (by decide) (by decide)).trans hy
    generalize uNd rule k (s, M) = z at i1 h2 en ey ⊢
    obtain ⟨zs, z⟩ := z
    have := ih (k + 1) zs z h2 i1 ey (by dsimp only at en; omega)
    rw [show k + (n + 1) = k + 1 + n by omega]
    exact this
theorem WI_end {y0 y : Nat} {M : MS} (h : WI y0 y (uNeeds M) M) (v : Int32) : WI y0 (y + 1) 0 (msS 22 M v) := by
  obtain ⟨h1, h2, h3⟩ := h
  refine ⟨h1, ?_, h3⟩
  show mS 36 M = _
  rw [h2]
  congr 1
  unfold wSum
  refine sumN_congr _ (fun k hk => ?_)
  have : dnF y0 y (uNeeds M) M k = dnF y0 (y + 1) 0 (msS 22 M v) k := by
    unfold dnF
    rw [decide_eq_true hk, decide_eq_false (Nat.not_lt_zero k), Bool.and_true, Bool.and_false, Bool.or_false]
    congr 1
    show (decide (Yn M k < y) || decide (Yn M k = y)) = decide (Yn M k < y + 1)
    rw [← Bool.decide_or]
    exact decide_eq_decide.mpr ⟨fun z => by omega, fun z => by omega⟩
  rw [this]
  rfl
theorem WI_iter {y0 : Nat} (rule : Int32) {a b : Nat} (hb : b ≤ 60) : ∀ (n y : Nat) (s : Int32) (M : MS), y0 ≤ y → y + n < 1000 → WI y0 y 0 M → rI a b M → mS 22 M = nI y → WI y0 (y + n) 0 (iterN (uYr rule) n (s, M)).2 := by
  intro n
  induction n with
  | zero => exact fun y s M _ _ h _ _ => h
  | succ n ih =>
    intro y s M hy0 hyn h hI hy
    rw [iterN_s]
    have h12 := (nnB_c hI.1.2.1).2
    obtain ⟨i1, i2, i3⟩ := rI_upto hb rule (uNeeds M) 0 s M hI (by omega)
    have h2 := WI_upto hy0 (by omega) rule hb (uNeeds M) 0 s M h hI hy (by omega)
    rw [Nat.zero_add] at h2
    have en : uNeeds (upto (uNd rule) 0 (uNeeds M) (s, M)).2 = uNeeds M := congrArg Int32.toNatClampNeg (i2 16 (by decide) (by decide) (by decide))
    have ey : mS 22 (upto (uNd rule) 0 (uNeeds M) (s, M)).2 = nI y := (i2 22 (by decide) (by decide) (by decide)).trans hy
    rw [uYr_e rule s M rfl]
    generalize upto (uNd rule) 0 (uNeeds M) (s, M) = z at i1 h2 en ey ⊢
    rw [← en] at h2
    have := ih (y + 1) z.1 (msS 22 z.2 (mS 22 z.2 + 1)) (by omega) (by omega) (WI_end h2 _) (rI_yr i1 _) (by rw [mS_S, if_pos rfl, ey, nI_1])
    rw [show y + (n + 1) = y + 1 + n by omega]
    exact this
theorem sumU_n {f : Nat → Int32} {g : Nat → Nat} : ∀ n, (∀ k, k < n → f k = nI (g k)) → sumU f n = nI (sumN g n) := by
  intro n
  induction n with
  | zero => exact fun _ => rfl
  | succ n ih =>
    intro h
    simp only [sumU, sumN]
    rw [ih (fun k hk => h k (by omega)), h n (by omega), nI_add]
theorem tHL_n {T : TS} {M : MS} (h : RT T M) (hv : VB M) {k : Nat} (hk : k < uNeeds M) : tHL T (nI k) = nI (HLn M k) := by
  have h12 := (nnB_c h.2.1.2).2
  obtain ⟨-, hh, d, d1, d2, d3, d4⟩ := hv k hk
  rw [RN_hl (h.2.2.1 k (by omega)), d3, d4, nI_sub d1]
  unfold HLn
  rw [d3, d4, nI_clamp (by omega), nI_clamp (by omega)]
theorem tHLF_n {T : TS} {M : MS} (h : RT T M) (hv : VB M) {y0 : Nat} (hy : y0 < 1000) : tHLF T (nI y0) = nI (sumN (fun n => if y0 ≤ Yn M n then HLn M n else 0) (uNeeds M)) := by
  have h12 := (nnB_c h.2.1.2).2
  have en : tNeeds T = uNeeds M := by unfold tNeeds uNeeds; rw [h.2.1.1]
  unfold tHLF
  rw [en]
  refine sumU_n _ (fun k hk => ?_)
  obtain ⟨⟨y, y1, y2⟩, -⟩ := hv k hk
  rw [RN_y (h.2.2.1 k (by omega)), y2, tHL_n h hv hk, Yn_e y2 y1]
  by_cases e : y < y0
  · rw [if_pos ((nI_ltJ (by omega) (by omega)).mpr e), if_neg (by omega)]
    rfl
  · rw [if_neg (fun z => e ((nI_ltJ (by omega) (by omega)).mp z)), if_pos (by omega)]
theorem tHLF_yr (T : TS) (y v : Int32) : tHLF (tsYr T y) v = tHLF T v := by
  have e1 : ∀ n k, tOfN (tsYr T y) n k = tOfN T n k := fun _ _ => rfl
  have e2 : tNeeds (tsYr T y) = tNeeds T := rfl
  unfold tHLF tHL
  simp only [e1, e2]
/-- whom nobody helped in a run: the same -/
theorem R_without {T Z : TS} {M : MS} (hp : rnPre M) (hv : VB M) {rule : Int32} {y : Int32} (hz : RT (tsYr Z y) (uRz M rule 0).2) (hyr : tYr T = mS 22 M) : tHLF Z (tYr T) = mS 36 (uRz M rule 0).2 := by
  obtain ⟨y0, hy1, hy2⟩ := hp.2.2
  have hb := (hpB_c hp.1.1 (by decide)).2
  have s0 : ∀ i, ¬ i = 32 → ¬ i = 33 → ¬ i = 36 → ¬ i = 37 → mS i (uR0 M 0) = mS i M := fun i a b c d => uR0_S i a b c d M 0
  have a0 : ∀ i, ¬ i = 30 → mA i (uR0 M 0) = mA i M := fun i a => uR0_A i a M 0
  have en0 : uNeeds (uR0 M 0) = uNeeds M := by unfold uNeeds; rw [s0 16 (by decide) (by decide) (by decide) (by decide)]
  have hv0 : VB (uR0 M 0) := by
    intro n hn
    rw [en0] at hn
    rw [a0 8 (by decide), a0 7 (by decide), a0 9 (by decide)]
    exact hv n hn
  have hw0 : WI y0 y0 0 (uR0 M 0) := by
    refine ⟨by unfold uR0; rw [mS_S, if_pos rfl], ?_, hv0⟩
    have : wSum y0 y0 0 (uR0 M 0) = 0 := by
      unfold wSum
      have : ∀ n, n < uNeeds (uR0 M 0) → (if dnF y0 y0 0 (uR0 M 0) n = true then HLn (uR0 M 0) n else 0) = (fun _ => 0) n := fun n _ => by
        rw [if_neg]
        unfold dnF
        rw [decide_eq_false (Nat.not_lt_zero n), Bool.and_false, Bool.or_false]
        intro z
        rw [Bool.and_eq_true] at z
        have z1 := of_decide_eq_true z.1
        have z2 := of_decide_eq_true z.2
        omega
      rw [sumN_congr _ this]
      generalize uNeeds (uR0 M 0) = n
      induction n with
      | zero => rfl
      | succ n ih => simp only [sumN]; omega
    rw [this]
    unfold uR0
    rw [mS_ne (by decide), mS_S, if_pos rfl]
    rfl
  have hw := WI_iter rule hb (10 - y0) y0 0 (uR0 M 0) (Nat.le_refl _) (by omega) hw0 (uR0_rI hp 0) ((s0 22 (by decide) (by decide) (by decide) (by decide)).trans hy2)
  have e : iterN (uYr rule) (10 - y0) (0, uR0 M 0) = uRz M rule 0 := by unfold uRz; rw [hy2, nI_clamp (by omega)]
  rw [e] at hw
  generalize uRz M rule 0 = z at hw hz
  obtain ⟨w1, w2, w3⟩ := hw
  have := tHLF_n hz w3 hy1
  rw [hyr, hy2, w2]
  rw [← tHLF_yr Z y, this]
  refine congrArg nI ?_
  unfold wSum
  refine sumN_congr _ (fun n hn => ?_)
  obtain ⟨⟨yy, y1, y2⟩, -⟩ := w3 n hn
  have eY := Yn_e y2 y1
  unfold dnF
  rw [eY, decide_eq_false (Nat.not_lt_zero n), Bool.and_false, Bool.or_false]
  by_cases e : y0 ≤ yy
  · rw [if_pos e, decide_eq_true e, decide_eq_true (show yy < y0 + (10 - y0) by omega)]
    rfl
  · rw [if_neg e, decide_eq_false e]
    rfl
end
