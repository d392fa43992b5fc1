noncomputable section
/-- bounds of what is told of needs -/
def VG (M : MS) : Prop := ∀ n, n < uNeeds M → ∃ g, g ≤ 9 ∧ mA 6 M n = nI g
def gdN (M : MS) (p n : Nat) : Nat := (uGood M p n).toNatClampNeg
theorem gdN_e {M : MS} (hw : nwB M) (hv : VP M) (hg : VG M) {p n : Nat} (hp : p < 7) (hn : n < uNeeds M) (hn2 : n < 12) : uGood M p n = nI (gdN M p n) ∧ gdN M p n ≤ 165 := by
  obtain ⟨⟨w, hw1, ew⟩, k, hk, ek⟩ := hw n (by omega)
  obtain ⟨g, hg1, eg⟩ := hg n hn
  obtain ⟨v, hv1, ev⟩ := uGood_n hv hp hw1 hk hg1 ew ek eg
  unfold gdN
  rw [ev, nI_clamp (by omega)]
  exact ⟨rfl, hv1⟩
theorem uGood_S {M M2 : MS} (hA : ∀ i, 1 ≤ i ∧ i ≤ 6 → mA i M2 = mA i M) (p n : Nat) : uGood M2 p n = uGood M p n := by
  unfold uGood uMin
  rw [hA 1 (by omega), hA 2 (by omega), hA 3 (by omega), hA 4 (by omega), hA 5 (by omega), hA 6 (by omega)]
theorem fhM_n {M : MS} {q : Nat} (hg : ∀ p, p < 7 → uGood M p q = nI (gdN M p q) ∧ gdN M p q ≤ 165) : ∀ n p m, p + n ≤ 7 → m ≤ 165 → fhM M q p n (nI m) = nI (mxU (fun p => gdN M p q) p n m) := by
  intro n
  induction n with
  | zero => exact fun _ _ _ _ => rfl
  | succ n ih =>
    intro p m hp hm
    obtain ⟨g1, g2⟩ := hg p (by omega)
    rw [fhM_s, g1]
    have e : (if nI m < nI (gdN M p q) then nI (gdN M p q) else nI m) = nI (max m (gdN M p q)) := jmax_n (by omega) (by omega)
    rw [e]
    exact ih (p + 1) _ (by omega) (by omega)
theorem mxU_mx (f : Nat → Nat) : ∀ n p b, mxU f p n b = max b (mxU f p n 0) ∧ ∀ k, p ≤ k → k < p + n → f k ≤ mxU f p n b := by
  intro n
  induction n with
  | zero => exact fun p b => ⟨by simp only [mxU]; omega, fun k h1 h2 => absurd h2 (by omega)⟩
  | succ n ih =>
    intro p b
    simp only [mxU]
    obtain ⟨i1, i2⟩ := ih (p + 1) (max b (f p))
    obtain ⟨j1, j2⟩ := ih (p + 1) (max 0 (f p))
    refine ⟨by rw [i1, j1]; omega, fun k h1 h2 => ?_⟩
    by_cases e : k = p
    · subst e
      rw [i1]
      omega
    · exact i2 k (by omega) (by omega)
/-- the good that hands from d on can bring at most -/
def rsF (G : Nat → Nat) : Nat → Nat → Nat
  | _, 0 => 0
  | d, k + 1 => G d + rsF G (d + 1) k
theorem fhR_n {D : Nat} {G : Nat → Nat} (hD : D ≤ 8) : ∀ n M, n ≤ D → (∀ M2, fhS M M2 → ∀ d, d < n → fhM M2 (mA 38 M2 d).toNatClampNeg 0 (uPeople M2) 0 = nI (G d) ∨ ¬ mA 38 M2 = mA 38 M) → mA 41 M n = nI (rsF G n (D - n)) → (∀ d, d ≤ n → mA 41 (fhR n M) d = nI (rsF G d (D - d))) ∧ (∀ d, n < d → mA 41 (fhR n M) d = mA 41 M d) ∧ mA 38 (fhR n M) = mA 38 M := by
  intro n
  induction n with
  | zero => exact fun M _ _ h0 => ⟨fun d hd => by rw [show d = 0 by omega]; exact h0, fun _ _ => rfl, rfl⟩
  | succ n ih =>
    intro M hn hG h0
    rw [fhR_s]
    have hg := (hG M (fhS_r M) n (by omega)).resolve_right (fun z => z rfl)
    rw [hg, h0, nI_add]
    have eh : mA 38 (maA 41 M n (nI (rsF G (n + 1) (D - (n + 1)) + G n))) = mA 38 M := by rw [mA_a, if_neg (by decide)]
    have er : ∀ d, mA 41 (maA 41 M n (nI (rsF G (n + 1) (D - (n + 1)) + G n))) d = if d = n then nI (rsF G (n + 1) (D - (n + 1)) + G n) else mA 41 M d := fun d => by rw [mA_a, if_pos rfl]; rfl
    have hs : fhS M (maA 41 M n (nI (rsF G (n + 1) (D - (n + 1)) + G n))) := fhS_rest M _ _
    generalize maA 41 M n (nI (rsF G (n + 1) (D - (n + 1)) + G n)) = M1 at eh er hs
    obtain ⟨i1, i2, i3⟩ := ih M1 (by omega) (fun M2 h2 d hd => by
      rcases hG M2 (fhS_t hs h2) d (by omega) with q | q
      · exact Or.inl q
      · exact Or.inr (fun z => q (z.trans eh))) (by
      rw [er, if_pos rfl, show D - n = (D - (n + 1)) + 1 by omega]
      simp only [rsF]
      exact congrArg nI (by omega))
    refine ⟨fun d hd => ?_, fun d hd => ?_, i3.trans eh⟩
    · rcases Nat.lt_or_eq_of_le hd with hlt | rfl
      · exact i1 d (by omega)
      · rw [i2 (n + 1) (by omega), er, if_neg (by omega)]
        exact h0
    · rw [i2 d (by omega), er, if_neg (by omega)]
def Gmx (M : MS) (l : List Nat) (j : Nat) : Nat := mxU (fun p => gdN M p (l.getD j 0)) 0 (uPeople M) 0
theorem hlK_in (M : MS) (y : Nat) : ∀ n k x, x ∈ hlK M y k n → x < k + n := by
  intro n
  induction n with
  | zero => exact fun k x h => absurd h List.not_mem_nil
  | succ n ih =>
    intro k x h
    simp only [hlK] at h
    rcases List.mem_append.mp h with h | h
    · have := List.eq_of_mem_replicate h
      omega
    · have := ih (k + 1) x h
      omega
theorem hlY_in (M : MS) : ∀ n y x, x ∈ hlY M y n → x < uNeeds M := by
  intro n
  induction n with
  | zero => exact fun y x h => absurd h List.not_mem_nil
  | succ n ih =>
    intro y x h
    simp only [hlY] at h
    rcases List.mem_append.mp h with h | h
    · have := hlK_in M y (uNeeds M) 0 x h
      omega
    · exact ih (y + 1) x h
theorem getD_mem {l : List Nat} {j : Nat} (h : j < l.length) : l.getD j 0 ∈ l := by
  rw [List.getD_eq_getElem?_getD, List.getElem?_eq_getElem h]
  exact List.getElem_mem h
theorem HLs_lt (M : MS) {j : Nat} (h : j < (HLs M).length) : (HLs M).getD j 0 < uNeeds M := hlY_in M _ _ _ (getD_mem h)
/-- what the rows of hands are behind findHands -/
def FHz (M Z : MS) : Prop := fhS M Z ∧ LmM Z (HLs M) ∧ (HLs M).length ≤ 8 ∧ ∀ d, d ≤ (HLs M).length → mA 41 Z d = nI (rsF (Gmx M (HLs M)) d ((HLs M).length - d))
theorem uFH_z {M : MS} (hw : nwB M) (hn : nnB M) (hp : ppB M) (hyr : yrB M) (hv : VB M) (hvp : VP M) (hvg : VG M) :
    (uFH M).1 = (decide ((HLs M).length ≤ 8) && decide (cY M (mS 22 M).toNatClampNeg (10 - (mS 22 M).toNatClampNeg) ≤ 8)) ∧ ((uFH M).1 = true → FHz M (uFH M).2) := by
  obtain ⟨y0, hy1, hy2⟩ := hyr
  have h12 := (nnB_c hn).2
  obtain ⟨ep, hp7⟩ := ppB_c hp
  have cy : (mS 22 M).toNatClampNeg = y0 := by rw [hy2, nI_clamp (by omega)]
  have hS0 : fhS M (msS 42 M 0) := ⟨fun i hi => mS_ne hi, fun i _ _ => rfl⟩
  have hL0 : LmM (msS 42 M 0) [] := ⟨by show 0 ≤ 8; omega, by rw [mS_S, if_pos rfl]; rfl, fun j hj => absurd hj (Nat.not_lt_zero j)⟩
  obtain ⟨f1, f2⟩ := fhY_L (10 - y0) y0 0 (msS 42 M 0) [] (fhS_VB hS0 hv) (by omega) hL0
  rw [fhS_hY hS0] at f1 f2
  have eH : HLs M = hlY M y0 (10 - y0) := by unfold HLs; rw [cy]
  have hYS := fhS_t hS0 (fhY_S (10 - y0) y0 (nI 0) (msS 42 M 0))
  have e0 : uFH M = fhE (fhY y0 (10 - y0) (nI 0) (msS 42 M 0)) := by unfold uFH; rw [cy]; rfl
  have hin : ∀ j, j < (HLs M).length → (HLs M).getD j 0 < uNeeds M := fun j hj => HLs_lt M hj
  rw [← eH] at f1 f2
  have hlen : ([] : List Nat).length + (HLs M).length = (HLs M).length := by show 0 + _ = _; omega
  rw [hlen] at f1 f2
  rw [cy, e0]
  have hc12 : cY M y0 (10 - y0) ≤ 12 := by
    rw [(hlY_len M (10 - y0) y0).2]
    have := sumN_le (f := fun k => if y0 ≤ Yn M k ∧ Yn M k < y0 + (10 - y0) then 1 else 0) (b := 1) (uNeeds M) (fun k _ => by split <;> omega)
    omega
  have ecY : cY (msS 42 M 0) y0 (10 - y0) = cY M y0 (10 - y0) := fhS_cY hS0 _ _
  have hS := hYS
  clear eH hlen
  unfold FHz
  generalize HLs M = l at *
  generalize fhY y0 (10 - y0) (nI 0) (msS 42 M 0) = r at *
  rcases Nat.lt_or_ge 8 l.length with hb | hb
  · unfold fhE
    rw [f2 hb, if_neg Bool.false_ne_true, decide_eq_false (by omega)]
    exact ⟨rfl, fun z => absurd z Bool.false_ne_true⟩
  · obtain ⟨a1, a2, a3⟩ := f1 hb
    have a3 : LmM r.2.2 l := a3
    unfold fhE
    rw [a1, if_pos rfl, decide_eq_true hb, Bool.true_and, a2, Nat.zero_add, ecY]
    refine ⟨?_, fun _ => ?_⟩
    · dsimp only
      exact decide_eq_decide.mpr (nI_leJ (b := 8) (by omega) (by decide))
    · dsimp only
      have hn8 : (mS 42 r.2.2).toNatClampNeg = l.length := by rw [a3.2.1, nI_clamp (by omega)]
      rw [hn8]
      have hsr : fhS r.2.2 (maA 41 r.2.2 l.length 0) := fhS_rest _ _ _
      have er : mA 41 (maA 41 r.2.2 l.length 0) l.length = nI (rsF (Gmx M l) l.length (l.length - l.length)) := by
        rw [mA_a, if_pos rfl, upd_eq, Nat.sub_self]
        rfl
      have ehd : mA 38 (maA 41 r.2.2 l.length 0) = mA 38 r.2.2 := by rw [mA_a, if_neg (by decide)]
      have ehm : mS 42 (maA 41 r.2.2 l.length 0) = mS 42 r.2.2 := rfl
      generalize maA 41 r.2.2 l.length 0 = R at *
      have hSR := fhS_t hS hsr
      obtain ⟨o1, o2, o3⟩ := fhR_n (G := Gmx M l) hb l.length R (Nat.le_refl _) (fun M2 h2 d hd => by
        by_cases eh : mA 38 M2 = mA 38 R
        · refine Or.inl ?_
          have hS2 := fhS_t hSR h2
          have eg : ∀ p n, uGood M2 p n = uGood M p n := fun p n => uGood_S (fun i hi => hS2.2 i (by omega) (by omega)) p n
          have ep2 : uPeople M2 = uPeople M := by unfold uPeople; rw [hS2.1 15 (by decide)]
          have hq := hin d hd
          rw [eh, ehd, a3.2.2 d hd, nI_clamp (by omega), ep2]
          have egd : ∀ p n, gdN M2 p n = gdN M p n := fun p n => by unfold gdN; rw [eg]
          have := fhM_n (M := M2) (q := l.getD d 0) (fun p hp => by rw [eg, egd]; exact gdN_e hw hvp hvg hp hq (by omega)) (uPeople M) 0 0 (by omega) (by omega)
          rw [show (0 : Int32) = nI 0 from rfl, this]
          unfold Gmx
          simp only [egd]
        · exact Or.inr eh) er
      refine ⟨fhS_t hSR (fhR_S _ _), ⟨hb, ?_, fun j hj => ?_⟩, hb, fun d hd => o1 d hd⟩
      · rw [show mS 42 (fhR l.length R) = mS 42 R from ?_, ehm]
        · exact a3.2.1
        · have key : ∀ n Q, mS 42 (fhR n Q) = mS 42 Q := by
            intro n
            induction n with
            | zero => exact fun _ => rfl
            | succ n ih => exact fun Q => by rw [fhR_s, ih]; rfl
          exact key _ _
      · rw [o3, ehd]
        exact a3.2.2 j hj
/-- whether a search may be: the same -/
theorem R_fits {T : TS} {M : MS} (h : RT T M) (hyr : yrB M) (hv : VB M) : sFits T = (decide ((HLs M).length ≤ 8) && decide (cY M (mS 22 M).toNatClampNeg (10 - (mS 22 M).toNatClampNeg) ≤ 8)) := by
  obtain ⟨y0, hy1, hy2⟩ := hyr
  have h12 := (nnB_c h.2.1.2).2
  have en : tNeeds T = uNeeds M := by unfold tNeeds uNeeds; rw [h.2.1.1]
  have eyr : tYr T = nI y0 := h.1.1.2.2.1.trans hy2
  have cy : (mS 22 M).toNatClampNeg = y0 := by rw [hy2, nI_clamp (by omega)]
  have e1 : sYearN T = nI (sumN (fun k => if y0 ≤ Yn M k then 1 else 0) (uNeeds M)) := by
    unfold sYearN
    rw [en, eyr]
    refine sumU_n _ (fun k hk => ?_)
    obtain ⟨⟨y, y1, y2⟩, -⟩ := hv k hk
    rw [RN_y (h.2.2.1 k (by omega)), y2, Yn_e y2 y1]
    by_cases e : y0 ≤ y
    · rw [if_pos ((nI_leJ (by omega) (by omega)).mpr e), if_pos e]
      rfl
    · rw [if_neg (fun z => e ((nI_leJ (by omega) (by omega)).mp z)), if_neg e]
      rfl
  have hY : ∀ k, k < uNeeds M → (y0 ≤ Yn M k ↔ (y0 ≤ Yn M k ∧ Yn M k < y0 + (10 - y0))) := fun k hk => by
    obtain ⟨⟨y, y1, y2⟩, -⟩ := hv k hk
    rw [Yn_e y2 y1]
    omega
  have l1 : (HLs M).length = sumN (fun k => if y0 ≤ Yn M k then HLn M k else 0) (uNeeds M) := by
    unfold HLs
    rw [cy, (hlY_len M _ _).1]
    exact sumN_congr _ (fun k hk => by
      have := hY k hk
      by_cases e : y0 ≤ Yn M k
      · rw [if_pos e, if_pos (this.mp e)]
      · rw [if_neg e, if_neg (fun z => e z.1)])
  have l2 : cY M y0 (10 - y0) = sumN (fun k => if y0 ≤ Yn M k then 1 else 0) (uNeeds M) := by
    rw [(hlY_len M _ _).2]
    exact sumN_congr _ (fun k hk => by
      have := hY k hk
      by_cases e : y0 ≤ Yn M k
      · rw [if_pos e, if_pos (this.mp e)]
      · rw [if_neg e, if_neg (fun z => e z.1)])
  unfold sFits
  rw [e1, eyr, tHLF_n h hv hy1, cy, l1, l2]
  have b1 := sumN_le (f := fun k => if y0 ≤ Yn M k then 1 else 0) (b := 1) (uNeeds M) (fun k _ => by split <;> omega)
  have b2 := sumN_le (f := fun k => if y0 ≤ Yn M k then HLn M k else 0) (b := 3) (uNeeds M) (fun k hk => by
    obtain ⟨-, hh, d, d1, d2, d3, d4⟩ := hv k hk
    have : HLn M k ≤ 3 := by
      unfold HLn
      rw [d3, d4, nI_clamp (by omega), nI_clamp (by omega)]
      omega
    split <;> omega)
  generalize sumN (fun k => if y0 ≤ Yn M k then 1 else 0) (uNeeds M) = a at *
  generalize sumN (fun k => if y0 ≤ Yn M k then HLn M k else 0) (uNeeds M) = b at *
  rw [show decide (nI a ≤ 8) = decide (a ≤ 8) from decide_eq_decide.mpr (nI_leJ (b := 8) (by omega) (by decide)), show decide (nI b ≤ 8) = decide (b ≤ 8) from decide_eq_decide.mpr (nI_leJ (b := 8) (by omega) (by decide)), Bool.and_comm]
end
