noncomputable section
/-- the town is M, but for its year -/
def RTy (T : TS) (M : MS) : Prop := RT (tsYr T (mS 22 M)) M
theorem RTy_yr {T : TS} {M : MS} (h : RTy T M) (y : Int32) : RT (tsYr T y) (msS 22 M y) := RT_year h y
theorem RTy_any {T : TS} {M : MS} (h : RTy T M) (y : Int32) : RTy (tsYr T y) M := h
/-- who may help with the hand j, at its year -/
def avM (M : MS) (l : List Nat) (j q : Nat) : Bool := decide (q < uPeople M) && uMayW (msS 22 M (mA 8 M (l.getD j 0))) (nI q) (nI (l.getD j 0))
/-- p helps with the hand h -/
def hMv (M : MS) (l : List Nat) (h p : Nat) : MS := uW (msS 22 M (mA 8 M (l.getD h 0))) (nI p) (mA 4 M (l.getD h 0)) (mA 6 M (l.getD h 0)) (nI (l.getD h 0))
def a0M (M : MS) (l : List Nat) (j q : Nat) : Bool := decide (j < l.length) && avM M l j q
def st0M (M : MS) (l : List Nat) (h p j q : Nat) : Bool := decide (j < l.length) && avM (hMv M l h p) l j q
def gd0M (M : MS) (l : List Nat) (h p : Nat) : Nat := min 165 (gdN M p (l.getD h 0))
theorem LsS_need {S : SS} {l : List Nat} (h : LsS S l) {j : Nat} (hj : j < l.length) : sNeed S (nI j) = nI (l.getD j 0) := by
  have h8 := h.1
  unfold sNeed
  rw [h.2.1, if_pos, nI_clamp (by omega), h.2.2 j hj]
  exact ⟨nI_nlt0 (by omega), (nI_ltJ (by omega) (by omega)).mpr hj, (nI_ltJ (b := 8) (by omega) (by decide)).mpr (by omega)⟩
theorem mhP_b {T : TS} {h j p : Nat} {q : Int32} (hh : h < 8) (hj : j < 8) (hp : p < 7) : ∀ n i a, i + n ≤ 7 → bt (mhP T (nI h) q i n a) j p = (bt a j p || (decide (j = h) && (decide (i ≤ p) && (decide (p < i + n) && tMayW T (nI p) q)))) := by
  intro n
  induction n with
  | zero =>
    intro i a _
    have : (decide (i ≤ p) && (decide (p < i + 0) && tMayW T (nI p) q)) = false := by
      by_cases e : i ≤ p
      · rw [decide_eq_false (show ¬ p < i + 0 by omega), Bool.false_and, Bool.and_false]
      · rw [decide_eq_false e, Bool.false_and]
    rw [this, Bool.and_false, Bool.or_false]
    rfl
  | succ n ih =>
    intro i a hi
    rw [mhP_s, ih (i + 1) _ (by omega), bt_or]
    have e1 : bt (if tMayW T (nI i) q = true then sBit (nI h) (nI i) else 0) j p = (decide (j = h) && (decide (p = i) && tMayW T (nI p) q)) := by
      by_cases ei : p = i
      · subst ei
        cases tMayW T (nI p) q
        · rw [if_neg Bool.false_ne_true, bt_0, Bool.and_false, Bool.and_false]
        · rw [if_pos rfl, bt_sBit hh (by omega) hj hp, Bool.and_true]
      · rw [decide_eq_false ei, Bool.false_and, Bool.and_false]
        split
        · rw [bt_sBit hh (by omega) hj hp, decide_eq_false ei, Bool.and_false]
        · exact bt_0 _ _
    rw [e1]
    have e2 : (decide (p = i) || (decide (i + 1 ≤ p) && decide (p < i + 1 + n))) = (decide (i ≤ p) && decide (p < i + (n + 1))) := by
      rw [← Bool.decide_and, ← Bool.decide_or, ← Bool.decide_and]
      exact decide_eq_decide.mpr ⟨fun z => by omega, fun z => by omega⟩
    cases tMayW T (nI p) q
    · simp only [Bool.and_false, Bool.or_false]
    · simp only [Bool.and_true]
      rw [← e2]
      cases bt a j p <;> cases decide (j = h) <;> simp
theorem mfB_b {S : SS} {l : List Nat} (hL : LsS S l) {M : MS} (hl : ∀ j, j < l.length → l.getD j 0 < uNeeds M) {j p : Nat} (hj : j < 8) (hp : p < 7) : ∀ n h T a, RTy T M → h + n = l.length → bt (mfB S h n T a) j p = (bt a j p || (decide (h ≤ j) && a0M M l j p)) := by
  intro n
  induction n with
  | zero =>
    intro h T a _ hn
    have : (decide (h ≤ j) && a0M M l j p) = false := by
      unfold a0M
      by_cases e : h ≤ j
      · rw [decide_eq_false (show ¬ j < l.length by omega), Bool.false_and, Bool.and_false]
      · rw [decide_eq_false e, Bool.false_and]
    rw [this, Bool.or_false]
    rfl
  | succ n ih =>
    intro h T a hT hn
    have h8 := hL.1
    have hlh := hl h (by omega)
    have h12 := (nnB_c hT.2.1.2).2
    obtain ⟨ep, hp7⟩ := ppB_c hT.1.1.2.2.2.2
    rw [mfB_s, LsS_need hL (show h < l.length by omega)]
    have eY : sYr S (nI h) T = tsYr T (mA 8 M (l.getD h 0)) := by
      unfold sYr
      rw [LsS_need hL (show h < l.length by omega)]
      have : tOfN T (nI (l.getD h 0)) 4 = tOfN (tsYr T (mS 22 M)) (nI (l.getD h 0)) 4 := rfl
      rw [this, RN_y (hT.2.2.1 _ (by omega))]
    rw [eY]
    have hR := RTy_yr hT (mA 8 M (l.getD h 0))
    have ePp : tPeople (tsYr T (mA 8 M (l.getD h 0))) = uPeople M := by
      have : tPp (tsYr T (mA 8 M (l.getD h 0))) = mS 15 M := hR.1.1.2.1
      unfold tPeople uPeople
      rw [this]
    rw [ePp, ih (h + 1) _ _ (RTy_any hT _) (by omega), mhP_b (show h < 8 by omega) hj hp _ _ _ (by omega)]
    by_cases ej : j = h
    · subst ej
      have e1 : a0M M l j p = (decide (p < uPeople M) && tMayW (tsYr T (mA 8 M (l.getD j 0))) (nI p) (nI (l.getD j 0))) := by
        unfold a0M avM
        rw [decide_eq_true (show j < l.length by omega), Bool.true_and]
        by_cases epp : p < uPeople M
        · rw [decide_eq_true epp, Bool.true_and, Bool.true_and]
          have hC := RT_C hR (n := l.getD j 0) (by show _ < uNeeds M; exact hlh)
          have h1 : uOne (msS 22 M (mA 8 M (l.getD j 0))) (nI p) = true := uOne_lt hR.1.1.2.2.2.2 (by show p < uPeople M; exact epp)
          exact (R_mayW hC hp h1).symm
        · rw [decide_eq_false epp, Bool.false_and, Bool.false_and]
      rw [e1, decide_eq_false (show ¬ j + 1 ≤ j by omega), decide_eq_true (Nat.le_refl j), decide_eq_true (Nat.zero_le p), decide_eq_true (rfl : j = j), Nat.zero_add]
      cases bt a j p <;> simp
    · rw [decide_eq_false ej, show decide (h + 1 ≤ j) = decide (h ≤ j) from decide_eq_decide.mpr ⟨fun z => by omega, fun z => by omega⟩]
      cases bt a j p <;> simp
theorem mfT_y (S : SS) {M : MS} : ∀ n h T, RTy T M → RTy (mfT S h n T) M := by
  intro n
  induction n with
  | zero => exact fun _ _ h => h
  | succ n ih => exact fun h T hT => by rw [mfT_s]; exact ih _ _ (RTy_any hT _)
theorem mayB_b {S : SS} {l : List Nat} (hL : LsS S l) {M : MS} (hl : ∀ j, j < l.length → l.getD j 0 < uNeeds M) {T : TS} (hT : RTy T M) {h0 : Nat} (hh : h0 ≤ l.length) {j p : Nat} (hj : j < 8) (hp : p < 7) : bt (sMayB S T (nI h0)) j p = (decide (h0 ≤ j) && a0M M l j p) := by
  have h8 := hL.1
  unfold sMayB sHands
  rw [hL.2.1, nI_clamp (by omega), nI_clamp (by omega), mfB_b hL hl hj hp _ _ _ _ hT (by omega), bt_0, Bool.false_or]
/-- what is foreseen so far -/
def FP (dn : Nat → Nat → Prop) (M : MS) (l : List Nat) (S : SS) : Prop := ∀ h p, h < l.length → p < 7 → dn h p → a0M M l h p = true → eGo S (fsAt h p) = nI (gd0M M l h p) ∧ ∀ j q, h < j → j < 8 → q < 7 → bt (eSm S (fsAt h p)) j q = st0M M l h p j q
/-- all that a search stands on -/
def SB (M : MS) (l : List Nat) : Prop := (nwB M ∧ VB M ∧ VP M ∧ VG M ∧ hpB 60 M) ∧ (∀ j, j < l.length → l.getD j 0 < uNeeds M)
theorem tPutN_y (T : TS) (p k v y : Int32) : tPutN (tsYr T y) p k v = tsYr (tPutN T p k v) y := by
  unfold tPutN
  by_cases c : p < 0 ∨ 12 ≤ p ∨ k < 0 ∨ 6 ≤ k
  · rw [if_pos c, if_pos c]
  · rw [if_neg c, if_neg c]
    rfl
theorem tBack_y (T : TS) (y : Int32) : tBack (tsYr T y) = tsYr (tBack T) y := by
  unfold tBack
  by_cases c : tHh T ≤ 0 ∨ 270 < tHh T
  · rw [if_pos c, if_pos (show tHh (tsYr T y) ≤ 0 ∨ 270 < tHh (tsYr T y) from c)]
  · rw [if_neg c, if_neg (show ¬ (tHh (tsYr T y) ≤ 0 ∨ 270 < tHh (tsYr T y)) from c)]
    exact tPutN_y (tsHh T (tHh T - 1)) _ _ _ _
theorem fsStep_F {M : MS} {l : List Nat} (hB : SB M l) {E : ET} (hL : LsS (fS E) l) (hT : RTy (fT E) M) {h i : Nat} (hh : h < l.length) (hi : i < 7) {may : Int64} (hm : ∀ j q, j < 8 → q < 7 → bt may j q = a0M M l j q) {dn : Nat → Nat → Prop} (hF : FP dn M l (fS E)) :
    LsS (fS (fsStep h i (nI (l.getD h 0)) may E)) l ∧ RTy (fT (fsStep h i (nI (l.getD h 0)) may E)) M ∧ eSk (fS (fsStep h i (nI (l.getD h 0)) may E)) = eSk (fS E) ∧ FP (fun a b => dn a b ∨ (a = h ∧ b = i)) M l (fS (fsStep h i (nI (l.getD h 0)) may E)) := by
  obtain ⟨⟨b1, b2, b3, b4, b5⟩, b6⟩ := hB
  have h8 := hL.1
  have hlh := b6 h hh
  have h12 := (nnB_c hT.2.1.2).2
  unfold fsStep
  cases hbit : bt may h i
  · rw [if_pos ((and_bit0 (by omega) hi).mpr hbit)]
    refine ⟨hL, hT, rfl, fun a b ha hb hd => ?_⟩
    rcases hd with hd | ⟨rfl, rfl⟩
    · exact hF a b ha hb hd
    · intro z
      rw [hm a b (by omega) hb, z] at hbit
      exact Bool.noConfusion hbit
  · rw [if_neg (fun z => by rw [(and_bit0 (by omega) hi).mp z] at hbit; exact Bool.noConfusion hbit)]
    rw [hm h i (by omega) hi] at hbit
    have hav : avM M l h i = true := by unfold a0M at hbit; exact (Bool.and_eq_true _ _ ▸ hbit).2
    unfold avM at hav
    rw [Bool.and_eq_true] at hav
    have hip := of_decide_eq_true hav.1
    have eY : tOfN (fT E) (nI (l.getD h 0)) 4 = mA 8 M (l.getD h 0) := by
      have : tOfN (fT E) (nI (l.getD h 0)) 4 = tOfN (tsYr (fT E) (mS 22 M)) (nI (l.getD h 0)) 4 := rfl
      rw [this, RN_y (hT.2.2.1 _ (by omega))]
    rw [eY]
    have hR := RTy_yr hT (mA 8 M (l.getD h 0))
    obtain ⟨o1, o2, -⟩ := uMayW_c (show l.getD h 0 < 12 by omega) hav.2
    have eg : tGood (tsYr (fT E) (mA 8 M (l.getD h 0))) (nI i) (nI (l.getD h 0)) = nI (gd0M M l h i) := by
      obtain ⟨g1, g2⟩ := gdN_e b1 b3 b4 hi hlh (by omega)
      have e2 : uGood (msS 22 M (mA 8 M (l.getD h 0))) i (l.getD h 0) = uGood M i (l.getD h 0) := uGood_S (fun _ _ => rfl) _ _
      rw [R_good hR.1.1 (hR.2.2.1 _ (by omega)) hi, e2, g1]
      unfold gd0M
      rw [show min 165 (gdN M i (l.getD h 0)) = gdN M i (l.getD h 0) by omega]
    have hb60 : hpB 60 (msS 22 M (mA 8 M (l.getD h 0))) := b5
    have hR2 := RT_do hR hb60 (by omega) hi (by omega) o1 o2
    have hR2 : RT (tDo (tsYr (fT E) (mA 8 M (l.getD h 0))) (nI i) (nI (l.getD h 0))) (hMv M l h i) := hR2
    have hy2 : RTy (tDo (tsYr (fT E) (mA 8 M (l.getD h 0))) (nI i) (nI (l.getD h 0))) (hMv M l h i) := by
      have := RT_year hR2 (mS 22 (hMv M l h i))
      have e3 : msS 22 (hMv M l h i) (mS 22 (hMv M l h i)) = hMv M l h i := msS_e 22 _
      rw [e3] at this
      exact this
    rw [eg]
    have hLg : LsS (eaGo (fS E) (fsAt h i) (nI (gd0M M l h i))) l := hL
    have en2 : uNeeds (hMv M l h i) = uNeeds M := by unfold hMv; rw [uNeeds_W]; rfl
    have hl2 : ∀ j, j < l.length → l.getD j 0 < uNeeds (hMv M l h i) := fun j hj => by rw [en2]; exact b6 j hj
    have e1 : nI h + 1 = nI (h + 1) := nI_1 h
    rw [e1]
    have hmask : ∀ j q, j < 8 → q < 7 → bt (sMayB (eaGo (fS E) (fsAt h i) (nI (gd0M M l h i))) (tDo (tsYr (fT E) (mA 8 M (l.getD h 0))) (nI i) (nI (l.getD h 0))) (nI (h + 1))) j q = (decide (h + 1 ≤ j) && a0M (hMv M l h i) l j q) := fun j q hj hq => mayB_b hLg hl2 hy2 (by omega) hj hq
    have hT3 : RTy (sMayT (eaGo (fS E) (fsAt h i) (nI (gd0M M l h i))) (tDo (tsYr (fT E) (mA 8 M (l.getD h 0))) (nI i) (nI (l.getD h 0))) (nI (h + 1))) (hMv M l h i) := mfT_y _ _ _ _ hy2
    generalize sMayB (eaGo (fS E) (fsAt h i) (nI (gd0M M l h i))) (tDo (tsYr (fT E) (mA 8 M (l.getD h 0))) (nI i) (nI (l.getD h 0))) (nI (h + 1)) = mask at hmask ⊢
    generalize sMayT (eaGo (fS E) (fsAt h i) (nI (gd0M M l h i))) (tDo (tsYr (fT E) (mA 8 M (l.getD h 0))) (nI i) (nI (l.getD h 0))) (nI (h + 1)) = T3 at hT3 ⊢
    refine ⟨hL, ?_, rfl, fun a b ha hb hd hab => ?_⟩
    · have eHl : uHelps (hMv M l h i) = uHelps M + 1 := by
        unfold hMv
        exact uHelps_W hb60 (by omega) _ _ _ _
      have hbk := RT_back hT3 eHl
      have hme : mEq (msS 22 M (mA 8 M (l.getD h 0))) (uBack (hMv M l h i)) := mEq_WB hb60 (by omega) (by omega) _ _ _
      rw [tBack_y] at hbk
      have hb2 := RT_year hbk (mS 22 M)
      have hme2 : mEq (msS 22 (uBack (hMv M l h i)) (mS 22 M)) M := by
        have hH : uHelps (msS 22 (uBack (hMv M l h i)) (mS 22 M)) = uHelps M := by
          have := hme.1 17 (by omega)
          unfold uHelps
          rw [mS_ne (by decide), this]
          rfl
        refine ⟨fun k hk => ?_, fun k hk => ?_, fun k hk x hx => ?_⟩
        · by_cases e : k = 22
          · subst e
            rw [mS_S, if_pos rfl]
          · rw [mS_ne e, hme.1 k hk, mS_ne e]
        · exact (hme.2.1 k hk).symm
        · rw [hH] at hx
          exact (hme.2.2 k hk x hx).symm
      exact RT_mEq hme2 hb2
    · have eGo2 : ∀ k, eGo (eaSm (eaGo (fS E) (fsAt h i) (nI (gd0M M l h i))) (fsAt h i) mask) k = if k = fsAt h i then nI (gd0M M l h i) else eGo (fS E) k := fun k => rfl
      have eSm2 : ∀ k, eSm (eaSm (eaGo (fS E) (fsAt h i) (nI (gd0M M l h i))) (fsAt h i) mask) k = if k = fsAt h i then mask else eSm (fS E) k := fun k => rfl
      show eGo (eaSm (eaGo (fS E) (fsAt h i) (nI (gd0M M l h i))) (fsAt h i) mask) (fsAt a b) = _ ∧ ∀ j q, _ → _ → _ → bt (eSm (eaSm (eaGo (fS E) (fsAt h i) (nI (gd0M M l h i))) (fsAt h i) mask) (fsAt a b)) j q = _
      rw [eGo2, eSm2]
      by_cases e : a = h ∧ b = i
      · obtain ⟨rfl, rfl⟩ := e
        rw [if_pos rfl, if_pos rfl]
        refine ⟨rfl, fun j q h1 h2 h3 => ?_⟩
        rw [hmask j q h2 h3, decide_eq_true (show a + 1 ≤ j by omega), Bool.true_and]
        rfl
      · have ne : ¬ fsAt a b = fsAt h i := fun z => e (by unfold fsAt at z; omega)
        rw [if_neg ne, if_neg ne]
        rcases hd with hd | hd
        · exact hF a b ha hb hd hab
        · exact absurd hd e
theorem fsN_F {M : MS} {l : List Nat} (hB : SB M l) {h : Nat} (hh : h < l.length) {may : Int64} (hm : ∀ j q, j < 8 → q < 7 → bt may j q = a0M M l j q) : ∀ n i E (dn : Nat → Nat → Prop), i + n ≤ 7 → LsS (fS E) l → RTy (fT E) M → FP dn M l (fS E) →
    LsS (fS (fsN h (nI (l.getD h 0)) may i n E)) l ∧ RTy (fT (fsN h (nI (l.getD h 0)) may i n E)) M ∧ eSk (fS (fsN h (nI (l.getD h 0)) may i n E)) = eSk (fS E) ∧ FP (fun a b => dn a b ∨ (a = h ∧ i ≤ b ∧ b < i + n)) M l (fS (fsN h (nI (l.getD h 0)) may i n E)) := by
  intro n
  induction n with
  | zero => exact fun i E dn _ h1 h2 h3 => ⟨h1, h2, rfl, fun a b ha hb hd => h3 a b ha hb (hd.resolve_right (fun z => by omega))⟩
  | succ n ih =>
    intro i E dn hi h1 h2 h3
    rw [fsN_s]
    obtain ⟨s1, s2, s3, s4⟩ := fsStep_F hB h1 h2 hh (show i < 7 by omega) hm h3
    obtain ⟨t1, t2, t3, t4⟩ := ih (i + 1) _ _ (by omega) s1 s2 s4
    refine ⟨t1, t2, t3.trans s3, fun a b ha hb hd => t4 a b ha hb ?_⟩
    rcases hd with hd | ⟨q1, q2, q3⟩
    · exact Or.inl (Or.inl hd)
    · by_cases e : b = i
      · exact Or.inl (Or.inr ⟨q1, e⟩)
      · exact Or.inr ⟨q1, by omega, by omega⟩
theorem moH_F {M : MS} {l : List Nat} (hB : SB M l) {may : Int64} (hm : ∀ j q, j < 8 → q < 7 → bt may j q = a0M M l j q) : ∀ n h E (dn : Nat → Nat → Prop), h + n = l.length → LsS (fS E) l → RTy (fT E) M → FP dn M l (fS E) →
    LsS (fS (moH may h n E)) l ∧ RTy (fT (moH may h n E)) M ∧ eSk (fS (moH may h n E)) = eSk (fS E) ∧ FP (fun a b => dn a b ∨ h ≤ a) M l (fS (moH may h n E)) := by
  intro n
  induction n with
  | zero => exact fun h E dn hn h1 h2 h3 => ⟨h1, h2, rfl, fun a b ha hb hd => h3 a b ha hb (hd.resolve_right (fun z => by omega))⟩
  | succ n ih =>
    intro h E dn hn h1 h2 h3
    have h8 := h1.1
    rw [moH_s]
    unfold sFore
    rw [nI_clamp (show h < 2 ^ 31 by omega), LsS_need h1 (show h < l.length by omega)]
    obtain ⟨s1, s2, s3, s4⟩ := fsN_F hB (show h < l.length by omega) hm 7 0 E dn (by omega) h1 h2 h3
    obtain ⟨t1, t2, t3, t4⟩ := ih (h + 1) _ _ (by omega) s1 s2 s4
    refine ⟨t1, t2, t3.trans s3, fun a b ha hb hd => t4 a b ha hb ?_⟩
    rcases hd with hd | hd
    · exact Or.inl (Or.inl hd)
    · by_cases e : a = h
      · exact Or.inl (Or.inr ⟨e, by omega, by omega⟩)
      · exact Or.inr (by omega)
end
