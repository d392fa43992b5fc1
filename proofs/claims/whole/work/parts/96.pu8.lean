noncomputable section
/-- bounds of what is told of persons -/
def VP (M : MS) : Prop := (∀ p, p < 7 → ∃ a, a ≤ 99 ∧ mA 2 M p = nI a) ∧ ∀ j, j < 28 → ∃ s, s ≤ 9 ∧ mA 3 M j = nI s
theorem abv {a b : Nat} (ha : a < 2 ^ 30) (hb : b < 2 ^ 30) : (if nI a - nI b < 0 then 0 else nI a - nI b) = nI (a - b) := by
  rcases Nat.lt_or_ge a b with h | h
  · rw [if_pos (by rw [Int32.lt_iff_toInt_lt, nI_subi ha hb]; show _ < (0 : Int); omega), show a - b = 0 by omega]
    rfl
  · rw [nI_sub h, if_neg (nI_nlt0 (by omega))]
theorem uMin_n {M : MS} (hv : VP M) {p q : Nat} (hp : p < 7) (hq : q < 7) : ∃ v, v ≤ 99 ∧ uMin M p q = nI v := by
  obtain ⟨a, ha, ea⟩ := hv.1 p hp
  obtain ⟨b, hb, eb⟩ := hv.1 q hq
  unfold uMin
  rw [ea, eb]
  rcases Nat.lt_or_ge a b with h | h
  · refine ⟨b - a, by omega, ?_⟩
    rw [if_pos (by rw [Int32.lt_iff_toInt_lt, nI_subi (by omega) (by omega)]; show _ < (0 : Int); omega), Int32.neg_sub, nI_sub (by omega)]
  · exact ⟨a - b, by omega, by rw [nI_sub h, if_neg (nI_nlt0 (by omega))]⟩
theorem uGood_n {M : MS} (hv : VP M) {p n w k g : Nat} (hp : p < 7) (hw : w < 7) (hk : k < 4) (hg : g ≤ 9) (ew : mA 4 M n = nI w) (ek : mA 5 M n = nI k) (eg : mA 6 M n = nI g) : ∃ v, v ≤ 165 ∧ uGood M p n = nI v := by
  obtain ⟨s, hs, es⟩ := hv.2 (4 * p + k) (by omega)
  obtain ⟨mi, hm, em⟩ := uMin_n hv hp hw
  have h81 : s * g ≤ 81 := Nat.le_trans (Nat.mul_le_mul hs hg) (by decide)
  unfold uGood
  rw [ek, nI_clamp (show k < 2 ^ 31 by omega), es, eg, ew, nI_clamp (show w < 2 ^ 31 by omega), em, pk_mul]
  have e10 : nI mi / 10 = nI (mi / 10) := pk_div (d := 10) (by omega) (by decide) (by decide)
  dsimp only
  rw [e10, abv (by omega) (by have : mi / 10 ≤ mi := Nat.div_le_self _ _; omega)]
  have hpl : s * g - mi / 10 ≤ 81 := by omega
  generalize s * g - mi / 10 = pl at hpl
  generalize s * g = wh at h81
  have e2 : nI pl / 2 = nI (pl / 2) := pk_div (d := 2) (by omega) (by decide) (by decide)
  have hd2 : pl / 2 ≤ pl := Nat.div_le_self _ _
  have ed : (2 : Int32) * nI pl = nI (2 * pl) := pk_mul 2 pl
  have edoc : ∃ dc, dc ≤ 162 ∧ (if nI k = 0 then 2 * nI pl else nI pl) = nI dc := by
    split
    · exact ⟨2 * pl, by omega, ed⟩
    · exact ⟨pl, by omega, rfl⟩
  obtain ⟨dc, hdc, edc⟩ := edoc
  have e5 : (if nI pl - 5 < 0 then 0 else nI pl - 5) = nI (pl - 5) := abv (b := 5) (by omega) (by decide)
  rw [edc, e2, e5]
  have e3 : nI dc + 3 = nI (dc + 3) := nI_add dc 3
  rw [e3]
  repeat' split
  all_goals first | exact ⟨_, by omega, rfl⟩ | exact ⟨0, by omega, rfl⟩
theorem tOnly_e (T : TS) (a b c : Int32) : tOnly T a b c = tsNt (tsNn T 1) (upd (upd (upd (upd (upd (upd (tNt T) 0 a) 1 b) 2 c) 3 1) 4 (tYr T)) 5 0) := by
  unfold tOnly
  rw [show (0 : Int32) = nI 0 from rfl, show (1 : Int32) = nI 1 from rfl, show (2 : Int32) = nI 2 from rfl, show (3 : Int32) = nI 3 from rfl, show (4 : Int32) = nI 4 from rfl, show (5 : Int32) = nI 5 from rfl]
  rw [tPutN_n _ _ (by decide) (by decide), tPutN_n _ _ (by decide) (by decide), tPutN_n _ _ (by decide) (by decide), tPutN_n _ _ (by decide) (by decide), tPutN_n _ _ (by decide) (by decide), tPutN_n _ _ (by decide) (by decide)]
  rfl
/-- a town in mind where needs are only asked -/
def RA (T : TS) (M : MS) : Prop := RQ T M ∧ RK T M ∧ haB M ∧ nnB M ∧ VP M
theorem RQ_N {T : TS} {M : MS} (h : RQ T M) (f : Nat → Int32) (n : Int32) : RQ (tsNt (tsNn T n) f) M := h
theorem RQ_t {T : TS} {M : MS} (h : RQ T M) (i : Nat) (v : Int32) : RQ (taNt T i v) M := h
theorem RK_t {T : TS} {M : MS} (h : RK T M) (i : Nat) (v : Int32) : RK (taNt T i v) M := h
theorem RA_ask {T : TS} {M : MS} (h : RA T M) {p k : Nat} (hp : p < 7) (h1 : uOne M (nI p) = true) (hk : k < 4) (g : Int32) : RC (tOnly T (nI p) (nI k) g) (uAsk M (nI p) (nI k) g) 0 12 := by
  obtain ⟨q1, q2, q3, q4, q5⟩ := h
  rw [tOnly_e]
  have hha : haB (uAsk M (nI p) (nI k) g) := by
    intro n hn
    rw [uAsk_7, uAsk_9]
    by_cases e : n = 12
    · subst e
      rw [upd_eq, upd_eq]
      exact ⟨⟨1, by decide, rfl⟩, 0, by decide, rfl⟩
    · rw [upd_ne e, upd_ne e]
      exact q3 n hn
  refine ⟨⟨?_, ?_, hha⟩, ⟨⟨by decide, by decide⟩, ?_, ?_, 0, by decide, ?_, ?_, fun j hj => ?_⟩, ?_, ?_⟩
  · refine ⟨fun j hj => ?_, q1.2.1, q1.2.2.1, q1.2.2.2.1, q1.2.2.2.2⟩
    rw [uAsk_A 1 (by omega), uAsk_A 2 (by omega), uAsk_A 3 (by omega)]
    exact q1.1 j hj
  · refine ⟨q2.1, q2.2.1, fun j hj => ?_⟩
    rw [uAsk_A 10 (by omega), uAsk_A 11 (by omega), uAsk_A 12 (by omega), uAsk_A 13 (by omega)]
    exact q2.2.2 j hj
  · rw [uAsk_4, uAsk_5, uAsk_6, uAsk_7, uAsk_8, upd_eq, upd_eq, upd_eq, upd_eq, upd_eq]
    exact ⟨rfl, rfl, rfl, rfl, q1.2.2.1⟩
  · rw [uAsk_4, uAsk_5, upd_eq, upd_eq]
    exact ⟨⟨p, hp, rfl⟩, ⟨k, hk, rfl⟩⟩
  · rfl
  · rw [uAsk_9, upd_eq]
    rfl
  · rw [Nat.zero_testBit]
    rfl
  · rfl
  · rw [uAsk_4, upd_eq]
    exact h1
theorem RA_loss {T : TS} {M : MS} (hn : nnB M) {p k : Nat} (g : Int32) : ∀ j, j < 7 → tLoss (tOnly T (nI p) (nI k) g) (nI j) (nI 0) = uLoss (uAsk M (nI p) (nI k) g) j 12 := by
  intro j _
  have h12 := (nnB_c hn).2
  rw [tOnly_e]
  unfold tLoss uLoss
  rw [lsF_0 _ _ _ _ (by show _ ≤ 0 + 1; exact Nat.le_refl _), uLs_0 _ _ _ _ (by show uNeeds M ≤ 13; omega)]
theorem uOne_ask (M : MS) (p k g q : Int32) : uOne (uAsk M p k g) q = uOne M q := rfl
/-- what is asked is answered alike: nobody, or one does it -/
theorem RA_ans {T : TS} {M : MS} {b : Nat} (h : RA T M) (hb : hpB b M) (hb2 : b < 270) {p k : Nat} (hp : p < 7) (h1 : uOne M (nI p) = true) (hk : k < 4) {gn : Nat} (hg : gn ≤ 9) {ro : Nat → Int32} {rl : Int32} (hrr : RR ro rl M) {r : Int32} (hr : isRl r) :
    (cChose ro (rowN rl) (tOnly T (nI p) (nI k) (nI gn)) r 0 < 0 ∧ uAns (uAsk M (nI p) (nI k) (nI gn)) r = (-1, uAsk M (nI p) (nI k) (nI gn))) ∨ (¬ cChose ro (rowN rl) (tOnly T (nI p) (nI k) (nI gn)) r 0 < 0 ∧ (∃ v, v ≤ 165 ∧ tGood (tOnly T (nI p) (nI k) (nI gn)) (cChose ro (rowN rl) (tOnly T (nI p) (nI k) (nI gn)) r 0) 0 = nI v ∧ (uAns (uAsk M (nI p) (nI k) (nI gn)) r).1 = nI v) ∧ RA (tDo (tOnly T (nI p) (nI k) (nI gn)) (cChose ro (rowN rl) (tOnly T (nI p) (nI k) (nI gn)) r 0) 0) (uAns (uAsk M (nI p) (nI k) (nI gn)) r).2) := by
  have hC := RA_ask h hp h1 hk (nI gn)
  have hrr2 : RR ro rl (uAsk M (nI p) (nI k) (nI gn)) := RR_of hrr rfl (uAsk_A 34 (by omega) M _ _ _)
  have ec := R_chose hC (RA_loss (T := T) h.2.2.2.1 (nI gn)) hrr2 hr
  have e12 : uChose (uAsk M (nI p) (nI k) (nI gn)) r 12 = uChose (uAsk M (nI p) (nI k) (nI gn)) r (nI 12) := rfl
  have ec : cChose ro (rowN rl) (tOnly T (nI p) (nI k) (nI gn)) r 0 = uChose (uAsk M (nI p) (nI k) (nI gn)) r 12 := ec
  have hbA : hpB b (uAsk M (nI p) (nI k) (nI gn)) := hb
  have hvA : VP (uAsk M (nI p) (nI k) (nI gn)) := by
    refine ⟨fun j hj => ?_, fun j hj => ?_⟩
    · rw [uAsk_A 2 (by omega)]; exact h.2.2.2.2.1 j hj
    · rw [uAsk_A 3 (by omega)]; exact h.2.2.2.2.2 j hj
  have hw : mA 4 (uAsk M (nI p) (nI k) (nI gn)) 12 = nI p := by rw [uAsk_4, upd_eq]
  have hh : mA 5 (uAsk M (nI p) (nI k) (nI gn)) 12 = nI k := by rw [uAsk_5, upd_eq]
  have hgr : mA 6 (uAsk M (nI p) (nI k) (nI gn)) 12 = nI gn := by rw [uAsk_6, upd_eq]
  have hhad : mA 9 (uAsk M (nI p) (nI k) (nI gn)) 12 = nI 0 := by rw [uAsk_9, upd_eq]; rfl
  have hnA : nnB (uAsk M (nI p) (nI k) (nI gn)) := h.2.2.2.1
  have eHl : uHelps (uAsk M (nI p) (nI k) (nI gn)) = uHelps M := rfl
  rw [ec]
  generalize uAsk M (nI p) (nI k) (nI gn) = N at *
  generalize tOnly T (nI p) (nI k) (nI gn) = T2 at *
  rcases uChose_may hC.1.1.2.2.2.2 r 12 with hn | ⟨j, hj, ej, hj1, hj2⟩
  · have hneg : uChose N r 12 < 0 := by rw [hn]; decide
    refine Or.inl ⟨hneg, ?_⟩
    unfold uAns
    rw [if_pos hneg]
  · have hpos : ¬ uChose N r 12 < 0 := by rw [ej]; exact nI_nlt0 (by omega)
    have eu : uAns N r = (uGood N j 12, uW N (nI j) (mA 4 N 12) (mA 6 N 12) (nI 12)) := by
      unfold uAns
      rw [if_neg hpos, ej, nI_clamp (show j < 2 ^ 31 by omega)]
      rfl
    obtain ⟨v, hv, ev⟩ := uGood_n hvA (p := j) hj hp hk hg hw hh hgr
    refine Or.inr ⟨hpos, ⟨v, hv, ?_, by rw [eu]; exact ev⟩, ?_⟩
    · rw [ej]
      exact (R_good hC.1.1 hC.2.1 hj).trans ev
    · rw [eu, ej]
      have hlt := (hpB_c hbA (by omega)).2
      have := tDo_g hC.2.1 (H := uHelps N) (hC.1.2.1.1.trans (hpB_c hbA (by omega)).1) (by omega) (nI j)
      have e0 : tDo T2 (nI j) 0 = tDo T2 (nI j) (nI 0) := rfl
      rw [e0, this]
      show RA _ (uW N (nI j) (mA 4 N 12) (mA 6 N 12) (nI 12))
      refine ⟨RQ_t (RQ_W hC.1.1 _ _ _ _ _ _ _ _ _) _ _, RK_t (RK_W hC.1.1 hC.1.2.1 hbA hb2 _ _ _ _ _) _ _, haB_W hC.1.2.2 (by decide) ⟨0, by decide, hhad⟩ _ _ _, nnB_W hnA _ _ _ _, ?_⟩
      refine ⟨fun i hi => ?_, fun i hi => ?_⟩
      · rw [uW_A 2 (by omega)]; exact hvA.1 i hi
      · rw [uW_A 3 (by omega)]; exact hvA.2 i hi
end
