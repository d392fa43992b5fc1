noncomputable section
def bkW (f : Nat → Int32) (H : Nat) (a b c d e : Int32) : Nat → Int32 := upd (upd (upd (upd (upd f (H * 5) a) (H * 5 + 1) b) (H * 5 + 2) c) (H * 5 + 3) d) (H * 5 + 4) e
theorem bkW_lt (f : Nat → Int32) (H : Nat) (a b c d e : Int32) {j : Nat} (h : j < H * 5) : bkW f H a b c d e j = f j := by
  unfold bkW
  rw [upd_ne (by omega), upd_ne (by omega), upd_ne (by omega), upd_ne (by omega), upd_ne (by omega)]
theorem bkW_0 (f : Nat → Int32) (H : Nat) (a b c d e : Int32) : bkW f H a b c d e (H * 5) = a := by
  unfold bkW
  rw [upd_ne (by omega), upd_ne (by omega), upd_ne (by omega), upd_ne (by omega), upd_eq]
theorem bkW_1 (f : Nat → Int32) (H : Nat) (a b c d e : Int32) : bkW f H a b c d e (H * 5 + 1) = b := by
  unfold bkW
  rw [upd_ne (by omega), upd_ne (by omega), upd_ne (by omega), upd_eq]
theorem bkW_2 (f : Nat → Int32) (H : Nat) (a b c d e : Int32) : bkW f H a b c d e (H * 5 + 2) = c := by
  unfold bkW
  rw [upd_ne (by omega), upd_ne (by omega), upd_eq]
theorem bkW_3 (f : Nat → Int32) (H : Nat) (a b c d e : Int32) : bkW f H a b c d e (H * 5 + 3) = d := by
  unfold bkW
  rw [upd_ne (by omega), upd_eq]
theorem bkW_4 (f : Nat → Int32) (H : Nat) (a b c d e : Int32) : bkW f H a b c d e (H * 5 + 4) = e := by
  unfold bkW
  rw [upd_eq]
/-- a help is written -/
def tWr (T : TS) (H : Nat) (p q gr n : Int32) : TS := tsHh (tsBt T (bkW (tBt T) H p q (tYr T) gr n)) (nI (H + 1))
theorem tWrite_e {T : TS} {H : Nat} (h : tHh T = nI H) (hH : H < 270) (p q gr n : Int32) : tWrite T p q gr n = tWr T H p q gr n := by
  unfold tWrite tWr bkW
  rw [h, if_neg ?_, nI_clamp (by omega), nI_1]
  rintro (z | z)
  · exact nI_nlt0 (by omega) z
  · have z : nI 270 ≤ nI H := z
    rw [nI_leJ (by omega) (by omega)] at z
    omega
/-- the needs that the book names, and that nobody stands twice with one -/
def BK (T : TS) (M : MS) : Prop := (∀ k, k < uHelps M → tBt T (k * 5 + 4) = mA 14 M k ∧ (mA 14 M k = -1 ∨ ixB 12 (mA 14 M k)) ∧ ixB 7 (mA 10 M k)) ∧ ∀ k j, j < k → k < uHelps M → ¬ mA 14 M k = -1 → ¬ (mA 14 M j = mA 14 M k ∧ mA 10 M j = mA 10 M k)
/-- a town and the model's rows are the same -/
def RT (T : TS) (M : MS) : Prop := (RQ T M ∧ RK T M ∧ haB M) ∧ (tNn T = mS 16 M ∧ nnB M) ∧ (∀ n, n < 12 → RN1 T M n n) ∧ (∀ n, n < uNeeds M → uOne M (mA 4 M n) = true) ∧ BK T M
theorem RT_hn {T : TS} {M : MS} (h : RT T M) (n : Int32) : tHasN T n = uNeed M n := by unfold tHasN uNeed; rw [h.2.1.1]
theorem uNeed_n {M : MS} (h : nnB M) {n : Nat} (hn : n < uNeeds M) : uNeed M (nI n) = true := by
  obtain ⟨e, h12⟩ := nnB_c h
  unfold uNeed
  rw [e]
  exact decide_eq_true ⟨nI_nlt0 (by omega), (nI_ltJ (by omega) (by omega)).mpr hn⟩
theorem uNeed_c {M : MS} (h : nnB M) {n : Int32} (hn : uNeed M n = true) : ∃ k, k < uNeeds M ∧ k < 12 ∧ n = nI k := by
  obtain ⟨e, h12⟩ := nnB_c h
  unfold uNeed at hn
  rw [e] at hn
  have hn := of_decide_eq_true hn
  obtain ⟨k, hk, rfl⟩ := nI_of hn.1
  have := (nI_ltJ hk (by omega)).mp hn.2
  exact ⟨k, this, by omega, rfl⟩
theorem RT_C {T : TS} {M : MS} (h : RT T M) {n : Nat} (hn : n < uNeeds M) : RC T M n n := by
  obtain ⟨e, h12⟩ := nnB_c h.2.1.2
  exact ⟨h.1, h.2.2.1 n (by omega), by rw [RT_hn h]; exact uNeed_n h.2.1.2 hn, h.2.2.2.1 n hn⟩
theorem RT_lsF {T : TS} {M : MS} (h : RT T M) {p n : Nat} (hp : p < 7) (hn : n < 12) : ∀ j, j ≤ 12 → lsF T (nI p) n j = uLs M p n j := by
  intro j
  induction j with
  | zero => exact fun _ => rfl
  | succ j ih =>
    intro hj
    simp only [lsF, uLs]
    rw [ih (by omega), RN_w (h.2.2.1 j (by omega)), RN_w (h.2.2.1 n hn), R_good h.1.1 (h.2.2.1 j (by omega)) hp]
theorem RT_loss {T : TS} {M : MS} (h : RT T M) {n : Nat} (hn : n < uNeeds M) : ∀ p, p < 7 → tLoss T (nI p) (nI n) = uLoss M p n := by
  intro p hp
  obtain ⟨e, h12⟩ := nnB_c h.2.1.2
  have e2 : tNeeds T = uNeeds M := by unfold tNeeds uNeeds; rw [h.2.1.1]
  unfold tLoss uLoss
  rw [nI_clamp (by omega), e2, RT_lsF h hp (by omega) _ h12]
theorem RT_chose {T : TS} {M : MS} (h : RT T M) {n : Nat} (hn : n < uNeeds M) {ro : Nat → Int32} {rl : Int32} (hr : RR ro rl M) {r : Int32} (hrl : isRl r) : cChose ro (rowN rl) T r (nI n) = uChose M r (nI n) := R_chose (RT_C h hn) (RT_loss h hn) hr hrl
theorem uHelps_W {M : MS} {b : Nat} (h : hpB b M) (hb : b < 2 ^ 30) (x y z n : Int32) : uHelps (uW M x y z n) = uHelps M + 1 := by
  obtain ⟨e, h1⟩ := hpB_c h (by omega)
  have : mS 17 (uW M x y z n) = nI (uHelps M + 1) := by rw [uW_17, e, nI_1]
  unfold uHelps at this h1 ⊢
  rw [this, nI_clamp (by omega)]
theorem uHas_W {M : MS} {b : Nat} (h : hpB b M) (hb : b < 2 ^ 30) (x y z n : Int32) (p m : Int32) : uHas (uW M x y z n) p m = (uHas M p m || (decide ((if n = 12 then -1 else n) = m) && decide (x = p))) := by
  unfold uHas
  rw [uHelps_W h hb, uW_14, uW_10, List.range_succ, List.any_append]
  congr 1
  · refine any_congr (fun k hk => ?_)
    rw [upd_ne (by omega), upd_ne (by omega)]
  · simp only [List.any_cons, List.any_nil, Bool.or_false, upd_eq]
theorem RQ_W {T : TS} {M : MS} (h : RQ T M) (H : Nat) (a b c d : Int32) (x y z n : Int32) : RQ (tWr T H a b c d) (uW M x y z n) := by
  obtain ⟨h1, h2, h3, h4, h5⟩ := h
  refine ⟨fun p hp => ?_, ?_, ?_, ?_, ppB_of h5 (uW_S 15 (by decide) _ _ _ _ _)⟩
  · rw [uW_A 1 (by omega), uW_A 2 (by omega), uW_A 3 (by omega)]
    exact h1 p hp
  · rw [uW_S 15 (by decide)]; exact h2
  · rw [uW_S 22 (by decide)]; exact h3
  · rw [uW_S 18 (by decide), uW_S 19 (by decide), uW_S 20 (by decide), uW_S 21 (by decide)]; exact h4
theorem RK_W {T : TS} {M : MS} {b : Nat} (hq : RQ T M) (h : RK T M) (hb : hpB b M) (hb2 : b < 270) (x y z n n' : Int32) : RK (tWr T (uHelps M) x y z n') (uW M x y z n) := by
  obtain ⟨e, h1⟩ := hpB_c hb (by omega)
  refine ⟨?_, hpB_le (hpB_W hb x y z n) (by omega), fun k hk => ?_⟩
  · rw [uW_17, e, nI_1]; rfl
  · rw [uHelps_W hb (by omega)] at hk
    rw [uW_10, uW_11, uW_12, uW_13]
    show bkW _ _ _ _ _ _ _ _ = _ ∧ bkW _ _ _ _ _ _ _ _ = _ ∧ bkW _ _ _ _ _ _ _ _ = _ ∧ bkW _ _ _ _ _ _ _ _ = _
    rcases Nat.lt_or_eq_of_le (Nat.le_of_lt_succ hk) with hlt | rfl
    · rw [bkW_lt _ _ _ _ _ _ _ (by omega), bkW_lt _ _ _ _ _ _ _ (by omega), bkW_lt _ _ _ _ _ _ _ (by omega), bkW_lt _ _ _ _ _ _ _ (by omega), upd_ne (by omega), upd_ne (by omega), upd_ne (by omega), upd_ne (by omega)]
      exact h.2.2 k hlt
    · rw [bkW_0, bkW_1, bkW_2, bkW_3, upd_eq, upd_eq, upd_eq, upd_eq]
      exact ⟨rfl, rfl, hq.2.2.1, rfl⟩
/-- with a need that is the model's n, or -1: none -/
theorem BK_W {T : TS} {M : MS} {b : Nat} (h : BK T M) (hb : hpB b M) (hb2 : b < 270) {x : Int32} (hx : ixB 7 x) (y z : Int32) {n : Int32} (hn : n = -1 ∨ (ixB 12 n ∧ uHas M x n = false)) : BK (tWr T (uHelps M) x y z n) (uW M x y z n) := by
  have en : (if n = 12 then -1 else n) = n := by
    rcases hn with rfl | ⟨⟨j, hj, rfl⟩, -⟩
    · rfl
    · rw [if_neg]
      intro q
      have q : nI j = nI 12 := q
      rw [nI_inj (by omega) (by omega)] at q
      omega
  refine ⟨fun k hk => ?_, fun k j hjk hk hne => ?_⟩
  · rw [uHelps_W hb (by omega)] at hk
    rw [uW_14, uW_10, en]
    show bkW _ _ _ _ _ _ _ _ = _ ∧ _ ∧ _
    rcases Nat.lt_or_eq_of_le (Nat.le_of_lt_succ hk) with hlt | rfl
    · rw [bkW_lt _ _ _ _ _ _ _ (by omega), upd_ne (by omega), upd_ne (by omega)]
      exact h.1 k hlt
    · rw [bkW_4, upd_eq, upd_eq]
      exact ⟨rfl, hn.imp id (fun q => q.1), hx⟩
  · rw [uHelps_W hb (by omega)] at hk
    rw [uW_14, en] at hne
    rw [uW_14, uW_10, en]
    rcases Nat.lt_or_eq_of_le (Nat.le_of_lt_succ hk) with hlt | rfl
    · rw [upd_ne (by omega)] at hne
      rw [upd_ne (by omega), upd_ne (by omega), upd_ne (by omega), upd_ne (by omega)]
      exact h.2 k j hjk hlt hne
    · rw [upd_eq] at hne
      rw [upd_eq, upd_eq, upd_ne (by omega), upd_ne (by omega)]
      rintro ⟨q1, q2⟩
      rcases hn with q | ⟨-, q⟩
      · exact hne q
      · unfold uHas at q
        have : (List.range (uHelps M)).any (fun k => decide (mA 14 M k = n) && decide (mA 10 M k = x)) = true := List.any_eq_true.mpr ⟨j, List.mem_range.mpr hjk, by rw [decide_eq_true q1, decide_eq_true q2]; rfl⟩
        rw [q] at this
        exact Bool.noConfusion this
theorem hsF_W {M : MS} {b : Nat} (h : hpB b M) (hb : b < 2 ^ 30) (x y z n : Int32) {m p : Nat} (hm : m < 12) : hsF (uW M x y z n) m p = (hsF M m p || (decide ((if n = 12 then -1 else n) = nI m) && decide (x = nI p))) := by
  unfold hsF
  rw [uHas_W h hb, decide_eq_false (show ¬ m = 12 by omega)]
  rfl
/-- a help by nobody's need: the needs stay -/
theorem RN_W0 {T : TS} {M : MS} {b : Nat} (hb : hpB b M) (hb2 : b < 2 ^ 30) {m : Nat} (h : RN1 T M m m) (hm : m < 12) (H : Nat) (x y z n' : Int32) : RN1 (tWr T H x y z n') (uW M x y z (-1)) m m := by
  obtain ⟨h1, ⟨a1, a2, a3, a4, a5⟩, ⟨b1, b2⟩, q, q1, q2, q3, q4⟩ := h
  have e9 : mA 9 (uW M x y z (-1)) = mA 9 M := by rw [uW_9, if_pos (by decide)]
  refine ⟨h1, ?_, ?_, q, q1, q2, by rw [e9]; exact q3, fun p hp => ?_⟩
  · rw [uW_A 4 (by omega), uW_A 5 (by omega), uW_A 6 (by omega), uW_A 7 (by omega), uW_A 8 (by omega)]
    exact ⟨a1, a2, a3, a4, a5⟩
  · rw [uW_A 4 (by omega), uW_A 5 (by omega)]
    exact ⟨b1, b2⟩
  · rw [q4 p hp, hsF_W hb hb2 _ _ _ _ hm, decide_eq_false (fun z => nI_nlt0 (a := m) (by omega) (by rw [← z]; decide)), Bool.false_and, Bool.or_false]
theorem nnB_W {M : MS} (h : nnB M) (x y z n : Int32) : nnB (uW M x y z n) := nnB_of h (uW_S 16 (by decide) _ _ _ _ _)
theorem uNeeds_W (M : MS) (x y z n : Int32) : uNeeds (uW M x y z n) = uNeeds M := by unfold uNeeds; rw [uW_S 16 (by decide)]
theorem uOne_W (M : MS) (x y z n p : Int32) : uOne (uW M x y z n) p = uOne M p := by unfold uOne; rw [uW_S 15 (by decide)]
theorem haB_W0 {M : MS} (h : haB M) (x y z : Int32) : haB (uW M x y z (-1)) := by
  intro j hj
  rw [uW_A 7 (by omega), uW_9, if_pos (by decide)]
  exact h j hj
/-- MIND with a help that belongs to no need -/
theorem RT_write {T : TS} {M : MS} {b : Nat} (h : RT T M) (hb : hpB b M) (hb2 : b < 270) {p : Int32} (hp : ixB 7 p) (q gr : Int32) : RT (tWrite T p q gr (-1)) (uW M p q gr (-1)) := by
  obtain ⟨⟨h1, h2, h3⟩, ⟨h4, h5⟩, h6, h7, h8⟩ := h
  have eH : tHh T = nI (uHelps M) := by rw [h2.1]; exact (hpB_c hb (by omega)).1
  rw [tWrite_e eH (by have := (hpB_c hb (by omega)).2; omega)]
  refine ⟨⟨RQ_W h1 _ _ _ _ _ _ _ _ _, RK_W h1 h2 hb hb2 _ _ _ _ _, haB_W0 h3 _ _ _⟩, ⟨?_, nnB_W h5 _ _ _ _⟩, fun n hn => RN_W0 hb (by omega) (h6 n hn) hn _ _ _ _ _, fun n hn => ?_, BK_W h8 hb hb2 hp _ _ (Or.inl rfl)⟩
  · rw [uW_S 16 (by decide)]; exact h4
  · rw [uNeeds_W] at hn
    rw [uW_A 4 (by omega), uOne_W]
    exact h7 n hn
theorem uMayW_c {M : MS} {p : Int32} {n : Nat} (hn : n < 12) (h : uMayW M p (nI n) = true) : uOpen M n = true ∧ uHas M p (nI n) = false ∧ uMay M p (mA 4 M n) = true := by
  have e : nI n = 12 ↔ n = 12 := nI_inj (b := 12) (by omega) (by decide)
  unfold uMayW at h
  rw [nI_clamp (by omega), Bool.and_eq_true, Bool.and_eq_true, decide_eq_false (fun z => by rw [e] at z; omega), Bool.false_or, Bool.not_eq_true'] at h
  exact ⟨h.1, h.2.2, h.2.1⟩
theorem haB_W {M : MS} {n : Nat} (h : haB M) (hn : n < 13) (hc : ∃ d, d < 3 ∧ mA 9 M n = nI d) (x y z : Int32) : haB (uW M x y z (nI n)) := by
  obtain ⟨d, hd, ed⟩ := hc
  intro j hj
  rw [uW_A 7 (by omega), uW_9, if_neg (nI_nlt0 (by omega)), nI_clamp (by omega), ed, nI_1]
  refine ⟨(h j hj).1, ?_⟩
  by_cases hjn : j = n
  · rw [hjn, upd_eq]; exact ⟨d + 1, by omega, rfl⟩
  · rw [upd_ne hjn]; exact (h j hj).2
theorem tNt_W (T : TS) (H : Nat) (x y z n : Int32) : tNt (tWr T H x y z n) = tNt T := rfl
theorem tDo_g {T : TS} {M : MS} {cn mn H : Nat} (h : RN1 T M cn mn) (eH : tHh T = nI H) (hH : H < 270) (p : Int32) : tDo T p (nI cn) = taNt (tWr T H p (mA 4 M mn) (mA 6 M mn) (nI cn)) (cn * 6 + 5) (tNt T (cn * 6 + 5) ||| tBit p) := by
  have hc := h.1.1
  unfold tDo
  rw [RN_w h, RN_g h, tWrite_e eH hH]
  rw [show (5 : Int32) = nI 5 from rfl, tOfN_n _ hc (show 5 < 6 by decide), tPutN_n _ _ hc (show 5 < 6 by decide), tNt_W]
theorem tDo_e {T : TS} {M : MS} {b : Nat} (h : RT T M) (hb : hpB b M) (hb2 : b < 270) {n : Nat} (hn : n < 12) (p : Int32) : tDo T p (nI n) = taNt (tWr T (uHelps M) p (mA 4 M n) (mA 6 M n) (nI n)) (n * 6 + 5) (tNt T (n * 6 + 5) ||| tBit p) :=
  tDo_g (h.2.2.1 n hn) (h.1.2.1.1.trans (hpB_c hb (by omega)).1) (by have := (hpB_c hb (by omega)).2; omega) p
/-- a HELP is done -/
theorem RT_do {T : TS} {M : MS} {b : Nat} (h : RT T M) (hb : hpB b M) (hb2 : b < 270) {p n : Nat} (hp : p < 7) (hn : n < 12) (hm : uOpen M n = true) (hm2 : uHas M (nI p) (nI n) = false) : RT (tDo T (nI p) (nI n)) (uW M (nI p) (mA 4 M n) (mA 6 M n) (nI n)) := by
  rw [tDo_e h hb hb2 hn]
  obtain ⟨⟨h1, h2, h3⟩, ⟨h4, h5⟩, h6, h7, h8⟩ := h
  obtain ⟨d, hh, d1, d2, d3, d4, d5⟩ := uOpen_dh h3 (by omega) hm
  have n12 : ¬ nI n = 12 := fun z => by have z : nI n = nI 12 := z; rw [nI_inj (by omega) (by omega)] at z; omega
  refine ⟨⟨RQ_W h1 _ _ _ _ _ _ _ _ _, RK_W h1 h2 hb hb2 _ _ _ _ _, haB_W h3 (by omega) ⟨d, by omega, d4⟩ _ _ _⟩, ⟨?_, nnB_W h5 _ _ _ _⟩, fun m hmm => ?_, fun m hmm => ?_, BK_W h8 hb hb2 ⟨p, hp, rfl⟩ _ _ (Or.inr ⟨⟨n, hn, rfl⟩, hm2⟩)⟩
  · rw [uW_S 16 (by decide)]; exact h4
  · obtain ⟨i1, ⟨a1, a2, a3, a4, a5⟩, ⟨b1, b2⟩, q, q1, q2, q3, q4⟩ := h6 m hmm
    refine ⟨i1, ?_, ?_, ?_⟩
    · rw [uW_A 4 (by omega), uW_A 5 (by omega), uW_A 6 (by omega), uW_A 7 (by omega), uW_A 8 (by omega)]
      show upd _ _ _ _ = _ ∧ upd _ _ _ _ = _ ∧ upd _ _ _ _ = _ ∧ upd _ _ _ _ = _ ∧ upd _ _ _ _ = _
      rw [upd_ne (by omega), upd_ne (by omega), upd_ne (by omega), upd_ne (by omega), upd_ne (by omega)]
      exact ⟨a1, a2, a3, a4, a5⟩
    · rw [uW_A 4 (by omega), uW_A 5 (by omega)]
      exact ⟨b1, b2⟩
    · rw [uW_9, if_neg (nI_nlt0 (by omega)), nI_clamp (by omega)]
      by_cases hmn : m = n
      · subst hmn
        have hf : q.testBit p = false := by
          rw [q4 p hp]
          unfold hsF
          rw [hm2, Bool.and_false]
        refine ⟨q ||| 2 ^ p, (bit_or q q1 p hp).2, ?_, ?_, fun j hj => ?_⟩
        · show upd _ _ _ _ = _
          rw [upd_eq, q2, (bit_or q q1 p hp).1]
        · rw [upd_eq, pop_or q q1 p hp hf, q3, nI_1]
        · rw [bit_or_t p hp j hj q q1, q4 j hj, hsF_W hb (by omega) _ _ _ _ hmm, if_neg n12, decide_eq_true rfl, Bool.true_and]
          congr 1
          exact decide_eq_decide.mpr ⟨fun z => by rw [z], fun z => ((nI_inj (by omega) (by omega)).mp z).symm⟩
      · refine ⟨q, q1, ?_, ?_, fun j hj => ?_⟩
        · show upd _ _ _ _ = _
          rw [upd_ne (by omega)]; exact q2
        · rw [upd_ne hmn]; exact q3
        · rw [q4 j hj, hsF_W hb (by omega) _ _ _ _ hmm, if_neg n12, decide_eq_false (fun z => hmn ((nI_inj (by omega) (by omega)).mp z).symm), Bool.false_and, Bool.or_false]
  · rw [uNeeds_W] at hmm
    rw [uW_A 4 (by omega), uOne_W]
    exact h7 m hmm
end
