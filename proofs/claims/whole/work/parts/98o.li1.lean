noncomputable section
/-- the book names needs that were told -/
def bnS (M : MS) : Prop := ∀ k, k < uHelps M → ∃ n, n < uNeeds M ∧ n < 12 ∧ mA 14 M k = nI n
/-- a town, whole -/
def TW (T : TS) (M : MS) : Prop := RT T M ∧ VB M ∧ VP M ∧ VG M ∧ hpB 60 M ∧ (∃ y, y ≤ 99 ∧ mS 22 M = nI y) ∧ bnS M
def LtB (L : LtS) (M : MS) : Prop := ∃ t, t ≤ 64 ∧ lLn L = nI t ∧ mS 27 M = nI t ∧ ∀ j, j < t → lFd L j = mA 23 M j
def ImB (im : Int32) (IT : TS) (M : MS) : Prop := im = mS 31 M ∧ (¬ im = 0 → ∃ M0, TW IT M0 ∧ kpt 0 M0 (mA 30 M))
/-- both sides, between two calls -/
def LI (S : HS) (M : MS) : Prop := TW (hNow S) M ∧ nwB M ∧ RR (hRo S) (hRl S) M ∧ LtB (hL S) M ∧ (∀ k, k < 7 → hRe S k = mA 0 M k) ∧ ImB (hIm S) (hImage S) M
theorem TW_ok {T : TS} {M : MS} (h : TW T M) (hw : nwB M) (hr : rwB M) : mOK 60 M := ⟨h.2.2.2.2.1, hw, h.1.2.1.2, h.1.1.1.2.2.2.2, hr⟩
theorem LI_pub {S : HS} {M : MS} (h : LI S M) : mPub M := by
  obtain ⟨h1, h2, h3, ⟨t, t1, t2, t3, t4⟩, h5, h6⟩ := h
  obtain ⟨y, y1, y2⟩ := h1.2.2.2.2.2.1
  exact ⟨TW_ok h1 h2 h3.2.1, h1.1.1.2.2, ⟨y, by omega, y2⟩, fun k hk => by obtain ⟨n, -, a, b⟩ := h1.2.2.2.2.2.2 k hk; exact ⟨n, a, b⟩, ⟨t, t1, t3⟩⟩
theorem LI_hYr {S : HS} {M : MS} (h : LI S M) : hYr S := by
  obtain ⟨y, y1, y2⟩ := h.1.2.2.2.2.2.1
  exact ⟨y, by omega, h.1.1.1.1.2.2.1.trans y2⟩
theorem TW_same {T : TS} {M M2 : MS} (h : TW T M) (hS : ∀ i, 15 ≤ i ∧ i ≤ 22 → mS i M2 = mS i M) (hA : ∀ i, 1 ≤ i ∧ i ≤ 14 → mA i M2 = mA i M) : TW T M2 := by
  obtain ⟨h1, h2, h3, h4, h5, h6, h7⟩ := h
  have en : uNeeds M2 = uNeeds M := by unfold uNeeds; rw [hS 16 (by omega)]
  have eH : uHelps M2 = uHelps M := by unfold uHelps; rw [hS 17 (by omega)]
  refine ⟨RT_same h1 hS hA, fun n hn => ?_, ?_, fun n hn => ?_, hpB_of h5 (hS 17 (by omega)), ?_, fun k hk => ?_⟩
  · rw [en] at hn
    rw [hA 7 (by omega), hA 8 (by omega), hA 9 (by omega)]
    exact h2 n hn
  · unfold VP
    rw [hA 2 (by omega), hA 3 (by omega)]
    exact h3
  · rw [en] at hn
    rw [hA 6 (by omega)]
    exact h4 n hn
  · rw [hS 22 (by omega)]
    exact h6
  · rw [eH] at hk
    rw [hA 14 (by omega), en]
    exact h7 k hk
theorem ImB_k {im : Int32} {IT : TS} {M M2 : MS} (h : ImB im IT M) (h1 : mS 31 M2 = mS 31 M) (hk : ∀ j, j < 500 → mA 30 M2 j = mA 30 M j) : ImB im IT M2 := by
  refine ⟨h.1.trans h1.symm, fun h0 => ?_⟩
  obtain ⟨M0, a, b⟩ := h.2 h0
  exact ⟨M0, a, kpt_of b (fun j _ hj => hk j (by omega)) (fun _ _ _ => rfl) (fun _ _ => rfl)⟩
theorem LtB_k {L : LtS} {M M2 : MS} (h : LtB L M) (h1 : mS 27 M2 = mS 27 M) (h2 : mA 23 M2 = mA 23 M) : LtB L M2 := by
  unfold LtB
  rw [h1, h2]
  exact h
/-- what doesn't touch the town nor what is kept -/
theorem LI_same {S : HS} {M M2 : MS} (h : LI S M) (hS : ∀ i, (15 ≤ i ∧ i ≤ 22) ∨ i = 27 ∨ i = 31 ∨ i = 35 → mS i M2 = mS i M) (hA : ∀ i, i ≤ 14 ∨ i = 23 ∨ i = 34 → mA i M2 = mA i M) (hk : ∀ j, j < 500 → mA 30 M2 j = mA 30 M j) : LI S M2 := by
  obtain ⟨h1, h2, h3, h4, h5, h6⟩ := h
  refine ⟨TW_same h1 (fun i hi => hS i (Or.inl hi)) (fun i hi => hA i (by omega)), nwB_of h2 (hA 4 (by omega)) (hA 5 (by omega)), RR_of h3 (hS 35 (by omega)) (hA 34 (by omega)), LtB_k h4 (hS 27 (by omega)) (hA 23 (by omega)), fun k hk => ?_, ImB_k h6 (hS 31 (by omega)) hk⟩
  rw [hA 0 (by omega)]
  exact h5 k hk
theorem LI_no {S : HS} {M : MS} (h : LI S M) {n : Int32} (hn : refI n) : LI (hRef S n) (uNo M n) := by
  obtain ⟨h1, h2, h3, h4, h5, h6⟩ := h
  have hA : ∀ i, ¬ i = 0 → mA i (uNo M n) = mA i M := fun i hi => by unfold uNo; rw [mA_a, if_neg hi]
  refine ⟨TW_same h1 (fun _ _ => rfl) (fun i hi => hA i (by omega)), nwB_of h2 (hA 4 (by omega)) (hA 5 (by omega)), RR_of h3 rfl (hA 34 (by omega)), LtB_k h4 rfl (hA 23 (by omega)), fun k hk => ?_, ImB_k h6 rfl (fun j _ => by rw [hA 30 (by omega)])⟩
  have e1 : hRe (hRef S n) k = upd (hRe S) (-n).toNatClampNeg (hRe S (-n).toNatClampNeg + 1) k := rfl
  have e2 : mA 0 (uNo M n) k = upd (mA 0 M) (-n).toNatClampNeg (mA 0 M (-n).toNatClampNeg + 1) k := rfl
  have h7 : (-n).toNatClampNeg < 7 := by
    rcases hn with rfl | rfl | rfl | rfl | rfl <;> decide
  rw [e1, e2]
  by_cases e : k = (-n).toNatClampNeg
  · rw [e, upd_eq, upd_eq, h5 _ h7]
  · rw [upd_ne e, upd_ne e, h5 k hk]
/-- alike: answers, and states -/
def PV (x : Int32 × HS) (y : Int32 × MS) : Prop := x.1 = y.1 ∧ LI x.2 y.2
theorem PV_no {S : HS} {M : MS} (h : LI S M) {n : Int32} (hn : refI n) (v : Int32) : PV (v, hRef S n) (v, uNo M n) := ⟨rfl, LI_no h hn⟩
theorem pf_R {g : Nat → Nat} {A : HS → Prop} {B : MS → Prop} {f : HS → Int32 × HS} {q : MS → Int32 × MS} (H : ∀ S M, LI S M → A S ∧ B M ∧ PV (f S) (q M)) : pf LI g (cf_R (g 0) A (fun S => some (.int (f S).1)) (fun S => (f S).2)) (cf_R (g 30) B (fun S => some (.int (q S).1)) (fun S => (q S).2)) [] := fun S M hl => ⟨⟨rfl, (H S M hl).1⟩, ⟨rfl, (H S M hl).2.1⟩, ⟨_, rfl, congrArg (fun r => some (Value.int r)) (H S M hl).2.2.1.symm⟩, (H S M hl).2.2.2⟩
theorem pf_RI {g : Nat → Nat} {A : HS → Int32 → Prop} {B : MS → Int32 → Prop} {f : HS → Int32 → Int32 × HS} {q : MS → Int32 → Int32 × MS} (H : ∀ S M x, LI S M → A S x ∧ B M x ∧ PV (f S x) (q M x)) (x : Int32) : pf LI g (cf_RI (g 0) A (fun S x => some (.int (f S x).1)) (fun S x => (f S x).2)) (cf_RI (g 30) B (fun S x => some (.int (q S x).1)) (fun S x => (q S x).2)) [.int x] := fun S M hl => ⟨⟨rfl, (H S M x hl).1⟩, ⟨rfl, (H S M x hl).2.1⟩, ⟨_, rfl, congrArg (fun r => some (Value.int r)) (H S M x hl).2.2.1.symm⟩, (H S M x hl).2.2.2⟩
theorem pf_RII {g : Nat → Nat} {A : HS → Int32 → Int32 → Prop} {B : MS → Int32 → Int32 → Prop} {f : HS → Int32 → Int32 → Int32 × HS} {q : MS → Int32 → Int32 → Int32 × MS} (H : ∀ S M x y, LI S M → A S x y ∧ B M x y ∧ PV (f S x y) (q M x y)) (x y : Int32) : pf LI g (cf_RII (g 0) A (fun S x y => some (.int (f S x y).1)) (fun S x y => (f S x y).2)) (cf_RII (g 30) B (fun S x y => some (.int (q S x y).1)) (fun S x y => (q S x y).2)) [.int x, .int y] := fun S M hl => ⟨⟨rfl, (H S M x y hl).1⟩, ⟨rfl, (H S M x y hl).2.1⟩, ⟨_, rfl, congrArg (fun r => some (Value.int r)) (H S M x y hl).2.2.1.symm⟩, (H S M x y hl).2.2.2⟩
theorem pf_RIII {g : Nat → Nat} {A : HS → Int32 → Int32 → Int32 → Prop} {B : MS → Int32 → Int32 → Int32 → Prop} {f : HS → Int32 → Int32 → Int32 → Int32 × HS} {q : MS → Int32 → Int32 → Int32 → Int32 × MS} (H : ∀ S M x y z, LI S M → A S x y z ∧ B M x y z ∧ PV (f S x y z) (q M x y z)) (x y z : Int32) : pf LI g (cf_RIII (g 0) A (fun S x y z => some (.int (f S x y z).1)) (fun S x y z => (f S x y z).2)) (cf_RIII (g 30) B (fun S x y z => some (.int (q S x y z).1)) (fun S x y z => (q S x y z).2)) [.int x, .int y, .int z] := fun S M hl => ⟨⟨rfl, (H S M x y z hl).1⟩, ⟨rfl, (H S M x y z hl).2.1⟩, ⟨_, rfl, congrArg (fun r => some (Value.int r)) (H S M x y z hl).2.2.1.symm⟩, (H S M x y z hl).2.2.2⟩
theorem uIn_f {b : Nat} (hb : b < 2 ^ 30) (w : Int32) : (w < 0 ∨ nI (b + 1) ≤ w) ↔ uIn w 0 (nI b) = false := by
  unfold uIn
  rw [decide_eq_false_iff_not]
  by_cases h : w < 0
  · exact ⟨fun _ z => Int32.not_lt.mpr z.1 h, fun _ => Or.inl h⟩
  · obtain ⟨j, hj, rfl⟩ := nI_of h
    rw [nI_leJ (by omega) hj, nI_leJ hj (by omega)]
    exact ⟨fun z => by rcases z with z | z; exact absurd z h; intro q; omega, fun z => Or.inr (by
      rcases Nat.lt_or_ge b j with q | q
      · omega
      · exact absurd ⟨Int32.not_lt.mp h, q⟩ z)⟩
theorem uIn_t {b : Nat} (hb : b < 2 ^ 30) {w : Int32} (h : ¬ (w < 0 ∨ nI (b + 1) ≤ w)) : uIn w 0 (nI b) = true ∧ ∃ k, k ≤ b ∧ w = nI k := by
  refine ⟨?_, ?_⟩
  · cases hu : uIn w 0 (nI b)
    · exact absurd ((uIn_f hb w).mpr hu) h
    · rfl
  · obtain ⟨j, hj, rfl⟩ := nI_of (fun z => h (Or.inl z))
    refine ⟨j, ?_, rfl⟩
    rcases Nat.lt_or_ge b j with q | q
    · exact absurd (Or.inr ((nI_leJ (by omega) hj).mpr (by omega))) h
    · exact q
section SIMPLE
variable {S : HS} {M : MS}
theorem pv_person (h : LI S M) (p w : Int32) : PV (r_person S p w) (v_person M p w) := by
  have hq := h.1.1.1.1
  unfold r_person v_person
  rw [RQ_P hq]
  cases hp : uOne M p
  · rw [if_pos rfl, if_pos rfl]
    exact PV_no h refI1 _
  · rw [if_neg (show ¬ (true = false) from Bool.noConfusion), if_neg (show ¬ (true = false) from Bool.noConfusion)]
    by_cases hw : w < 0 ∨ 6 ≤ w
    · rw [if_pos hw, if_pos (show uIn w 0 5 = false from (uIn_f (b := 5) (by decide) w).mp hw)]
      exact PV_no h refI2 _
    · obtain ⟨e, k, hk, rfl⟩ := uIn_t (b := 5) (by decide) hw
      rw [if_neg hw, if_neg (by rw [show uIn (nI k) 0 5 = true from e]; exact Bool.noConfusion)]
      obtain ⟨a, ha, rfl⟩ := uOne_ix hq.2.2.2.2 hp
      obtain ⟨q1, q2, q3⟩ := hq.1 a ha
      rw [nI_clamp (show a < 2 ^ 31 by omega), tOfP_n _ ha (by omega)]
      rcases (show k = 0 ∨ k = 1 ∨ ∃ b, b < 4 ∧ k = b + 2 by
        rcases k with _ | _ | k
        · exact Or.inl rfl
        · exact Or.inr (Or.inl rfl)
        · exact Or.inr (Or.inr ⟨k, by omega, rfl⟩)) with rfl | rfl | ⟨b, hb, rfl⟩
      · exact ⟨q1, h⟩
      · exact ⟨q2, h⟩
      · have n0 : ¬ nI (b + 2) = 0 := fun z => by have z : nI (b + 2) = nI 0 := z; rw [nI_inj (by omega) (by omega)] at z; omega
        have n1 : ¬ nI (b + 2) = 1 := fun z => by have z : nI (b + 2) = nI 1 := z; rw [nI_inj (by omega) (by omega)] at z; omega
        rw [if_neg n0, if_neg n1]
        have e4 : (4 : Int32) * nI a + nI (b + 2) - 2 = nI (4 * a + b) := by
          rw [show (4 : Int32) = nI 4 from rfl, pk_mul, nI_add, show (2 : Int32) = nI 2 from rfl, nI_sub (by omega)]
          exact congrArg nI (by omega)
        rw [e4, nI_clamp (by omega), Nat.add_comm b 2]
        exact ⟨q3 b hb, h⟩
theorem pv_need (h : LI S M) (n w : Int32) : PV (r_need S n w) (v_need M n w) := by
  have hT := h.1.1
  unfold r_need v_need
  rw [RT_hn hT]
  cases hp : uNeed M n
  · rw [if_pos rfl, if_pos rfl]
    exact PV_no h refI1 _
  · rw [if_neg (show ¬ (true = false) from Bool.noConfusion), if_neg (show ¬ (true = false) from Bool.noConfusion)]
    obtain ⟨a, ha, ha2, rfl⟩ := uNeed_c hT.2.1.2 hp
    have hR := hT.2.2.1 a ha2
    rw [nI_clamp (show a < 2 ^ 31 by omega)]
    by_cases hw : w < 0 ∨ 6 ≤ w
    · have nw : ∀ k, k ≤ 5 → ¬ w = nI k := fun k hk z => by
        subst z
        rcases hw with hw | hw
        · exact nI_nlt0 (by omega) hw
        · have hw : nI 6 ≤ nI k := hw
          rw [nI_leJ (by omega) (by omega)] at hw
          omega
      rw [if_pos hw, if_neg (show ¬ w = 0 from nw 0 (by omega)), if_neg (show ¬ w = 1 from nw 1 (by omega)), if_neg (show ¬ w = 2 from nw 2 (by omega)), if_neg (show ¬ w = 3 from nw 3 (by omega)), if_neg (show ¬ w = 4 from nw 4 (by omega)), if_neg (show ¬ w = 5 from nw 5 (by omega))]
      exact PV_no h refI2 _
    · obtain ⟨e, k, hk, rfl⟩ := uIn_t (b := 5) (by decide) hw
      rw [if_neg hw]
      rcases (show k = 0 ∨ k = 1 ∨ k = 2 ∨ k = 3 ∨ k = 4 ∨ k = 5 by omega) with rfl | rfl | rfl | rfl | rfl | rfl
      · exact ⟨RN_w hR, h⟩
      · exact ⟨RN_h hR, h⟩
      · exact ⟨RN_g hR, h⟩
      · exact ⟨RN_n hR, h⟩
      · exact ⟨RN_y hR, h⟩
      · have e1 : tOfN (hNow S) (nI a) 3 - tHL (hNow S) (nI a) = mA 9 M a := by
          rw [RN_n hR, RN_hl hR]
          have : ∀ x y : Int32, x - (x - y) = y := fun x y => by
            rw [Int32.sub_eq_add_neg, Int32.neg_sub, Int32.add_comm, Int32.sub_add_cancel]
          exact this _ _
        exact ⟨e1, h⟩
theorem pv_minutes (h : LI S M) (p q : Int32) : PV (r_minutes S p q) (v_minutes M p q) := by
  have hq := h.1.1.1.1
  unfold r_minutes v_minutes
  rw [RQ_P hq, RQ_P hq]
  by_cases hc : uOne M p = true ∧ uOne M q = true
  · rw [if_pos hc, if_pos hc]
    obtain ⟨a, ha, rfl⟩ := uOne_ix hq.2.2.2.2 hc.1
    obtain ⟨b, hb, rfl⟩ := uOne_ix hq.2.2.2.2 hc.2
    rw [nI_clamp (show a < 2 ^ 31 by omega), nI_clamp (show b < 2 ^ 31 by omega)]
    exact ⟨RQ_min hq ha hb, h⟩
  · rw [if_neg hc, if_neg hc]
    exact PV_no h refI1 _
theorem pv_spent (h : LI S M) (p q : Int32) : PV (r_spent S p q) (v_spent M p q) := by
  have hq := h.1.1.1.1
  unfold r_spent v_spent hPair
  rw [RQ_P hq, RQ_P hq]
  by_cases hc : uOne M p = true ∧ uOne M q = true ∧ ¬ p = q
  · rw [if_pos hc, if_neg (by rw [hc.1, hc.2.1, decide_eq_false hc.2.2]; decide)]
    obtain ⟨a, ha, rfl⟩ := uOne_ix hq.2.2.2.2 hc.1
    exact ⟨congrArg b2i (R_spent hq h.1.1.1.2.1 ha q), h⟩
  · rw [if_neg hc, if_pos ?_]
    · exact PV_no h refI1 _
    · cases e1 : uOne M p
      · rfl
      · cases e2 : uOne M q
        · rfl
        · by_cases e3 : p = q
          · rw [decide_eq_true e3]; rfl
          · exact absurd ⟨e1, e2, e3⟩ hc
theorem pv_may (h : LI S M) (p q : Int32) : PV (r_may S p q) (v_may M p q) := by
  have hq := h.1.1.1.1
  unfold r_may v_may
  rw [RQ_P hq, RQ_P hq]
  by_cases hc : uOne M p = true ∧ uOne M q = true
  · rw [if_pos hc, if_pos hc]
    obtain ⟨a, ha, ea⟩ := uOne_ix hq.2.2.2.2 hc.1
    obtain ⟨b, hb, eb⟩ := uOne_ix hq.2.2.2.2 hc.2
    subst ea; subst eb
    exact ⟨congrArg b2i (R_may hq h.1.1.1.2.1 ha hb hc.1 hc.2), h⟩
  · rw [if_neg hc, if_neg hc]
    exact PV_no h refI1 _
theorem pv_good (h : LI S M) (p n : Int32) : PV (r_good S p n) (v_good M p n) := by
  have hq := h.1.1.1.1
  unfold r_good v_good
  rw [RQ_P hq, RT_hn h.1.1]
  by_cases hc : uOne M p = true ∧ uNeed M n = true
  · rw [if_pos hc, if_pos hc]
    obtain ⟨a, ha, rfl⟩ := uOne_ix hq.2.2.2.2 hc.1
    obtain ⟨b, hb, hb2, rfl⟩ := uNeed_c h.1.1.2.1.2 hc.2
    rw [nI_clamp (show a < 2 ^ 31 by omega), nI_clamp (show b < 2 ^ 31 by omega)]
    exact ⟨R_good hq (h.1.1.2.2.1 b hb2) ha, h⟩
  · rw [if_neg hc, if_neg hc]
    exact PV_no h refI1 _
theorem pv_loss (h : LI S M) (p n : Int32) : PV (r_loss S p n) (v_loss M p n) := by
  have hq := h.1.1.1.1
  unfold r_loss v_loss
  rw [RQ_P hq, RT_hn h.1.1]
  by_cases hc : uOne M p = true ∧ uNeed M n = true
  · rw [if_pos hc, if_pos hc]
    obtain ⟨a, ha, rfl⟩ := uOne_ix hq.2.2.2.2 hc.1
    obtain ⟨b, hb, hb2, rfl⟩ := uNeed_c h.1.1.2.1.2 hc.2
    rw [nI_clamp (show a < 2 ^ 31 by omega), nI_clamp (show b < 2 ^ 31 by omega)]
    exact ⟨RT_loss h.1.1 hb a ha, h⟩
  · rw [if_neg hc, if_neg hc]
    exact PV_no h refI1 _
theorem rl_iff (r : Int32) : (0 ≤ r ∧ r ≤ 5) ↔ (0 ≤ r ∧ r < 6) := by
  constructor
  · rintro ⟨a, b⟩
    exact ⟨a, Int32.lt_of_le_of_lt b (by decide)⟩
  · rintro ⟨a, b⟩
    obtain ⟨j, hj, rfl⟩ := nI_of (Int32.not_lt.mpr a)
    have b : nI j < nI 6 := b
    rw [nI_ltJ hj (by decide)] at b
    exact ⟨a, (nI_leJ hj (b := 5) (by decide)).mpr (by omega)⟩
theorem pv_chosen (h : LI S M) (r n : Int32) : PV (r_chosen S r n) (v_chosen M r n) := by
  unfold r_chosen v_chosen
  by_cases hr : 0 ≤ r ∧ r ≤ 5
  · have hr2 := (rl_iff r).mp hr
    rw [if_pos hr, if_pos hr2, RT_hn h.1.1]
    cases hn : uNeed M n
    · rw [if_pos rfl, if_pos rfl]
      exact PV_no h refI1 _
    · rw [if_neg (show ¬ (true = false) from Bool.noConfusion), if_neg (show ¬ (true = false) from Bool.noConfusion)]
      obtain ⟨b, hb, hb2, rfl⟩ := uNeed_c h.1.1.2.1.2 hn
      exact ⟨RT_chose h.1.1 hb h.2.2.1 hr2, h⟩
  · rw [if_neg hr, if_neg (fun z => hr ((rl_iff r).mpr z))]
    exact PV_no h refI2 _
end SIMPLE
end
