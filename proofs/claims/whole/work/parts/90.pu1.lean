noncomputable section
theorem nI_nlt0 {a : Nat} (h : a < 2 ^ 31) : ¬ nI a < 0 := by
  rw [Int32.lt_iff_toInt_lt, nI_toInt h]
  show ¬ (a : Int) < 0
  omega
theorem nI_inj {a b : Nat} (ha : a < 2 ^ 31) (hb : b < 2 ^ 31) : nI a = nI b ↔ a = b := ⟨fun h => by have := congrArg Int32.toNatClampNeg h; rwa [nI_clamp ha, nI_clamp hb] at this, fun h => by rw [h]⟩
theorem nI_leJ {a b : Nat} (ha : a < 2 ^ 31) (hb : b < 2 ^ 31) : nI a ≤ nI b ↔ a ≤ b := by rw [le_nI hb, nI_clamp ha]
theorem nI_ltJ {a b : Nat} (ha : a < 2 ^ 31) (hb : b < 2 ^ 31) : nI a < nI b ↔ a < b := by rw [nI_lt_x ha, nI_clamp hb]
theorem nI_subi {a b : Nat} (ha : a < 2 ^ 30) (hb : b < 2 ^ 30) : (nI a - nI b).toInt = (a : Int) - b := by
  rw [Int32.toInt_sub, nI_toInt (by omega), nI_toInt (by omega)]
  have := Int.bmod_eq_of_le (n := (a : Int) - b) (m := 4294967296) (by omega) (by omega)
  exact this
theorem clamp_sub {a b : Nat} (ha : a < 2 ^ 30) (hb : b < 2 ^ 30) : (nI a - nI b).toNatClampNeg = a - b := by
  show (nI a - nI b).toInt.toNat = a - b
  rw [nI_subi ha hb]
  omega
theorem tOfP_n (T : TS) {p k : Nat} (hp : p < 7) (hk : k < 6) : tOfP T (nI p) (nI k) = tPt T (p * 6 + k) := by
  have e6 : (nI p * 6 + nI k).toNatClampNeg = p * 6 + k := ix_ma (b := 6) (by omega)
  unfold tOfP
  rw [if_neg ?_, e6]
  rintro (h | h | h | h)
  · exact nI_nlt0 (by omega) h
  · have h : nI 7 ≤ nI p := h
    rw [nI_leJ (by omega) (by omega)] at h
    omega
  · exact nI_nlt0 (by omega) h
  · have h : nI 6 ≤ nI k := h
    rw [nI_leJ (by omega) (by omega)] at h
    omega
theorem tOfN_n (T : TS) {p k : Nat} (hp : p < 12) (hk : k < 6) : tOfN T (nI p) (nI k) = tNt T (p * 6 + k) := by
  have e6 : (nI p * 6 + nI k).toNatClampNeg = p * 6 + k := ix_ma (b := 6) (by omega)
  unfold tOfN
  rw [if_neg ?_, e6]
  rintro (h | h | h | h)
  · exact nI_nlt0 (by omega) h
  · have h : nI 12 ≤ nI p := h
    rw [nI_leJ (by omega) (by omega)] at h
    omega
  · exact nI_nlt0 (by omega) h
  · have h : nI 6 ≤ nI k := h
    rw [nI_leJ (by omega) (by omega)] at h
    omega
theorem tPutN_n (T : TS) {p k : Nat} (v : Int32) (hp : p < 12) (hk : k < 6) : tPutN T (nI p) (nI k) v = taNt T (p * 6 + k) v := by
  have e6 : (nI p * 6 + nI k).toNatClampNeg = p * 6 + k := ix_ma (b := 6) (by omega)
  unfold tPutN
  rw [if_neg ?_, e6]
  rintro (h | h | h | h)
  · exact nI_nlt0 (by omega) h
  · have h : nI 12 ≤ nI p := h
    rw [nI_leJ (by omega) (by omega)] at h
    omega
  · exact nI_nlt0 (by omega) h
  · have h : nI 6 ≤ nI k := h
    rw [nI_leJ (by omega) (by omega)] at h
    omega
theorem tPutP_n (T : TS) {p k : Nat} (v : Int32) (hp : p < 7) (hk : k < 6) : tPutP T (nI p) (nI k) v = taPt T (p * 6 + k) v := by
  have e6 : (nI p * 6 + nI k).toNatClampNeg = p * 6 + k := ix_ma (b := 6) (by omega)
  unfold tPutP
  rw [if_neg ?_, e6]
  rintro (h | h | h | h)
  · exact nI_nlt0 (by omega) h
  · have h : nI 7 ≤ nI p := h
    rw [nI_leJ (by omega) (by omega)] at h
    omega
  · exact nI_nlt0 (by omega) h
  · have h : nI 6 ≤ nI k := h
    rw [nI_leJ (by omega) (by omega)] at h
    omega
/-- bits of those who have helped -/
def pop7 (x : Nat) : Nat := (List.range 7).countP (fun p => x.testBit p)
theorem bc_pop0 : ∀ x, x < 128 → bcF0 (nI x) = nI (pop7 x) := by decide +kernel
theorem bc_pop {x : Nat} (h : x < 128) : bcF (nI x) = nI (pop7 x) := by rw [bcF_eq]; exact bc_pop0 x h
theorem pop_le : ∀ x, x < 128 → pop7 x ≤ 7 := by decide +kernel
theorem bit_and : ∀ x, x < 128 → ∀ p, p < 7 → ((nI x &&& tBit (nI p) = 0) ↔ x.testBit p = false) := by decide +kernel
theorem bit_or : ∀ x, x < 128 → ∀ p, p < 7 → nI x ||| tBit (nI p) = nI (x ||| 2 ^ p) ∧ x ||| 2 ^ p < 128 := by decide +kernel
theorem bit_or_t : ∀ p, p < 7 → ∀ q, q < 7 → ∀ x, x < 128 → (x ||| 2 ^ p).testBit q = (x.testBit q || decide (q = p)) := by decide +kernel
theorem pop_or : ∀ x, x < 128 → ∀ p, p < 7 → x.testBit p = false → pop7 (x ||| 2 ^ p) = pop7 x + 1 := by decide +kernel
theorem bit_cl : ∀ x, x < 128 → ∀ p, p < 7 → nI x &&& (tBit (nI p) ^^^ (-1)) = nI (x &&& (127 ^^^ 2 ^ p)) ∧ x &&& (127 ^^^ 2 ^ p) < 128 := by decide +kernel
theorem bit_cl_t : ∀ p, p < 7 → ∀ q, q < 7 → ∀ x, x < 128 → (x &&& (127 ^^^ 2 ^ p)).testBit q = (x.testBit q && !decide (q = p)) := by decide +kernel
theorem pop_cl : ∀ x, x < 128 → ∀ p, p < 7 → x.testBit p = true → pop7 (x &&& (127 ^^^ 2 ^ p)) + 1 = pop7 x := by decide +kernel
/-- persons, settings and year are the same -/
def RQ (T : TS) (M : MS) : Prop := (∀ p, p < 7 → tPt T (p * 6) = mA 1 M p ∧ tPt T (p * 6 + 1) = mA 2 M p ∧ ∀ h, h < 4 → tPt T (p * 6 + (2 + h)) = mA 3 M (4 * p + h)) ∧ tPp T = mS 15 M ∧ tYr T = mS 22 M ∧ (tSe T 0 = mS 18 M ∧ tSe T 1 = mS 19 M ∧ tSe T 2 = mS 20 M ∧ tSe T 3 = mS 21 M) ∧ ppB M
/-- the book is the same, but for its needs -/
def RK (T : TS) (M : MS) : Prop := tHh T = mS 17 M ∧ hpB 270 M ∧ ∀ k, k < uHelps M → tBt T (k * 5) = mA 10 M k ∧ tBt T (k * 5 + 1) = mA 11 M k ∧ tBt T (k * 5 + 2) = mA 12 M k ∧ tBt T (k * 5 + 3) = mA 13 M k
/-- who has helped with a need; nobody with the one that is only asked -/
def hsF (M : MS) (mn p : Nat) : Bool := !decide (mn = 12) && uHas M (nI p) (nI mn)
/-- a need of the class is one of the model's -/
def RN1 (T : TS) (M : MS) (cn mn : Nat) : Prop := (cn < 12 ∧ mn < 13) ∧ (tNt T (cn * 6) = mA 4 M mn ∧ tNt T (cn * 6 + 1) = mA 5 M mn ∧ tNt T (cn * 6 + 2) = mA 6 M mn ∧ tNt T (cn * 6 + 3) = mA 7 M mn ∧ tNt T (cn * 6 + 4) = mA 8 M mn) ∧ (ixB 7 (mA 4 M mn) ∧ ixB 4 (mA 5 M mn)) ∧ ∃ x, x < 128 ∧ tNt T (cn * 6 + 5) = nI x ∧ mA 9 M mn = nI (pop7 x) ∧ ∀ p, p < 7 → x.testBit p = hsF M mn p
theorem RQ_P {T : TS} {M : MS} (h : RQ T M) (p : Int32) : tHasP T p = uOne M p := by unfold tHasP uOne; rw [h.2.1]
theorem RQ_k {T : TS} {M : MS} (h : RQ T M) {p : Nat} (hp : p < 7) : tOfP T (nI p) 0 = mA 1 M p := (tOfP_n T hp (show 0 < 6 by decide)).trans (h.1 p hp).1
theorem RQ_pl {T : TS} {M : MS} (h : RQ T M) {p : Nat} (hp : p < 7) : tOfP T (nI p) 1 = mA 2 M p := (tOfP_n T hp (show 1 < 6 by decide)).trans (h.1 p hp).2.1
theorem RQ_sk {T : TS} {M : MS} (h : RQ T M) {p k : Nat} (hp : p < 7) (hk : k < 4) : tOfP T (nI p) (2 + nI k) = mA 3 M (4 * p + k) := by
  have e : (2 : Int32) + nI k = nI (2 + k) := nI_add 2 k
  rw [e, tOfP_n T hp (by omega)]
  exact (h.1 p hp).2.2 k hk
theorem absI_e (x : Int32) : absI x = if x < 0 then -x else x := by
  unfold absI
  by_cases h : x < 0
  · rw [if_neg (Int32.not_le.mpr h), if_pos h, Int32.zero_sub]
  · rw [if_pos (Int32.not_lt.mp h), if_neg h]
theorem imax0 (x : Int32) : imax 0 x = if x < 0 then 0 else x := by
  unfold imax
  by_cases h : x < 0
  · rw [if_pos h, if_neg (fun z => Int32.lt_irrefl (Int32.lt_trans h z))]
  · rw [if_neg h]
    by_cases h2 : 0 < x
    · rw [if_pos h2]
    · rw [if_neg h2]
      exact Int32.le_antisymm (Int32.not_lt.mp h) (Int32.not_lt.mp h2)
theorem RQ_min {T : TS} {M : MS} (h : RQ T M) {p q : Nat} (hp : p < 7) (hq : q < 7) : tMin T (nI p) (nI q) = uMin M p q := by
  unfold tMin uMin
  rw [RQ_pl h hp, RQ_pl h hq, absI_e]
theorem RN_w {T : TS} {M : MS} {cn mn : Nat} (h : RN1 T M cn mn) : tOfN T (nI cn) 0 = mA 4 M mn := (tOfN_n T h.1.1 (show 0 < 6 by decide)).trans h.2.1.1
theorem RN_h {T : TS} {M : MS} {cn mn : Nat} (h : RN1 T M cn mn) : tOfN T (nI cn) 1 = mA 5 M mn := (tOfN_n T h.1.1 (show 1 < 6 by decide)).trans h.2.1.2.1
theorem RN_g {T : TS} {M : MS} {cn mn : Nat} (h : RN1 T M cn mn) : tOfN T (nI cn) 2 = mA 6 M mn := (tOfN_n T h.1.1 (show 2 < 6 by decide)).trans h.2.1.2.2.1
theorem RN_n {T : TS} {M : MS} {cn mn : Nat} (h : RN1 T M cn mn) : tOfN T (nI cn) 3 = mA 7 M mn := (tOfN_n T h.1.1 (show 3 < 6 by decide)).trans h.2.1.2.2.2.1
theorem RN_y {T : TS} {M : MS} {cn mn : Nat} (h : RN1 T M cn mn) : tOfN T (nI cn) 4 = mA 8 M mn := (tOfN_n T h.1.1 (show 4 < 6 by decide)).trans h.2.1.2.2.2.2
theorem RN_b {T : TS} {M : MS} {cn mn : Nat} (h : RN1 T M cn mn) : ∃ x, x < 128 ∧ tOfN T (nI cn) 5 = nI x ∧ mA 9 M mn = nI (pop7 x) ∧ ∀ p, p < 7 → x.testBit p = hsF M mn p := by
  obtain ⟨x, h1, h2, h3⟩ := h.2.2.2
  exact ⟨x, h1, (tOfN_n T h.1.1 (show 5 < 6 by decide)).trans h2, h3⟩
theorem RN_hl {T : TS} {M : MS} {cn mn : Nat} (h : RN1 T M cn mn) : tHL T (nI cn) = mA 7 M mn - mA 9 M mn := by
  obtain ⟨x, h1, h2, h3, -⟩ := RN_b h
  unfold tHL
  rw [RN_n h, h2, bc_pop h1, h3]
theorem R_good {T : TS} {M : MS} (h : RQ T M) {cn mn p : Nat} (hn : RN1 T M cn mn) (hp : p < 7) : tGood T (nI p) (nI cn) = uGood M p mn := by
  obtain ⟨⟨w, hw, ew⟩, ⟨k, hk, ek⟩⟩ := hn.2.2.1
  unfold tGood uGood
  rw [RN_h hn, RN_g hn, RN_w hn, RQ_k h hp, ew, ek, RQ_sk h hp hk, RQ_min h hp hw, nI_clamp (show w < 2 ^ 31 by omega), nI_clamp (show k < 2 ^ 31 by omega)]
  dsimp only
  rw [imax0, imax0]
theorem RK_n {T : TS} {M : MS} (h : RK T M) : tN T = uHelps M := by
  obtain ⟨e1, e2⟩ := hpB_c h.2.1 (by decide)
  unfold tN
  rw [h.1]
  show min (uHelps M) 270 = uHelps M
  omega
theorem R_cnt {T : TS} {M : MS} (h : RQ T M) (hk : RK T M) {k : Nat} (hlt : k < uHelps M) : tCnt T k = uCnt M k := by
  unfold tCnt uCnt
  rw [h.2.2.2.1.1, h.2.2.2.1.2.1, h.2.2.2.1.2.2.1, h.2.2.1, (hk.2.2 k hlt).2.2.1, (hk.2.2 k hlt).2.2.2]
theorem any_congr {n : Nat} {f g : Nat → Bool} (h : ∀ k, k < n → f k = g k) : (List.range n).any f = (List.range n).any g := by
  rw [Bool.eq_iff_iff, List.any_eq_true, List.any_eq_true]
  exact ⟨fun ⟨k, hk, e⟩ => ⟨k, hk, (h k (List.mem_range.mp hk)) ▸ e⟩, fun ⟨k, hk, e⟩ => ⟨k, hk, (h k (List.mem_range.mp hk)).symm ▸ e⟩⟩
theorem R_spent {T : TS} {M : MS} (h : RQ T M) (hk : RK T M) {p : Nat} (hp : p < 7) (q : Int32) : tSpent T (nI p) q = uSpent M (nI p) q := by
  unfold tSpent uSpent
  rw [RQ_k h hp, RK_n hk, nI_clamp (show p < 2 ^ 31 by omega)]
  congr 1
  refine any_congr (fun k hlt => ?_)
  unfold tHit uHit
  rw [R_cnt h hk hlt, (hk.2.2 k hlt).1, (hk.2.2 k hlt).2.1, h.2.2.2.1.1]
  cases decide (mS 18 M = 1) <;> cases decide (mA 10 M k = q) <;> cases decide (mA 11 M k = nI p) <;> rfl
theorem R_may {T : TS} {M : MS} (h : RQ T M) (hk : RK T M) {p q : Nat} (hp : p < 7) (hq : q < 7) (h1 : uOne M (nI p) = true) (h2 : uOne M (nI q) = true) : tMay T (nI p) (nI q) = uMay M (nI p) (nI q) := by
  unfold tMay uMay
  rw [RQ_P h, RQ_P h, h1, h2, RQ_k h hp, RQ_min h hp hq, R_spent h hk hp, nI_clamp (show p < 2 ^ 31 by omega), nI_clamp (show q < 2 ^ 31 by omega)]
  cases uSpent M (nI p) (nI q) <;> cases decide (nI p = nI q) <;> cases decide (mA 1 M p = 6) <;> cases decide (uMin M p q ≤ 20) <;> rfl
theorem R_open {T : TS} {M : MS} (h : RQ T M) {cn mn : Nat} (hn : RN1 T M cn mn) (hha : haB M) (hc : tHasN T (nI cn) = true) : tOpen T (nI cn) = uOpen M mn := by
  unfold tOpen uOpen
  rw [hc, RN_y hn, RN_hl hn, h.2.2.1, Bool.true_and]
  congr 1
  obtain ⟨⟨hh, h1, h2⟩, d, h3, h4⟩ := hha mn hn.1.2
  rw [h2, h4]
  exact decide_eq_decide.mpr (by
    rw [Int32.lt_iff_toInt_lt, Int32.lt_iff_toInt_lt, nI_subi (by omega) (by omega), nI_toInt (by omega), nI_toInt (by omega)]
    show (0 : Int) < _ ↔ _
    omega)
/-- all that a choice looks at -/
def RC (T : TS) (M : MS) (cn mn : Nat) : Prop := (RQ T M ∧ RK T M ∧ haB M) ∧ RN1 T M cn mn ∧ tHasN T (nI cn) = true ∧ uOne M (mA 4 M mn) = true
theorem R_mayW {T : TS} {M : MS} {cn mn p : Nat} (h : RC T M cn mn) (hp : p < 7) (h1 : uOne M (nI p) = true) : tMayW T (nI p) (nI cn) = uMayW M (nI p) (nI mn) := by
  obtain ⟨⟨hq, hk, hha⟩, hn, hc, hw⟩ := h
  obtain ⟨w, hw7, ew⟩ := hn.2.2.1.1
  obtain ⟨x, x1, x2, x3, x4⟩ := RN_b hn
  have hm : mn < 13 := hn.1.2
  unfold tMayW uMayW
  rw [R_open hq hn hha hc, RN_w hn, x2, nI_clamp (show mn < 2 ^ 31 by omega), ew, R_may hq hk hp hw7 h1 (by rw [← ew]; exact hw)]
  have e1 : decide (nI x &&& tBit (nI p) = 0) = !hsF M mn p := by
    rw [← x4 p hp]
    have := bit_and x x1 p hp
    cases hb : x.testBit p
    · rw [decide_eq_true (this.mpr hb)]; rfl
    · rw [decide_eq_false (fun z => by rw [this.mp z] at hb; exact Bool.noConfusion hb)]; rfl
  rw [e1]
  unfold hsF
  have e2 : decide (nI mn = 12) = decide (mn = 12) := by
    have : (nI mn = nI 12) ↔ mn = 12 := nI_inj (by omega) (by omega)
    exact decide_eq_decide.mpr this
  rw [e2]
  cases decide (mn = 12) <;> cases uHas M (nI p) (nI mn) <;> cases uOpen M mn <;> cases uMay M (nI p) (nI w) <;> rfl
theorem R_mayW_row {T : TS} {M : MS} {cn mn : Nat} (h : RC T M cn mn) (p : Int32) : tMayW T p (nI cn) = (uOne M p && uMayW M p (nI mn)) := by
  cases h1 : uOne M p
  · unfold tMayW tMay
    rw [RQ_P h.1.1, h1]
    simp only [Bool.false_and, Bool.and_false]
  · obtain ⟨j, hj, rfl⟩ := uOne_ix h.1.1.2.2.2.2 h1
    rw [R_mayW h hj h1, Bool.true_and]
end
