noncomputable section
def mxN (f : Nat → Nat) : Nat → Nat
  | 0 => 0
  | n + 1 => max (mxN f n) (f n)
def stA (a : Nat → Nat → Bool) (st : Nat → Nat → Nat → Nat → Bool) (h p : Nat) : Nat → Nat → Bool := fun j q => a j q && st h p j q
/-- the most that can be had of the hands from h on: of whom may still help there -/
def Vl (gd : Nat → Nat → Nat) (st : Nat → Nat → Nat → Nat → Bool) : Nat → Nat → (Nat → Nat → Bool) → Nat
  | 0, _, _ => 0
  | n + 1, h, a => max (Vl gd st n (h + 1) a) (mxN (fun p => if a h p = true then gd h p + Vl gd st n (h + 1) (stA a st h p) else 0) 7)
theorem Vl_s (gd : Nat → Nat → Nat) (st : Nat → Nat → Nat → Nat → Bool) (n h : Nat) (a : Nat → Nat → Bool) : Vl gd st (n + 1) h a = max (Vl gd st n (h + 1) a) (mxN (fun p => if a h p = true then gd h p + Vl gd st n (h + 1) (stA a st h p) else 0) 7) := rfl
theorem mxN_congr {f g : Nat → Nat} : ∀ n, (∀ k, k < n → f k = g k) → mxN f n = mxN g n := by
  intro n
  induction n with
  | zero => exact fun _ => rfl
  | succ n ih =>
    intro h
    simp only [mxN]
    rw [ih (fun k hk => h k (by omega)), h n (by omega)]
theorem mxN_le {f : Nat → Nat} {b : Nat} : ∀ n, (∀ k, k < n → f k ≤ b) → mxN f n ≤ b := by
  intro n
  induction n with
  | zero => exact fun _ => Nat.zero_le _
  | succ n ih =>
    intro h
    simp only [mxN]
    exact Nat.max_le.mpr ⟨ih (fun k hk => h k (by omega)), h n (by omega)⟩
theorem mxN_ge {f : Nat → Nat} : ∀ n k, k < n → f k ≤ mxN f n := by
  intro n
  induction n with
  | zero => exact fun k hk => absurd hk (Nat.not_lt_zero k)
  | succ n ih =>
    intro k hk
    simp only [mxN]
    rcases Nat.lt_or_eq_of_le (Nat.le_of_lt_succ hk) with h | rfl
    · exact Nat.le_trans (ih k h) (Nat.le_max_left _ _)
    · exact Nat.le_max_right _ _
section VL
variable {gd : Nat → Nat → Nat} {st : Nat → Nat → Nat → Nat → Bool}
theorem Vl_ext : ∀ n h (a b : Nat → Nat → Bool), (∀ j q, h ≤ j → j < h + n → q < 7 → a j q = b j q) → Vl gd st n h a = Vl gd st n h b := by
  intro n
  induction n with
  | zero => exact fun _ _ _ _ => rfl
  | succ n ih =>
    intro h a b hab
    rw [Vl_s, Vl_s, ih (h + 1) a b (fun j q h1 h2 h3 => hab j q (by omega) (by omega) h3)]
    have : mxN (fun p => if a h p = true then gd h p + Vl gd st n (h + 1) (stA a st h p) else 0) 7 = mxN (fun p => if b h p = true then gd h p + Vl gd st n (h + 1) (stA b st h p) else 0) 7 := mxN_congr 7 (fun p hp => by
      rw [hab h p (Nat.le_refl _) (by omega) hp, ih (h + 1) (stA a st h p) (stA b st h p) (fun j q h1 h2 h3 => by unfold stA; rw [hab j q (by omega) (by omega) h3])])
    rw [this]
theorem Vl_skip {n h : Nat} {a : Nat → Nat → Bool} (hn : ∀ q, q < 7 → a h q = false) : Vl gd st (n + 1) h a = Vl gd st n (h + 1) a := by
  rw [Vl_s]
  have : mxN (fun p => if a h p = true then gd h p + Vl gd st n (h + 1) (stA a st h p) else 0) 7 ≤ 0 := mxN_le 7 (fun p hp => by
    rw [hn p hp, if_neg Bool.false_ne_true]
    exact Nat.le_refl _)
  omega
theorem Vl_no : ∀ n h (a : Nat → Nat → Bool), (∀ j q, h ≤ j → j < h + n → q < 7 → a j q = false) → Vl gd st n h a = 0 := by
  intro n
  induction n with
  | zero => exact fun _ _ _ => rfl
  | succ n ih =>
    intro h a hn
    rw [Vl_skip (fun q hq => hn h q (Nat.le_refl _) (by omega) hq)]
    exact ih (h + 1) a (fun j q h1 h2 h3 => hn j q (by omega) (by omega) h3)
theorem Vl_low {D : Nat} {a : Nat → Nat → Bool} : ∀ h, h ≤ D → (∀ j q, j < h → q < 7 → a j q = false) → Vl gd st D 0 a = Vl gd st (D - h) h a := by
  intro h
  induction h with
  | zero => exact fun _ _ => rfl
  | succ h ih =>
    intro hD hn
    rw [ih (by omega) (fun j q h1 h2 => hn j q (by omega) h2), show D - h = (D - (h + 1)) + 1 by omega]
    exact Vl_skip (fun q hq => hn h q (by omega) hq)
theorem Vl_le (hb : ∀ h p, gd h p ≤ 165) : ∀ n h (a : Nat → Nat → Bool), Vl gd st n h a ≤ 165 * n := by
  intro n
  induction n with
  | zero => exact fun _ _ => Nat.zero_le _
  | succ n ih =>
    intro h a
    rw [Vl_s]
    have h1 := ih (h + 1) a
    have h2 : mxN (fun p => if a h p = true then gd h p + Vl gd st n (h + 1) (stA a st h p) else 0) 7 ≤ 165 * (n + 1) := mxN_le 7 (fun p _ => by
      have := ih (h + 1) (stA a st h p)
      have := hb h p
      split <;> omega)
    omega
end VL
/-- the bit of hand j and helper q -/
def bt (m : Int64) (j q : Nat) : Bool := m.toBitVec.getLsbD (j * 7 + q)
theorem bt_and (a b : Int64) (j q : Nat) : bt (a &&& b) j q = (bt a j q && bt b j q) := by
  unfold bt
  rw [Int64.toBitVec_and, BitVec.getLsbD_and]
theorem bt_or (a b : Int64) (j q : Nat) : bt (a ||| b) j q = (bt a j q || bt b j q) := by
  unfold bt
  rw [Int64.toBitVec_or, BitVec.getLsbD_or]
theorem bt_0 (j q : Nat) : bt 0 j q = false := by
  unfold bt
  show (0#64).getLsbD _ = false
  exact BitVec.getLsbD_zero
theorem sBit_tw0 : ∀ h, h < 8 → ∀ p, p < 7 → ((1 : Int64) <<< ((nI h * 7 + nI p).toInt64 &&& 63)).toBitVec = BitVec.twoPow 64 (h * 7 + p) := by decide +kernel
theorem sBit_tw {h p : Nat} (hh : h < 8) (hp : p < 7) : (sBit (nI h) (nI p)).toBitVec = BitVec.twoPow 64 (h * 7 + p) := by rw [sBit_eq]; exact sBit_tw0 h hh p hp
theorem bt_sBit {h p j q : Nat} (hh : h < 8) (hp : p < 7) (hj : j < 8) (hq : q < 7) : bt (sBit (nI h) (nI p)) j q = (decide (j = h) && decide (q = p)) := by
  unfold bt
  rw [sBit_tw hh hp, BitVec.getLsbD_twoPow]
  by_cases e : j = h ∧ q = p
  · obtain ⟨rfl, rfl⟩ := e
    simp
    omega
  · have e2 : ¬ h * 7 + p = j * 7 + q := fun z => e (by omega)
    rw [decide_eq_false e2]
    rw [Bool.and_false]
    by_cases e1 : j = h
    · rw [decide_eq_true e1, decide_eq_false (fun z => e ⟨e1, z⟩)]; rfl
    · rw [decide_eq_false e1]; rfl
theorem and_bit0 {m : Int64} {h p : Nat} (hh : h < 8) (hp : p < 7) : (m &&& sBit (nI h) (nI p) = 0) ↔ bt m h p = false := by
  constructor
  · intro z
    have := bt_and m (sBit (nI h) (nI p)) h p
    rw [z, bt_0, bt_sBit hh hp hh hp, decide_eq_true rfl, decide_eq_true rfl, Bool.and_true, Bool.and_true] at this
    exact this.symm
  · intro z
    apply Int64.toBitVec_inj.mp
    rw [Int64.toBitVec_and, sBit_tw hh hp]
    apply BitVec.eq_of_getLsbD_eq
    intro i hi
    rw [BitVec.getLsbD_and, BitVec.getLsbD_twoPow]
    have e0 : (0 : Int64).toBitVec.getLsbD i = false := BitVec.getLsbD_zero
    rw [e0]
    by_cases e : h * 7 + p = i
    · subst e
      have z : m.toBitVec.getLsbD (h * 7 + p) = false := z
      rw [z, Bool.false_and]
    · rw [decide_eq_false e, Bool.and_false, Bool.and_false]
theorem bt_from0 : ∀ h, h < 8 → ∀ j, j < 8 → ∀ q, q < 7 → (- ((1 : Int64) <<< ((nI h * 7 + 0).toInt64 &&& 63))).toBitVec.getLsbD (j * 7 + q) = decide (h ≤ j) := by decide +kernel
theorem bt_from {h j q : Nat} (hh : h < 8) (hj : j < 8) (hq : q < 7) : bt (sFrom (nI h)) j q = decide (h ≤ j) := by
  unfold bt
  rw [sFrom_eq, sBit_eq]
  exact bt_from0 h hh j hj q hq
def mxU (f : Nat → Nat) : Nat → Nat → Nat → Nat
  | _, 0, b => b
  | p, k + 1, b => mxU f (p + 1) k (max b (f p))
theorem mxU_7 (f : Nat → Nat) (b : Nat) : mxU f 0 7 b = max b (mxN f 7) := by
  simp only [mxU, mxN, Nat.reduceAdd]
  omega
theorem jmax_n {a b : Nat} (ha : a < 2 ^ 31) (hb : b < 2 ^ 31) : jmax (nI a) (nI b) = nI (max a b) := by
  unfold jmax
  by_cases h : a < b
  · rw [if_pos ((nI_ltJ ha hb).mpr h), show max a b = b by omega]
  · rw [if_neg (fun z => h ((nI_ltJ ha hb).mp z)), show max a b = a by omega]
theorem jmax_m1 {a : Nat} (ha : a < 2 ^ 31) : jmax (nI a) (-1) = nI a := by
  unfold jmax
  rw [if_neg]
  intro z
  exact nI_nlt0 ha (Int32.lt_trans z (by decide))
theorem inSl_lt {k : Int32} (h : inSl k = true) : k.toNatClampNeg < 1024 := by
  unfold inSl at h
  have h := of_decide_eq_true h
  obtain ⟨j, hj, rfl⟩ := nI_of h.1
  have h2 : nI j < nI 1024 := h.2
  rw [nI_ltJ hj (by decide)] at h2
  rw [nI_clamp hj]
  exact h2
/-- the search's rows are right for the goods gd, what stays st, among the bits may -/
def SP (gd : Nat → Nat → Nat) (st : Nat → Nat → Nat → Nat → Bool) (may : Int64) (D : Nat) (S : SS) : Prop :=
  eHd S = nI D ∧ (∀ h p, h < 8 → p < 7 → bt may h p = true → eGo S (fsAt h p) = nI (gd h p) ∧ ∀ j q, h < j → j < 8 → q < 7 → bt (eSm S (fsAt h p)) j q = st h p j q) ∧ ∀ i, i < 1024 → ¬ eSk S i = 0 → eSu S i = nI (Vl gd st D 0 (bt (eSk S i)))
def subB (m may : Int64) : Prop := ∀ j q, j < 8 → q < 7 → bt m j q = true → bt may j q = true
theorem subB_and {m may x : Int64} (h : subB m may) : subB (m &&& x) may := fun j q hj hq hb => by
  rw [bt_and, Bool.and_eq_true] at hb
  exact h j q hj hq hb.1
section SM
variable {gd : Nat → Nat → Nat} {st : Nat → Nat → Nat → Nat → Bool} {may : Int64} {D : Nat}
def Wv (gd : Nat → Nat → Nat) (st : Nat → Nat → Nat → Nat → Bool) (D h : Nat) (a : Nat → Nat → Bool) (p : Nat) : Nat := if a h p = true then gd h p + Vl gd st (D - (h + 1)) (h + 1) (stA a st h p) else 0
theorem Wv_le (hb : ∀ h p, gd h p ≤ 165) (hD : D ≤ 8) (h : Nat) (a : Nat → Nat → Bool) (p : Nat) : Wv gd st D h a p ≤ 2000 := by
  unfold Wv
  have := hb h p
  have := Vl_le (st := st) hb (D - (h + 1)) (h + 1) (stA a st h p)
  split <;> omega
theorem smWith_V (hb : ∀ h p, gd h p ≤ 165) (hD : D ≤ 8) {f : Nat → Int64 → SS → Int32 × SS} {h : Nat} (hh : h < 8) (hf : ∀ m S, SP gd st may D S → subB m may → (f (h + 1) m S).1 = nI (Vl gd st (D - (h + 1)) (h + 1) (bt m)) ∧ SP gd st may D (f (h + 1) m S).2 ∧ eFi (f (h + 1) m S).2 = eFi S)
    {p : Nat} (hp : p < 7) {m : Int64} (hm : subB m may) {S : SS} (hS : SP gd st may D S) :
    (bt m h p = false → (smWith f h p m S) = (-1, S)) ∧ (bt m h p = true → (smWith f h p m S).1 = nI (Wv gd st D h (bt m) p)) ∧ SP gd st may D (smWith f h p m S).2 ∧ eFi (smWith f h p m S).2 = eFi S := by
  unfold smWith
  cases hbit : bt m h p
  · rw [if_pos ((and_bit0 hh hp).mpr hbit)]
    exact ⟨fun _ => rfl, fun z => absurd z Bool.false_ne_true, hS, rfl⟩
  · rw [if_neg (fun z => by rw [(and_bit0 hh hp).mp z] at hbit; exact Bool.noConfusion hbit)]
    obtain ⟨g1, g2⟩ := hS.2.1 h p hh hp (hm h p hh hp hbit)
    obtain ⟨f1, f2, f3⟩ := hf (m &&& eSm S (fsAt h p)) S hS (subB_and hm)
    refine ⟨fun z => absurd z (fun q => Bool.noConfusion q), fun _ => ?_, f2, f3⟩
    dsimp only
    rw [g1, f1, nI_add]
    unfold Wv
    rw [if_pos hbit]
    refine congrArg nI (congrArg (gd h p + ·) (Vl_ext _ _ _ _ (fun j q h1 h2 h3 => ?_)))
    unfold stA
    rw [bt_and, g2 j q (by omega) (by omega) h3]
theorem smLoop_V (hb : ∀ h p, gd h p ≤ 165) (hD : D ≤ 8) {f : Nat → Int64 → SS → Int32 × SS} {h : Nat} (hh : h < 8) (hf : ∀ m S, SP gd st may D S → subB m may → (f (h + 1) m S).1 = nI (Vl gd st (D - (h + 1)) (h + 1) (bt m)) ∧ SP gd st may D (f (h + 1) m S).2 ∧ eFi (f (h + 1) m S).2 = eFi S)
    {m : Int64} (hm : subB m may) : ∀ k p b S, p + k = 7 → b ≤ 2000 → SP gd st may D S → (smLoop f h m p k (nI b) S).1 = nI (mxU (Wv gd st D h (bt m)) p k b) ∧ SP gd st may D (smLoop f h m p k (nI b) S).2 ∧ eFi (smLoop f h m p k (nI b) S).2 = eFi S := by
  intro k
  induction k with
  | zero => exact fun p b S _ _ hS => ⟨rfl, hS, rfl⟩
  | succ k ih =>
    intro p b S hp hb2 hS
    obtain ⟨w1, w2, w3, w4⟩ := smWith_V hb hD hh hf (show p < 7 by omega) hm hS
    have hw := Wv_le (st := st) hb hD h (bt m) p
    rw [smLoop_s]
    have e : jmax (nI b) (smWith f h p m S).1 = nI (max b (Wv gd st D h (bt m) p)) := by
      cases hbit : bt m h p
      · rw [w1 hbit, jmax_m1 (by omega)]
        unfold Wv
        rw [hbit, if_neg Bool.false_ne_true, Nat.max_zero]
      · rw [w2 hbit, jmax_n (by omega) (by omega)]
    rw [e]
    obtain ⟨i1, i2, i3⟩ := ih (p + 1) (max b (Wv gd st D h (bt m) p)) _ (by omega) (by omega) w3
    exact ⟨i1, i2, i3.trans w4⟩
theorem SP_end (hD : D ≤ 8) {left : Int64} (h0 : ¬ left = 0) {r : Int32 × SS} (hr : r.1 = nI (Vl gd st D 0 (bt left))) (hS : SP gd st may D r.2) : SP gd st may D (smEnd left r).2 ∧ eFi (smEnd left r).2 = eFi r.2 := by
  unfold smEnd
  cases hs : inSl (sSlot left)
  · exact ⟨hS, rfl⟩
  · refine ⟨⟨hS.1, hS.2.1, fun i hi8 hi => ?_⟩, rfl⟩
    have e1 : eSk (eaSu (eaSk r.2 (sSlot left).toNatClampNeg left) (sSlot left).toNatClampNeg r.1) i = if i = (sSlot left).toNatClampNeg then left else eSk r.2 i := rfl
    have e2 : eSu (eaSu (eaSk r.2 (sSlot left).toNatClampNeg left) (sSlot left).toNatClampNeg r.1) i = if i = (sSlot left).toNatClampNeg then r.1 else eSu r.2 i := rfl
    dsimp only at hi ⊢
    rw [if_pos rfl] at hi ⊢
    rw [e1] at hi ⊢
    rw [e2]
    by_cases e : i = (sSlot left).toNatClampNeg
    · rw [if_pos e, if_pos e]
      exact hr
    · rw [if_neg e] at hi ⊢
      rw [if_neg e]
      exact hS.2.2 i hi8 hi
/-- the search from hand h on finds the most -/
theorem smF_V (hb : ∀ h p, gd h p ≤ 165) (hD : D ≤ 8) : ∀ n h m S, 9 ≤ h + n → SP gd st may D S → subB m may → (smF n h m S).1 = nI (Vl gd st (D - h) h (bt m)) ∧ SP gd st may D (smF n h m S).2 ∧ eFi (smF n h m S).2 = eFi S := by
  intro n
  induction n with
  | zero =>
    intro h m S hn hS _
    refine ⟨?_, hS, rfl⟩
    rw [show D - h = 0 by omega]
    rfl
  | succ n ih =>
    intro h m S hn hS hm
    have eD : sHands S = D := by unfold sHands; rw [hS.1, nI_clamp (by omega)]
    simp only [smF]
    rw [eD]
    by_cases hc : D ≤ h ∨ 8 ≤ h
    · rw [if_pos hc]
      refine ⟨?_, hS, rfl⟩
      rw [show D - h = 0 by omega]
      rfl
    · rw [if_neg hc]
      have hh : h < 8 := by omega
      have eleft : ∀ j q, h ≤ j → j < 8 → q < 7 → bt (m &&& sFrom (nI h)) j q = bt m j q := fun j q h1 h2 h3 => by
        rw [bt_and, bt_from hh h2 h3, decide_eq_true h1, Bool.and_true]
      have elow : ∀ j q, j < h → q < 7 → bt (m &&& sFrom (nI h)) j q = false := fun j q h1 h3 => by
        rw [bt_and, bt_from hh (by omega) h3, decide_eq_false (by omega), Bool.and_false]
      have hml : subB (m &&& sFrom (nI h)) may := subB_and hm
      have eV : Vl gd st (D - h) h (bt m) = Vl gd st (D - h) h (bt (m &&& sFrom (nI h))) := Vl_ext _ _ _ _ (fun j q h1 h2 h3 => (eleft j q h1 (by omega) h3).symm)
      have eV0 : Vl gd st D 0 (bt (m &&& sFrom (nI h))) = Vl gd st (D - h) h (bt (m &&& sFrom (nI h))) := Vl_low h (by omega) elow
      rw [eV]
      generalize m &&& sFrom (nI h) = left at *
      by_cases h0 : left = 0
      · rw [if_pos h0]
        refine ⟨?_, hS, rfl⟩
        dsimp only
        rw [h0, Vl_no _ _ _ (fun j q _ _ _ => bt_0 j q)]
        rfl
      · rw [if_neg h0]
        by_cases hk : inSl (sSlot left) = true ∧ eSk S (sSlot left).toNatClampNeg = left
        · rw [if_pos hk]
          refine ⟨?_, hS, rfl⟩
          dsimp only
          rw [hS.2.2 _ (inSl_lt hk.1) (by rw [hk.2]; exact h0), hk.2, eV0]
        · rw [if_neg hk]
          have hf : ∀ m S, SP gd st may D S → subB m may → (smF n (h + 1) m S).1 = nI (Vl gd st (D - (h + 1)) (h + 1) (bt m)) ∧ SP gd st may D (smF n (h + 1) m S).2 ∧ eFi (smF n (h + 1) m S).2 = eFi S := fun m S h1 h2 => ih (h + 1) m S (by omega) h1 h2
          obtain ⟨a1, a2, a3⟩ := hf left S hS hml
          have hle := Vl_le (st := st) hb (D - (h + 1)) (h + 1) (bt left)
          rw [a1]
          obtain ⟨l1, l2, l3⟩ := smLoop_V hb hD hh hf hml 7 0 (Vl gd st (D - (h + 1)) (h + 1) (bt left)) _ (by omega) (by omega) a2
          have eres : mxU (Wv gd st D h (bt left)) 0 7 (Vl gd st (D - (h + 1)) (h + 1) (bt left)) = Vl gd st (D - h) h (bt left) := by
            rw [mxU_7, show D - h = (D - (h + 1)) + 1 by omega, Vl_s]
            rfl
          rw [eres] at l1
          obtain ⟨q1, q2⟩ := SP_end hD h0 (r := smLoop (smF n) h left 0 7 (nI (Vl gd st (D - (h + 1)) (h + 1) (bt left))) (smF n (h + 1) left S).2) (l1.trans (by rw [eV0])) l2
          exact ⟨l1, q1, q2.trans (l3.trans a3)⟩
end SM
end
