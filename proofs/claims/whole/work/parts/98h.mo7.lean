noncomputable section
theorem uCnt_mEq {M M2 : MS} (e : mEq M M2) {k : Nat} (hk : k < uHelps M) : uCnt M2 k = uCnt M k := by
  unfold uCnt
  rw [e.1 18 (by omega), e.1 19 (by omega), e.1 20 (by omega), e.1 22 (by omega), e.2.2 12 (by omega) k hk, e.2.2 13 (by omega) k hk]
theorem uHit_mEq {M M2 : MS} (e : mEq M M2) (p q : Int32) {k : Nat} (hk : k < uHelps M) : uHit M2 p q k = uHit M p q k := by
  unfold uHit
  rw [uCnt_mEq e hk, e.1 18 (by omega), e.2.2 10 (by omega) k hk, e.2.2 11 (by omega) k hk]
theorem mEq_H {M M2 : MS} (e : mEq M M2) : uHelps M2 = uHelps M := by unfold uHelps; rw [e.1 17 (by omega)]
theorem uSpent_mEq {M M2 : MS} (e : mEq M M2) (p q : Int32) : uSpent M2 p q = uSpent M p q := by
  unfold uSpent
  rw [mEq_H e, e.2.1 1 (by omega), any_congr (fun k hk => uHit_mEq e p q hk)]
theorem uMay_mEq {M M2 : MS} (e : mEq M M2) (p q : Int32) : uMay M2 p q = uMay M p q := by
  unfold uMay uMin
  rw [uSpent_mEq e, e.2.1 1 (by omega), e.2.1 2 (by omega)]
theorem uMayW_mEq {M M2 : MS} (e : mEq M M2) (p n : Int32) : uMayW M2 p n = uMayW M p n := by
  unfold uMayW uOpen
  rw [uMay_mEq e, mEq_has e, e.2.1 4 (by omega), e.2.1 7 (by omega), e.2.1 8 (by omega), e.2.1 9 (by omega), e.1 22 (by omega)]
/-- X is N but for the year, what was tried, and what is written behind the last help -/
def tE (N X : MS) : Prop := (∀ i, 15 ≤ i ∧ i ≤ 21 → mS i X = mS i N) ∧ (∀ i, 1 ≤ i ∧ i ≤ 9 → mA i X = mA i N) ∧ ∀ i, 10 ≤ i ∧ i ≤ 14 → ∀ k, k < uHelps N → mA i X k = mA i N k
theorem tE_mEq {N X : MS} (e : tE N X) (y : Int32) : mEq (msS 22 N y) (msS 22 X y) := by
  refine ⟨fun i hi => ?_, fun i hi => e.2.1 i hi, fun i hi k hk => e.2.2 i hi k hk⟩
  by_cases e2 : i = 22
  · subst e2
    rw [mS_S, if_pos rfl, mS_S, if_pos rfl]
  · rw [mS_ne e2, mS_ne e2, e.1 i (by omega)]
theorem tE_H {N X : MS} (e : tE N X) : uHelps X = uHelps N := by unfold uHelps; rw [e.1 17 (by omega)]
theorem tE_r (N : MS) : tE N N := ⟨fun _ _ => rfl, fun _ _ => rfl, fun _ _ _ _ => rfl⟩
theorem tE_t {N X Y : MS} (h : tE N X) (k : tE X Y) : tE N Y := ⟨fun i hi => (k.1 i hi).trans (h.1 i hi), fun i hi => (k.2.1 i hi).trans (h.2.1 i hi), fun i hi j hj => (k.2.2 i hi j (by rw [tE_H h]; exact hj)).trans (h.2.2 i hi j hj)⟩
theorem tE_s {N X : MS} (h : tE N X) : tE X N := ⟨fun i hi => (h.1 i hi).symm, fun i hi => (h.2.1 i hi).symm, fun i hi j hj => (h.2.2 i hi j (by rw [tE_H h] at hj; exact hj)).symm⟩
theorem avM_tE {N X : MS} (e : tE N X) (l : List Nat) (j q : Nat) : avM X l j q = avM N l j q := by
  have ep : uPeople X = uPeople N := by unfold uPeople; rw [e.1 15 (by omega)]
  unfold avM
  rw [ep, e.2.1 8 (by omega), uMayW_mEq (tE_mEq e _)]
/-- whether one row of a book spends, by its values -/
def hitV (M : MS) (y p q b to yr gr : Int32) : Bool := ((decide (b = p) && decide (to = q)) || (decide (b = q) && (decide (to = p) && !decide (mS 18 M = 1)))) && (if mS 18 M = 2 then decide (y - yr < mS 19 M) else if mS 18 M = 3 then decide (mS 20 M ≤ gr) else true)
theorem uSpent_W {M : MS} {b : Nat} (hb : hpB b M) (hb2 : b < 2 ^ 30) (x t g n y p q : Int32) : uSpent (msS 22 (uW M x t g n) y) p q = (uSpent (msS 22 M y) p q || (!decide (mA 1 M p.toNatClampNeg = 4) && hitV M y p q x t (mS 22 M) g)) := by
  have eH : uHelps (msS 22 (uW M x t g n) y) = uHelps M + 1 := by
    have : uHelps (msS 22 (uW M x t g n) y) = uHelps (uW M x t g n) := rfl
    rw [this, uHelps_W hb hb2]
  have eH2 : uHelps (msS 22 M y) = uHelps M := rfl
  unfold uSpent
  rw [eH, eH2, List.range_succ, List.any_append]
  have e1 : mA 1 (msS 22 (uW M x t g n) y) = mA 1 M := uW_A 1 (by omega) _ _ _ _ _
  have e2 : mA 1 (msS 22 M y) = mA 1 M := rfl
  have e3 : (List.range (uHelps M)).any (fun k => uHit (msS 22 (uW M x t g n) y) p q k) = (List.range (uHelps M)).any (fun k => uHit (msS 22 M y) p q k) := any_congr (fun k hk => by
    unfold uHit uCnt
    show (((decide (mA 10 (uW M x t g n) k = p) && decide (mA 11 (uW M x t g n) k = q)) || (decide (mA 10 (uW M x t g n) k = q) && (decide (mA 11 (uW M x t g n) k = p) && !decide (mS 18 (msS 22 (uW M x t g n) y) = 1)))) && (if mS 18 (msS 22 (uW M x t g n) y) = 2 then decide (mS 22 (msS 22 (uW M x t g n) y) - mA 12 (uW M x t g n) k < mS 19 (msS 22 (uW M x t g n) y)) else if mS 18 (msS 22 (uW M x t g n) y) = 3 then decide (mS 20 (msS 22 (uW M x t g n) y) ≤ mA 13 (uW M x t g n) k) else true)) = _
    rw [mS_ne (show ¬ 18 = 22 by decide), mS_ne (show ¬ 19 = 22 by decide), mS_ne (show ¬ 20 = 22 by decide), mS_S, if_pos rfl, uW_S 18 (by decide), uW_S 19 (by decide), uW_S 20 (by decide), uW_10, uW_11, uW_12, uW_13, upd_ne (by omega), upd_ne (by omega), upd_ne (by omega), upd_ne (by omega)]
    rfl)
  have e4 : uHit (msS 22 (uW M x t g n) y) p q (uHelps M) = hitV M y p q x t (mS 22 M) g := by
    unfold uHit uCnt hitV
    show (((decide (mA 10 (uW M x t g n) (uHelps M) = p) && decide (mA 11 (uW M x t g n) (uHelps M) = q)) || (decide (mA 10 (uW M x t g n) (uHelps M) = q) && (decide (mA 11 (uW M x t g n) (uHelps M) = p) && !decide (mS 18 (msS 22 (uW M x t g n) y) = 1)))) && (if mS 18 (msS 22 (uW M x t g n) y) = 2 then decide (mS 22 (msS 22 (uW M x t g n) y) - mA 12 (uW M x t g n) (uHelps M) < mS 19 (msS 22 (uW M x t g n) y)) else if mS 18 (msS 22 (uW M x t g n) y) = 3 then decide (mS 20 (msS 22 (uW M x t g n) y) ≤ mA 13 (uW M x t g n) (uHelps M)) else true)) = _
    rw [mS_ne (show ¬ 18 = 22 by decide), mS_ne (show ¬ 19 = 22 by decide), mS_ne (show ¬ 20 = 22 by decide), mS_S, if_pos rfl, uW_S 18 (by decide), uW_S 19 (by decide), uW_S 20 (by decide), uW_10, uW_11, uW_12, uW_13, upd_eq, upd_eq, upd_eq, upd_eq]
  rw [e1, e2, e3]
  simp only [List.any_cons, List.any_nil, Bool.or_false]
  rw [e4]
  cases decide (mA 1 M p.toNatClampNeg = 4) <;> cases (List.range (uHelps M)).any (fun k => uHit (msS 22 M y) p q k) <;> rfl
/-- N has the book of M, and more -/
def bkX (M N : MS) : Prop := (∀ i, (15 ≤ i ∧ i ≤ 21 ∧ ¬ i = 17) → mS i N = mS i M) ∧ (∀ i, 1 ≤ i ∧ i ≤ 8 → mA i N = mA i M) ∧ uHelps M ≤ uHelps N ∧ ∀ i, 10 ≤ i ∧ i ≤ 14 → ∀ k, k < uHelps M → mA i N k = mA i M k
theorem any_mono {n m : Nat} {f g : Nat → Bool} (hnm : n ≤ m) (h : ∀ k, k < n → f k = true → g k = true) (hf : (List.range n).any f = true) : (List.range m).any g = true := by
  obtain ⟨k, hk, e⟩ := List.any_eq_true.mp hf
  have hk := List.mem_range.mp hk
  exact List.any_eq_true.mpr ⟨k, List.mem_range.mpr (by omega), h k hk e⟩
theorem bkX_has {M N : MS} (h : bkX M N) (p n : Int32) (hu : uHas M p n = true) : uHas N p n = true := by
  unfold uHas at hu ⊢
  exact any_mono h.2.2.1 (fun k hk z => by rw [h.2.2.2 14 (by omega) k hk, h.2.2.2 10 (by omega) k hk]; exact z) hu
theorem bkX_spent {M N : MS} (h : bkX M N) (y p q : Int32) (hu : uSpent (msS 22 M y) p q = true) : uSpent (msS 22 N y) p q = true := by
  unfold uSpent at hu ⊢
  rw [Bool.and_eq_true] at hu ⊢
  have ek : mA 1 (msS 22 N y) = mA 1 (msS 22 M y) := h.2.1 1 (by omega)
  refine ⟨by rw [ek]; exact hu.1, any_mono (f := fun k => uHit (msS 22 M y) p q k) (show uHelps (msS 22 M y) ≤ uHelps (msS 22 N y) from h.2.2.1) (fun k hk z => ?_) hu.2⟩
  have hk : k < uHelps M := hk
  have e : uHit (msS 22 N y) p q k = uHit (msS 22 M y) p q k := by
    have eA : ∀ i, 10 ≤ i ∧ i ≤ 14 → mA i (msS 22 N y) k = mA i (msS 22 M y) k := fun i hi => h.2.2.2 i hi k hk
    have eS : ∀ i, (15 ≤ i ∧ i ≤ 22 ∧ ¬ i = 17) → mS i (msS 22 N y) = mS i (msS 22 M y) := fun i hi => by
      by_cases e : i = 22
      · subst e
        rw [mS_S, mS_S, if_pos rfl, if_pos rfl]
      · rw [mS_ne e, mS_ne e]
        exact h.1 i (by omega)
    unfold uHit uCnt
    rw [eA 10 (by omega), eA 11 (by omega), eA 12 (by omega), eA 13 (by omega), eS 18 (by omega), eS 19 (by omega), eS 20 (by omega), eS 22 (by omega)]
  rw [e]
  exact z
/-- a hand of the list is open, whoever of those before it was helped -/
def hadB (M N : MS) (l : List Nat) (d : Nat) : Prop := ∀ n, n < uNeeds M → ∃ e m, mA 9 N n = nI e ∧ mA 9 M n = nI m ∧ e ≤ 3 ∧ m ≤ 3 ∧ e ≤ m + (l.take d).count n
theorem count_rep (n k c : Nat) : (List.replicate c k).count n = if k = n then c else 0 := by
  rw [List.count_replicate]
  by_cases e : k = n
  · subst e; simp
  · rw [if_neg e]
    simp
    intro h
    exact absurd h e
theorem hlK_count (M : MS) (y n : Nat) : ∀ m k, (hlK M y k m).count n = if k ≤ n ∧ n < k + m then hC M y n else 0 := by
  intro m
  induction m with
  | zero =>
    intro k
    rw [if_neg (by omega)]
    rfl
  | succ m ih =>
    intro k
    simp only [hlK]
    rw [List.count_append, ih, count_rep]
    by_cases e : k = n
    · subst e
      rw [if_pos rfl, if_neg (by omega), if_pos (by omega)]
      omega
    · rw [if_neg e]
      by_cases e2 : k + 1 ≤ n ∧ n < k + 1 + m
      · rw [if_pos e2, if_pos (by omega)]; omega
      · rw [if_neg e2, if_neg (by omega)]
theorem hlY_count (M : MS) (n : Nat) : ∀ m y, (hlY M y m).count n ≤ if y ≤ Yn M n ∧ Yn M n < y + m then HLn M n else 0 := by
  intro m
  induction m with
  | zero =>
    intro y
    exact Nat.zero_le _
  | succ m ih =>
    intro y
    simp only [hlY]
    rw [List.count_append, hlK_count]
    have h := ih (y + 1)
    have h2 : (if 0 ≤ n ∧ n < 0 + uNeeds M then hC M y n else 0) ≤ if Yn M n = y then HLn M n else 0 := by
      unfold hC
      split <;> split <;> omega
    generalize (if 0 ≤ n ∧ n < 0 + uNeeds M then hC M y n else 0) = A at h2 ⊢
    by_cases e : Yn M n = y
    · rw [if_pos e] at h2
      rw [if_neg (by omega)] at h
      rw [if_pos (by omega)]
      omega
    · rw [if_neg e] at h2
      by_cases e2 : y + 1 ≤ Yn M n ∧ Yn M n < y + 1 + m
      · rw [if_pos e2] at h
        rw [if_pos (by omega)]
        omega
      · rw [if_neg e2] at h
        omega
theorem HLs_count (M : MS) (n : Nat) : (HLs M).count n ≤ HLn M n := by
  have := hlY_count M n (10 - (mS 22 M).toNatClampNeg) (mS 22 M).toNatClampNeg
  unfold HLs
  split at this <;> omega
theorem take_count {l : List Nat} {d j : Nat} (hd : d ≤ j) (hj : j < l.length) : (l.take d).count (l.getD j 0) < l.count (l.getD j 0) := by
  have h1 : l.count (l.getD j 0) = (l.take d).count (l.getD j 0) + (l.drop d).count (l.getD j 0) := by
    rw [← List.count_append, List.take_append_drop]
  have h2 : 0 < (l.drop d).count (l.getD j 0) := by
    rw [List.count_pos_iff]
    have : (l.drop d)[j - d]? = some (l.getD j 0) := by
      rw [List.getElem?_drop, show d + (j - d) = j by omega, List.getD_eq_getElem?_getD, List.getElem?_eq_getElem hj]
      rfl
    exact List.mem_of_getElem? this
  omega
theorem take_succ_count {l : List Nat} {d : Nat} (hd : d < l.length) (n : Nat) : (l.take (d + 1)).count n = (l.take d).count n + if l.getD d 0 = n then 1 else 0 := by
  rw [List.take_succ, List.count_append, List.getElem?_eq_getElem hd, List.getD_eq_getElem?_getD, List.getElem?_eq_getElem hd]
  simp only [Option.toList_some, Option.getD_some, List.count_singleton, beq_iff_eq]
theorem hadB_open {M N : MS} {l : List Nat} (hl : l = HLs M) (hv : VB M) {d j : Nat} (hb : hadB M N l d) (hx : ∀ i, 7 ≤ i ∧ i ≤ 8 → mA i N = mA i M) (hd : d ≤ j) (hj : j < l.length) (hn : l.getD j 0 < uNeeds M) : uOpen (msS 22 N (mA 8 N (l.getD j 0))) (l.getD j 0) = true := by
  obtain ⟨e, m, h1, h2, h3, h4, h5⟩ := hb (l.getD j 0) hn
  obtain ⟨-, hh, dd, d1, d2, d3, d4⟩ := hv (l.getD j 0) hn
  have hc := take_count hd hj
  have hc2 : l.count (l.getD j 0) ≤ HLn M (l.getD j 0) := by rw [hl]; exact HLs_count M _
  have em : m = dd := (nI_inj (by omega) (by omega)).mp (h2.symm.trans d4)
  have hHL : HLn M (l.getD j 0) = hh - dd := by unfold HLn; rw [d3, d4, nI_clamp (by omega), nI_clamp (by omega)]
  unfold uOpen
  have e1 : decide (mA 8 (msS 22 N (mA 8 N (l.getD j 0))) (l.getD j 0) = mS 22 (msS 22 N (mA 8 N (l.getD j 0)))) = true := by
    rw [mS_S, if_pos rfl]
    exact decide_eq_true rfl
  have e2 : mA 7 (msS 22 N (mA 8 N (l.getD j 0))) (l.getD j 0) = nI hh := by
    show mA 7 N (l.getD j 0) = _
    rw [hx 7 (by omega)]
    exact d3
  have e3 : mA 9 (msS 22 N (mA 8 N (l.getD j 0))) (l.getD j 0) = nI e := h1
  rw [e1, e2, e3, Bool.true_and]
  exact decide_eq_true ((nI_ltJ (by omega) (by omega)).mpr (by omega))
/-- what of a person's helping a need stays as it is -/
def scM (M : MS) (p w : Int32) : Bool := !decide (p = w) && (!decide (mA 1 M p.toNatClampNeg = 6) || decide (uMin M p.toNatClampNeg w.toNatClampNeg ≤ 20))
theorem avM_e {M N : MS} {l : List Nat} (hx : bkX M N) {j q : Nat} (hn12 : l.getD j 0 < 12) (ho : uOpen (msS 22 N (mA 8 N (l.getD j 0))) (l.getD j 0) = true) : avM N l j q = (decide (q < uPeople M) && (scM M (nI q) (mA 4 M (l.getD j 0)) && (!uSpent (msS 22 N (mA 8 M (l.getD j 0))) (nI q) (mA 4 M (l.getD j 0)) && !uHas N (nI q) (nI (l.getD j 0))))) := by
  have ep : uPeople N = uPeople M := by unfold uPeople; rw [hx.1 15 (by omega)]
  have n12 : ¬ nI (l.getD j 0) = 12 := fun z => by have z : nI (l.getD j 0) = nI 12 := z; rw [nI_inj (by omega) (by omega)] at z; omega
  unfold avM uMayW uMay
  rw [nI_clamp (show l.getD j 0 < 2 ^ 31 by omega), ho, ep, Bool.true_and, decide_eq_false n12, Bool.false_or]
  have e1 : mA 4 (msS 22 N (mA 8 N (l.getD j 0))) = mA 4 M := hx.2.1 4 (by omega)
  have e2 : mA 1 (msS 22 N (mA 8 N (l.getD j 0))) = mA 1 M := hx.2.1 1 (by omega)
  have e3 : ∀ a b, uMin (msS 22 N (mA 8 N (l.getD j 0))) a b = uMin M a b := fun a b => by
    unfold uMin
    have : mA 2 (msS 22 N (mA 8 N (l.getD j 0))) = mA 2 M := hx.2.1 2 (by omega)
    rw [this]
  have e4 : uHas (msS 22 N (mA 8 N (l.getD j 0))) (nI q) (nI (l.getD j 0)) = uHas N (nI q) (nI (l.getD j 0)) := rfl
  rw [e1, e2, e3, e4, hx.2.1 8 (by omega)]
  unfold scM
  cases decide (nI q = mA 4 M (l.getD j 0)) <;> cases decide (mA 1 M (nI q).toNatClampNeg = 6) <;> cases decide (uMin M (nI q).toNatClampNeg (mA 4 M (l.getD j 0)).toNatClampNeg ≤ 20) <;> simp
end
