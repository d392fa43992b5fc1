noncomputable section
/-- N2 is N but for scratch; what was picked before d stands -/
def SMx (d : Nat) (N N2 : MS) : Prop := (∀ i, ¬ i = 22 → ¬ i = 43 → mS i N2 = mS i N) ∧ (∀ i, (i < 10 ∨ (14 < i ∧ ¬ i = 39 ∧ ¬ i = 40)) → mA i N2 = mA i N) ∧ (∀ i, 10 ≤ i ∧ i ≤ 14 → ∀ k, k < uHelps N → mA i N2 k = mA i N k) ∧ ∀ j, j < d → mA 39 N2 j = mA 39 N j ∧ mA 40 N2 j = mA 40 N j
theorem SM_r (d : Nat) (N : MS) : SMx d N N := ⟨fun _ _ _ => rfl, fun _ _ => rfl, fun _ _ _ _ => rfl, fun _ _ => ⟨rfl, rfl⟩⟩
theorem SM_H {d : Nat} {N X : MS} (h : SMx d N X) : uHelps X = uHelps N := by unfold uHelps; rw [h.1 17 (by decide) (by decide)]
theorem SM_P {d : Nat} {N X : MS} (h : SMx d N X) : uPeople X = uPeople N := by unfold uPeople; rw [h.1 15 (by decide) (by decide)]
theorem SM_t {d : Nat} {N X Y : MS} (h : SMx d N X) (k : SMx d X Y) : SMx d N Y := ⟨fun i a b => (k.1 i a b).trans (h.1 i a b), fun i a => (k.2.1 i a).trans (h.2.1 i a), fun i a j hj => (k.2.2.1 i a j (by rw [SM_H h]; exact hj)).trans (h.2.2.1 i a j hj), fun j hj => ⟨(k.2.2.2 j hj).1.trans (h.2.2.2 j hj).1, (k.2.2.2 j hj).2.trans (h.2.2.2 j hj).2⟩⟩
theorem SM_le {d e : Nat} {N X : MS} (h : SMx d N X) (he : e ≤ d) : SMx e N X := ⟨h.1, h.2.1, h.2.2.1, fun j hj => h.2.2.2 j (by omega)⟩
theorem SM_tE {d : Nat} {N X : MS} (h : SMx d N X) : tE N X := ⟨fun i hi => h.1 i (by omega) (by omega), fun i hi => h.2.1 i (by omega), h.2.2.1⟩
theorem SM_W {d : Nat} {N X : MS} (h : SMx d N X) (hy : mS 22 X = mS 22 N) {B : Nat} (hB : hpB B N) (hB2 : B < 2 ^ 30) (a b g n : Int32) : SMx d (uW N a b g n) (uW X a b g n) := by
  have eH := SM_H h
  refine ⟨fun i h1 h2 => ?_, fun i hi => ?_, fun i hi k hk => ?_, fun j hj => ?_⟩
  · by_cases e : i = 17
    · subst e
      rw [uW_17, uW_17, h.1 17 h1 h2]
    · rw [uW_S i e, uW_S i e, h.1 i h1 h2]
  · by_cases e : i = 9
    · subst e
      rw [uW_9, uW_9, h.2.1 9 hi]
    · rw [uW_A i (by omega), uW_A i (by omega), h.2.1 i hi]
  · by_cases e : k = uHelps N
    · rcases (show i = 10 ∨ i = 11 ∨ i = 12 ∨ i = 13 ∨ i = 14 by omega) with rfl | rfl | rfl | rfl | rfl
      · rw [uW_10, uW_10, eH, e, upd_eq, upd_eq]
      · rw [uW_11, uW_11, eH, e, upd_eq, upd_eq]
      · rw [uW_12, uW_12, eH, e, upd_eq, upd_eq, hy]
      · rw [uW_13, uW_13, eH, e, upd_eq, upd_eq]
      · rw [uW_14, uW_14, eH, e, upd_eq, upd_eq]
    · by_cases e2 : k < uHelps N
      · rw [uW_row _ _ _ _ hi e, uW_row _ _ _ _ hi (by rw [eH]; exact e)]
        exact h.2.2.1 i hi k e2
      · exfalso
        have := uHelps_W hB hB2 a b g n
        omega
  · rw [uW_A 39 (by omega), uW_A 39 (by omega), uW_A 40 (by omega), uW_A 40 (by omega)]
    exact h.2.2.2 j hj
/-- a state of the search at d -/
def NB (Z : MS) (l : List Nat) (d : Nat) (N : MS) : Prop := (∀ i, ¬ i = 17 → ¬ i = 22 → ¬ i = 43 → mS i N = mS i Z) ∧ (∀ i, (i < 9 ∨ (14 < i ∧ ¬ i = 39 ∧ ¬ i = 40)) → mA i N = mA i Z) ∧ bkX Z N ∧ hadB Z N l d ∧ hpB (60 + d) N
theorem NB_SM {Z : MS} {l : List Nat} {d e : Nat} {N X : MS} (h : NB Z l d N) (k : SMx e N X) : NB Z l d X := by
  refine ⟨fun i h1 h2 h3 => (k.1 i h2 h3).trans (h.1 i h1 h2 h3), fun i hi => (k.2.1 i (by omega)).trans (h.2.1 i hi), ⟨fun i hi => (k.1 i (by omega) (by omega)).trans (h.2.2.1.1 i hi), fun i hi => (k.2.1 i (by omega)).trans (h.2.2.1.2.1 i hi), by rw [SM_H k]; exact h.2.2.1.2.2.1, fun i hi j hj => (k.2.2.1 i hi j (by have := h.2.2.1.2.2.1; omega)).trans (h.2.2.1.2.2.2 i hi j hj)⟩, ?_, hpB_of h.2.2.2.2 (k.1 17 (by decide) (by decide))⟩
  intro n hn
  rw [k.2.1 9 (by omega)]
  exact h.2.2.2.1 n hn
theorem NB_up {Z : MS} {l : List Nat} {d : Nat} {N : MS} (h : NB Z l d N) : NB Z l (d + 1) N := ⟨h.1, h.2.1, h.2.2.1, hadB_up h.2.2.2.1, hpB_le h.2.2.2.2 (by omega)⟩
theorem NB_hMv {Z : MS} {l : List Nat} (hl : l = HLs Z) (hv : VB Z) (h12 : uNeeds Z ≤ 12) {d : Nat} (hd : d < l.length) (h8 : l.length ≤ 8) {N : MS} (h : NB Z l d N) (c : Nat) : NB Z l (d + 1) (hMv N l d c) := by
  refine ⟨fun i h1 h2 h3 => ?_, fun i hi => ?_, bkX_hMv h.2.2.1 h.2.2.2.2 (by omega) l d c, hadB_hMv hl hv h12 h.2.2.2.1 hd c, ?_⟩
  · unfold hMv
    rw [uW_S i h1, mS_ne h2]
    exact h.1 i h1 h2 h3
  · unfold hMv
    rw [uW_A i (by omega)]
    exact h.2.1 i hi
  · unfold hMv
    exact hpB_W (M := msS 22 N (mA 8 N (l.getD d 0))) h.2.2.2.2 _ _ _ _
/-- what the whole search stands on -/
def CZ (Z : MS) (l : List Nat) : Prop := l = HLs Z ∧ SB Z l ∧ LmM Z l ∧ (∀ d, d ≤ l.length → mA 41 Z d = nI (rsF (Gmx Z l) d (l.length - d))) ∧ mOK 60 Z
/-- the child: pick, gain, book -/
def chN (Y : MS) (d q c : Nat) : MS := uF4 (maA 39 Y d (nI c)) d q c
theorem chN_S (Y : MS) (d q c : Nat) {i : Nat} (hi : ¬ i = 17) : mS i (chN Y d q c) = mS i Y := by
  unfold chN uF4
  rw [uW_S i hi]
  rfl
theorem chN_17 (Y : MS) (d q c : Nat) : mS 17 (chN Y d q c) = mS 17 Y + 1 := by
  unfold chN uF4
  rw [uW_17]
  rfl
theorem chN_A (Y : MS) (d q c : Nat) {i : Nat} (hi : i < 9 ∨ (14 < i ∧ ¬ i = 39 ∧ ¬ i = 40)) : mA i (chN Y d q c) = mA i Y := by
  unfold chN uF4
  rw [uW_A i (by omega), mA_a, if_neg (by omega), mA_a, if_neg (by omega)]
theorem chN_9 (Y : MS) (d c : Nat) {q : Nat} (hq : q < 12) : mA 9 (chN Y d q c) = upd (mA 9 Y) q (mA 9 Y q + 1) := by
  unfold chN uF4
  rw [uW_9, if_neg (nI_nlt0 (by omega)), nI_clamp (by omega)]
  rfl
theorem chN_row (Y : MS) (d q c : Nat) {i : Nat} (hi : 10 ≤ i ∧ i ≤ 14) {k : Nat} (hk : ¬ k = uHelps Y) : mA i (chN Y d q c) k = mA i Y k := by
  unfold chN uF4
  rw [uW_row _ _ _ _ hi (show ¬ k = uHelps (maA 40 (maA 39 Y d (nI c)) d (uGood (maA 39 Y d (nI c)) c q)) from hk), mA_a, if_neg (by omega), mA_a, if_neg (by omega)]
theorem chN_14 (Y : MS) (d c : Nat) {q : Nat} (hq : q < 12) : mA 14 (chN Y d q c) (uHelps Y) = nI q := by
  unfold chN uF4
  rw [uW_14, show uHelps (maA 40 (maA 39 Y d (nI c)) d (uGood (maA 39 Y d (nI c)) c q)) = uHelps Y from rfl, upd_eq, if_neg]
  intro z
  have z : nI q = nI 12 := z
  rw [nI_inj (by omega) (by omega)] at z
  omega
theorem chN_39 (Y : MS) (d q c : Nat) : mA 39 (chN Y d q c) = upd (mA 39 Y) d (nI c) := by
  unfold chN uF4
  rw [uW_A 39 (by omega)]
  rfl
theorem chN_40 (Y : MS) (d q c : Nat) : mA 40 (chN Y d q c) = upd (mA 40 Y) d (uGood (maA 39 Y d (nI c)) c q) := by
  unfold chN uF4
  rw [uW_A 40 (by omega)]
  rfl
theorem chN_H {Y : MS} {b : Nat} (h : hpB b Y) (hb : b < 2 ^ 30) (d q c : Nat) : uHelps (chN Y d q c) = uHelps Y + 1 := by
  unfold chN uF4
  exact uHelps_W (M := maA 40 (maA 39 Y d (nI c)) d (uGood (maA 39 Y d (nI c)) c q)) h hb _ _ _ _
/-- the child is as the helped one -/
theorem chN_hMv {N Y : MS} {d : Nat} (h : SMx d N Y) {l : List Nat} {q : Nat} (hq : l.getD d 0 = q) (hy : mS 22 Y = mA 8 N q) {B : Nat} (hB : hpB B N) (hB2 : B < 2 ^ 30) (c : Nat) : SMx d (hMv N l d c) (chN Y d q c) := by
  subst hq
  unfold hMv chN uF4
  have e1 : mA 4 (maA 39 Y d (nI c)) = mA 4 N := h.2.1 4 (by omega)
  have e2 : mA 6 (maA 39 Y d (nI c)) = mA 6 N := h.2.1 6 (by omega)
  rw [e1, e2]
  refine SM_W ⟨fun i h1 h2 => ?_, fun i hi => ?_, fun i hi k hk => ?_, fun j hj => ?_⟩ ?_ (B := B) ?_ ?_ _ _ _ _
  · rw [mS_ne h1]
    exact h.1 i h1 h2
  · rw [mA_a, if_neg (by omega), mA_a, if_neg (by omega)]
    exact h.2.1 i hi
  · rw [mA_a, if_neg (by omega), mA_a, if_neg (by omega)]
    exact h.2.2.1 i hi k hk
  · have e3 : mA 39 (maA 40 (maA 39 Y d (nI c)) d (uGood (maA 39 Y d (nI c)) c (l.getD d 0))) j = upd (mA 39 Y) d (nI c) j := rfl
    have e4 : mA 40 (maA 40 (maA 39 Y d (nI c)) d (uGood (maA 39 Y d (nI c)) c (l.getD d 0))) j = upd (mA 40 Y) d (uGood (maA 39 Y d (nI c)) c (l.getD d 0)) j := rfl
    rw [e3, e4, upd_ne (by omega), upd_ne (by omega)]
    exact h.2.2.2 j hj
  · rw [mS_S, if_pos rfl]
    exact hy
  · exact hB
  · exact hB2
/-- the child's try is taken back -/
theorem chN_back {N Y X : MS} {d q c : Nat} (h : SMx d N Y) (hq : q < 12) {b : Nat} (hb : hpB b N) (hb2 : b < 300) (k : SMx (d + 1) (chN Y d q c) X) :
    mA 39 X d = nI c ∧ mA 40 X d = uGood (maA 39 Y d (nI c)) c q ∧ bkB X ∧ SMx d N (uBack X) := by
  have hbY : hpB b Y := hpB_of hb (h.1 17 (by decide) (by decide))
  obtain ⟨e0, hH⟩ := hpB_c hb (by omega)
  have eHY := SM_H h
  have eHc := chN_H hbY (by omega) d q c
  have e17 : mS 17 X - 1 = mS 17 N := by
    rw [k.1 17 (by decide) (by decide), chN_17, h.1 17 (by decide) (by decide)]
    exact Int32.add_sub_cancel _ _
  have e14 : mA 14 X (uHelps N) = nI q := by
    rw [k.2.2.1 14 (by omega) (uHelps N) (by omega), ← eHY]
    exact chN_14 Y d c hq
  have ec : (mS 17 X - 1).toNatClampNeg = uHelps N := by rw [e17]; rfl
  have e9 := uBack_9 X
  rw [ec, e14, if_neg (nI_nlt0 (by omega)), nI_clamp (by omega), k.2.1 9 (by omega), chN_9 Y d c hq, upd_eq, Int32.add_sub_cancel] at e9
  refine ⟨?_, ?_, ?_, fun i h1 h2 => ?_, fun i hi => ?_, fun i hi j hj => ?_, fun j hj => ?_⟩
  · rw [(k.2.2.2 d (by omega)).1, chN_39, upd_eq]
  · rw [(k.2.2.2 d (by omega)).2, chN_40, upd_eq]
  · refine ⟨?_, ?_⟩
    · rw [e17, e0]
      exact ⟨_, by omega, rfl⟩
    · rw [ec, e14]
      exact Or.inr ⟨q, by omega, rfl⟩
  · rw [uBack_S]
    by_cases e : i = 17
    · rw [if_pos e, e17, e]
    · rw [if_neg e, k.1 i h1 h2, chN_S Y d q c e]
      exact h.1 i h1 h2
  · by_cases e : i = 9
    · subst e
      rw [e9, ← h.2.1 9 hi]
      funext j
      by_cases ej : j = q
      · rw [ej, upd_eq]
      · rw [upd_ne ej, upd_ne ej]
    · rw [uBack_A i e, k.2.1 i hi, chN_A Y d q c (by omega)]
      exact h.2.1 i hi
  · rw [uBack_A i (by omega), k.2.2.1 i hi j (by omega), chN_row Y d q c hi (by omega)]
    exact h.2.2.1 i hi j hj
  · rw [uBack_A 39 (by decide), uBack_A 40 (by decide), (k.2.2.2 j (by omega)).1, (k.2.2.2 j (by omega)).2, chN_39, chN_40, upd_ne (by omega), upd_ne (by omega)]
    exact h.2.2.2 j hj
end
