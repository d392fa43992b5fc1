noncomputable section
theorem Vl_rs {gd : Nat → Nat → Nat} {st : Nat → Nat → Nat → Nat → Bool} {G : Nat → Nat} : ∀ n h (a : Nat → Nat → Bool), (∀ j q, h ≤ j → j < h + n → q < 7 → a j q = true → gd j q ≤ G j) → Vl gd st n h a ≤ rsF G h n := by
  intro n
  induction n with
  | zero => exact fun _ _ _ => Nat.le_refl _
  | succ n ih =>
    intro h a ha
    rw [Vl_s]
    simp only [rsF]
    have h1 := ih (h + 1) a (fun j q h1 h2 h3 => ha j q (by omega) (by omega) h3)
    refine Nat.max_le.mpr ⟨by omega, mxN_le 7 (fun p hp => ?_)⟩
    by_cases e : a h p = true
    · rw [if_pos e]
      have h2 := ha h p (Nat.le_refl _) (by omega) hp e
      have h3 := ih (h + 1) (stA a st h p) (fun j q h1 h2 h3 h4 => ha j q (by omega) (by omega) h3 (by unfold stA at h4; rw [Bool.and_eq_true] at h4; exact h4.1))
      omega
    · rw [if_neg e]
      omega
theorem uFp_SM {d : Nat} {N X : MS} (h : SMx (d + 1) N X) : uFp X = uFp N := by
  unfold uFp
  rw [h.1 42 (by decide) (by decide), h.1 15 (by decide) (by decide), (h.2.2.2 0 (by omega)).1]
/-- the search from d on is what it should be -/
def DP (Z : MS) (l : List Nat) (n d : Nat) : Prop := ∀ N bn sv a, NB Z l d N → (d < l.length → mA 39 N d = -1) → bn ≤ 3000 → sv ≤ 165 * d → (∀ j q, d ≤ j → j < l.length → q < 7 → avM N l j q = a j q) →
  ∃ m N2, fsR m (nI bn + -1, nI sv, d + 1, N) (nI (upP (sv + Vl (gd0M Z l) (st0M Z l) n d a) (uFp N) (bn, mS 43 N)).1 + -1, nI sv, d, N2) ∧ SMx d N N2 ∧ mS 43 N2 = (upP (sv + Vl (gd0M Z l) (st0M Z l) n d a) (uFp N) (bn, mS 43 N)).2
theorem NB_hm {Z : MS} {l : List Nat} (hC : CZ Z l) {e : Nat} {N : MS} (hN : NB Z l e N) : mS 42 N = nI l.length := (hN.1 42 (by decide) (by decide) (by decide)).trans hC.2.2.1.2.1
theorem NB_pp {Z : MS} {l : List Nat} {e : Nat} {N : MS} (hN : NB Z l e N) : mS 15 N = mS 15 Z ∧ uPeople N = uPeople Z := by
  have := hN.1 15 (by decide) (by decide) (by decide)
  refine ⟨this, ?_⟩
  unfold uPeople
  rw [this]
theorem NB_q {Z : MS} {l : List Nat} (hC : CZ Z l) {e : Nat} {N : MS} (hN : NB Z l e N) {d : Nat} (hd : d < l.length) : mA 38 N d = nI (l.getD d 0) ∧ l.getD d 0 < uNeeds Z ∧ uNeeds Z ≤ 12 := by
  have h := hN.2.1 38 (by omega)
  exact ⟨by rw [h]; exact hC.2.2.1.2.2 d hd, hC.2.1.2 d hd, (nnB_c hC.2.2.2.2.2.2.1).2⟩
theorem fmOK_n {Z : MS} {l : List Nat} (hC : CZ Z l) {N : MS} {e d : Nat} (hN : NB Z l e N) (he : e ≤ 9) (hd : d ≤ l.length) (h : d < l.length → (∃ pk, pk ≤ uPeople Z + 1 ∧ mA 39 N d = nI pk + -1) ∧ (isReal N d = true → bkB N ∧ hpB 300 (uBack N))) : fmOK d N := by
  have hm := hC.2.2.2.2
  obtain ⟨ep, hp7⟩ := ppB_c hm.2.2.2.1
  refine ⟨l.length, uPeople Z, hC.2.2.1.1, hp7, NB_hm hC hN, (NB_pp hN).1.trans ep, hd, fun hd2 => ?_⟩
  obtain ⟨h1, h2⟩ := h hd2
  obtain ⟨q1, q2, q3⟩ := NB_q hC hN hd2
  refine ⟨⟨_, by omega, q1⟩, h1, fun hr => (h2 hr).1, ?_⟩
  have eS : ∀ i, ¬ i = 17 → ¬ i = 22 → ¬ i = 43 → mS i (uF1 N d) = mS i Z := fun i a b c => by
    unfold uF1
    split
    · rw [uBack_S, if_neg a]; exact hN.1 i a b c
    · exact hN.1 i a b c
  have eA : ∀ i, i < 9 → mA i (uF1 N d) = mA i Z := fun i a => by
    unfold uF1
    split
    · rw [uBack_A i (by omega)]; exact hN.2.1 i (by omega)
    · exact hN.2.1 i (by omega)
  refine ⟨?_, nwB_of hm.2.1 (eA 4 (by omega)) (eA 5 (by omega)), nnB_of hm.2.2.1 (eS 16 (by decide) (by decide) (by decide)), ppB_of hm.2.2.2.1 (eS 15 (by decide) (by decide) (by decide)), rwB_of hm.2.2.2.2 (eS 35 (by decide) (by decide) (by decide))⟩
  unfold uF1
  by_cases hr : isReal N d = true
  · rw [if_pos hr]; exact hpB_le (h2 hr).2 (by omega)
  · rw [if_neg hr]; exact hpB_le hN.2.2.2.2 (by omega)
theorem fsR_turn {b s : Int32} {d : Nat} {N : MS} (h : fmOK d N) : fsR 1 (b, s, d + 1, N) (uFs b s d N) := ⟨b, s, d, N, rfl, h, rfl⟩
theorem uF1_P (N : MS) (d : Nat) : uPeople (uFy N d) = uPeople N := by
  unfold uPeople uFy uF1
  rw [mS_ne (by decide)]
  split
  · rw [uBack_S15]
  · rfl
theorem uFs_e {N : MS} {D d q pk P : Nat} (h1 : mS 42 N = nI D) (hD : D ≤ 8) (hd : d < D) (h2 : mA 38 N d = nI q) (hq : q < 12) (h3 : mA 39 N d = nI pk + -1) (hpk : pk ≤ 8) (hP : uPeople N = P) (b s : Int32) :
    uFs b s d N = uF2 b (uFsum s N d) d q (uFy N d) (scn (uFo (uFy N d) q) (P - pk) pk) := by
  have e1 : ¬ nI d = mS 42 N := fun z => by
    rw [h1, nI_inj (by omega) (by omega)] at z
    omega
  have e2 : uFq N d = q := by unfold uFq; rw [h2, nI_clamp (by omega)]
  have e3 : uFc N d = pk := by
    unfold uFc
    rw [h3, Int32.add_assoc, show (-1 : Int32) + 1 = 0 from by decide, Int32.add_zero, nI_clamp (by omega)]
  unfold uFs
  rw [if_neg e1, e2, e3, hP]
theorem isReal_0 {N : MS} {d : Nat} (h : mA 39 N d = -1) : isReal N d = false := by
  unfold isReal
  rw [h]
  exact decide_eq_false (fun z => z.1 (by decide))
theorem isReal_P {N : MS} {d P : Nat} (h : mA 39 N d = nI P) (h2 : mS 15 N = nI P) : isReal N d = false := by
  unfold isReal
  rw [h, h2]
  exact decide_eq_false (fun z => Int32.lt_irrefl z.2)
theorem isReal_c {N : MS} {d c P : Nat} (h : mA 39 N d = nI c) (h2 : mS 15 N = nI P) (hP : P ≤ 7) (hc : c < P) : isReal N d = true := by
  unfold isReal
  rw [h, h2]
  exact decide_eq_true ⟨nI_nlt0 (by omega), (nI_ltJ (by omega) (by omega)).mpr hc⟩
/-- the leaf -/
theorem DP_0 {Z : MS} {l : List Nat} (hC : CZ Z l) : DP Z l 0 l.length := by
  intro N bn sv a hN hp hb hs ha
  have h8 := hC.2.2.1.1
  have ho : fmOK l.length N := fmOK_n hC hN (by omega) (Nat.le_refl _) (fun z => absurd z (Nat.lt_irrefl _))
  have e0 : sv + Vl (gd0M Z l) (st0M Z l) 0 l.length a = sv := Nat.add_zero sv
  rw [e0]
  have et := fsR_turn (b := nI bn + -1) (s := nI sv) ho
  unfold uFs at et
  rw [if_pos (NB_hm hC hN).symm] at et
  unfold upP
  by_cases h : bn ≤ sv
  · have h2 : ¬ nI sv ≤ nI bn + -1 := Int32.not_le.mpr ((m1_lt (by omega) (by omega)).mpr h)
    rw [if_neg h2] at et
    rw [if_pos h]
    have e1 : nI (sv + 1, uFp N).1 + -1 = nI sv := (m1_up sv).symm
    rw [e1]
    refine ⟨1, _, et, ⟨fun i h1 h2 => mS_ne h2, fun _ _ => rfl, fun _ _ _ _ => rfl, fun _ _ => ⟨rfl, rfl⟩⟩, ?_⟩
    rw [mS_S, if_pos rfl]
  · have h2 : nI sv ≤ nI bn + -1 := Int32.not_lt.mp (fun z => h ((m1_lt (by omega) (by omega)).mp z))
    rw [if_pos h2] at et
    rw [if_neg h]
    exact ⟨1, N, et, SM_r _ _, rfl⟩
/-- the bound, and on -/
theorem fm_child {Z : MS} {l : List Nat} (hC : CZ Z l) {n d : Nat} (hD : d + 1 + n = l.length) (hdp : DP Z l n (d + 1)) {N : MS} (hN : NB Z l (d + 1) N) {bn sv : Nat} {a : Nat → Nat → Bool} (hb : bn ≤ 3000) (hs : sv ≤ 165 * (d + 1)) (ha : ∀ j q, d + 1 ≤ j → j < l.length → q < 7 → avM N l j q = a j q) (hg : ∀ j q, d + 1 ≤ j → j < l.length → q < 7 → a j q = true → gd0M Z l j q ≤ Gmx Z l j) (hrs : rsF (Gmx Z l) (d + 1) n ≤ 165 * n) :
    ∃ m N2, fsR m (uF3 (nI bn + -1) (nI sv) d N) (nI (upP (sv + Vl (gd0M Z l) (st0M Z l) n (d + 1) a) (uFp N) (bn, mS 43 N)).1 + -1, nI sv, d + 1, N2) ∧ SMx (d + 1) N N2 ∧ mS 43 N2 = (upP (sv + Vl (gd0M Z l) (st0M Z l) n (d + 1) a) (uFp N) (bn, mS 43 N)).2 := by
  have h8 := hC.2.2.1.1
  have er : mA 41 N (d + 1) = nI (rsF (Gmx Z l) (d + 1) n) := by
    have h1 := hN.2.1 41 (by omega)
    have h2 := hC.2.2.2.1 (d + 1) (by omega)
    rw [show l.length - (d + 1) = n by omega] at h2
    rw [h1]
    exact h2
  have hV := Vl_rs (gd := gd0M Z l) (st := st0M Z l) n (d + 1) a (fun j q h1 h2 h3 h4 => hg j q h1 (by omega) h3 h4)
  unfold uF3
  rw [er, nI_add, NB_hm hC hN]
  by_cases h : bn ≤ sv + rsF (Gmx Z l) (d + 1) n
  · rw [if_pos ((m1_lt (by omega) (by omega)).mpr h)]
    have hX : ∀ X, X = (if nI (d + 1) < nI l.length then maA 39 N (d + 1) (-1) else N) → SMx (d + 1) N X ∧ mS 43 X = mS 43 N ∧ (d + 1 < l.length → mA 39 X (d + 1) = -1) := fun X eX => by
      by_cases hc : d + 1 < l.length
      · rw [if_pos ((nI_ltJ (by omega) (by omega)).mpr hc)] at eX
        subst eX
        refine ⟨⟨fun _ _ _ => rfl, fun i hi => by rw [mA_a, if_neg (by omega)], fun i hi k _ => by rw [mA_a, if_neg (by omega)], fun j hj => ⟨?_, rfl⟩⟩, rfl, fun _ => ?_⟩
        · rw [mA_a, if_pos rfl, upd_ne (by omega)]
        · rw [mA_a, if_pos rfl, upd_eq]
      · rw [if_neg (fun z => hc ((nI_ltJ (by omega) (by omega)).mp z))] at eX
        subst eX
        exact ⟨SM_r _ _, rfl, fun z => absurd z hc⟩
    obtain ⟨x1, x2, x3⟩ := hX _ rfl
    generalize (if nI (d + 1) < nI l.length then maA 39 N (d + 1) (-1) else N) = X at x1 x2 x3 ⊢
    obtain ⟨m, N2, r1, r2, r3⟩ := hdp X bn sv a (NB_SM hN x1) x3 hb hs (fun j q h1 h2 h3 => (avM_tE (SM_tE x1) l j q).trans (ha j q h1 h2 h3))
    rw [uFp_SM x1, x2] at r1 r3
    exact ⟨m, N2, r1, SM_t x1 r2, r3⟩
  · rw [if_neg (fun z => h ((m1_lt (by omega) (by omega)).mp z))]
    unfold upP
    rw [if_neg (show ¬ (bn, mS 43 N).1 ≤ sv + Vl (gd0M Z l) (st0M Z l) n (d + 1) a from fun z => by have z : bn ≤ sv + Vl (gd0M Z l) (st0M Z l) n (d + 1) a := z; omega)]
    exact ⟨0, N, rfl, SM_r _ _, rfl⟩
end
