noncomputable section
theorem HLs_e {M M2 : MS} (e16 : mS 16 M2 = mS 16 M) (e22 : mS 22 M2 = mS 22 M) (e7 : mA 7 M2 = mA 7 M) (e8 : mA 8 M2 = mA 8 M) (e9 : mA 9 M2 = mA 9 M) : HLs M2 = HLs M := by
  have hc : ∀ y k, hC M2 y k = hC M y k := fun y k => by unfold hC Yn HLn; rw [e7, e8, e9]
  have hn : uNeeds M2 = uNeeds M := by unfold uNeeds; rw [e16]
  have hk : ∀ y n k, hlK M2 y k n = hlK M y k n := by
    intro y n
    induction n with
    | zero => exact fun _ => rfl
    | succ n ih =>
      intro k
      simp only [hlK]
      rw [ih, hc]
  have hy : ∀ n y, hlY M2 y n = hlY M y n := by
    intro n
    induction n with
    | zero => exact fun _ => rfl
    | succ n ih =>
      intro y
      simp only [hlY]
      rw [ih, hk, hn]
  unfold HLs
  rw [hy, e22]
theorem CZ_of {N N2 : MS} {l : List Nat} (h : CZ N l) (hS : ∀ i, i = 15 ∨ i = 16 ∨ i = 22 ∨ i = 35 ∨ i = 42 → mS i N2 = mS i N) (hA : ∀ i, (1 ≤ i ∧ i ≤ 9) ∨ i = 38 ∨ i = 41 → mA i N2 = mA i N) (hb : hpB 60 N2) : CZ N2 l := by
  obtain ⟨c1, ⟨⟨b1, b2, b3, b4, b5⟩, b6⟩, ⟨m1, m2, m3⟩, r, ok⟩ := h
  have en : uNeeds N2 = uNeeds N := by unfold uNeeds; rw [hS 16 (by omega)]
  have ep : uPeople N2 = uPeople N := by unfold uPeople; rw [hS 15 (by omega)]
  have eg : ∀ p n, gdN N2 p n = gdN N p n := fun p n => by unfold gdN; rw [uGood_S (fun i hi => hA i (by omega)) p n]
  have hw : nwB N2 := nwB_of b1 (hA 4 (by omega)) (hA 5 (by omega))
  refine ⟨?_, ⟨⟨hw, fun n hn => ?_, ?_, fun n hn => ?_, hb⟩, fun j hj => by rw [en]; exact b6 j hj⟩, ⟨m1, by rw [hS 42 (by omega)]; exact m2, fun j hj => by rw [hA 38 (by omega)]; exact m3 j hj⟩, fun d hd => ?_, ⟨hb, hw, nnB_of ok.2.2.1 (hS 16 (by omega)), ppB_of ok.2.2.2.1 (hS 15 (by omega)), rwB_of ok.2.2.2.2 (hS 35 (by omega))⟩⟩
  · rw [c1]
    exact (HLs_e (hS 16 (by omega)) (hS 22 (by omega)) (hA 7 (by omega)) (hA 8 (by omega)) (hA 9 (by omega))).symm
  · rw [en] at hn
    rw [hA 7 (by omega), hA 8 (by omega), hA 9 (by omega)]
    exact b2 n hn
  · unfold VP
    rw [hA 2 (by omega), hA 3 (by omega)]
    exact b3
  · rw [en] at hn
    rw [hA 6 (by omega)]
    exact b4 n hn
  · rw [hA 41 (by omega), r d hd]
    unfold Gmx
    simp only [eg, ep]
/-- N is M as far as both sides go -/
def gEq (M N : MS) : Prop := mEq M N ∧ (∀ i, i = 27 ∨ i = 31 ∨ i = 35 → mS i N = mS i M) ∧ ∀ i, i = 0 ∨ i = 23 ∨ i = 34 ∨ i = 30 → mA i N = mA i M
theorem gEq_t {M N X : MS} (h : gEq M N) (k : gEq N X) : gEq M X := by
  have eH := mEq_H h.1
  exact ⟨⟨fun i hi => (k.1.1 i hi).trans (h.1.1 i hi), fun i hi => (k.1.2.1 i hi).trans (h.1.2.1 i hi), fun i hi j hj => (k.1.2.2 i hi j (by rw [eH]; exact hj)).trans (h.1.2.2 i hi j hj)⟩, fun i hi => (k.2.1 i hi).trans (h.2.1 i hi), fun i hi => (k.2.2 i hi).trans (h.2.2 i hi)⟩
theorem gEq_r (M : MS) : gEq M M := ⟨⟨fun _ _ => rfl, fun _ _ => rfl, fun _ _ _ _ => rfl⟩, fun _ _ => rfl, fun _ _ => rfl⟩
theorem TW_mEq {T : TS} {M N : MS} (h : TW T M) (e : mEq M N) : TW T N := by
  obtain ⟨t1, t2, t3, t4, t5, t6, t7⟩ := h
  have en : uNeeds N = uNeeds M := by unfold uNeeds; rw [e.1 16 (by omega)]
  refine ⟨RT_mEq e t1, fun n hn => ?_, ?_, fun n hn => ?_, hpB_of t5 (e.1 17 (by omega)), ?_, fun k hk => ?_⟩
  · rw [en] at hn
    rw [e.2.1 7 (by omega), e.2.1 8 (by omega), e.2.1 9 (by omega)]
    exact t2 n hn
  · unfold VP
    rw [e.2.1 2 (by omega), e.2.1 3 (by omega)]
    exact t3
  · rw [en] at hn
    rw [e.2.1 6 (by omega)]
    exact t4 n hn
  · rw [e.1 22 (by omega)]
    exact t6
  · rw [mEq_H e] at hk
    rw [e.2.2 14 (by omega) k hk, en]
    exact t7 k hk
theorem LI_g {S : HS} {M N : MS} (h : LI S M) (e : gEq M N) : LI S N := by
  obtain ⟨h1, h2, h3, h4, h5, h6⟩ := h
  refine ⟨TW_mEq h1 e.1, nwB_of h2 (e.1.2.1 4 (by omega)) (e.1.2.1 5 (by omega)), RR_of h3 (e.2.1 35 (by omega)) (e.2.2 34 (by omega)), LtB_k h4 (e.2.1 27 (by omega)) (e.2.2 23 (by omega)), fun k hk => ?_, ImB_k h6 (e.2.1 31 (by omega)) (fun j _ => by rw [e.2.2 30 (by omega)])⟩
  rw [e.2.2 0 (by omega)]
  exact h5 k hk
theorem gEq_fhS {M Z : MS} (h : fhS M Z) : gEq M Z := ⟨⟨fun i hi => h.1 i (by omega), fun i hi => h.2 i (by omega) (by omega), fun i hi k _ => by rw [h.2 i (by omega) (by omega)]⟩, fun i hi => h.1 i (by omega), fun i hi => h.2 i (by omega) (by omega)⟩
theorem gEq_SM {Z N : MS} (h : SMx 0 Z N) (hy : mS 22 N = mS 22 Z) : gEq Z N := by
  refine ⟨⟨fun i hi => ?_, fun i hi => h.2.1 i (by omega), h.2.2.1⟩, fun i hi => h.1 i (by omega) (by omega), fun i hi => h.2.1 i (by omega)⟩
  by_cases e : i = 22
  · subst e
    exact hy
  · exact h.1 i e (by omega)
theorem CZ_SM {Z N : MS} {l : List Nat} (hC : CZ Z l) (h : SMx 0 Z N) (hy : mS 22 N = mS 22 Z) : CZ N l := by
  refine CZ_of hC (fun i hi => ?_) (fun i hi => h.2.1 i (by omega)) (hpB_of hC.2.2.2.2.1 (h.1 17 (by decide) (by decide)))
  by_cases e : i = 22
  · subst e
    exact hy
  · exact h.1 i e (by omega)
theorem mBest_le {N : MS} {l : List Nat} (h8 : l.length ≤ 8) : (mBest N l).1 ≤ 2001 := by
  have hb : ∀ h p, gd0M N l h p ≤ 165 := fun h p => Nat.min_le_left _ _
  have hW : ∀ c, Wv (gd0M N l) (st0M N l) l.length 0 (a0M N l) c ≤ 2000 := fun c => Wv_le hb h8 0 _ c
  have hg := gB_le (av := a0M N l 0) hW 7 0 (0, -9) (by show 0 ≤ 2001; omega)
  have hV := Vl_le (st := st0M N l) hb (l.length - 1) 1 (a0M N l)
  unfold mBest gE
  split
  · show Vl (gd0M N l) (st0M N l) (l.length - 1) 1 (a0M N l) + 1 ≤ 2001
    omega
  · exact hg
theorem most_eq {E : ET} {N : MS} {l : List Nat} (hT : RT (fT E) N) (hC : CZ N l) (hyr : yrB N) : fmPre N ∧ (sMost E).1 = (uFM N).1 ∧ (∃ x, x ≤ 2001 ∧ (uFM N).1 = nI x + -1) ∧ eFi (fS (sMost E).2) = mS 43 (uFM N).2 ∧ SMx 0 N (uFM N).2 ∧ mS 22 (uFM N).2 = mS 22 N := by
  obtain ⟨f1, f2, f3, f4, f5⟩ := uFM_V hC
  have h8 := hC.2.2.1.1
  have hl := hC.1
  subst hl
  obtain ⟨r1, r2⟩ := R_most hT hC.2.1 hyr h8
  exact ⟨f1, r1.trans f2.symm, ⟨_, mBest_le h8, f2⟩, r2.trans f3.symm, f4, f5⟩
section SEARCH
variable {S : HS} {M : MS}
theorem LI_fits (h : LI S M) : (uFH M).1 = sFits (hNow S) ∧ LI S (uFH M).2 ∧ ((uFH M).1 = true → CZ (uFH M).2 (HLs M)) := by
  have hp := LI_pub h
  have ht := h.1
  obtain ⟨z1, z2⟩ := uFH_z h.2.1 hp.1.2.2.1 hp.1.2.2.2.1 hp.2.2.1 ht.2.1 ht.2.2.1 ht.2.2.2.1
  have hS := uFH_S M
  refine ⟨z1.trans (R_fits ht.1 hp.2.2.1 ht.2.1).symm, LI_g h (gEq_fhS hS), fun hf => ?_⟩
  obtain ⟨q1, q2, q3, q4⟩ := z2 hf
  have hL := LI_g h (gEq_fhS hS)
  have hp2 := LI_pub hL
  have eH : HLs (uFH M).2 = HLs M := HLs_e (hS.1 16 (by decide)) (hS.1 22 (by decide)) (hS.2 7 (by decide) (by decide)) (hS.2 8 (by decide) (by decide)) (hS.2 9 (by decide) (by decide))
  refine ⟨eH.symm, ⟨⟨hL.2.1, hL.1.2.1, hL.1.2.2.1, hL.1.2.2.2.1, hL.1.2.2.2.2.1⟩, fun j hj => ?_⟩, q2, fun d hd => ?_, hp2.1⟩
  · have := HLs_lt M hj
    have en : uNeeds (uFH M).2 = uNeeds M := fhS_nn hS
    omega
  · rw [q4 d hd]
    have eg : ∀ p n, gdN (uFH M).2 p n = gdN M p n := fun p n => by unfold gdN; rw [uGood_S (fun i hi => hS.2 i (by omega) (by omega)) p n]
    have ep : uPeople (uFH M).2 = uPeople M := by unfold uPeople; rw [hS.1 15 (by decide)]
    unfold Gmx
    simp only [eg, ep]
theorem LI_em (h : LI S M) (E : ET) : LI (hsEMind S E) M := h
theorem LI_cp (h : LI S M) : LI (hCopy S) M := h
/-- a search from where both sides stand -/
theorem hMo_eq {N : MS} {l : List Nat} (h : LI S N) (hC : CZ N l) : fmPre N ∧ (hMo (hCopy S)).1 = (uFM N).1 ∧ (∃ x, x ≤ 2001 ∧ (uFM N).1 = nI x + -1) ∧ eFi (hS (hMo (hCopy S)).2) = mS 43 (uFM N).2 ∧ LI (hMo (hCopy S)).2 (uFM N).2 ∧ CZ (uFM N).2 l ∧ gEq N (uFM N).2 := by
  have hT : RT (fT (hEMind (hCopy S))) N := RT_copy (A := hMind S) h.1.1
  obtain ⟨m1, m2, m3, m4, m5, m6⟩ := most_eq hT hC (LI_pub h).2.2.1
  exact ⟨m1, m2, m3, m4, LI_em (LI_cp (LI_g h (gEq_SM m5 m6))) _, CZ_SM hC m5 m6, gEq_SM m5 m6⟩
theorem pre_fm (h : LI S M) : fmP M := by
  have hp := LI_pub h
  obtain ⟨f1, f2, f3⟩ := LI_fits h
  exact ⟨⟨h.2.1, hp.1.2.2.1, hp.1.2.2.2.1, hp.2.2.1, hp.2.1⟩, fun hf => (hMo_eq f2 (f3 hf)).1⟩
theorem pv_most (h : LI S M) : PV (r_most S) (v_most M) := by
  obtain ⟨f1, f2, f3⟩ := LI_fits h
  unfold r_most v_most
  rw [← f1]
  cases hf : (uFH M).1
  · rw [if_neg Bool.false_ne_true, if_neg Bool.false_ne_true]
    exact PV_no f2 refI6 _
  · rw [if_pos rfl, if_pos rfl]
    obtain ⟨-, a2, -, -, a5, -, -⟩ := hMo_eq f2 (f3 hf)
    exact ⟨a2, a5⟩
theorem pv_first (h : LI S M) : PV (r_first S) (v_first M) := by
  obtain ⟨f1, f2, f3⟩ := LI_fits h
  unfold r_first v_first
  rw [← f1]
  cases hf : (uFH M).1
  · rw [if_neg Bool.false_ne_true, if_neg Bool.false_ne_true]
    exact PV_no f2 refI6 _
  · rw [if_pos rfl, if_pos rfl]
    obtain ⟨-, -, -, a4, a5, -, -⟩ := hMo_eq f2 (f3 hf)
    exact ⟨a4, a5⟩
theorem pv_gap (h : LI S M) (r : Int32) : ((uFH M).1 = true → rnPre (uFM (uFH M).2).2) ∧ PV (r_gap S r) (v_gap M r) := by
  obtain ⟨f1, f2, f3⟩ := LI_fits h
  refine ⟨fun hf => ?_, ?_⟩
  · obtain ⟨-, -, -, -, a5, -, -⟩ := hMo_eq f2 (f3 hf)
    exact mPub_rn (LI_pub a5)
  unfold r_gap v_gap
  by_cases hr : 0 ≤ r ∧ r ≤ 5
  · rw [if_pos hr, if_pos ((rl_iff r).mp hr), ← f1]
    cases hf : (uFH M).1
    · rw [if_neg Bool.false_ne_true, if_neg Bool.false_ne_true]
      exact PV_no f2 refI6 _
    · rw [if_pos rfl, if_pos rfl]
      obtain ⟨-, a2, -, -, a5, -, -⟩ := hMo_eq f2 (f3 hf)
      rw [a2]
      generalize (hMo (hCopy S)).2 = S1 at a5 ⊢
      generalize (uFM (uFH M).2).2 = M1 at a5 ⊢
      have hp := mPub_rn (LI_pub a5)
      have hv : (hRun S1 r 0).1 = (uRun M1 r 0).1 := (R_run (RT_copy a5.1.1) hp a5.2.2.1 ((rl_iff r).mp hr) 0).1
      rw [hv]
      exact ⟨rfl, LI_mind (LI_pEq a5 (uRun_pEq hp r 0)) _⟩
  · rw [if_neg hr, if_neg (fun z => hr ((rl_iff r).mpr z))]
    exact PV_no h refI2 _
end SEARCH
end
