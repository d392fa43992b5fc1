noncomputable section
theorem mxU_le {f : Nat → Nat} {b : Nat} : ∀ k c x, x ≤ b → (∀ p, c ≤ p → p < c + k → f p ≤ b) → mxU f c k x ≤ b := by
  intro k
  induction k with
  | zero => exact fun _ _ h _ => h
  | succ k ih =>
    intro c x h h2
    show mxU f (c + 1) k (max x (f c)) ≤ b
    exact ih (c + 1) _ (Nat.max_le.mpr ⟨h, h2 c (Nat.le_refl _) (by omega)⟩) (fun p a b => h2 p (by omega) (by omega))
theorem rsF_le {G : Nat → Nat} : ∀ n d, (∀ j, d ≤ j → j < d + n → G j ≤ 165) → rsF G d n ≤ 165 * n := by
  intro n
  induction n with
  | zero => exact fun _ _ => Nat.le_refl _
  | succ n ih =>
    intro d h
    simp only [rsF]
    have := h d (Nat.le_refl _) (by omega)
    have := ih (d + 1) (fun j a b => h j (by omega) (by omega))
    omega
theorem CZ_g {Z : MS} {l : List Nat} (hC : CZ Z l) {j p : Nat} (hj : j < l.length) (hp : p < 7) : uGood Z p (l.getD j 0) = nI (gd0M Z l j p) ∧ gd0M Z l j p = gdN Z p (l.getD j 0) := by
  obtain ⟨⟨b1, b2, b3, b4, b5⟩, b6⟩ := hC.2.1
  have h12 := (nnB_c hC.2.2.2.2.2.2.1).2
  obtain ⟨g1, g2⟩ := gdN_e b1 b3 b4 hp (b6 j hj) (by have := b6 j hj; omega)
  have e : gd0M Z l j p = gdN Z p (l.getD j 0) := by unfold gd0M; omega
  exact ⟨by rw [e]; exact g1, e⟩
theorem CZ_G {Z : MS} {l : List Nat} (hC : CZ Z l) {j : Nat} (hj : j < l.length) : Gmx Z l j ≤ 165 ∧ ∀ p, p < uPeople Z → gd0M Z l j p ≤ Gmx Z l j := by
  obtain ⟨⟨b1, b2, b3, b4, b5⟩, b6⟩ := hC.2.1
  have h12 := (nnB_c hC.2.2.2.2.2.2.1).2
  have hp7 := (ppB_c hC.2.2.2.2.2.2.2.1).2
  refine ⟨?_, fun p hp => ?_⟩
  · unfold Gmx
    refine mxU_le _ _ _ (by omega) (fun p _ h2 => ?_)
    exact (gdN_e b1 b3 b4 (show p < 7 by omega) (b6 j hj) (by have := b6 j hj; omega)).2
  · rw [(CZ_g hC hj (by omega)).2]
    exact (mxU_mx (fun p => gdN Z p (l.getD j 0)) (uPeople Z) 0 0).2 p (Nat.zero_le _) (by omega)
theorem uFp_ch {N0 Y : MS} {d : Nat} (h : SMx d N0 Y) (v : Int32) {X : MS} (h42 : mS 42 X = mS 42 Y) (h15 : mS 15 X = mS 15 Y) (hp : mA 39 X = upd (mA 39 Y) d v) : uFp X = uFp (maA 39 N0 d v) := by
  unfold uFp
  have e1 : mS 42 (maA 39 N0 d v) = mS 42 N0 := rfl
  have e2 : mS 15 (maA 39 N0 d v) = mS 15 N0 := rfl
  have e3 : mA 39 (maA 39 N0 d v) = upd (mA 39 N0) d v := rfl
  rw [h42, h15, hp, e1, e2, e3, h.1 42 (by decide) (by decide), h.1 15 (by decide) (by decide)]
  by_cases e : d = 0
  · subst e
    rw [upd_eq, upd_eq]
  · rw [upd_ne (by omega), upd_ne (by omega), (h.2.2.2 0 (by omega)).1]
/-- what a try at d is worth -/
def fmW (Z : MS) (l : List Nat) (n d sv : Nat) (a : Nat → Nat → Bool) (c : Nat) : Nat := if c = uPeople Z then sv + Vl (gd0M Z l) (st0M Z l) n (d + 1) a else sv + gd0M Z l d c + Vl (gd0M Z l) (st0M Z l) n (d + 1) (stA a (st0M Z l) d c)
theorem fm_loop {Z : MS} {l : List Nat} (hC : CZ Z l) {n d : Nat} (hD : d + 1 + n = l.length) (hdp : DP Z l n (d + 1)) {N0 : MS} (hN : NB Z l d N0) {sv : Nat} {a : Nat → Nat → Bool} (hs : sv ≤ 165 * d) (ha : ∀ j q, d ≤ j → j < l.length → q < 7 → avM N0 l j q = a j q) :
    ∀ k c Y x, c + k = uPeople Z → SMx d N0 Y → mS 22 Y = mA 8 N0 (l.getD d 0) → mS 43 Y = x.2 → x.1 ≤ 3000 → ∃ m N2, fsR m (uF2 (nI x.1 + -1) (nI sv) d (l.getD d 0) Y (scn (uFo Y (l.getD d 0)) k c)) (nI (lpF (fmW Z l n d sv a) (fun c => uFp (maA 39 N0 d (nI c))) (a d) k c x).1 + -1, nI sv, d, N2) ∧ SMx d N0 N2 ∧ mS 43 N2 = (lpF (fmW Z l n d sv a) (fun c => uFp (maA 39 N0 d (nI c))) (a d) k c x).2 := by
  have h8 := hC.2.2.1.1
  have hl := hC.1
  obtain ⟨ep, hp7⟩ := ppB_c hC.2.2.2.2.2.2.2.1
  have hdl : d < l.length := by omega
  obtain ⟨-, hq2, h12⟩ := NB_q hC hN hdl
  have hq12 : l.getD d 0 < 12 := by omega
  have hPN := NB_pp hN
  have hva : ∀ b2 : Nat → Nat → Bool, (∀ j q, d + 1 ≤ j → j < l.length → q < 7 → b2 j q = true → a j q = true) → ∀ j q, d + 1 ≤ j → j < l.length → q < 7 → b2 j q = true → gd0M Z l j q ≤ Gmx Z l j := fun b2 hb2 j q h1 h2 h3 h4 => by
    have h5 := hb2 j q h1 h2 h3 h4
    rw [← ha j q (by omega) h2 h3] at h5
    unfold avM at h5
    rw [Bool.and_eq_true, hPN.2] at h5
    exact (CZ_G hC h2).2 q (of_decide_eq_true h5.1)
  have hrs : rsF (Gmx Z l) (d + 1) n ≤ 165 * n := rsF_le n (d + 1) (fun j h1 h2 => (CZ_G hC (show j < l.length by omega)).1)
  have hVle : ∀ b2, Vl (gd0M Z l) (st0M Z l) n (d + 1) b2 ≤ 165 * n := fun b2 => Vl_le (fun h p => Nat.min_le_left _ _) n (d + 1) b2
  intro k
  induction k with
  | zero =>
    intro c Y x hc hY hyr hf hx
    have hc : c = uPeople Z := hc
    subst hc
    have hNY := NB_SM hN hY
    have eU : uPeople Y = uPeople Z := (NB_pp hNY).2
    have e1 : scn (uFo Y (l.getD d 0)) 0 (uPeople Z) = uPeople Z := rfl
    rw [e1]
    have e2 : uF2 (nI x.1 + -1) (nI sv) d (l.getD d 0) Y (uPeople Z) = uF3 (nI x.1 + -1) (nI sv) d (maA 39 Y d (nI (uPeople Z))) := by
      unfold uF2
      rw [eU, if_neg (Nat.lt_irrefl _), if_pos rfl]
    rw [e2]
    have hX : SMx d N0 (maA 39 Y d (nI (uPeople Z))) := SM_t hY ⟨fun _ _ _ => rfl, fun i hi => by rw [mA_a, if_neg (by omega)], fun i hi k _ => by rw [mA_a, if_neg (by omega)], fun j hj => ⟨by rw [mA_a, if_pos rfl, upd_ne (by omega)], rfl⟩⟩
    have fX : uFp (maA 39 Y d (nI (uPeople Z))) = uFp (maA 39 N0 d (nI (uPeople Z))) := uFp_ch hY _ rfl rfl rfl
    have pX : mA 39 (maA 39 Y d (nI (uPeople Z))) d = nI (uPeople Z) := by rw [mA_a, if_pos rfl, upd_eq]
    have gX : mS 43 (maA 39 Y d (nI (uPeople Z))) = x.2 := hf
    generalize maA 39 Y d (nI (uPeople Z)) = X at hX fX pX gX ⊢
    obtain ⟨m1, N2, r1, r2, r3⟩ := fm_child hC hD hdp (NB_up (NB_SM hN hX)) (bn := x.1) (sv := sv) (a := a) hx (by omega) (fun j q h1 h2 h3 => (avM_tE (SM_tE hX) l j q).trans (ha j q (by omega) h2 h3)) (hva a (fun _ _ _ _ _ z => z)) hrs
    have ew : fmW Z l n d sv a (uPeople Z) = sv + Vl (gd0M Z l) (st0M Z l) n (d + 1) a := by unfold fmW; rw [if_pos rfl]
    rw [fX, gX] at r1 r3
    have ex : (x.1, x.2) = x := rfl
    rw [ex, ← ew] at r1 r3
    have el : lpF (fmW Z l n d sv a) (fun c => uFp (maA 39 N0 d (nI c))) (a d) 0 (uPeople Z) x = upP (fmW Z l n d sv a (uPeople Z)) (uFp (maA 39 N0 d (nI (uPeople Z)))) x := rfl
    rw [el]
    generalize upP (fmW Z l n d sv a (uPeople Z)) (uFp (maA 39 N0 d (nI (uPeople Z)))) x = y at r1 r3 ⊢
    have hX2 := SM_t hX (SM_le r2 (Nat.le_succ d))
    have hN2 := NB_SM hN hX2
    have pk : mA 39 N2 d = nI (uPeople Z) := (r2.2.2.2 d (by omega)).1.trans pX
    have hr := isReal_P pk ((NB_pp hN2).1.trans ep)
    have hok : fmOK d N2 := fmOK_n hC hN2 (by omega) (by omega) (fun _ => ⟨⟨uPeople Z + 1, by omega, by rw [pk]; exact m1_up _⟩, fun z => by rw [hr] at z; exact absurd z Bool.false_ne_true⟩)
    have et := fsR_turn (b := nI y.1 + -1) (s := nI sv) hok
    rw [uFs_e (NB_hm hC hN2) h8 hdl (NB_q hC hN2 hdl).1 hq12 (show mA 39 N2 d = nI (uPeople Z + 1) + -1 by rw [pk]; exact m1_up _) (by omega) (NB_pp hN2).2, show uPeople Z - (uPeople Z + 1) = 0 by omega] at et
    have e3 : scn (uFo (uFy N2 d) (l.getD d 0)) 0 (uPeople Z + 1) = uPeople Z + 1 := rfl
    have e4 : uFsum (nI sv) N2 d = nI sv := by unfold uFsum; rw [hr, if_neg Bool.false_ne_true]
    have e5 : uFy N2 d = msS 22 N2 (mA 8 N2 (uFq N2 d)) := by unfold uFy uF1; rw [hr, if_neg Bool.false_ne_true]
    have e6 : uPeople (uFy N2 d) = uPeople Z := (uF1_P N2 d).trans (NB_pp hN2).2
    have e7 : uF2 (nI y.1 + -1) (nI sv) d (l.getD d 0) (uFy N2 d) (uPeople Z + 1) = (nI y.1 + -1, nI sv, d, maA 39 (uFy N2 d) d (nI (uPeople Z + 1))) := by
      unfold uF2
      rw [e6, if_pos (Nat.lt_succ_self _)]
    rw [e3, e4, e7] at et
    refine ⟨m1 + 1, _, fsR_add m1 1 _ _ _ r1 et, ?_, ?_⟩
    · rw [e5]
      refine SM_t hX2 ⟨fun i h1 h2 => ?_, fun i hi => ?_, fun i hi k _ => ?_, fun j hj => ⟨?_, rfl⟩⟩
      · exact mS_ne h1
      · rw [mA_a, if_neg (by omega)]; rfl
      · rw [mA_a, if_neg (by omega)]; rfl
      · rw [mA_a, if_pos rfl, upd_ne (by omega)]; rfl
    · rw [e5]
      exact r3
  | succ k ih =>
    intro c Y x hc hY hyr hf hx
    have hNY := NB_SM hN hY
    have eU : uPeople Y = uPeople Z := (NB_pp hNY).2
    have hcP : c < uPeople Z := by omega
    have eok : uFo Y (l.getD d 0) c = a d c := by
      rw [← ha d c (Nat.le_refl _) hdl (by omega)]
      unfold avM uFo
      have h1 := uMayW_mEq (tE_mEq (SM_tE hY) (mA 8 N0 (l.getD d 0))) (nI c) (nI (l.getD d 0))
      rw [← hyr, msS_e] at h1
      rw [hPN.2, decide_eq_true hcP, Bool.true_and, ← hyr, h1]
    rw [scn_s, eok, lpF_s]
    by_cases hac : a d c = true
    · rw [if_pos hac, if_pos hac]
      have eg : uGood (maA 39 Y d (nI c)) c (l.getD d 0) = nI (gd0M Z l d c) := by
        rw [← (CZ_g hC hdl (show c < 7 by omega)).1]
        exact uGood_S (fun i hi => hNY.2.1 i (by omega)) _ _
      have hg165 : gd0M Z l d c ≤ 165 := Nat.min_le_left _ _
      have e2 : uF2 (nI x.1 + -1) (nI sv) d (l.getD d 0) Y c = uF3 (nI x.1 + -1) (nI (sv + gd0M Z l d c)) d (chN Y d (l.getD d 0) c) := by
        unfold uF2
        rw [eU, if_neg (by omega), if_neg (by omega), eg, nI_add]
        rfl
      rw [e2]
      have hch := chN_hMv hY rfl hyr hN.2.2.2.2 (by omega) c
      have hNc : NB Z l (d + 1) (chN Y d (l.getD d 0) c) := NB_SM (NB_hMv hl hC.2.1.1.2.1 h12 hdl h8 hN c) hch
      have fX : uFp (chN Y d (l.getD d 0) c) = uFp (maA 39 N0 d (nI c)) := uFp_ch hY _ (chN_S _ _ _ _ (by decide)) (chN_S _ _ _ _ (by decide)) (chN_39 _ _ _ _)
      have gX : mS 43 (chN Y d (l.getD d 0) c) = x.2 := (chN_S _ _ _ _ (by decide)).trans hf
      obtain ⟨m1, N2, r1, r2, r3⟩ := fm_child hC hD hdp hNc (bn := x.1) (sv := sv + gd0M Z l d c) (a := stA a (st0M Z l) d c) hx (by omega) (fun j q h1 h2 h3 => by
        rw [avM_tE (SM_tE hch) l j q, av_union hl hC.2.1.1.2.1 h12 (hpB_le hC.2.2.2.2.1 (show 60 ≤ 60 + d by omega)) hN.2.2.2.2 (by omega) hN.2.2.1 hN.2.2.2.1 h2 (by omega), ha j q (by omega) h2 h3]
        rfl) (hva _ (fun j q _ _ _ z => by unfold stA at z; rw [Bool.and_eq_true] at z; exact z.1)) hrs
      rw [fX, gX] at r1 r3
      have ex : (x.1, x.2) = x := rfl
      have ew : fmW Z l n d sv a c = sv + gd0M Z l d c + Vl (gd0M Z l) (st0M Z l) n (d + 1) (stA a (st0M Z l) d c) := by unfold fmW; rw [if_neg (by omega)]
      rw [ex, ← ew] at r1 r3
      have hy3 : (upP (fmW Z l n d sv a c) (uFp (maA 39 N0 d (nI c))) x).1 ≤ 3000 := by
        have h1 := hVle (stA a (st0M Z l) d c)
        unfold upP
        split
        · show fmW Z l n d sv a c + 1 ≤ 3000
          omega
        · exact hx
      generalize upP (fmW Z l n d sv a c) (uFp (maA 39 N0 d (nI c))) x = y at r1 r3 hy3 ⊢
      obtain ⟨b1, b2, b3, b4⟩ := chN_back hY hq12 hN.2.2.2.2 (by omega) r2
      have hN2 := NB_SM hNc r2
      have hr := isReal_c b1 ((NB_pp hN2).1.trans ep) hp7 hcP
      have hok : fmOK d N2 := fmOK_n hC hN2 (by omega) (by omega) (fun _ => ⟨⟨c + 1, by omega, by rw [b1]; exact m1_up _⟩, fun _ => ⟨b3, hpB_le (hpB_of hN.2.2.2.2 (b4.1 17 (by decide) (by decide))) (by omega)⟩⟩)
      have et := fsR_turn (b := nI y.1 + -1) (s := nI (sv + gd0M Z l d c)) hok
      rw [uFs_e (NB_hm hC hN2) h8 hdl (NB_q hC hN2 hdl).1 hq12 (show mA 39 N2 d = nI (c + 1) + -1 by rw [b1]; exact m1_up _) (by omega) (NB_pp hN2).2, show uPeople Z - (c + 1) = k by omega] at et
      have e4 : uFsum (nI (sv + gd0M Z l d c)) N2 d = nI sv := by
        unfold uFsum
        rw [hr, if_pos rfl, b2, eg, nI_sub (by omega)]
        exact congrArg nI (by omega)
      have eq2 : uFq N2 d = l.getD d 0 := by unfold uFq; rw [(NB_q hC hN2 hdl).1, nI_clamp (by omega)]
      have e5 : uFy N2 d = msS 22 (uBack N2) (mA 8 N2 (l.getD d 0)) := by unfold uFy uF1; rw [hr, if_pos rfl, eq2]
      rw [e4] at et
      have hY2 : SMx d N0 (uFy N2 d) := by
        rw [e5]
        exact SM_t b4 ⟨fun i h1 h2 => mS_ne h1, fun _ _ => rfl, fun _ _ _ _ => rfl, fun _ _ => ⟨rfl, rfl⟩⟩
      have hyr2 : mS 22 (uFy N2 d) = mA 8 N0 (l.getD d 0) := by
        rw [e5, mS_S, if_pos rfl, hN2.2.1 8 (by omega), hN.2.1 8 (by omega)]
      have hf2 : mS 43 (uFy N2 d) = y.2 := by
        rw [e5, mS_ne (by decide), uBack_S, if_neg (by decide)]
        exact r3
      obtain ⟨m2, N3, s1, s2, s3⟩ := ih (c + 1) (uFy N2 d) y (by omega) hY2 hyr2 hf2 hy3
      exact ⟨m1 + (1 + m2), N3, fsR_add _ _ _ _ _ r1 (fsR_add _ _ _ _ _ et s1), s2, s3⟩
    · rw [if_neg hac, if_neg hac]
      exact ih (c + 1) Y x (by omega) hY hyr hf hx
end
