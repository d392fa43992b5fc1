noncomputable section
theorem a_P {Z : MS} {l : List Nat} {e d : Nat} {N : MS} (hN : NB Z l e N) {a : Nat → Nat → Bool} (ha : ∀ j q, d ≤ j → j < l.length → q < 7 → avM N l j q = a j q) (hd : d < l.length) : ∀ p, uPeople Z ≤ p → p < 7 → a d p = false := fun p h1 h2 => by
  rw [← ha d p (Nat.le_refl _) hd h2]
  unfold avM
  rw [(NB_pp hN).2, decide_eq_false (by omega), Bool.false_and]
/-- the turn that begins a hand -/
theorem fm_begin {Z : MS} {l : List Nat} (hC : CZ Z l) {e d : Nat} {N : MS} (hN : NB Z l e N) (he : e ≤ 9) (hd : d < l.length) (hp : mA 39 N d = -1) (b s : Int32) : fsR 1 (b, s, d + 1, N) (uF2 b s d (l.getD d 0) (msS 22 N (mA 8 N (l.getD d 0))) (scn (uFo (msS 22 N (mA 8 N (l.getD d 0))) (l.getD d 0)) (uPeople Z) 0)) := by
  have h8 := hC.2.2.1.1
  obtain ⟨hq, hq2, h12⟩ := NB_q hC hN hd
  have hr := isReal_0 hp
  have hok : fmOK d N := fmOK_n hC hN he (by omega) (fun _ => ⟨⟨0, by omega, by rw [hp]; decide⟩, fun z => by rw [hr] at z; exact absurd z Bool.false_ne_true⟩)
  have et := fsR_turn (b := b) (s := s) hok
  have e2 : uFq N d = l.getD d 0 := by unfold uFq; rw [hq, nI_clamp (by omega)]
  have e4 : uFsum s N d = s := by unfold uFsum; rw [hr, if_neg Bool.false_ne_true]
  have e5 : uFy N d = msS 22 N (mA 8 N (l.getD d 0)) := by unfold uFy uF1; rw [hr, if_neg Bool.false_ne_true, e2]
  rw [uFs_e (NB_hm hC hN) h8 hd hq (by omega) (show mA 39 N d = nI 0 + -1 by rw [hp]; decide) (by omega) (NB_pp hN).2, e4, e5, Nat.sub_zero] at et
  exact et
theorem DP_s {Z : MS} {l : List Nat} (hC : CZ Z l) : ∀ n d, 1 ≤ d → d + n = l.length → DP Z l n d := by
  intro n
  induction n with
  | zero =>
    intro d _ h
    have h : d = l.length := h
    subst h
    exact DP_0 hC
  | succ n ih =>
    intro d h1 h2 N bn sv a hN hp hb hs ha
    have hdl : d < l.length := by omega
    have hp7 := (ppB_c hC.2.2.2.2.2.2.2.1).2
    have et := fm_begin hC hN (by have := hC.2.2.1.1; omega) hdl (hp hdl) (nI bn + -1) (nI sv)
    obtain ⟨m, N2, r1, r2, r3⟩ := fm_loop hC (show d + 1 + n = l.length by omega) (ih (d + 1) (by omega) (by omega)) hN hs ha (uPeople Z) 0 (msS 22 N (mA 8 N (l.getD d 0))) (bn, mS 43 N) (Nat.zero_add _) ⟨fun i h1 h2 => mS_ne h1, fun _ _ => rfl, fun _ _ _ _ => rfl, fun _ _ => ⟨rfl, rfl⟩⟩ (by rw [mS_S, if_pos rfl]) (by rw [mS_ne (by decide)]) hb
    have hF : ∀ c, (fun c => uFp (maA 39 N d (nI c))) c = uFp N := fun c => by
      unfold uFp
      have e3 : mA 39 (maA 39 N d (nI c)) 0 = mA 39 N 0 := by rw [mA_a, if_pos rfl, upd_ne (by omega)]
      dsimp only
      rw [e3]
      rfl
    have eV := lpF_Vl (gd := gd0M Z l) (st := st0M Z l) (a := a) (n := n) (d := d) (P := uPeople Z) (sv := sv) hF hp7 (a_P hN ha hdl) (bn, mS 43 N)
    have eW : lpF (fmW Z l n d sv a) (fun c => uFp (maA 39 N d (nI c))) (a d) (uPeople Z) 0 (bn, mS 43 N) = upP (sv + Vl (gd0M Z l) (st0M Z l) (n + 1) d a) (uFp N) (bn, mS 43 N) := eV
    rw [eW] at r1 r3
    exact ⟨1 + m, N2, fsR_add _ _ _ _ _ et r1, r2, r3⟩
theorem fsR_uniq : ∀ (n m : Nat) (x z w : FC), fsR n x z → fsR m x w → z.2.2.1 = 0 → w.2.2.1 = 0 → z = w := by
  intro n
  induction n with
  | zero =>
    intro m x z w h1 h2 h3 h4
    have h1 : x = z := h1
    subst h1
    rcases m with _ | m
    · exact h2
    · obtain ⟨b, s, d, M, e, -, -⟩ := h2
      rw [e] at h3
      exact absurd h3 (Nat.succ_ne_zero d)
  | succ n ih =>
    intro m x z w h1 h2 h3 h4
    obtain ⟨b, s, d, M, e, ho, hr⟩ := h1
    rcases m with _ | m
    · have h2 : x = w := h2
      subst h2
      rw [e] at h4
      exact absurd h4 (Nat.succ_ne_zero d)
    · obtain ⟨b2, s2, d2, M2, e2, ho2, hr2⟩ := h2
      rw [e] at e2
      injection e2 with a1 a2
      injection a2 with a2 a3
      injection a3 with a3 a4
      have a3 : d = d2 := Nat.succ.inj a3
      subst a1; subst a2; subst a3; subst a4
      exact ih m _ z w hr hr2 h3 h4
/-- the model's search finds what the class's finds -/
theorem uFM_V {Z : MS} {l : List Nat} (hC : CZ Z l) : fmPre Z ∧ (uFM Z).1 = nI (mBest Z l).1 + -1 ∧ mS 43 (uFM Z).2 = (mBest Z l).2 ∧ SMx 0 Z (uFM Z).2 ∧ mS 22 (uFM Z).2 = mS 22 Z := by
  have h8 := hC.2.2.1.1
  have hm := hC.2.2.2.2
  obtain ⟨ep, hp7⟩ := ppB_c hm.2.2.2.1
  have hNZ : NB Z l 0 Z := ⟨fun _ _ _ _ => rfl, fun _ _ => rfl, bkX_r Z, hadB_0 hC.2.1.1.2.1 l, hpB_le hm.1 (by omega)⟩
  have key : ∃ n z, fsR n (uFst Z) z ∧ z.2.2.1 = 0 ∧ z.1 = nI (mBest Z l).1 + -1 ∧ mS 43 z.2.2.2 = (mBest Z l).2 ∧ SMx 0 Z z.2.2.2 := by
    by_cases h0 : l.length = 0
    · have hS : SMx 0 Z (msS 43 Z (-9)) := ⟨fun i h1 h2 => mS_ne h2, fun _ _ => rfl, fun _ _ _ _ => rfl, fun _ _ => ⟨rfl, rfl⟩⟩
      have hN := NB_SM hNZ hS
      have e1 : uFst Z = (nI 0 + -1, nI 0, l.length + 1, msS 43 Z (-9)) := by
        unfold uFst
        rw [NB_hm hC hNZ, h0, if_pos (by decide)]
        rfl
      obtain ⟨m, N2, r1, r2, r3⟩ := DP_0 hC (msS 43 Z (-9)) 0 0 (fun _ _ => false) (by rw [h0]; exact hN) (fun z => absurd z (by omega)) (by omega) (by omega) (fun j q _ h2 _ => absurd h2 (by omega))
      have eM : mBest Z l = (1, -9) := by
        have hnil : ∀ p, 0 ≤ p → p < 0 + 7 → a0M Z l 0 p = false := fun p _ _ => by
          unfold a0M
          rw [decide_eq_false (by omega), Bool.false_and]
        unfold mBest
        rw [gB_cut 7 0 _ hnil, h0]
        rfl
      have eU : uFp (msS 43 Z (-9)) = -9 := by
        unfold uFp
        rw [mS_ne (show ¬ 42 = 43 by decide), NB_hm hC hNZ, h0, if_pos (by decide)]
      have eV : upP (0 + Vl (gd0M Z l) (st0M Z l) 0 l.length (fun _ _ => false)) (uFp (msS 43 Z (-9))) (0, mS 43 (msS 43 Z (-9))) = (1, -9) := by
        rw [eU]
        rfl
      rw [eV] at r1 r3
      refine ⟨m, _, by rw [e1]; exact r1, h0, by rw [eM], by rw [eM]; exact r3, SM_t hS (SM_le r2 (Nat.zero_le _))⟩
    · have hS : SMx 0 Z (maA 39 (msS 43 Z (-9)) 0 (-1)) := ⟨fun i h1 h2 => mS_ne h2, fun i hi => by rw [mA_a, if_neg (by omega)]; rfl, fun i hi k _ => by rw [mA_a, if_neg (by omega)]; rfl, fun j hj => absurd hj (Nat.not_lt_zero j)⟩
      have hN := NB_SM hNZ hS
      have e1 : uFst Z = (nI 0 + -1, nI 0, 0 + 1, maA 39 (msS 43 Z (-9)) 0 (-1)) := by
        unfold uFst
        rw [NB_hm hC hNZ, if_neg]
        · rfl
        · intro z
          have z : nI l.length ≤ nI 0 := z
          rw [nI_leJ (by omega) (by decide)] at z
          omega
      rw [e1]
      have hpk : mA 39 (maA 39 (msS 43 Z (-9)) 0 (-1)) 0 = -1 := by rw [mA_a, if_pos rfl, upd_eq]
      have hfp : mS 43 (maA 39 (msS 43 Z (-9)) 0 (-1)) = -9 := by rw [mS_a, mS_S, if_pos rfl]
      generalize maA 39 (msS 43 Z (-9)) 0 (-1) = N at hS hN hpk hfp ⊢
      have hdl : 0 < l.length := by omega
      have et := fm_begin hC hN (by omega) hdl hpk (nI 0 + -1) (nI 0)
      have ha : ∀ j q, 0 ≤ j → j < l.length → q < 7 → avM N l j q = a0M Z l j q := fun j q _ h2 _ => by
        rw [avM_tE (SM_tE hS)]
        unfold a0M
        rw [decide_eq_true h2, Bool.true_and]
      obtain ⟨n, hn⟩ : ∃ n, l.length = n + 1 := ⟨l.length - 1, by omega⟩
      obtain ⟨m, N2, r1, r2, r3⟩ := fm_loop hC (show 0 + 1 + n = l.length by omega) (DP_s hC n 1 (by omega) (by omega)) hN (sv := 0) (Nat.zero_le _) ha (uPeople Z) 0 (msS 22 N (mA 8 N (l.getD 0 0))) (0, -9) (Nat.zero_add _) ⟨fun i h1 h2 => mS_ne h1, fun _ _ => rfl, fun _ _ _ _ => rfl, fun _ _ => ⟨rfl, rfl⟩⟩ (by rw [mS_S, if_pos rfl]) (by rw [mS_ne (by decide)]; exact hfp) (by show 0 ≤ 3000; omega)
      have eF : ∀ c, uFp (maA 39 N 0 (nI c)) = if mS 15 Z ≤ nI c then -9 else nI c := fun c => by
        unfold uFp
        have e1 : mS 42 (maA 39 N 0 (nI c)) = nI l.length := (show mS 42 (maA 39 N 0 (nI c)) = mS 42 N from rfl).trans (NB_hm hC hN)
        have e2 : mS 15 (maA 39 N 0 (nI c)) = mS 15 Z := (show mS 15 (maA 39 N 0 (nI c)) = mS 15 N from rfl).trans (NB_pp hN).1
        have e3 : mA 39 (maA 39 N 0 (nI c)) 0 = nI c := by rw [mA_a, if_pos rfl, upd_eq]
        rw [e1, e2, e3, if_neg]
        intro z
        have z : nI l.length ≤ nI 0 := z
        rw [nI_leJ (by omega) (by decide)] at z
        omega
      have eG := lpF_gB (W := fmW Z l n 0 0 (a0M Z l)) (W2 := Wv (gd0M Z l) (st0M Z l) l.length 0 (a0M Z l)) (F := fun c => uFp (maA 39 N 0 (nI c))) (av := a0M Z l 0) (V := Vl (gd0M Z l) (st0M Z l) (l.length - 1) 1 (a0M Z l)) (uPeople Z) 0 (7 - uPeople Z) (0, -9) (fun p h1 h2 h3 => by
        constructor
        · unfold fmW Wv
          rw [if_neg (show ¬ p = uPeople Z by omega), if_pos h3, Nat.zero_add, hn]
          rfl
        · rw [eF, ep, if_neg]
          intro z
          rw [nI_leJ (by omega) (by omega)] at z
          omega) (by
        unfold fmW
        rw [if_pos (Nat.zero_add _), Nat.zero_add, hn]
        rfl) (by
        rw [eF, ep, Nat.zero_add, if_pos (Int32.le_refl _)]) (fun p h1 h2 => by
        unfold a0M avM
        rw [decide_eq_false (show ¬ p < uPeople Z by omega), Bool.false_and, Bool.and_false])
      rw [show uPeople Z + (7 - uPeople Z) = 7 by omega] at eG
      rw [eG] at r1 r3
      exact ⟨1 + m, _, fsR_add _ _ _ _ _ et r1, rfl, rfl, r3, SM_t hS r2⟩
  obtain ⟨n, z, z1, z2, z3, z4, z5⟩ := key
  have hends : ∃ z, fmEnds Z z := ⟨z, z2, n, z1⟩
  obtain ⟨w1, m, w2⟩ := uFMz_e hends
  have ez : uFMz Z = z := fsR_uniq m n _ _ _ w2 z1 w1 z2
  refine ⟨⟨⟨l.length, h8, hC.2.2.1.2.1⟩, hends⟩, ?_⟩
  unfold uFM
  rw [ez]
  dsimp only
  refine ⟨z3, by rw [mS_ne (by decide)]; exact z4, SM_t z5 ⟨fun i h1 h2 => mS_ne h1, fun _ _ => rfl, fun _ _ _ _ => rfl, fun _ _ => ⟨rfl, rfl⟩⟩, by rw [mS_S, if_pos rfl]⟩
end
