noncomputable section
theorem stP_lt {L : LtS} : ∀ n c, stP L c < stP L (c + n + 1) := by
  intro n
  induction n with
  | zero =>
    intro c
    have : stP L (c + 0 + 1) = stP L c + (1 + lenS.getD (lRi L (nI (stP L c))) 0) := rfl
    omega
  | succ n ih =>
    intro c
    have h1 := ih c
    have : stP L (c + (n + 1) + 1) = stP L (c + n + 1) + (1 + lenS.getD (lRi L (nI (stP L (c + n + 1)))) 0) := rfl
    omega
theorem neg2000 {p : Nat} (hp : p ≤ 64) : (-2000 : Int32) - nI p < 0 := by
  have e : (-2000 : Int32) - nI p = nI 0 - nI (2000 + p) := by
    rw [← nI_add 2000 p]
    show (-2000 : Int32) - nI p = 0 - (2000 + nI p)
    grind
  rw [e, Int32.lt_iff_toInt_lt, nI_subi (by decide) (by omega)]
  show ((0 : Nat) : Int) - ((2000 + p : Nat) : Int) < 0
  omega
theorem neg1000 {p : Nat} (hp : p ≤ 64) : (-1000 : Int32) - nI p < 0 := by
  have e : (-1000 : Int32) - nI p = nI 0 - nI (1000 + p) := by
    rw [← nI_add 1000 p]
    show (-1000 : Int32) - nI p = 0 - (1000 + nI p)
    grind
  rw [e, Int32.lt_iff_toInt_lt, nI_subi (by decide) (by omega)]
  show ((0 : Nat) : Int) - ((1000 + p : Nat) : Int) < 0
  omega
theorem CF_t {A B C : MS} (h : CF2 A B) (k : CF2 B C) : CF2 A C := ⟨fun i hi => (k.1 i hi).trans (h.1 i hi), fun i hi => (k.2 i hi).trans (h.2 i hi)⟩
theorem CF_r (A : MS) : CF2 A A := ⟨fun _ _ => rfl, fun _ _ => rfl⟩
theorem FK_CF {L : LtS} {A B : MS} {K : Nat} (h : FK L A K) (k : CF2 A B) : FK L B K := by
  intro j hj
  rw [k.2 24 (by omega), k.2 25 (by omega), k.2 26 (by omega)]
  exact h j hj
/-- both tell all that was fed -/
theorem te_loop {L : LtS} {t K : Nat} (hK : stP L K = t) (ht : t ≤ 64) (hK64 : K ≤ 64) : ∀ (n m c : Nat) (T : TS) (M : MS), TW T M → nwB M → FK L M K → mS 29 M = nI K → c + n = K → n < m →
    (((twC c n M).1 = nI K ∧ (lTe L t m (stP L c) c T).1 = nI K ∧ TW (lTe L t m (stP L c) c T).2 (twC c n M).2 ∧ nwB (twC c n M).2 ∧ CF2 M (twC c n M).2) ∨ ((twC c n M).1 = (lTe L t m (stP L c) c T).1 ∧ (lTe L t m (stP L c) c T).1 < 0 ∧ ∃ N, (twC c n M).2 = uPA N 1 0 ∧ nwB N ∧ haB N ∧ CF2 M N)) := by
  intro n
  induction n with
  | zero =>
    intro m c T M h hw hF hs hc hm
    obtain ⟨m, rfl⟩ : ∃ m', m = m' + 1 := ⟨m - 1, by omega⟩
    have ec : c = K := by omega
    subst ec
    rw [lTe_s, if_neg (by omega)]
    exact Or.inl ⟨hs, rfl, h, hw, CF_r M⟩
  | succ n ih =>
    intro m c T M h hw hF hs hc hm
    obtain ⟨m, rfl⟩ : ∃ m', m = m' + 1 := ⟨m - 1, by omega⟩
    have hlt : stP L c < t := by
      have := stP_lt (L := L) n c
      rw [show c + n + 1 = K by omega, hK] at this
      exact this
    obtain ⟨f1, f2, f3, f4⟩ := hF c (by omega)
    obtain ⟨a1, a2, a3, a4⟩ := TW_st h hw f1 f2 f4
    rw [lTe_s, if_pos hlt, twC_s]
    cases hu : (uCm M c).1
    · rw [hu] at a1
      obtain ⟨b1, b2⟩ := a2 hu
      rw [if_neg Bool.false_ne_true, ← a1, if_neg Bool.false_ne_true, b1]
      refine Or.inr ⟨?_, neg2000 (by omega), M, rfl, hw, h.1.1.2.2, CF_r M⟩
      obtain ⟨-, q2, -, -⟩ := uPA_back (show 1 ≤ 1 by omega) M
      rw [show (nI 1 : Int32) = 1 from rfl] at q2
      have e25 : mA 25 (uPA M 1 0) c = nI (stP L c) := by rw [q2 25 (by omega)]; exact f3
      dsimp only
      rw [e25]
    · rw [hu] at a1
      obtain ⟨b1, b2⟩ := a3 hu
      rw [if_pos rfl, ← a1, if_pos rfl]
      have eS : stP L c + (1 + lenS.getD (lRi L (nI (stP L c))) 0) = stP L (c + 1) := rfl
      rw [eS]
      have hs2 : mS 29 (uCm M c).2 = nI K := (a4.1 29 (by omega)).trans hs
      rcases ih m (c + 1) _ _ b1 b2 (FK_CF hF a4) hs2 (by omega) (by omega) with q | q
      · exact Or.inl ⟨q.1, q.2.1, q.2.2.1, q.2.2.2.1, CF_t a4 q.2.2.2.2⟩
      · obtain ⟨q1, q2, N, q3, q4, q5, q6⟩ := q
        exact Or.inr ⟨q1, q2, N, q3, q4, q5, CF_t a4 q6⟩
theorem CF_pEq {M Z : MS} (hw : nwB M) (hh : haB M) (hwZ : nwB Z) (hhZ : haB Z) (h : CF2 (uPA M 1 1) Z) : pEq M (uPA Z 1 0) := by
  obtain ⟨k0, k00, k1, k2⟩ := uPA_keep (show 1 ≤ 1 by omega) M
  rw [show (nI 1 : Int32) = 1 from rfl] at k0 k00 k1 k2
  have ek : mA 30 Z = mA 30 (uPA M 1 1) := h.2 30 (by omega)
  exact back_pEq (by rw [ek]; exact k1) (fun j hj => by rw [ek, k2 j (Or.inl (by omega))]) (fun i hi => by rw [h.1 i (by omega), k0 i (by omega) (by omega)]) (fun i hi => by rw [h.2 i (by omega), k00 i (by omega)]) hwZ hhZ hw hh
theorem LI_tp {S : HS} {M X : MS} (h : LI S M) (hS : ∀ i, ¬ i = 28 → ¬ i = 29 → mS i X = mS i M) (hA : ∀ i, ¬ i = 24 → ¬ i = 25 → ¬ i = 26 → mA i X = mA i M) : LI (hsL S (lsLn (hL S) 0)) (msS 27 X 0) := by
  obtain ⟨h1, h2, h3, h4, h5, h6⟩ := h
  refine ⟨TW_same h1 (fun i hi => (mS_ne (by omega)).trans (hS i (by omega) (by omega))) (fun i hi => hA i (by omega) (by omega) (by omega)), nwB_of h2 (hA 4 (by decide) (by decide) (by decide)) (hA 5 (by decide) (by decide) (by decide)), RR_of h3 ((mS_ne (by decide)).trans (hS 35 (by decide) (by decide))) (hA 34 (by decide) (by decide) (by decide)), ⟨0, by omega, rfl, by rw [mS_S, if_pos rfl]; rfl, fun j hj => absurd hj (Nat.not_lt_zero j)⟩, fun k hk => ?_, ImB_k h6 ((mS_ne (by decide)).trans (hS 31 (by decide) (by decide))) (fun j _ => ?_)⟩
  · rw [mA_S, hA 0 (by decide) (by decide) (by decide)]
    exact h5 k hk
  · rw [mA_S, hA 30 (by decide) (by decide) (by decide)]
theorem pv_town {S : HS} {M : MS} (h : LI S M) : PV (r_town S) (v_town M) := by
  obtain ⟨t, t1, t2, t3, t4⟩ := h.2.2.2.1
  have hA0 : AtL (hL S) (msS 29 (msS 28 M 0) 0) (stP (hL S) 0) t := ⟨by rw [mS_ne (by decide), mS_S, if_pos rfl]; rfl, by rw [mS_ne (by decide), mS_ne (by decide)]; exact t3, Nat.zero_le _, t1, t2, t4⟩
  obtain ⟨f1, f2, ⟨q, q1, q2⟩, f3⟩ := fl_loop 64 66 0 _ hA0 (by rw [mS_S, if_pos rfl]; rfl) (fun j hj => absurd hj (Nat.not_lt_zero j)) (Nat.le_refl _) (by omega) (by omega) (Or.inr rfl)
  have e0 : stP (hL S) 0 = 0 := rfl
  rw [e0] at f3
  have eU : uTw M = twL 66 (true, msS 29 (msS 28 M 0) 0) := rfl
  unfold v_town
  rw [eU]
  generalize twL 66 (true, msS 29 (msS 28 M 0) 0) = r at f1 f2 q2 f3 ⊢
  have g1 : ∀ i, ¬ i = 28 → ¬ i = 29 → mS i r.2 = mS i M := fun i a b => (f1 i a b).trans ((mS_ne b).trans (mS_ne a))
  have g2 : ∀ i, ¬ i = 24 → ¬ i = 25 → ¬ i = 26 → mA i r.2 = mA i M := fun i a b c => f2 i a b c
  have hY := LI_tp h g1 g2
  unfold r_town uT2
  rcases f3 with ⟨b1, b2, K, b3, b4, b5, b6⟩ | ⟨b1, b2⟩
  · rw [if_pos b2, if_pos b1]
    have eK : uSts r.2 = K := by unfold uSts; rw [b3, nI_clamp (by omega)]
    have hpY := LI_pub hY
    obtain ⟨p1, p2, p3, p4⟩ := uPA_keep (show 1 ≤ 1 by omega) (msS 27 r.2 0)
    rw [show (nI 1 : Int32) = 1 from rfl] at p1 p2 p3 p4
    have hB : ∀ N, nwB N → haB N → CF2 (uPA (msS 27 r.2 0) 1 1) N → pEq (msS 27 r.2 0) (uPA N 1 0) := fun N a b c => CF_pEq hY.2.1 hpY.2.1 a b c
    have hF : FK (hL S) (msS 27 r.2 0) K := b4
    have hst : mS 29 (msS 27 r.2 0) = nI K := (mS_ne (by decide)).trans b3
    rw [eK]
    generalize msS 27 r.2 0 = Y at hY hpY p1 p2 p3 p4 hB hF hst ⊢
    generalize uPA Y 1 1 = M1 at p1 p2 p3 p4 hB ⊢
    have hM1 : LI (hsL S (lsLn (hL S) 0)) M1 := LI_same hY (fun i hi => p1 i (by omega) (by omega)) (fun i hi => p2 i (by omega)) (fun j hj => p4 j (Or.inl (by omega)))
    have hTW : TW (tCopy (hMind S) (hNow S)) M1 := TW_copy hM1.1
    have hF1 : FK (hL S) M1 K := by
      intro j hj
      rw [p2 24 (by decide), p2 25 (by decide), p2 26 (by decide)]
      exact hF j hj
    have hlt : lTell (hL S) (tCopy (hMind S) (hNow S)) = lTe (hL S) t 65 (stP (hL S) 0) 0 (tCopy (hMind S) (hNow S)) := by
      unfold lTell
      rw [t2, nI_clamp (by omega)]
      rfl
    rw [hlt]
    have hl := te_loop b5 t1 b6 K 65 0 _ M1 hTW hM1.2.1 hF1 ((p1 29 (by decide) (by decide)).trans hst) (Nat.zero_add _) (by omega)
    generalize lTe (hL S) t 65 (stP (hL S) 0) 0 (tCopy (hMind S) (hNow S)) = A at hl ⊢
    generalize twC 0 K M1 = B at hl ⊢
    rcases hl with ⟨c1, c2, c3, c4, c5⟩ | ⟨c1, c2, N, c3, c4, c5, c6⟩
    · rw [if_neg (by rw [c2]; exact nI_nlt0 (by omega))]
      exact ⟨c2.trans c1.symm, LI_now hM1 (TW_copy c3) c4 (fun i hi => c5.1 i (by omega)) (fun i hi => c5.2 i (by omega))⟩
    · rw [if_pos c2]
      refine ⟨c1.symm, ?_⟩
      rw [c3]
      exact LI_mind (LI_pEq hY (hB N c4 c5 c6)) _
  · have hlt : lFl (hL S) 64 0 < 0 := by rw [b2, q2]; exact neg1000 (by omega)
    have hne : ¬ lFl (hL S) 64 0 = 0 := fun z => by rw [z] at hlt; exact absurd hlt (by decide)
    rw [if_neg hne, if_pos hlt, if_neg (by rw [b1]; exact Bool.false_ne_true)]
    exact ⟨b2, hY⟩
end
