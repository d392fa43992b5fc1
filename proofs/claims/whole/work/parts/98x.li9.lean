noncomputable section
theorem anB_t {r : Bool × MS} {f : MS → Bool × MS} (h : (anB r f).1 = true) : r.1 = true ∧ (f r.2).1 = true ∧ anB r f = f r.2 := by
  unfold anB at h ⊢
  by_cases hc : r.1 = true
  · rw [if_pos hc] at h ⊢
    exact ⟨hc, h, rfl⟩
  · rw [if_neg hc] at h
    exact absurd h Bool.false_ne_true
/-- what is told by the statement j that begins at p -/
def VT (L : LtS) (p j : Nat) (T : Nat → Int32) : Prop := (lLet L (nI p) = 112 → T (6 * j) = lDg L (nI (p + 1)) ∧ T (6 * j + 1) = pnM L (nI p) ∧ ∀ h, h < 4 → T (6 * j + 2 + h) = lDg L (pnS L (nI p) + nI h)) ∧ (lLet L (nI p) = 110 → ∀ i, i < 5 → T (6 * j + i) = lDg L (nI (p + 1 + i))) ∧ (lLet L (nI p) = 108 → ∀ i, i < 3 → T (6 * j + i) = lDg L (nI (p + 1 + i)))
theorem VT_k {L : LtS} {p j : Nat} {T T2 : Nat → Int32} (h : VT L p j T) (e : ∀ i, i < 6 * j + 6 → T2 i = T i) : VT L p j T2 := by
  refine ⟨fun z => ?_, fun z i hi => ?_, fun z i hi => ?_⟩
  · obtain ⟨a, b, c⟩ := h.1 z
    exact ⟨by rw [e _ (by omega)]; exact a, by rw [e _ (by omega)]; exact b, fun hh h4 => by rw [e _ (by omega)]; exact c hh h4⟩
  · rw [e _ (by omega)]; exact h.2.1 z i hi
  · rw [e _ (by omega)]; exact h.2.2 z i hi
theorem Sn_l {L : LtS} {s : MS} {p t : Nat} (h : AtL L s p t) (q n : Nat) : Sp L q s p t (uSn q n s) (List.replicate n 100 ++ [59]) ∧ ((uSn q n s).1 = true → ∀ i, i < n → mA 26 (uSn q n s).2 (q + i) = lDg L (nI (p + i))) := by
  obtain ⟨r1, r2⟩ := Sp_rds n q s p h
  unfold uSn
  refine ⟨Sp_an r1 (fun z => (Sp_isN r1.2.1 (by decide) (by decide) q).1), fun ht i hi => ?_⟩
  obtain ⟨a1, a2, a3⟩ := anB_t ht
  rw [a3]
  rw [(Sp_isN r1.2.1 (c := 59) (by decide) (by decide) q).2]
  exact r2 a1 i hi
theorem Sp_l {L : LtS} {s : MS} {p t : Nat} (h : AtL L s p t) (q : Nat) : Sp L q s p t (uSp q s) (((([100] ++ (if lDig L (nI (p + 2)) = true then [100, 100] else [100])) ++ [44]) ++ List.replicate 4 100) ++ [59]) ∧ ((uSp q s).1 = true → mA 26 (uSp q s).2 q = lDg L (nI p) ∧ mA 26 (uSp q s).2 (q + 1) = (if lDig L (nI (p + 2)) = true then lDg L (nI (p + 1)) * 10 + lDg L (nI (p + 2)) else lDg L (nI (p + 1))) ∧ ∀ i, i < 4 → mA 26 (uSp q s).2 (q + 2 + i) = lDg L (nI ((if lDig L (nI (p + 2)) = true then p + 4 else p + 3) + i))) := by
  obtain ⟨r1, v1⟩ := Sp_rd1 h q
  have e1 : (lJ L [100] p).1 = true → (lJ L [100] p).2 = p + 1 := fun z => lJ_len L [100] p z
  have f2 : (lJ L [100] p).1 = true → Sp L (q + 1) (uRd s q 1).2 (lJ L [100] p).2 t (uRd (uRd s q 1).2 (q + 1) 2) (if lDig L (nI (p + 2)) = true then [100, 100] else [100]) ∧ ((uRd (uRd s q 1).2 (q + 1) 2).1 = true → mA 26 (uRd (uRd s q 1).2 (q + 1) 2).2 (q + 1) = (if lDig L (nI (p + 2)) = true then lDg L (nI (p + 1)) * 10 + lDg L (nI (p + 2)) else lDg L (nI (p + 1)))) := fun z => by
    have := Sp_rd2 r1.2.1 (q + 1)
    rw [e1 z] at this ⊢
    exact this
  generalize hD : (if lDig L (nI (p + 2)) = true then [(100 : Int32), 100] else [100]) = D at f2 ⊢
  have s2 := Sp_an (q := q) r1 (f := fun M => uRd M (q + 1) 2) (fun z => Sp_le (f2 z).1 (by omega))
  have s3 := Sp_an (q := q) s2 (f := fun M => uIsN M 44) (fun z => (Sp_isN s2.2.1 (by decide) (by decide) q).1)
  have f4 := Sp_rds (L := L) (t := t) 4 (q + 2) _ _ s3.2.1
  have s4 := Sp_an (q := q) s3 (f := fun M => uRds (q + 2) 4 M) (fun z => Sp_le f4.1 (by omega))
  have s5 := Sp_an (q := q) s4 (f := fun M => uIsN M 59) (fun z => (Sp_isN s4.2.1 (by decide) (by decide) q).1)
  refine ⟨s5, fun ht => ?_⟩
  have ht : (anB (anB (anB (anB (uRd s q 1) (fun M => uRd M (q + 1) 2)) (fun M => uIsN M 44)) (fun M => uRds (q + 2) 4 M)) (fun M => uIsN M 59)).1 = true := ht
  have eU : uSp q s = anB (anB (anB (anB (uRd s q 1) (fun M => uRd M (q + 1) 2)) (fun M => uIsN M 44)) (fun M => uRds (q + 2) 4 M)) (fun M => uIsN M 59) := rfl
  rw [eU]
  obtain ⟨a1, a2, a3⟩ := anB_t ht
  obtain ⟨b1, b2, b3⟩ := anB_t a1
  obtain ⟨c1, c2, c3⟩ := anB_t b1
  obtain ⟨d1, d2, d3⟩ := anB_t c1
  have g1 : (lJ L [100] p).1 = true := by rw [← r1.1]; exact d1
  obtain ⟨x1, x2⟩ := f2 g1
  have t5 := (Sp_isN s4.2.1 (c := 59) (by decide) (by decide) q).2
  have t3 := (Sp_isN s2.2.1 (c := 44) (by decide) (by decide) q).2
  have p3 := lJ_len L _ p (by rw [← s3.1]; exact b1)
  have w : ∀ i, i < q + 2 → mA 26 (uRds (q + 2) 4 (anB (anB (uRd s q 1) (fun M => uRd M (q + 1) 2)) (fun M => uIsN M 44)).2).2 i = mA 26 (uRd (uRd s q 1).2 (q + 1) 2).2 i := fun i hi => by
    rw [f4.1.2.2.2.2 i hi, c3, t3, d3]
  rw [a3, t5, b3]
  refine ⟨?_, ?_, fun i hi => ?_⟩
  · rw [w q (by omega), x1.2.2.2.2 q (by omega)]
    exact v1 d1
  · rw [w (q + 1) (by omega)]
    exact x2 d2
  · rw [f4.2 b2 i hi, p3]
    have : p + (([100] ++ D) ++ [(44 : Int32)]).length = if lDig L (nI (p + 2)) = true then p + 4 else p + 3 := by
      rw [← hD]
      split <;> rfl
    rw [this]
/-- a statement -/
theorem uSt_l {L : LtS} {s : MS} {p t k : Nat} (h : AtL L s p t) (hk : mS 29 s = nI k) (hk32 : k < 2 ^ 30) : (lRi L (nI p) = 4 → uSt s = (false, s)) ∧ (¬ lRi L (nI p) = 4 → (uSt s).1 = (lJ L (bytS.getD (lRi L (nI p)) []) (p + 1)).1 ∧ AtL L (uSt s).2 (lJ L (bytS.getD (lRi L (nI p)) []) (p + 1)).2 t ∧ (∀ i, ¬ i = 28 → mS i (uSt s).2 = mS i s) ∧ (∀ i, ¬ i = 24 → ¬ i = 25 → ¬ i = 26 → mA i (uSt s).2 = mA i s) ∧ mA 24 (uSt s).2 = upd (mA 24 s) k (lLet L (nI p)) ∧ mA 25 (uSt s).2 = upd (mA 25 s) k (nI p) ∧ (∀ i, i < 6 * k → mA 26 (uSt s).2 i = mA 26 s i) ∧ ((uSt s).1 = true → VT L p k (mA 26 (uSt s).2))) := by
  have eu := uNx_l h
  have es : uSts s = k := by unfold uSts; rw [hk, nI_clamp (by omega)]
  have hsmall : ∀ j, nI p + nI j = nI (p + j) := fun j => nI_add p j
  unfold uSt
  rw [eu, es]
  by_cases hb : lLet L (nI p) = 112 ∨ lLet L (nI p) = 110 ∨ lLet L (nI p) = 108
  · have hpt : p < t := lt_l h (by rcases hb with e | e | e <;> (rw [e]; decide))
    have h1 : AtL L (uL1 s (lLet L (nI p))) (p + 1) t := by
      obtain ⟨h1, h2, h3, h4, h5, h6⟩ := h
      exact ⟨by unfold uL1; rw [mS_S, if_pos rfl, h1]; exact nI_1 p, h2, hpt, h4, h5, h6⟩
    have l24 : mA 24 (uL1 s (lLet L (nI p))) = upd (mA 24 s) k (lLet L (nI p)) := by unfold uL1; rw [es]; rfl
    have l25 : mA 25 (uL1 s (lLet L (nI p))) = upd (mA 25 s) k (nI p) := by unfold uL1; rw [es, h.1]; rfl
    have lS : ∀ i, ¬ i = 28 → mS i (uL1 s (lLet L (nI p))) = mS i s := fun i hi => by unfold uL1; rw [mS_ne hi]; rfl
    have lA : ∀ i, ¬ i = 24 → ¬ i = 25 → mA i (uL1 s (lLet L (nI p))) = mA i s := fun i a b => by unfold uL1; rw [mA_S, mA_a, if_neg b, mA_a, if_neg a]
    rw [if_pos hb]
    generalize uL1 s (lLet L (nI p)) = s1 at h1 l24 l25 lS lA ⊢
    have fin : ∀ r cs, Sp L (6 * k) s1 (p + 1) t r cs → cs = bytS.getD (lRi L (nI p)) [] → (r.1 = true → VT L p k (mA 26 r.2)) → r.1 = (lJ L (bytS.getD (lRi L (nI p)) []) (p + 1)).1 ∧ AtL L r.2 (lJ L (bytS.getD (lRi L (nI p)) []) (p + 1)).2 t ∧ (∀ i, ¬ i = 28 → mS i r.2 = mS i s) ∧ (∀ i, ¬ i = 24 → ¬ i = 25 → ¬ i = 26 → mA i r.2 = mA i s) ∧ mA 24 r.2 = upd (mA 24 s) k (lLet L (nI p)) ∧ mA 25 r.2 = upd (mA 25 s) k (nI p) ∧ (∀ i, i < 6 * k → mA 26 r.2 i = mA 26 s i) ∧ (r.1 = true → VT L p k (mA 26 r.2)) := by
      intro r cs hS ec hv
      subst ec
      obtain ⟨a1, a2, a3, a4, a5⟩ := hS
      exact ⟨a1, a2, fun i hi => (a3 i hi).trans (lS i hi), fun i b c d => (a4 i d).trans (lA i b c), (a4 24 (by decide)).trans l24, (a4 25 (by decide)).trans l25, fun i hi => (a5 i hi).trans (by rw [lA 26 (by decide) (by decide)]), hv⟩
    unfold uS2
    by_cases e1 : lLet L (nI p) = 110
    · have er : lRi L (nI p) = 2 := by unfold lRi; rw [if_neg (by rw [e1]; decide), if_pos e1]
      rw [if_pos e1]
      refine ⟨fun z => absurd (er.symm.trans z) (by decide), fun _ => ?_⟩
      obtain ⟨n1, n2⟩ := Sn_l h1 (6 * k) 5
      exact fin _ _ n1 (by rw [er]; rfl) (fun ht => ⟨fun z => absurd (e1.symm.trans z) (by decide), fun _ i hi => n2 ht i hi, fun z => absurd (e1.symm.trans z) (by decide)⟩)
    · rw [if_neg e1]
      by_cases e2 : lLet L (nI p) = 108
      · have er : lRi L (nI p) = 3 := by unfold lRi; rw [if_neg (by rw [e2]; decide), if_neg e1, if_pos e2]
        rw [if_pos e2]
        refine ⟨fun z => absurd (er.symm.trans z) (by decide), fun _ => ?_⟩
        obtain ⟨n1, n2⟩ := Sn_l h1 (6 * k) 3
        exact fin _ _ n1 (by rw [er]; rfl) (fun ht => ⟨fun z => absurd (e2.symm.trans z) (by decide), fun z => absurd z e1, fun _ i hi => n2 ht i hi⟩)
      · rw [if_neg e2]
        have e3 : lLet L (nI p) = 112 := by
          rcases hb with q | q | q
          · exact q
          · exact absurd q e1
          · exact absurd q e2
        have er : lRi L (nI p) = if lDig L (nI (p + 3)) = true then 0 else 1 := by unfold lRi; rw [if_pos e3, show nI p + 3 = nI (p + 3) from nI_add p 3]
        refine ⟨fun z => ?_, fun _ => ?_⟩
        · rw [er] at z
          split at z
          · exact absurd z (by decide)
          · exact absurd z (by decide)
        · obtain ⟨n1, n2⟩ := Sp_l h1 (6 * k)
          refine fin _ _ n1 ?_ (fun ht => ⟨fun _ => ?_, fun z => absurd z e1, fun z => absurd z e2⟩)
          · rw [er, show p + 1 + 2 = p + 3 by omega]
            split <;> rfl
          · obtain ⟨u1, u2, u3⟩ := n2 ht
            rw [show p + 1 + 2 = p + 3 by omega, show p + 1 + 1 = p + 2 by omega] at u2
            refine ⟨u1, ?_, fun hh h4 => ?_⟩
            · rw [u2]
              unfold pnM
              rw [show nI p + 3 = nI (p + 3) from nI_add p 3, show nI p + 2 = nI (p + 2) from nI_add p 2]
            · rw [u3 hh h4, show p + 1 + 2 = p + 3 by omega]
              have e5 : pnS L (nI p) = if lDig L (nI (p + 3)) = true then nI (p + 5) else nI (p + 4) := by unfold pnS; rw [show nI p + 3 = nI (p + 3) from nI_add p 3, show nI p + 5 = nI (p + 5) from nI_add p 5, show nI p + 4 = nI (p + 4) from nI_add p 4]
              rw [e5]
              split
              · rw [nI_add, show p + 1 + 4 = p + 5 by omega]
              · rw [nI_add, show p + 1 + 3 = p + 4 by omega]
  · rw [if_neg hb]
    refine ⟨fun _ => rfl, fun z => absurd ?_ z⟩
    unfold lRi
    rw [if_neg (fun e => hb (Or.inl e)), if_neg (fun e => hb (Or.inr (Or.inl e))), if_neg (fun e => hb (Or.inr (Or.inr e)))]
end
