noncomputable section
theorem uHd_L {M : MS} {q : Nat} (h : haB M) (hq : q < 13) : uHd M q = uLeftN M q := by
  obtain ⟨hh, d, h1, h3, h2, h4, e⟩ := uLeftN_e h hq
  rw [e]
  unfold uHd uOpen
  rw [h2, h4, clamp_sub (by omega) (by omega)]
  by_cases hy : mA 8 M q = mS 22 M
  · rw [decide_eq_true hy, if_pos hy, Bool.true_and]
    by_cases hl : d < hh
    · rw [decide_eq_true ((nI_ltJ (by omega) (by omega)).mpr hl), if_pos rfl]
    · rw [decide_eq_false (fun z => hl ((nI_ltJ (by omega) (by omega)).mp z)), if_neg Bool.false_ne_true]
      omega
  · rw [decide_eq_false hy, if_neg hy, Bool.false_and, if_neg Bool.false_ne_true]
def Rj (ro : Nat → Int32) (rl : Int32) (a : Bool × Nat × TS) (b : Bool × Nat × MS) : Prop := a.1 = b.1 ∧ a.2.1 = b.2.1 ∧ RT a.2.2 b.2.2 ∧ RR ro rl b.2.2
theorem R_jH {ro : Nat → Int32} {rl : Int32} {q : Nat} : ∀ (m p : Nat) (T : TS) (M : MS), RT T M → RR ro rl M → q < uNeeds M → ujI p M → m = uHd M q → Rj ro rl (jH ro (rowN rl) (nI q) m p T) (ujH q m p M) := by
  intro m
  induction m with
  | zero => exact fun p T M h hrr _ _ _ => ⟨rfl, rfl, h, hrr⟩
  | succ m ih =>
    intro p T M h hrr hq hI hm
    have h12 := (nnB_c h.2.1.2).2
    have hr10 := (rwB_c hrr.2.1).2
    rw [jH_s]
    by_cases hb : ujB M q p
    · have hp7 := uOne_ix h.1.1.2.2.2.2 hb.2.1
      have hc : p < rowN rl ∧ tMayW T (ro p) (nI q) = true := by
        refine ⟨by rw [RR_n hrr]; exact hb.1, ?_⟩
        rw [hrr.2.2 p hb.1, R_mayW_row (RT_C h hq), hb.2.1, hb.2.2]
        rfl
      obtain ⟨w1, w2, w3, w4⟩ := ujW_I (show q < 12 by omega) hI hb
      rw [if_pos hc, ujH_p hb, hrr.2.2 p hb.1]
      obtain ⟨j, hj, ej⟩ := hp7
      have hm2 := hb.2.2
      rw [ej] at hm2
      obtain ⟨o1, o2, -⟩ := uMayW_c (show q < 12 by omega) hm2
      refine ih (p + 1) _ _ ?_ (RR_W hrr _ _ _ _) ?_ w1 (by omega)
      · unfold ujW
        rw [ej]
        have hle := hI.1
        exact RT_do h hI.2.1.1 (by omega) hj (by omega) o1 o2
      · unfold uNeeds at hq ⊢
        rw [w3 16 (by decide)]
        exact hq
    · have hc : ¬ (p < rowN rl ∧ tMayW T (ro p) (nI q) = true) := by
        rintro ⟨z1, z2⟩
        rw [RR_n hrr] at z1
        rw [hrr.2.2 p z1, R_mayW_row (RT_C h hq), Bool.and_eq_true] at z2
        exact hb ⟨z1, z2.1, z2.2⟩
      rw [if_neg hc, ujH_n hb]
      exact ⟨rfl, rfl, h, hrr⟩
theorem R_jN {ro : Nat → Int32} {rl : Int32} : ∀ (m k p : Nat) (T : TS) (M : MS), RT T M → RR ro rl M → k + m = uNeeds M → ujI p M → Rj ro rl (jN ro (rowN rl) k m p T) (ujN k m p M) := by
  intro m
  induction m with
  | zero => exact fun k p T M h hrr _ _ => ⟨rfl, rfl, h, hrr⟩
  | succ m ih =>
    intro k p T M h hrr hk hI
    have h12 := (nnB_c h.2.1.2).2
    have e1 : (hHd T (nI k)).toNatClampNeg = uHd M k := by rw [hHd_e h (by omega), uHd_L h.1.2.2 (by omega)]
    have hR := R_jH (uHd M k) p T M h hrr (show k < uNeeds M by omega) hI rfl
    obtain ⟨i1, i2, i3⟩ := ujH_I (show k < 12 by omega) (uHd M k) p M hI rfl
    rw [jN_s, ujN_s, e1]
    generalize jH ro (rowN rl) (nI k) (uHd M k) p T = a at hR ⊢
    generalize ujH k (uHd M k) p M = b at hR i1 i2 i3 ⊢
    obtain ⟨r1, r2, r3, r4⟩ := hR
    cases hb : b.1
    · rw [hb] at r1
      rw [if_neg (by rw [r1]; exact Bool.false_ne_true), if_neg Bool.false_ne_true, r2]
      refine ih (k + 1) _ _ _ r3 r4 ?_ i1
      unfold uNeeds at hk ⊢
      rw [i2 16 (by decide)]
      omega
    · rw [hb] at r1
      rw [if_pos r1, if_pos rfl]
      exact ⟨r1.trans hb.symm, r2, r3, r4⟩
theorem R_judge {ro : Nat → Int32} {rl : Int32} {T : TS} {M : MS} (h : RT T M) (hrr : RR ro rl M) (hok : mOK 60 M) : jRes rl (jN ro (rowN rl) 0 (tNeeds T) 0 T) = ujR (ujS M) := by
  have en : tNeeds T = uNeeds M := by unfold tNeeds uNeeds; rw [h.2.1.1]
  have hR := R_jN (uNeeds M) 0 0 T M h hrr (Nat.zero_add _) ⟨Nat.zero_le _, hok, h.1.2.2⟩
  rw [en]
  unfold ujS
  have hI : ujI (ujN 0 (uNeeds M) 0 M).2.1 (ujN 0 (uNeeds M) 0 M).2.2 ∧ True := ⟨?_, trivial⟩
  · generalize jN ro (rowN rl) 0 (uNeeds M) 0 T = a at hR ⊢
    generalize ujN 0 (uNeeds M) 0 M = b at hR hI ⊢
    obtain ⟨r1, r2, r3, r4⟩ := hR
    have h10 := (rwB_c r4.2.1)
    have hle := hI.1.1
    unfold jRes ujR
    rw [r1, r2]
    cases b.1
    · rw [if_neg Bool.false_ne_true, if_neg Bool.false_ne_true, r4.1, h10.1]
      by_cases hl : b.2.1 < uRow b.2.2
      · rw [if_pos hl, if_pos ((nI_ltJ (by omega) (by omega)).mpr hl)]
      · rw [if_neg hl, if_neg (fun z => hl ((nI_ltJ (by omega) (by omega)).mp z))]
    · rw [if_pos rfl, if_pos rfl]
  · have key : ∀ (m k p : Nat) (M : MS), k + m ≤ 12 → ujI p M → ujI (ujN k m p M).2.1 (ujN k m p M).2.2 := by
      intro m
      induction m with
      | zero => exact fun k p M _ hI => hI
      | succ m ih =>
        intro k p M hk hI
        rw [ujN_s]
        obtain ⟨i1, i2, i3⟩ := ujH_I (show k < 12 by omega) (uHd M k) p M hI rfl
        split
        · exact i1
        · exact ih (k + 1) _ _ (by omega) i1
    have h12 := (nnB_c h.2.1.2).2
    exact key _ _ _ _ (by omega) ⟨Nat.zero_le _, hok, h.1.2.2⟩
end
