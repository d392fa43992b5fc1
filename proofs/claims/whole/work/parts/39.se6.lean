noncomputable section
theorem kF (B : Bx) (g : Nat → Nat) (n : Nat) (hF : MtF (gx B) yX1_sumFrom wsX1_sumFrom (rmD (2 * n + 2)) (encS B g) (F_X1_sumFrom g n)) (hW : MtF (gx B) yX1_sumWith wsX1_sumWith (rmD (2 * n + 3)) (encS B g) (F_X1_sumWith g n)) : MtF (gx B) yX1_sumFrom wsX1_sumFrom (rmD (2 * n + 4)) (encS B g) (F_X1_sumFrom g (n + 1)) := by
  refine cf_RIJ_i (fun l S x m hp => ?_)
  obtain ⟨h, hh, hn, rfl⟩ := hp
  have ch : (nI h).toNatClampNeg = h := nI_clamp (by omega)
  rw [ch]
  generalize hr : smF (n + 1) h m S = r
  unfold smF at hr
  generalize hm : m &&& sFrom (nI h) = q at hr
  refine Mt.of (P := bk_X1_sumFrom_0 g n (SPost r) (fun L st s => h < 8 ∧ ∃ k, I_s112 g n h q r k L st s)) (by decide) rfl (Nat.le_of_ble_eq_true rfl) rfl (fun X C R => s_X1_sumFrom_0 B g n hF hW C R ?_) ?_
  · refine Snd.mono (snd_loop (fun K => bk_X1_sumFrom_112 g n (SPost r) K) (fun k L st s => h < 8 ∧ I_s112 g n h q r k L st s) (fun K hK => s_X1_sumFrom_112 B g n hF hW C R hK) ?_) (fun L st s hw => ⟨hw.2.choose, hw.1, hw.2.choose_spec⟩)
    rintro K k L st s ⟨h8, p, b, hk, rfl, rfl, hf⟩ hK
    simp only [wIload, wAload, wLload, wK, wB, wDv, wU, wLB, wLU, wLS, wL2i, wLcmp, wIf1, wIf2, wKeep, wInc, wIst, wAst, wLst, wDup, wPop, wDup2, wGet, wPut, wPutZ, wIald, wLald, wIast, wLast, wLen, wRetI, wRetZ, wRetL, wRetA, wRetV, wM1, wM2, wCpy, wTab, tabW, nth, stL, stL2, dropL, keepL, mkL, padL, restOK, restOKn, tl_some, tl_none, id_eq, eq_self, true_and, and_true, bk_X1_sumFrom_14, bk_X1_sumFrom_98, bk_X1_sumFrom_70, bk_X1_sumFrom_69, bk_X1_sumFrom_0, bk_X1_sumFrom_164, bk_X1_sumFrom_112, F_X1_bitsFrom, F_X1_slotOf, F_X1_sumFrom, F_X1_sumWith, cf_I_e, cf_J_e, cf_RIIJ_e, cf_RIJ_e, lcmp0, SPost, b2i_eq0]
    rw [ch]
    rcases Nat.lt_or_ge p 7 with hlt | hge
    · have h1 : ¬ (7 : Int32) ≤ nI p := nI_ge (a := p) (b := 7) hlt (by decide)
      have cp : (nI p).toNatClampNeg = p := nI_clamp (by omega)
      obtain ⟨k, rfl⟩ : ∃ m, k = m + 1 := ⟨k - 1, by omega⟩
      rw [smLoop_s] at hf
      have hc := hK k _ _ _ (by omega) ⟨h8, p + 1, _, by omega, rfl, rfl, hf⟩
      rw [← nI_1] at hc
      simp only [h1, cp, false_implies, true_implies, not_true_eq_false, not_false_eq_true, true_and, and_true, implies_true, eq_self, ne_eq, true_or, or_true, false_or, or_false, and_self]
      exact ⟨⟨⟨h, h8, by omega, rfl⟩, p, hlt, rfl⟩, hc⟩
    · have h1 : (7 : Int32) ≤ nI p := nI_le (a := 7) (b := p) hge (by omega)
      have h0 : k = 0 := by omega
      subst h0
      have hf : smEnd q (b, s) = r := hf
      unfold smEnd at hf
      subst hf
      cases hi : inSl (sSlot q)
      · simp only [h1, hi, Bool.false_eq_true, if_false, false_implies, true_implies, not_true_eq_false, not_false_eq_true, true_and, and_true, implies_true, eq_self, ne_eq, true_or, or_true, false_or, or_false, and_self]
      · have hi2 := hi
        simp only [inSl, decide_eq_true_eq] at hi2
        have w0 : vp_in (sSlot q) 1024 := v1024 hi2.1 hi2.2
        simp only [h1, hi, w0, Bool.true_eq_false, if_true, false_implies, true_implies, not_true_eq_false, not_false_eq_true, true_and, and_true, implies_true, eq_self, ne_eq, true_or, or_true, false_or, or_false, and_self]
        done
  · simp only [wIload, wAload, wLload, wK, wB, wDv, wU, wLB, wLU, wLS, wL2i, wLcmp, wIf1, wIf2, wKeep, wInc, wIst, wAst, wLst, wDup, wPop, wDup2, wGet, wPut, wPutZ, wIald, wLald, wIast, wLast, wLen, wRetI, wRetZ, wRetL, wRetA, wRetV, wM1, wM2, wCpy, wTab, tabW, nth, stL, stL2, dropL, keepL, mkL, padL, restOK, restOKn, tl_some, tl_none, id_eq, eq_self, true_and, and_true, bk_X1_sumFrom_14, bk_X1_sumFrom_98, bk_X1_sumFrom_70, bk_X1_sumFrom_69, bk_X1_sumFrom_0, bk_X1_sumFrom_164, bk_X1_sumFrom_112, F_X1_bitsFrom, F_X1_slotOf, F_X1_sumFrom, F_X1_sumWith, cf_I_e, cf_J_e, cf_RIIJ_e, cf_RIJ_e, lcmp0, SPost]
    rw [hm]
    have c3 : (nI h + 1).toNatClampNeg = h + 1 := by rw [nI_1, nI_clamp (by omega)]
    have hle : eHd S ≤ nI h ↔ sHands S ≤ h := le_nI (by omega)
    by_cases hA : sHands S ≤ h
    · rw [if_pos (Or.inl hA)] at hr
      subst hr
      have h1 := hle.mpr hA
      simp only [h1, false_implies, true_implies, not_true_eq_false, not_false_eq_true, true_and, and_true, implies_true, eq_self, ne_eq, true_or, or_true, false_or, or_false, and_self]
    · have h1 : ¬ eHd S ≤ nI h := fun z => hA (hle.mp z)
      by_cases h8 : h < 8
      · have h2 : nI h < 8 := Int32.not_le.mp (nI_ge (a := h) (b := 8) h8 (by decide))
        rw [if_neg (by omega)] at hr
        by_cases hq : q = 0
        · rw [if_pos hq] at hr
          subst hr
          simp only [h1, h2, hq, false_implies, true_implies, not_true_eq_false, not_false_eq_true, true_and, and_true, implies_true, eq_self, ne_eq, true_or, or_true, false_or, or_false, and_self]
        · rw [if_neg hq] at hr
          have fin : (¬ (inSl (sSlot q) = true ∧ eSk S (sSlot q).toNatClampNeg = q)) → ∃ k, I_s112 g n h q r k [some (.ref (g 16)), some (.int (nI h)), none, none, some (.long q), none, some (.int (sSlot q)), some (.int (b2i (inSl (sSlot q)))), some (.int (smF n (h + 1) q S).1), some (.int 0)] [] (smF n (h + 1) q S).2 := by
            intro z
            rw [if_neg z] at hr
            exact ⟨7, 0, _, rfl, rfl, rfl, hr⟩
          have pr : ∃ k, k ≤ 8 ∧ 9 ≤ k + n ∧ nI h + 1 = nI k := ⟨h + 1, by omega, by omega, nI_1 h⟩
          simp only [h1, h2, hq, c3, h8, n10, false_implies, true_implies, not_true_eq_false, not_false_eq_true, true_and, and_true, implies_true, eq_self, ne_eq, true_or, or_true, false_or, or_false, and_self]
          by_cases s1 : sSlot q < 0
          · have hi : inSl (sSlot q) = false := by unfold inSl; exact decide_eq_false (fun z => z.1 s1)
            have := fin (by rw [hi]; exact fun z => Bool.noConfusion z.1)
            rw [hi] at this
            simp only [s1, false_implies, true_implies, not_true_eq_false, not_false_eq_true, true_and, and_true, implies_true, eq_self, ne_eq, true_or, or_true, false_or, or_false, and_self]
            exact ⟨pr, this⟩
          · by_cases s2 : (1024 : Int32) ≤ sSlot q
            · have hi : inSl (sSlot q) = false := by unfold inSl; exact decide_eq_false (fun z => absurd z.2 (Int32.not_lt.mpr s2))
              have := fin (by rw [hi]; exact fun z => Bool.noConfusion z.1)
              rw [hi] at this
              simp only [s1, s2, false_implies, true_implies, not_true_eq_false, not_false_eq_true, true_and, and_true, implies_true, eq_self, ne_eq, true_or, or_true, false_or, or_false, and_self]
              exact ⟨pr, this⟩
            · have hi : inSl (sSlot q) = true := by unfold inSl; exact decide_eq_true ⟨s1, Int32.not_le.mp s2⟩
              have w0 : vp_in (sSlot q) 1024 := v1024 s1 (Int32.not_le.mp s2)
              simp only [s1, s2, w0, false_implies, true_implies, not_true_eq_false, not_false_eq_true, true_and, and_true, implies_true, eq_self, ne_eq, true_or, or_true, false_or, or_false, and_self]
              by_cases hk : eSk S (sSlot q).toNatClampNeg = q
              · rw [if_pos ⟨hi, hk⟩] at hr
                subst hr
                simp only [hk, false_implies, true_implies, not_true_eq_false, not_false_eq_true, true_and, and_true, implies_true, eq_self, ne_eq, true_or, or_true, false_or, or_false, and_self]
              · have := fin (fun z => hk z.2)
                rw [hi] at this
                simp only [hk, false_implies, true_implies, not_true_eq_false, not_false_eq_true, true_and, and_true, implies_true, eq_self, ne_eq, true_or, or_true, false_or, or_false, and_self]
                exact ⟨pr, this⟩
      · have h2 : ¬ nI h < 8 := Int32.not_lt.mpr (nI_le (a := 8) (b := h) (by omega) (by omega))
        rw [if_pos (Or.inr (by omega))] at hr
        subst hr
        simp only [h1, h2, false_implies, true_implies, not_true_eq_false, not_false_eq_true, true_and, and_true, implies_true, eq_self, ne_eq, true_or, or_true, false_or, or_false, and_self]
theorem kF_all (B : Bx) (g : Nat → Nat) : ∀ n, MtF (gx B) yX1_sumFrom wsX1_sumFrom (rmD (2 * n + 2)) (encS B g) (F_X1_sumFrom g n) := by
  intro n
  induction n with
  | zero => exact cf_RIJ_i (fun l S x m hp => by obtain ⟨h, hh, hn, _⟩ := hp; omega)
  | succ n ih => exact kF B g n ih (kW B g n ih)
theorem k_X1_sumFrom (B : Bx) (g : Nat → Nat) : MtF (gx B) yX1_sumFrom wsX1_sumFrom (rmD 18) (encS B g) (F_X1_sumFrom g 8) := kF_all B g 8
theorem k_X1_sumWith (B : Bx) (g : Nat → Nat) : MtF (gx B) yX1_sumWith wsX1_sumWith (rmD 19) (encS B g) (F_X1_sumWith g 8) := kW B g 8 (kF_all B g 8)
end
