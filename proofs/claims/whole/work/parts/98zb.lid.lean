noncomputable section
/-- a statement that is told -/
theorem TW_st {T : TS} {M : MS} (h : TW T M) (hw : nwB M) {L : LtS} {p k : Nat} (hr : ¬ lRi L (nI p) = 4) (he : mA 24 M k = lLet L (nI p)) (hv : VT L p k (mA 26 M)) : (uCm M k).1 = lStOk L (nI p) T ∧ ((uCm M k).1 = false → (uCm M k).2 = M ∧ lStT L (nI p) T = T) ∧ ((uCm M k).1 = true → TW (lStT L (nI p) T) (uCm M k).2 ∧ nwB (uCm M k).2) ∧ CF2 M (uCm M k).2 := by
  unfold uCm
  rw [he]
  by_cases e1 : lLet L (nI p) = 112
  · have n0 : ¬ lLet L (nI p) = 110 := by rw [e1]; decide
    obtain ⟨a1, a2, a3, a4⟩ := TW_person h hw e1 hv
    have eo : lStOk L (nI p) T = pnOk L (nI p) T := by unfold lStOk; rw [if_neg n0, if_pos e1]
    rw [if_pos e1, eo]
    refine ⟨a1, fun z => ⟨a2 z, ?_⟩, fun z => ?_, a4⟩
    · unfold lStT
      rw [eo, ← a1, z, if_neg Bool.false_ne_true]
    · unfold lStT
      rw [eo, ← a1, z, if_pos rfl, if_neg n0, if_pos e1]
      exact a3 z
  · rw [if_neg e1]
    by_cases e2 : lLet L (nI p) = 110
    · obtain ⟨a1, a2, a3, a4⟩ := TW_need h hw e2 hv
      have eo : lStOk L (nI p) T = nnOk L (nI p) T := by unfold lStOk; rw [if_pos e2]
      rw [if_pos e2, eo]
      refine ⟨a1, fun z => ⟨a2 z, ?_⟩, fun z => ?_, a4⟩
      · unfold lStT
        rw [eo, ← a1, z, if_neg Bool.false_ne_true]
      · unfold lStT
        rw [eo, ← a1, z, if_pos rfl, if_pos e2]
        exact a3 z
    · rw [if_neg e2]
      have e3 : lLet L (nI p) = 108 := by
        by_cases q : lLet L (nI p) = 108
        · exact q
        · exact absurd (by unfold lRi; rw [if_neg e1, if_neg e2, if_neg q]) hr
      obtain ⟨a1, a2, a3, a4⟩ := TW_law h hw e3 hv
      have eo : lStOk L (nI p) T = lawAll L (nI p) := by unfold lStOk; rw [if_neg e2, if_neg e1]
      rw [eo]
      refine ⟨a1, fun z => ⟨a2 z, ?_⟩, fun z => ?_, a4⟩
      · unfold lStT
        rw [eo, ← a1, z, if_neg Bool.false_ne_true]
      · unfold lStT
        rw [eo, ← a1, z, if_pos rfl, if_neg e2, if_neg e1]
        exact a3 z
/-- where the statement j begins -/
def stP (L : LtS) : Nat → Nat
  | 0 => 0
  | j + 1 => stP L j + (1 + lenS.getD (lRi L (nI (stP L j))) 0)
/-- what the model has of the statements before k -/
def FK (L : LtS) (s : MS) (k : Nat) : Prop := ∀ j, j < k → ¬ lRi L (nI (stP L j)) = 4 ∧ mA 24 s j = lLet L (nI (stP L j)) ∧ mA 25 s j = nI (stP L j) ∧ VT L (stP L j) j (mA 26 s)
theorem len_5 : ∀ i, i < 4 → 4 ≤ lenS.getD i 0 := by decide
theorem byt_len : ∀ i, i < 5 → (bytS.getD i []).length = lenS.getD i 0 := by decide
theorem byt_ch : ∀ i, i < 5 → ∀ j, j < (bytS.getD i []).length → chR i (0 + j) = (bytS.getD i []).getD j 0 := fun i _ j _ => by rw [Nat.zero_add]; rfl
/-- both look through all that was fed -/
theorem fl_loop {L : LtS} {t : Nat} : ∀ (m n k : Nat) (s : MS), AtL L s (stP L k) t → mS 29 s = nI k → FK L s k → 4 * k ≤ stP L k → 64 ≤ m + k → 66 ≤ n + k → (stP L k < t ∨ k = 0) →
    (∀ i, ¬ i = 28 → ¬ i = 29 → mS i (twL n (true, s)).2 = mS i s) ∧ (∀ i, ¬ i = 24 → ¬ i = 25 → ¬ i = 26 → mA i (twL n (true, s)).2 = mA i s) ∧ (∃ q, q ≤ t ∧ mS 28 (twL n (true, s)).2 = nI q) ∧
    (((twL n (true, s)).1 = true ∧ lFl L m (stP L k) = 0 ∧ ∃ K, mS 29 (twL n (true, s)).2 = nI K ∧ FK L (twL n (true, s)).2 K ∧ stP L K = t ∧ K ≤ 64) ∨ ((twL n (true, s)).1 = false ∧ lFl L m (stP L k) = -1000 - mS 28 (twL n (true, s)).2)) := by
  intro m
  induction m with
  | zero =>
    intro n k s hA hs hF h4 hm hn hc
    exfalso
    have := hA.2.2.1
    have := hA.2.2.2.1
    rcases hc with hc | hc <;> omega
  | succ m ih =>
    intro n k s hA hs hF h4 hm hn hc
    have hpt := hA.2.2.1
    have ht64 := hA.2.2.2.1
    have hk17 : k ≤ 16 := by omega
    obtain ⟨n, rfl⟩ : ∃ n', n = n' + 1 := ⟨n - 1, by omega⟩
    obtain ⟨u1, u2⟩ := uSt_l hA hs (by omega)
    have hcond : mS 28 s < mS 27 s ∨ mS 29 s = 0 := by
      rcases hc with hc | hc
      · left
        rw [hA.1, hA.2.1]
        exact (nI_ltJ (by omega) (by omega)).mpr hc
      · right
        rw [hs, hc]
        rfl
    rw [twL_s, if_pos ⟨rfl, hcond⟩, lFl_s]
    by_cases hr : lRi L (nI (stP L k)) = 4
    · have e1 : twS (true, s) = (false, msS 29 s (mS 29 s + 0)) := by
        unfold twS
        dsimp only
        rw [u1 hr]
        rfl
      have e2 : twL n (false, msS 29 s (mS 29 s + 0)) = (false, msS 29 s (mS 29 s + 0)) := by
        obtain ⟨n, rfl⟩ : ∃ n', n = n' + 1 := ⟨n - 1, by omega⟩
        rw [twL_s, if_neg (fun z => Bool.false_ne_true z.1)]
      rw [if_pos hr, e1, e2]
      refine ⟨fun i h1 h2 => mS_ne h2, fun _ _ _ _ => rfl, ⟨stP L k, hpt, (mS_ne (by decide)).trans hA.1⟩, Or.inr ⟨rfl, ?_⟩⟩
      have : mS 28 (false, msS 29 s (mS 29 s + 0)).2 = nI (stP L k) := (mS_ne (by decide)).trans hA.1
      rw [this]
    · rw [if_neg hr]
      obtain ⟨a1, a2, a3, a4, a5, a6, a7, a8⟩ := u2 hr
      have hri := lRi_lt L (nI (stP L k))
      obtain ⟨j1, j2⟩ := lIn_J L (lRi L (nI (stP L k))) (bytS.getD (lRi L (nI (stP L k))) []) 0 (stP L k) (byt_ch _ hri)
      rw [byt_len _ hri] at j1 j2
      have hlen := lJ_len L (bytS.getD (lRi L (nI (stP L k))) []) (stP L k + 1)
      rw [byt_len _ hri] at hlen
      have hl4 := len_5 (lRi L (nI (stP L k))) (by omega)
      have eS : stP L (k + 1) = stP L k + (1 + lenS.getD (lRi L (nI (stP L k))) 0) := rfl
      generalize lJ L (bytS.getD (lRi L (nI (stP L k))) []) (stP L k + 1) = J at a1 a2 j1 j2 hlen
      generalize lIn L (lRi L (nI (stP L k))) 0 (lenS.getD (lRi L (nI (stP L k))) 0) (stP L k) = I at j1 j2 ⊢
      have eTS : twS (true, s) = ((uSt s).1, msS 29 (uSt s).2 (mS 29 (uSt s).2 + b2i (uSt s).1)) := rfl
      have es2 : mS 29 (uSt s).2 = nI k := (a3 29 (by decide)).trans hs
      rw [eTS, es2]
      generalize uSt s = r at a1 a2 a3 a4 a5 a6 a7 a8 ⊢
      by_cases hJ : J.1 = true
      · rw [if_pos hJ] at j2
        have h1 : r.1 = true := a1.trans hJ
        have hp' := hlen hJ
        rw [h1, if_neg (by rw [j1, hJ]; exact fun z => Bool.noConfusion z)]
        have e5 : nI k + b2i true = nI (k + 1) := nI_1 k
        rw [e5]
        have hA2 : AtL L (msS 29 r.2 (nI (k + 1))) (stP L (k + 1)) t := by
          have : J.2 = stP L (k + 1) := by omega
          rw [this] at a2
          exact ⟨(mS_ne (by decide)).trans a2.1, (mS_ne (by decide)).trans a2.2.1, a2.2.2⟩
        have hs2 : mS 29 (msS 29 r.2 (nI (k + 1))) = nI (k + 1) := by rw [mS_S, if_pos rfl]
        have hF2 : FK L (msS 29 r.2 (nI (k + 1))) (k + 1) := by
          intro j hj
          show _ ∧ mA 24 r.2 j = _ ∧ mA 25 r.2 j = _ ∧ VT L (stP L j) j (mA 26 r.2)
          rw [a5, a6]
          by_cases ej : j = k
          · subst ej
            rw [upd_eq, upd_eq]
            exact ⟨hr, rfl, rfl, a8 h1⟩
          · rw [upd_ne ej, upd_ne ej]
            obtain ⟨b1, b2, b3, b4⟩ := hF j (by omega)
            exact ⟨b1, b2, b3, VT_k b4 (fun i hi => a7 i (by omega))⟩
        have eI : I.2 + 1 = stP L (k + 1) := by omega
        rw [eI, hA.2.2.2.2.1]
        have hle := hA2.2.2.1
        have frS : ∀ i, ¬ i = 28 → ¬ i = 29 → mS i (msS 29 r.2 (nI (k + 1))) = mS i s := fun i h1 h2 => (mS_ne h2).trans (a3 i h1)
        have frA : ∀ i, ¬ i = 24 → ¬ i = 25 → ¬ i = 26 → mA i (msS 29 r.2 (nI (k + 1))) = mA i s := fun i h1 h2 h3 => a4 i h1 h2 h3
        by_cases hend : t ≤ stP L (k + 1)
        · rw [if_pos ((nI_leJ (by omega) (by omega)).mpr hend)]
          have eE : twL n (true, msS 29 r.2 (nI (k + 1))) = (true, msS 29 r.2 (nI (k + 1))) := by
            obtain ⟨n, rfl⟩ : ∃ n', n = n' + 1 := ⟨n - 1, by omega⟩
            rw [twL_s, if_neg]
            rintro ⟨-, z | z⟩
            · have z : mS 28 (msS 29 r.2 (nI (k + 1))) < mS 27 (msS 29 r.2 (nI (k + 1))) := z
              rw [hA2.1, hA2.2.1, nI_ltJ (by omega) (by omega)] at z
              omega
            · have z : mS 29 (msS 29 r.2 (nI (k + 1))) = 0 := z
              rw [hs2] at z
              have z : nI (k + 1) = nI 0 := z
              rw [nI_inj (by omega) (by omega)] at z
              omega
          rw [eE]
          exact ⟨frS, frA, ⟨_, hle, hA2.1⟩, Or.inl ⟨rfl, rfl, k + 1, hs2, hF2, by omega, by omega⟩⟩
        · rw [if_neg (fun z => hend ((nI_leJ (by omega) (by omega)).mp z))]
          obtain ⟨i1, i2, i3, i4⟩ := ih n (k + 1) _ hA2 hs2 hF2 (by omega) (by omega) (by omega) (Or.inl (by omega))
          exact ⟨fun i h1 h2 => (i1 i h1 h2).trans (frS i h1 h2), fun i h1 h2 h3 => (i2 i h1 h2 h3).trans (frA i h1 h2 h3), i3, i4⟩
      · have hJ : J.1 = false := by cases h : J.1; rfl; exact absurd h hJ
        rw [hJ, if_neg Bool.false_ne_true] at j2
        have h1 : r.1 = false := a1.trans hJ
        rw [h1, if_pos (by rw [j1, hJ])]
        have e2 : ∀ x, twL n (false, x) = (false, x) := fun x => by
          obtain ⟨n, rfl⟩ : ∃ n', n = n' + 1 := ⟨n - 1, by omega⟩
          rw [twL_s, if_neg (fun z => Bool.false_ne_true z.1)]
        rw [e2]
        refine ⟨fun i h1 h2 => (mS_ne h2).trans (a3 i h1), fun i h1 h2 h3 => a4 i h1 h2 h3, ⟨J.2, a2.2.2.1, (mS_ne (by decide)).trans a2.1⟩, Or.inr ⟨rfl, ?_⟩⟩
        have : mS 28 (false, msS 29 r.2 (nI k + b2i false)).2 = nI J.2 := (mS_ne (by decide)).trans a2.1
        rw [this, j2]
end
