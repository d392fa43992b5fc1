noncomputable section
def mhP (T : TS) (h q : Int32) : Nat → Nat → Int64 → Int64
  | _, 0, a => a
  | i, n + 1, a => mhP T h q (i + 1) n (a ||| (if tMayW T (nI i) q = true then sBit h (nI i) else 0))
theorem mhP_s (T : TS) (h q : Int32) (i n : Nat) (a : Int64) : mhP T h q i (n + 1) a = mhP T h q (i + 1) n (a ||| (if tMayW T (nI i) q = true then sBit h (nI i) else 0)) := rfl
def sYr (S : SS) (h : Int32) (T : TS) : TS := tsYr T (tOfN T (sNeed S h) 4)
def mfT (S : SS) : Nat → Nat → TS → TS
  | _, 0, T => T
  | h, n + 1, T => mfT S (h + 1) n (sYr S (nI h) T)
theorem mfT_s (S : SS) (h n : Nat) (T : TS) : mfT S h (n + 1) T = mfT S (h + 1) n (sYr S (nI h) T) := rfl
def mfB (S : SS) : Nat → Nat → TS → Int64 → Int64
  | _, 0, _, a => a
  | h, n + 1, T, a => mfB S (h + 1) n (sYr S (nI h) T) (mhP (sYr S (nI h) T) (nI h) (sNeed S (nI h)) 0 (tPeople (sYr S (nI h) T)) a)
theorem mfB_s (S : SS) (h n : Nat) (T : TS) (a : Int64) : mfB S h (n + 1) T a = mfB S (h + 1) n (sYr S (nI h) T) (mhP (sYr S (nI h) T) (nI h) (sNeed S (nI h)) 0 (tPeople (sYr S (nI h) T)) a) := rfl
def sHands (S : SS) : Nat := (eHd S).toNatClampNeg
def sMayT (S : SS) (T : TS) (h : Int32) : TS := mfT S h.toNatClampNeg (sHands S - h.toNatClampNeg) T
def sMayB (S : SS) (T : TS) (h : Int32) : Int64 := mfB S h.toNatClampNeg (sHands S - h.toNatClampNeg) T 0
def isS (n : Int32) : Prop := ∃ k, k < 1000 ∧ n = nI k
def F_X1_mayFrom (g : Nat → Nat) (t : Nat) : CF ET := cf_RRI (g 16) (g t) (fun S h => sOkH (fS S) ∧ isS h) (fun S h => some (.long (sMayB (fS S) (fT S) h))) (fun S h => fsT S (sMayT (fS S) (fT S) h))
theorem inw_X1_mayFrom_X1 : ∀ w ∈ u_ws RX1 TX1 7, w ∈ wsX1_mayFrom := by decide +kernel
theorem inw_X1_mayFrom_X2 : ∀ w ∈ u_ws RX2 TX2 8, w ∈ wsX1_mayFrom := by decide +kernel
def bk_X1_mayFrom_0 (g : Nat → Nat) (t : Nat) (Post : Option Value → ET → Prop) (K5 : PT ET) (L : Lc) (st : List Value) (s : ET) : Prop :=
  (wK (.long 0) <| wLst 3 <| wIload 2 <| wIst 5 <| wKeep [true, true, false, true, false, true, false, false] K5) L st s
set_option maxRecDepth 20000 in
theorem s_X1_mayFrom_0 {X : Cx} (B : Bx) (g : Nat → Nat) (t : Nat) {Post : Option Value → ET → Prop} (C : OkX X (gx B) cX1_mayFrom 8 wsX1_mayFrom RX1 (rmD 4)) (R : RtX X (gx B) (some .long) (encST B g t) Post) {K5 : PT ET} (hK5 : Snd X (gx B) 8 (encST B g t) 5 K5) : Snd X (gx B) 8 (encST B g t) 0 (bk_X1_mayFrom_0 g t Post K5) := by
  unfold bk_X1_mayFrom_0
  refine s_lconst C (by decide) dX1_mayFrom_0 ?_
  refine s_lstore_n C rfl (by decide) dX1_mayFrom_1 ?_
  refine s_iload_n C rfl dX1_mayFrom_2 ?_
  refine s_istore C (by decide) dX1_mayFrom_3 ?_
  exact s_keep _ hK5
def bk_X1_mayFrom_5 (g : Nat → Nat) (t : Nat) (Post : Option Value → ET → Prop) (K36 : PT ET) (L : Lc) (st : List Value) (s : ET) : Prop :=
  (wIload 5 <| wAload 0 <| wGet (g 16) (fun s => .int (fSHd s)) <| wIf2 (fun x y => y ≤ x) (wLload 3 <| wRetL Post) (wAload 0 <| wIload 5 <| wCallR 2 (F_X1_needOf g) fS fsS <| wIst 6 <| wAload 1 <| wAload 1 <| wIload 6 <| wK (.int 4) <| wCallR 3 (F_X2_ofNeed g t) fT fsT <| wPut (g t) fsTYr <| wK (.int 0) <| wIst 7 <| wKeep [true, true, false, true, false, true, true, true] K36)) L st s
set_option maxRecDepth 20000 in
theorem s_X1_mayFrom_5 {X : Cx} (B : Bx) (g : Nat → Nat) (t : Nat) {Post : Option Value → ET → Prop} (C : OkX X (gx B) cX1_mayFrom 8 wsX1_mayFrom RX1 (rmD 4)) (R : RtX X (gx B) (some .long) (encST B g t) Post) {K36 : PT ET} (hK36 : Snd X (gx B) 8 (encST B g t) 36 K36) : Snd X (gx B) 8 (encST B g t) 5 (bk_X1_mayFrom_5 g t Post K36) := by
  unfold bk_X1_mayFrom_5
  refine s_iload C dX1_mayFrom_5 ?_
  refine s_aload_n C rfl dX1_mayFrom_7 ?_
  refine s_get C inw_X1_mayFrom_X1 rfl (k := 1) (by decide) (by decide +kernel) (heST_0 B g t) (fun _ => rfl) dX1_mayFrom_8 ?_
  refine s_icmp_ge C (tgt := 82) (by decide) dX1_mayFrom_11 ?_ ?_
  · refine s_lload_n C rfl dX1_mayFrom_82 ?_
    exact s_lret C R dX1_mayFrom_83
  · refine s_aload_n C rfl dX1_mayFrom_14 ?_
    refine s_iload C dX1_mayFrom_15 ?_
    refine s_callV C (fr_ST_S B g t) (k_X1_needOf B g) gX1_mayFrom_X1_needOf rfl (by decide +kernel) ⟨rfl, rfl⟩ (by decide) rfl (fun s => ⟨_, heST_0 B g t s⟩) (cf_RI_r _ _ _ _) dX1_mayFrom_17 ?_
    refine s_istore C (by decide) dX1_mayFrom_20 ?_
    refine s_aload_n C rfl dX1_mayFrom_22 ?_
    refine s_aload_n C rfl dX1_mayFrom_23 ?_
    refine s_iload C dX1_mayFrom_24 ?_
    refine s_iconst C (by decide) dX1_mayFrom_26 ?_
    refine s_callV C (fr_ST_T B g t) (k_X2_ofNeed B g t) gX1_mayFrom_X2_ofNeed rfl (by decide +kernel) ⟨rfl, rfl⟩ (by decide) rfl (fun s => ⟨_, heST_6 B g t s⟩) (cf_RII_r _ _ _ _) dX1_mayFrom_27 ?_
    refine s_put C inw_X1_mayFrom_X2 rfl (k := 7) (by decide) (by decide +kernel) tyX2_ok nmX2 (by decide +kernel) (by decide +kernel) (heST_6 B g t) (fun _ => Nat.le_of_ble_eq_true rfl) (fun _ _ => rfl) dX1_mayFrom_30 ?_
    refine s_iconst C (by decide) dX1_mayFrom_33 ?_
    refine s_istore C (by decide) dX1_mayFrom_34 ?_
    exact s_keep _ hK36
def bk_X1_mayFrom_68 (g : Nat → Nat) (t : Nat) (Post : Option Value → ET → Prop) (K36 : PT ET) (L : Lc) (st : List Value) (s : ET) : Prop :=
  (wLB (fun x y => x ||| y) <| wLst 3 <| wInc 7 1 <| wKeep [true, true, false, true, false, true, true, true] K36) L st s
set_option maxRecDepth 20000 in
theorem s_X1_mayFrom_68 {X : Cx} (B : Bx) (g : Nat → Nat) (t : Nat) {Post : Option Value → ET → Prop} (C : OkX X (gx B) cX1_mayFrom 8 wsX1_mayFrom RX1 (rmD 4)) (R : RtX X (gx B) (some .long) (encST B g t) Post) {K36 : PT ET} (hK36 : Snd X (gx B) 8 (encST B g t) 36 K36) : Snd X (gx B) 8 (encST B g t) 68 (bk_X1_mayFrom_68 g t Post K36) := by
  unfold bk_X1_mayFrom_68
  refine s_lor C dX1_mayFrom_68 ?_
  refine s_lstore_n C rfl (by decide) dX1_mayFrom_69 ?_
  refine s_iinc C (by decide) (by decide) dX1_mayFrom_70 ?_
  refine s_goto C (tgt := 36) (by decide) dX1_mayFrom_73 ?_
  exact s_keep _ hK36
def bk_X1_mayFrom_36 (g : Nat → Nat) (t : Nat) (Post : Option Value → ET → Prop) (K5 : PT ET) (K36 : PT ET) (L : Lc) (st : List Value) (s : ET) : Prop :=
  (wIload 7 <| wAload 1 <| wGet (g t) (fun s => .int (fTPp s)) <| wIf2 (fun x y => y ≤ x) (wInc 5 1 <| wKeep [true, true, false, true, false, true, false, false] K5) (wLload 3 <| wAload 1 <| wIload 7 <| wIload 6 <| wCallR 3 (F_X2_mayHelpWith g t) fT fsT <| wIf1 (fun x => x = 0) (wK (.long 0) <| bk_X1_mayFrom_68 g t Post K36) (wIload 5 <| wIload 7 <| wCallR 2 (F_X1_bitOf) (fun _ => ()) (fun s _ => s) <| bk_X1_mayFrom_68 g t Post K36))) L st s
set_option maxRecDepth 20000 in
theorem s_X1_mayFrom_36 {X : Cx} (B : Bx) (g : Nat → Nat) (t : Nat) {Post : Option Value → ET → Prop} (C : OkX X (gx B) cX1_mayFrom 8 wsX1_mayFrom RX1 (rmD 4)) (R : RtX X (gx B) (some .long) (encST B g t) Post) {K5 : PT ET} (hK5 : Snd X (gx B) 8 (encST B g t) 5 K5) {K36 : PT ET} (hK36 : Snd X (gx B) 8 (encST B g t) 36 K36) : Snd X (gx B) 8 (encST B g t) 36 (bk_X1_mayFrom_36 g t Post K5 K36) := by
  unfold bk_X1_mayFrom_36
  refine s_iload C dX1_mayFrom_36 ?_
  refine s_aload_n C rfl dX1_mayFrom_38 ?_
  refine s_get C inw_X1_mayFrom_X2 rfl (k := 1) (by decide) (by decide +kernel) (heST_6 B g t) (fun _ => rfl) dX1_mayFrom_39 ?_
  refine s_icmp_ge C (tgt := 76) (by decide) dX1_mayFrom_42 ?_ ?_
  · refine s_iinc C (by decide) (by decide) dX1_mayFrom_76 ?_
    refine s_goto C (tgt := 5) (by decide) dX1_mayFrom_79 ?_
    exact s_keep _ hK5
  · refine s_lload_n C rfl dX1_mayFrom_45 ?_
    refine s_aload_n C rfl dX1_mayFrom_46 ?_
    refine s_iload C dX1_mayFrom_47 ?_
    refine s_iload C dX1_mayFrom_49 ?_
    refine s_callV C (fr_ST_T B g t) (k_X2_mayHelpWith B g t) gX1_mayFrom_X2_mayHelpWith rfl (by decide +kernel) ⟨rfl, rfl⟩ (by decide) rfl (fun s => ⟨_, heST_6 B g t s⟩) (cf_RII_r _ _ _ _) dX1_mayFrom_51 ?_
    refine s_if_eq C (tgt := 67) (by decide) dX1_mayFrom_54 ?_ ?_
    · refine s_lconst C (by decide) dX1_mayFrom_67 ?_
      exact s_X1_mayFrom_68 B g t C R hK36
    · refine s_iload C dX1_mayFrom_57 ?_
      refine s_iload C dX1_mayFrom_59 ?_
      refine s_callS C (fr_ST_E B g t) (k_X1_bitOf B) gX1_mayFrom_X1_bitOf rfl (by decide +kernel) ⟨rfl, rfl⟩ (by decide) (cf_II_r _ _ _) dX1_mayFrom_61 ?_
      refine s_goto C (tgt := 68) (by decide) dX1_mayFrom_64 ?_
      exact s_X1_mayFrom_68 B g t C R hK36
def MPost (S0 : ET) (b : Int64) (T : TS) : Option Value → ET → Prop := fun o u => o = some (.long b) ∧ u = fsT S0 T
def I_m36 (g : Nat → Nat) (t : Nat) (S0 : ET) (a : Nat × TS) (K5 : PT ET) (n : Nat) (L : Lc) (st : List Value) (s : ET) : Prop := ∃ (i : Nat) (b : Int64), n + i = tPeople a.2 ∧ st = [] ∧ s = fsT S0 a.2 ∧ L = [some (.ref (g 16)), some (.ref (g t)), none, some (.long b), none, some (.int (nI a.1)), some (.int (sNeed (fS S0) (nI a.1))), some (.int (nI i))] ∧ K5 [some (.ref (g 16)), some (.ref (g t)), none, some (.long (mhP a.2 (nI a.1) (sNeed (fS S0) (nI a.1)) i n b)), none, some (.int (nI (a.1 + 1))), none, none] [] (fsT S0 a.2)
def J36 (g : Nat → Nat) (t : Nat) (S0 : ET) (K5 : PT ET) : PT ET := fun L st s => ∃ a, ∃ n, I_m36 g t S0 a K5 n L st s
theorem may36 {X : Cx} (B : Bx) (g : Nat → Nat) (t : Nat) (S0 : ET) {Post : Option Value → ET → Prop} (C : OkX X (gx B) cX1_mayFrom 8 wsX1_mayFrom RX1 (rmD 4)) (R : RtX X (gx B) (some .long) (encST B g t) Post) {K5 : PT ET} (hK5 : Snd X (gx B) 8 (encST B g t) 5 K5) : Snd X (gx B) 8 (encST B g t) 36 (J36 g t S0 K5) := by
  refine Snd.ex (fun a => snd_loop (fun K => bk_X1_mayFrom_36 g t Post K5 K) (I_m36 g t S0 a K5) (fun K hK => s_X1_mayFrom_36 B g t C R hK5 hK) ?_)
  obtain ⟨h, T⟩ := a
  rintro K n L st s ⟨i, b, hn, rfl, rfl, rfl, hr⟩ hK
  dsimp only at hn hr hK ⊢
  simp only [wIload, wAload, wLload, wK, wB, wDv, wU, wLB, wLU, wLS, wL2i, wLcmp, wIf1, wIf2, wKeep, wInc, wIst, wAst, wLst, wDup, wPop, wDup2, wGet, wPut, wPutZ, wIald, wLald, wIast, wLast, wLen, wRetI, wRetZ, wRetL, wRetA, wRetV, wM1, wM2, wCpy, wTab, tabW, nth, stL, stL2, dropL, keepL, mkL, padL, restOK, restOKn, tl_some, tl_none, id_eq, eq_self, true_and, and_true, bk_X1_mayFrom_0, bk_X1_mayFrom_5, bk_X1_mayFrom_68, bk_X1_mayFrom_36, F_X1_bitOf, F_X1_needOf, F_X2_mayHelpWith, F_X2_ofNeed, cf_II_e, cf_RII_e, cf_RI_e, fg_S_S, fg_S_T, fg_T_S, fg_T_T, fe_S, fo_S, fe_T, fo_T, fTPp, b2i_eq0]
  have hb := clamp_lt (tPp T)
  have hn' := hn
  unfold tPeople at hn'
  rcases Nat.lt_or_ge i (tPp T).toNatClampNeg with hlt | hge
  · have h1 : ¬ tPp T ≤ nI i := by rw [le_nI (by omega)]; omega
    obtain ⟨n, rfl⟩ : ∃ m, n = m + 1 := ⟨n - 1, by omega⟩
    rw [mhP_s] at hr
    have hc := hK n _ _ _ (by omega) ⟨i + 1, _, (by show n + (i + 1) = tPeople T; omega), rfl, rfl, rfl, hr⟩
    rw [← nI_1] at hc
    cases ho : tMayW T (nI i) (sNeed (fS S0) (nI h))
    · rw [ho, if_neg Bool.false_ne_true] at hc
      simp only [h1, ho, false_implies, true_implies, not_true_eq_false, not_false_eq_true, true_and, and_true, implies_true, eq_self, ne_eq, true_or, or_true, false_or, or_false, and_self]
      exact hc
    · rw [ho, if_pos rfl] at hc
      simp only [h1, ho, Bool.true_eq_false, false_implies, true_implies, not_true_eq_false, not_false_eq_true, true_and, and_true, implies_true, eq_self, ne_eq, true_or, or_true, false_or, or_false, and_self]
      exact hc
  · have h1 : tPp T ≤ nI i := (le_nI (by omega)).mpr hge
    have h0 : n = 0 := by omega
    subst h0
    have hr : K5 [some (.ref (g 16)), some (.ref (g t)), none, some (.long b), none, some (.int (nI (h + 1))), none, none] [] (fsT S0 T) := hr
    rw [← nI_1] at hr
    simp only [h1, false_implies, true_implies, not_true_eq_false, not_false_eq_true, true_and, and_true, implies_true, eq_self, ne_eq, true_or, or_true, false_or, or_false, and_self]
    exact hr
def I_m5 (g : Nat → Nat) (t : Nat) (S0 : ET) (fb : Int64) (fT : TS) (n : Nat) (L : Lc) (st : List Value) (s : ET) : Prop := ∃ (T : TS) (h : Nat) (b : Int64), h < 2000 ∧ n = sHands (fS S0) - h ∧ st = [] ∧ s = fsT S0 T ∧ L = [some (.ref (g 16)), some (.ref (g t)), none, some (.long b), none, some (.int (nI h)), none, none] ∧ mfT (fS S0) h n T = fT ∧ mfB (fS S0) h n T b = fb
theorem k_X1_mayFrom (B : Bx) (g : Nat → Nat) (t : Nat) : MtF (gx B) yX1_mayFrom wsX1_mayFrom (rmD 4) (encST B g t) (F_X1_mayFrom g t) := by
  refine cf_RRI_i (fun l S0 x hp => ?_)
  obtain ⟨⟨m, hm, hS⟩, a, ha, rfl⟩ := hp
  have hsh : sHands (fS S0) = m := by unfold sHands; rw [hS, nI_clamp (by omega)]
  generalize hfT : sMayT (fS S0) (fT S0) (nI a) = finT
  generalize hfB : sMayB (fS S0) (fT S0) (nI a) = finB
  refine Mt.of (P := bk_X1_mayFrom_0 g t (MPost S0 finB finT) (fun L st s => ∃ n, I_m5 g t S0 finB finT n L st s)) (by decide) rfl (Nat.le_of_ble_eq_true rfl) rfl (fun X C R => s_X1_mayFrom_0 B g t C R (snd_loop (fun K => bk_X1_mayFrom_5 g t (MPost S0 finB finT) (J36 g t S0 K)) (I_m5 g t S0 finB finT) (fun K hK => s_X1_mayFrom_5 B g t C R (may36 B g t S0 C R hK)) ?_)) ?_
  · rintro K n L st s ⟨T, h, b, hh, hn, rfl, rfl, rfl, hf1, hf2⟩ hK
    simp only [wIload, wAload, wLload, wK, wB, wDv, wU, wLB, wLU, wLS, wL2i, wLcmp, wIf1, wIf2, wKeep, wInc, wIst, wAst, wLst, wDup, wPop, wDup2, wGet, wPut, wPutZ, wIald, wLald, wIast, wLast, wLen, wRetI, wRetZ, wRetL, wRetA, wRetV, wM1, wM2, wCpy, wTab, tabW, nth, stL, stL2, dropL, keepL, mkL, padL, restOK, restOKn, tl_some, tl_none, id_eq, eq_self, true_and, and_true, bk_X1_mayFrom_0, bk_X1_mayFrom_5, bk_X1_mayFrom_68, bk_X1_mayFrom_36, F_X1_bitOf, F_X1_needOf, F_X2_mayHelpWith, F_X2_ofNeed, cf_II_e, cf_RII_e, cf_RI_e, fg_S_S, fg_S_T, fg_T_S, fg_T_T, fe_S, fo_S, fe_T, fo_T, MPost, fSHd, fsTYr]
    rw [hsh] at hn
    rcases Nat.lt_or_ge h m with hlt | hge
    · have h1 : ¬ eHd (fS S0) ≤ nI h := by rw [hS]; exact nI_ge (a := h) (b := m) (by omega) (by omega)
      obtain ⟨n, rfl⟩ : ∃ m, n = m + 1 := ⟨n - 1, by omega⟩
      rw [mfT_s] at hf1
      rw [mfB_s] at hf2
      simp only [h1, false_implies, true_implies, not_true_eq_false, not_false_eq_true, true_and, and_true, implies_true, eq_self, ne_eq, true_or, or_true, false_or, or_false, and_self]
      exact ⟨(h, sYr (fS S0) (nI h) T), tPeople (sYr (fS S0) (nI h) T), 0, b, Nat.add_zero _, rfl, rfl, rfl, hK n _ _ _ (by omega) ⟨_, h + 1, _, by omega, by omega, rfl, rfl, rfl, hf1, hf2⟩⟩
    · have h1 : eHd (fS S0) ≤ nI h := by rw [hS]; exact nI_le (a := m) (b := h) hge (by omega)
      have h0 : n = 0 := by omega
      subst h0
      have hf1 : T = finT := hf1
      have hf2 : b = finB := hf2
      subst hf1
      subst hf2
      simp only [h1, false_implies, true_implies, not_true_eq_false, not_false_eq_true, true_and, and_true, implies_true, eq_self, ne_eq, true_or, or_true, false_or, or_false, and_self]
  · simp only [wIload, wAload, wLload, wK, wB, wDv, wU, wLB, wLU, wLS, wL2i, wLcmp, wIf1, wIf2, wKeep, wInc, wIst, wAst, wLst, wDup, wPop, wDup2, wGet, wPut, wPutZ, wIald, wLald, wIast, wLast, wLen, wRetI, wRetZ, wRetL, wRetA, wRetV, wM1, wM2, wCpy, wTab, tabW, nth, stL, stL2, dropL, keepL, mkL, padL, restOK, restOKn, tl_some, tl_none, id_eq, eq_self, true_and, and_true, bk_X1_mayFrom_0, bk_X1_mayFrom_5, bk_X1_mayFrom_68, bk_X1_mayFrom_36, F_X1_bitOf, F_X1_needOf, F_X2_mayHelpWith, F_X2_ofNeed, cf_II_e, cf_RII_e, cf_RI_e]
    have c0 : (nI a).toNatClampNeg = a := nI_clamp (by omega)
    unfold sMayT at hfT
    unfold sMayB at hfB
    rw [c0] at hfT hfB
    exact ⟨_, fT S0, a, 0, by omega, rfl, rfl, (fe_T S0).symm, rfl, hfT, hfB⟩
end
