noncomputable section
/-- the best of those below p, and its price -/
def chF (T : TS) (rule n : Int32) : Nat → Int32 × Int32
  | 0 => (-9, 0)
  | p + 1 => if tMayW T (nI p) n && !tRuled T rule (nI p) n then (if (chF T rule n p).1 = -9 ∨ tPrice T rule (nI p) n < (chF T rule n p).2 then (nI p, tPrice T rule (nI p) n) else chF T rule n p) else chF T rule n p
def tPeople (T : TS) : Nat := (tPp T).toNatClampNeg
def cChose (ro : Nat → Int32) (N : Nat) (T : TS) (rule n : Int32) : Int32 := if rule = 5 then cTold ro N T n else (chF T rule n (tPeople T)).1
def F_X3_chosenBy (g : Nat → Nat) (t : Nat) : CF CS := cf_RRII (g 0) (g t) (fun _ _ n => isN n) (fun S r n => some (.int (cChose (cRo S) (rowN (cRl S)) (cT S) r n))) (fun S _ _ => S)
theorem inw_X3_chosenBy_X2 : ∀ w ∈ u_ws RX2 TX2 8, w ∈ wsX3_chosenBy := by decide +kernel
theorem inw_X3_chosenBy_X3 : ∀ w ∈ u_ws RX3 TX3 9, w ∈ wsX3_chosenBy := by decide +kernel
def bk_X3_chosenBy_0 (g : Nat → Nat) (t : Nat) (Post : Option Value → CS → Prop) (K22 : PT CS) (L : Lc) (st : List Value) (s : CS) : Prop :=
  (wIload 2 <| wK (.int 5) <| wIf2 (fun x y => x = y) (wAload 0 <| wAload 1 <| wIload 3 <| wCallR 3 (F_X3_firstToldOf g t) id (fun _ u => u) <| wRetI Post) (wK (.int (-9)) <| wIst 4 <| wK (.int 0) <| wIst 5 <| wK (.int 0) <| wIst 6 <| wKeep [false, true, true, true, true, true, true, false] K22)) L st s
set_option maxRecDepth 20000 in
theorem s_X3_chosenBy_0 {X : Cx} (B : Bx) (g : Nat → Nat) (t : Nat) {Post : Option Value → CS → Prop} (C : OkX X (gx B) cX3_chosenBy 8 wsX3_chosenBy RX3 (rmD 5)) (R : RtX X (gx B) (some .int) (encC B g t) Post) {K22 : PT CS} (hK22 : Snd X (gx B) 8 (encC B g t) 22 K22) : Snd X (gx B) 8 (encC B g t) 0 (bk_X3_chosenBy_0 g t Post K22) := by
  unfold bk_X3_chosenBy_0
  refine s_iload_n C rfl dX3_chosenBy_0 ?_
  refine s_iconst C (by decide) dX3_chosenBy_1 ?_
  refine s_icmp_ne C (tgt := 12) (by decide) dX3_chosenBy_2 ?_ ?_
  · refine s_bipush C (by decide) dX3_chosenBy_12 ?_
    refine s_istore C (by decide) dX3_chosenBy_14 ?_
    refine s_iconst C (by decide) dX3_chosenBy_16 ?_
    refine s_istore C (by decide) dX3_chosenBy_17 ?_
    refine s_iconst C (by decide) dX3_chosenBy_19 ?_
    refine s_istore C (by decide) dX3_chosenBy_20 ?_
    exact s_keep _ hK22
  · refine s_aload_n C rfl dX3_chosenBy_5 ?_
    refine s_aload_n C rfl dX3_chosenBy_6 ?_
    refine s_iload_n C rfl dX3_chosenBy_7 ?_
    refine s_callV C (fr_C_C B g t) (k_X3_firstToldOf B g t) gX3_chosenBy_X3_firstToldOf rfl (by decide +kernel) ⟨rfl, rfl⟩ (by decide) rfl (fun s => ⟨_, heC_0 B g t s⟩) (cf_RRI_r _ _ _ _ _) dX3_chosenBy_8 ?_
    exact s_iret C R dX3_chosenBy_11
def bk_X3_chosenBy_87 (g : Nat → Nat) (t : Nat) (Post : Option Value → CS → Prop) (K22 : PT CS) (L : Lc) (st : List Value) (s : CS) : Prop :=
  (wInc 6 1 <| wKeep [false, true, true, true, true, true, true, false] K22) L st s
set_option maxRecDepth 20000 in
theorem s_X3_chosenBy_87 {X : Cx} (B : Bx) (g : Nat → Nat) (t : Nat) {Post : Option Value → CS → Prop} (C : OkX X (gx B) cX3_chosenBy 8 wsX3_chosenBy RX3 (rmD 5)) (R : RtX X (gx B) (some .int) (encC B g t) Post) {K22 : PT CS} (hK22 : Snd X (gx B) 8 (encC B g t) 22 K22) : Snd X (gx B) 8 (encC B g t) 87 (bk_X3_chosenBy_87 g t Post K22) := by
  unfold bk_X3_chosenBy_87
  refine s_iinc C (by decide) (by decide) dX3_chosenBy_87 ?_
  refine s_goto C (tgt := 22) (by decide) dX3_chosenBy_90 ?_
  exact s_keep _ hK22
def bk_X3_chosenBy_79 (g : Nat → Nat) (t : Nat) (Post : Option Value → CS → Prop) (K22 : PT CS) (L : Lc) (st : List Value) (s : CS) : Prop :=
  (wIload 7 <| wIst 5 <| wIload 6 <| wIst 4 <| bk_X3_chosenBy_87 g t Post K22) L st s
set_option maxRecDepth 20000 in
theorem s_X3_chosenBy_79 {X : Cx} (B : Bx) (g : Nat → Nat) (t : Nat) {Post : Option Value → CS → Prop} (C : OkX X (gx B) cX3_chosenBy 8 wsX3_chosenBy RX3 (rmD 5)) (R : RtX X (gx B) (some .int) (encC B g t) Post) {K22 : PT CS} (hK22 : Snd X (gx B) 8 (encC B g t) 22 K22) : Snd X (gx B) 8 (encC B g t) 79 (bk_X3_chosenBy_79 g t Post K22) := by
  unfold bk_X3_chosenBy_79
  refine s_iload C dX3_chosenBy_79 ?_
  refine s_istore C (by decide) dX3_chosenBy_81 ?_
  refine s_iload C dX3_chosenBy_83 ?_
  refine s_istore C (by decide) dX3_chosenBy_85 ?_
  exact s_X3_chosenBy_87 B g t C R hK22
def bk_X3_chosenBy_22 (g : Nat → Nat) (t : Nat) (Post : Option Value → CS → Prop) (K22 : PT CS) (L : Lc) (st : List Value) (s : CS) : Prop :=
  (wIload 6 <| wAload 1 <| wGet (g t) (fun s => .int (cTPp s)) <| wIf2 (fun x y => y ≤ x) (wIload 4 <| wRetI Post) (wAload 1 <| wIload 6 <| wIload 3 <| wCallR 3 (F_X2_mayHelpWith g t) cT csT <| wIf1 (fun x => x = 0) (bk_X3_chosenBy_87 g t Post K22) (wAload 1 <| wIload 2 <| wIload 6 <| wIload 3 <| wCallR 4 (F_X3_isRuledOut g t) cT csT <| wIf1 (fun x => x = 0) (wAload 1 <| wIload 2 <| wIload 6 <| wIload 3 <| wCallR 4 (F_X3_priceBy g t) cT csT <| wIst 7 <| wIload 4 <| wK (.int (-9)) <| wIf2 (fun x y => x = y) (bk_X3_chosenBy_79 g t Post K22) (wIload 7 <| wIload 5 <| wIf2 (fun x y => y ≤ x) (bk_X3_chosenBy_87 g t Post K22) (bk_X3_chosenBy_79 g t Post K22))) (bk_X3_chosenBy_87 g t Post K22)))) L st s
set_option maxRecDepth 20000 in
theorem s_X3_chosenBy_22 {X : Cx} (B : Bx) (g : Nat → Nat) (t : Nat) {Post : Option Value → CS → Prop} (C : OkX X (gx B) cX3_chosenBy 8 wsX3_chosenBy RX3 (rmD 5)) (R : RtX X (gx B) (some .int) (encC B g t) Post) {K22 : PT CS} (hK22 : Snd X (gx B) 8 (encC B g t) 22 K22) : Snd X (gx B) 8 (encC B g t) 22 (bk_X3_chosenBy_22 g t Post K22) := by
  unfold bk_X3_chosenBy_22
  refine s_iload C dX3_chosenBy_22 ?_
  refine s_aload_n C rfl dX3_chosenBy_24 ?_
  refine s_get C inw_X3_chosenBy_X2 rfl (k := 1) (by decide) (by decide +kernel) (heC_2 B g t) (fun _ => rfl) dX3_chosenBy_25 ?_
  refine s_icmp_ge C (tgt := 93) (by decide) dX3_chosenBy_28 ?_ ?_
  · refine s_iload C dX3_chosenBy_93 ?_
    exact s_iret C R dX3_chosenBy_95
  · refine s_aload_n C rfl dX3_chosenBy_31 ?_
    refine s_iload C dX3_chosenBy_32 ?_
    refine s_iload_n C rfl dX3_chosenBy_34 ?_
    refine s_callV C (fr_C_T B g t) (k_X2_mayHelpWith B g t) gX3_chosenBy_X2_mayHelpWith rfl (by decide +kernel) ⟨rfl, rfl⟩ (by decide) rfl (fun s => ⟨_, heC_2 B g t s⟩) (cf_RII_r _ _ _ _) dX3_chosenBy_35 ?_
    refine s_if_eq C (tgt := 87) (by decide) dX3_chosenBy_38 ?_ ?_
    · exact s_X3_chosenBy_87 B g t C R hK22
    · refine s_aload_n C rfl dX3_chosenBy_41 ?_
      refine s_iload_n C rfl dX3_chosenBy_42 ?_
      refine s_iload C dX3_chosenBy_43 ?_
      refine s_iload_n C rfl dX3_chosenBy_45 ?_
      refine s_callS C (fr_C_T B g t) (k_X3_isRuledOut B g t) gX3_chosenBy_X3_isRuledOut rfl (by decide +kernel) ⟨rfl, rfl⟩ (by decide) (cf_RIII_q _ _ _ _) dX3_chosenBy_46 ?_
      refine s_if_eq C (tgt := 55) (by decide) dX3_chosenBy_49 ?_ ?_
      · refine s_aload_n C rfl dX3_chosenBy_55 ?_
        refine s_iload_n C rfl dX3_chosenBy_56 ?_
        refine s_iload C dX3_chosenBy_57 ?_
        refine s_iload_n C rfl dX3_chosenBy_59 ?_
        refine s_callS C (fr_C_T B g t) (k_X3_priceBy B g t) gX3_chosenBy_X3_priceBy rfl (by decide +kernel) ⟨rfl, rfl⟩ (by decide) (cf_RIII_q _ _ _ _) dX3_chosenBy_60 ?_
        refine s_istore C (by decide) dX3_chosenBy_63 ?_
        refine s_iload C dX3_chosenBy_65 ?_
        refine s_bipush C (by decide) dX3_chosenBy_67 ?_
        refine s_icmp_eq C (tgt := 79) (by decide) dX3_chosenBy_69 ?_ ?_
        · exact s_X3_chosenBy_79 B g t C R hK22
        · refine s_iload C dX3_chosenBy_72 ?_
          refine s_iload C dX3_chosenBy_74 ?_
          refine s_icmp_ge C (tgt := 87) (by decide) dX3_chosenBy_76 ?_ ?_
          · exact s_X3_chosenBy_87 B g t C R hK22
          · exact s_X3_chosenBy_79 B g t C R hK22
      · refine s_goto C (tgt := 87) (by decide) dX3_chosenBy_52 ?_
        exact s_X3_chosenBy_87 B g t C R hK22
def I_chosen (g : Nat → Nat) (t : Nat) (S : CS) (r q : Int32) (n : Nat) (L : Lc) (st : List Value) (s : CS) : Prop := ∃ k, n + k = tPeople (cT S) ∧ st = [] ∧ s = S ∧ L = [none, some (.ref (g t)), some (.int r), some (.int q), some (.int (chF (cT S) r q k).1), some (.int (chF (cT S) r q k).2), some (.int (nI k)), none]
theorem k_X3_chosenBy (B : Bx) (g : Nat → Nat) (t : Nat) : MtF (gx B) yX3_chosenBy wsX3_chosenBy (rmD 5) (encC B g t) (F_X3_chosenBy g t) := by
  refine cf_RRII_i (fun l S r q hq => Mt.of (P := bk_X3_chosenBy_0 g t _ (fun L st s => ¬ r = 5 ∧ ∃ n, I_chosen g t S r q n L st s)) (by decide) rfl (Nat.le_of_ble_eq_true rfl) rfl (fun X C R => s_X3_chosenBy_0 B g t C R (Snd.imp (fun hr => snd_loop _ (I_chosen g t S r q) (fun K hK => s_X3_chosenBy_22 B g t C R hK) ?_))) ?_)
  · rintro K n L st S' ⟨k, hk, rfl, rfl, rfl⟩ hK
    simp only [wIload, wAload, wLload, wK, wB, wDv, wU, wLB, wLU, wLS, wL2i, wLcmp, wIf1, wIf2, wKeep, wInc, wIst, wAst, wLst, wDup, wPop, wDup2, wGet, wPut, wPutZ, wIald, wLald, wIast, wLast, wLen, wRetI, wRetZ, wRetL, wRetA, wRetV, wM1, wM2, wCpy, wTab, tabW, nth, stL, stL2, dropL, keepL, mkL, padL, restOK, restOKn, tl_some, tl_none, id_eq, eq_self, true_and, and_true, bk_X3_chosenBy_0, bk_X3_chosenBy_87, bk_X3_chosenBy_79, bk_X3_chosenBy_22, F_X2_mayHelpWith, F_X3_firstToldOf, F_X3_isRuledOut, F_X3_priceBy, cf_RIII_e, cf_RII_e, cf_RRI_e, b2i_eq0, ce_T, cTPp]
    have hb := clamp_lt (tPp (cT S'))
    unfold tPeople at hk
    rcases Nat.lt_or_ge k (tPp (cT S')).toNatClampNeg with hlt | hge
    · have h1 : ¬ tPp (cT S') ≤ nI k := by rw [le_nI (by omega)]; omega
      have hc := hK (n - 1) _ _ _ (by omega) ⟨k + 1, by unfold tPeople; omega, rfl, rfl, rfl⟩
      rw [← nI_1] at hc
      simp only [chF] at hc
      cases ho : tMayW (cT S') (nI k) q
      · simp only [h1, ho, Bool.false_and, false_implies, true_implies, not_true_eq_false, not_false_eq_true, true_and, and_true, implies_true, eq_self, ne_eq, true_or, or_true, false_or, or_false, and_self]
        simpa [ho] using hc
      · cases hr2 : tRuled (cT S') r (nI k) q
        · by_cases h5 : (chF (cT S') r q k).1 = -9
          · simp only [h1, ho, hr2, h5, hq, Bool.true_eq_false, false_implies, true_implies, not_true_eq_false, not_false_eq_true, true_and, and_true, implies_true, eq_self, ne_eq, true_or, or_true, false_or, or_false, and_self]
            simpa [ho, hr2, h5] using hc
          · by_cases h6 : tPrice (cT S') r (nI k) q < (chF (cT S') r q k).2
            · have h6' : ¬ (chF (cT S') r q k).2 ≤ tPrice (cT S') r (nI k) q := Int32.not_le.mpr h6
              simp only [h1, ho, hr2, h5, h6', hq, Bool.true_eq_false, false_implies, true_implies, not_true_eq_false, not_false_eq_true, true_and, and_true, implies_true, eq_self, ne_eq, true_or, or_true, false_or, or_false, and_self]
              simpa [ho, hr2, h5, h6] using hc
            · have h6' : (chF (cT S') r q k).2 ≤ tPrice (cT S') r (nI k) q := Int32.not_lt.mp h6
              simp only [h1, ho, hr2, h5, h6', hq, Bool.true_eq_false, false_implies, true_implies, not_true_eq_false, not_false_eq_true, true_and, and_true, implies_true, eq_self, ne_eq, true_or, or_true, false_or, or_false, and_self]
              rw [if_pos (by simp [ho, hr2]), if_neg (fun z => z.elim h5 h6)] at hc
              exact hc
        · simp only [h1, ho, hr2, hq, Bool.true_eq_false, false_implies, true_implies, not_true_eq_false, not_false_eq_true, true_and, and_true, implies_true, eq_self, ne_eq, true_or, or_true, false_or, or_false, and_self]
          simpa [ho, hr2] using hc
    · have h1 : tPp (cT S') ≤ nI k := (le_nI (by omega)).mpr hge
      have h2 : k = tPeople (cT S') := by unfold tPeople; omega
      simp only [h1, false_implies, true_implies, not_true_eq_false, not_false_eq_true, true_and, and_true, implies_true, eq_self, ne_eq, true_or, or_true, false_or, or_false, and_self]
      unfold cChose
      rw [if_neg hr, h2]
  · simp only [wIload, wAload, wLload, wK, wB, wDv, wU, wLB, wLU, wLS, wL2i, wLcmp, wIf1, wIf2, wKeep, wInc, wIst, wAst, wLst, wDup, wPop, wDup2, wGet, wPut, wPutZ, wIald, wLald, wIast, wLast, wLen, wRetI, wRetZ, wRetL, wRetA, wRetV, wM1, wM2, wCpy, wTab, tabW, nth, stL, stL2, dropL, keepL, mkL, padL, restOK, restOKn, tl_some, tl_none, id_eq, eq_self, true_and, and_true, bk_X3_chosenBy_0, bk_X3_chosenBy_87, bk_X3_chosenBy_79, bk_X3_chosenBy_22, F_X2_mayHelpWith, F_X3_firstToldOf, F_X3_isRuledOut, F_X3_priceBy, cf_RIII_e, cf_RII_e, cf_RRI_e]
    refine ⟨fun h5 => by unfold cChose; rw [if_pos h5], fun h5 => ⟨h5, tPeople (cT S), 0, by omega, rfl, rfl, rfl⟩⟩
end
