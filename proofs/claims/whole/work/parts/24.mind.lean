noncomputable section
theorem tPp_putN (T : TS) (p k v : Int32) : tPp (tPutN T p k v) = tPp T := by unfold tPutN; split <;> rfl
theorem tPp_write (T : TS) (a b c d : Int32) : tPp (tWrite T a b c d) = tPp T := by unfold tWrite; split <;> rfl
theorem tPp_do (T : TS) (p n : Int32) : tPp (tDo T p n) = tPp T := by unfold tDo; rw [tPp_putN, tPp_write]
theorem tPp_only (T : TS) (a b c : Int32) : tPp (tOnly T a b c) = tPp T := by unfold tOnly; simp only [tPp_putN]; rfl
def ahF (ro : Nat → Int32) (N : Nat) (rule help : Int32) : Nat → Nat → TS → Bool × TS
  | _, 0, T => (true, T)
  | k, m + 1, T => if cChose ro N (tOnly T (nI k) help 5) rule 0 < 0 then (false, tOnly T (nI k) help 5) else ahF ro N rule help (k + 1) m (tDo (tOnly T (nI k) help 5) (cChose ro N (tOnly T (nI k) help 5) rule 0) 0)
theorem ahF_s (ro : Nat → Int32) (N : Nat) (rule help : Int32) (k m : Nat) (T : TS) : ahF ro N rule help k (m + 1) T = if cChose ro N (tOnly T (nI k) help 5) rule 0 < 0 then (false, tOnly T (nI k) help 5) else ahF ro N rule help (k + 1) m (tDo (tOnly T (nI k) help 5) (cChose ro N (tOnly T (nI k) help 5) rule 0) 0) := rfl
def F_X3_allAreHelped (g : Nat → Nat) (t : Nat) : CF CS := cf_RRII (g 0) (g t) (fun _ _ _ => True) (fun S r h => some (.int (b2i (ahF (cRo S) (rowN (cRl S)) r h 0 (tPeople (cT S)) (cT S)).1))) (fun S r h => csT S (ahF (cRo S) (rowN (cRl S)) r h 0 (tPeople (cT S)) (cT S)).2)
theorem inw_X3_allAreHelped_X2 : ∀ w ∈ u_ws RX2 TX2 8, w ∈ wsX3_allAreHelped := by decide +kernel
theorem inw_X3_allAreHelped_X3 : ∀ w ∈ u_ws RX3 TX3 9, w ∈ wsX3_allAreHelped := by decide +kernel
def bk_X3_allAreHelped_0 (g : Nat → Nat) (t : Nat) (Post : Option Value → CS → Prop) (K3 : PT CS) (L : Lc) (st : List Value) (s : CS) : Prop :=
  (wK (.int 0) <| wIst 4 <| wKeep [true, true, true, true, true, false] K3) L st s
set_option maxRecDepth 20000 in
theorem s_X3_allAreHelped_0 {X : Cx} (B : Bx) (g : Nat → Nat) (t : Nat) {Post : Option Value → CS → Prop} (C : OkX X (gx B) cX3_allAreHelped 6 wsX3_allAreHelped RX3 (rmD 6)) (R : RtX X (gx B) (some .boolean) (encC B g t) Post) {K3 : PT CS} (hK3 : Snd X (gx B) 6 (encC B g t) 3 K3) : Snd X (gx B) 6 (encC B g t) 0 (bk_X3_allAreHelped_0 g t Post K3) := by
  unfold bk_X3_allAreHelped_0
  refine s_iconst C (by decide) dX3_allAreHelped_0 ?_
  refine s_istore C (by decide) dX3_allAreHelped_1 ?_
  exact s_keep _ hK3
def bk_X3_allAreHelped_3 (g : Nat → Nat) (t : Nat) (Post : Option Value → CS → Prop) (K3 : PT CS) (L : Lc) (st : List Value) (s : CS) : Prop :=
  (wIload 4 <| wAload 1 <| wGet (g t) (fun s => .int (cTPp s)) <| wIf2 (fun x y => y ≤ x) (wK (.int 1) <| wRetZ Post) (wAload 1 <| wIload 4 <| wIload 3 <| wK (.int 5) <| wCallR 4 (F_X2_putOnlyNeed g t) cT csT <| wAload 0 <| wAload 1 <| wIload 2 <| wK (.int 0) <| wCallR 4 (F_X3_chosenBy g t) id (fun _ u => u) <| wIst 5 <| wIload 5 <| wIf1 (fun x => 0 ≤ x) (wAload 1 <| wIload 5 <| wK (.int 0) <| wCallR 3 (F_X2_doHelp g t) cT csT <| wInc 4 1 <| wKeep [true, true, true, true, true, false] K3) (wK (.int 0) <| wRetZ Post))) L st s
set_option maxRecDepth 20000 in
theorem s_X3_allAreHelped_3 {X : Cx} (B : Bx) (g : Nat → Nat) (t : Nat) {Post : Option Value → CS → Prop} (C : OkX X (gx B) cX3_allAreHelped 6 wsX3_allAreHelped RX3 (rmD 6)) (R : RtX X (gx B) (some .boolean) (encC B g t) Post) {K3 : PT CS} (hK3 : Snd X (gx B) 6 (encC B g t) 3 K3) : Snd X (gx B) 6 (encC B g t) 3 (bk_X3_allAreHelped_3 g t Post K3) := by
  unfold bk_X3_allAreHelped_3
  refine s_iload C dX3_allAreHelped_3 ?_
  refine s_aload_n C rfl dX3_allAreHelped_5 ?_
  refine s_get C inw_X3_allAreHelped_X2 rfl (k := 1) (by decide) (by decide +kernel) (heC_2 B g t) (fun _ => rfl) dX3_allAreHelped_6 ?_
  refine s_icmp_ge C (tgt := 49) (by decide) dX3_allAreHelped_9 ?_ ?_
  · refine s_iconst C (by decide) dX3_allAreHelped_49 ?_
    exact s_zret C R dX3_allAreHelped_50
  · refine s_aload_n C rfl dX3_allAreHelped_12 ?_
    refine s_iload C dX3_allAreHelped_13 ?_
    refine s_iload_n C rfl dX3_allAreHelped_15 ?_
    refine s_iconst C (by decide) dX3_allAreHelped_16 ?_
    refine s_callV C (fr_C_T B g t) (k_X2_putOnlyNeed B g t) gX3_allAreHelped_X2_putOnlyNeed rfl (by decide +kernel) ⟨rfl, rfl⟩ (by decide) rfl (fun s => ⟨_, heC_2 B g t s⟩) (cf_RIII_r _ _ _ _) dX3_allAreHelped_17 ?_
    refine s_aload_n C rfl dX3_allAreHelped_20 ?_
    refine s_aload_n C rfl dX3_allAreHelped_21 ?_
    refine s_iload_n C rfl dX3_allAreHelped_22 ?_
    refine s_iconst C (by decide) dX3_allAreHelped_23 ?_
    refine s_callV C (fr_C_C B g t) (k_X3_chosenBy B g t) gX3_allAreHelped_X3_chosenBy rfl (by decide +kernel) ⟨rfl, rfl⟩ (by decide) rfl (fun s => ⟨_, heC_0 B g t s⟩) (cf_RRII_r _ _ _ _ _) dX3_allAreHelped_24 ?_
    refine s_istore C (by decide) dX3_allAreHelped_27 ?_
    refine s_iload C dX3_allAreHelped_29 ?_
    refine s_if_ge C (tgt := 36) (by decide) dX3_allAreHelped_31 ?_ ?_
    · refine s_aload_n C rfl dX3_allAreHelped_36 ?_
      refine s_iload C dX3_allAreHelped_37 ?_
      refine s_iconst C (by decide) dX3_allAreHelped_39 ?_
      refine s_callV C (fr_C_T B g t) (k_X2_doHelp B g t) gX3_allAreHelped_X2_doHelp rfl (by decide +kernel) ⟨rfl, rfl⟩ (by decide) rfl (fun s => ⟨_, heC_2 B g t s⟩) (cf_RII_r _ _ _ _) dX3_allAreHelped_40 ?_
      refine s_iinc C (by decide) (by decide) dX3_allAreHelped_43 ?_
      refine s_goto C (tgt := 3) (by decide) dX3_allAreHelped_46 ?_
      exact s_keep _ hK3
    · refine s_iconst C (by decide) dX3_allAreHelped_34 ?_
      exact s_zret C R dX3_allAreHelped_35
def I_all (g : Nat → Nat) (t : Nat) (S : CS) (r h : Int32) (fin : Bool × TS) (n : Nat) (L : Lc) (st : List Value) (s : CS) : Prop := ∃ (T : TS) (k : Nat), n + k = tPeople T ∧ st = [] ∧ s = csT S T ∧ L = [some (.ref (g 0)), some (.ref (g t)), some (.int r), some (.int h), some (.int (nI k)), none] ∧ ahF (cRo S) (rowN (cRl S)) r h k n T = fin
theorem k_X3_allAreHelped (B : Bx) (g : Nat → Nat) (t : Nat) : MtF (gx B) yX3_allAreHelped wsX3_allAreHelped (rmD 6) (encC B g t) (F_X3_allAreHelped g t) := by
  refine cf_RRII_i (fun l S r h _ => ?_)
  generalize hfin : ahF (cRo S) (rowN (cRl S)) r h 0 (tPeople (cT S)) (cT S) = fin
  refine Mt.of (P := bk_X3_allAreHelped_0 g t _ (fun L st s => ∃ n, I_all g t S r h fin n L st s)) (by decide) rfl (Nat.le_of_ble_eq_true rfl) rfl (fun X C R => s_X3_allAreHelped_0 B g t C R (snd_loop _ (I_all g t S r h fin) (fun K hK => s_X3_allAreHelped_3 B g t C R hK) ?_)) ?_
  · rintro K n L st s ⟨T, k, hn, rfl, rfl, rfl, hf⟩ hK
    simp only [wIload, wAload, wLload, wK, wB, wDv, wU, wLB, wLU, wLS, wL2i, wLcmp, wIf1, wIf2, wKeep, wInc, wIst, wAst, wLst, wDup, wPop, wDup2, wGet, wPut, wPutZ, wIald, wLald, wIast, wLast, wLen, wRetI, wRetZ, wRetL, wRetA, wRetV, wM1, wM2, wCpy, wTab, tabW, nth, stL, stL2, dropL, keepL, mkL, padL, restOK, restOKn, tl_some, tl_none, id_eq, eq_self, true_and, and_true, bk_X3_allAreHelped_0, bk_X3_allAreHelped_3, F_X2_doHelp, F_X2_putOnlyNeed, F_X3_chosenBy, cf_RIII_e, cf_RII_e, cf_RRII_e, cg_Im_Im, cg_Im_Ro, cg_Im_Rl, cg_Im_T, cg_Ro_Im, cg_Ro_Ro, cg_Ro_Rl, cg_Ro_T, cg_Rl_Im, cg_Rl_Ro, cg_Rl_Rl, cg_Rl_T, cg_T_Im, cg_T_Ro, cg_T_Rl, cg_T_T, ce_Im, co_Im, ce_Ro, co_Ro, ce_Rl, co_Rl, ce_T, co_T, cTPp, isN]
    have hb := clamp_lt (tPp T)
    have hN : ∃ k, k + 1 < 2 ^ 31 ∧ (0 : Int32) = nI k := ⟨0, by decide, rfl⟩
    unfold tPeople at hn
    rcases Nat.lt_or_ge k (tPp T).toNatClampNeg with hlt | hge
    · have h1 : ¬ tPp T ≤ nI k := by rw [le_nI (by omega)]; omega
      obtain ⟨n, rfl⟩ : ∃ m, n = m + 1 := ⟨n - 1, by omega⟩
      rw [ahF_s] at hf
      by_cases h2 : cChose (cRo S) (rowN (cRl S)) (tOnly T (nI k) h 5) r 0 < 0
      · rw [if_pos h2] at hf
        subst hf
        have h3 : ¬ 0 ≤ cChose (cRo S) (rowN (cRl S)) (tOnly T (nI k) h 5) r 0 := Int32.not_le.mpr h2
        simp only [h1, h3, hN, b2i_f, false_implies, true_implies, not_true_eq_false, not_false_eq_true, true_and, and_true, implies_true, eq_self, ne_eq, true_or, or_true, false_or, or_false, and_self]
      · rw [if_neg h2] at hf
        have h3 : 0 ≤ cChose (cRo S) (rowN (cRl S)) (tOnly T (nI k) h 5) r 0 := Int32.not_lt.mp h2
        simp only [h1, h3, hN, false_implies, true_implies, not_true_eq_false, not_false_eq_true, true_and, and_true, implies_true, eq_self, ne_eq, true_or, or_true, false_or, or_false, and_self]
        refine hK n _ _ _ (by omega) ⟨_, k + 1, ?_, rfl, rfl, ?_, hf⟩
        · unfold tPeople
          rw [tPp_do, tPp_only]
          omega
        · rw [nI_1]
    · have h1 : tPp T ≤ nI k := (le_nI (by omega)).mpr hge
      have h0 : n = 0 := by omega
      subst h0
      have hf : (true, T) = fin := hf
      subst hf
      simp only [h1, b2i_t, false_implies, true_implies, not_true_eq_false, not_false_eq_true, true_and, and_true, implies_true, eq_self, ne_eq, true_or, or_true, false_or, or_false, and_self]
  · simp only [wIload, wAload, wLload, wK, wB, wDv, wU, wLB, wLU, wLS, wL2i, wLcmp, wIf1, wIf2, wKeep, wInc, wIst, wAst, wLst, wDup, wPop, wDup2, wGet, wPut, wPutZ, wIald, wLald, wIast, wLast, wLen, wRetI, wRetZ, wRetL, wRetA, wRetV, wM1, wM2, wCpy, wTab, tabW, nth, stL, stL2, dropL, keepL, mkL, padL, restOK, restOKn, tl_some, tl_none, id_eq, eq_self, true_and, and_true, bk_X3_allAreHelped_0, bk_X3_allAreHelped_3, F_X2_doHelp, F_X2_putOnlyNeed, F_X3_chosenBy, cf_RIII_e, cf_RII_e, cf_RRII_e]
    exact ⟨_, cT S, 0, rfl, rfl, rfl, rfl, hfin⟩
def sdT (T : TS) (z : Int32) : TS := tOnly T (if 0 < tPp T then drawF (nxSeed z) (tPp T) else 0) (drawF (nxSeed (nxSeed z)) 4) (1 + drawF (nxSeed (nxSeed (nxSeed z))) 9)
def sdY (k : Nat) (T : TS) : TS := if nI k - nI k / 3 * 3 = 2 then tsYr T (tYr T + 1) else T
/-- seed, sum, town -/
def sdF (ro : Nat → Int32) (N : Nat) (rule : Int32) : Nat → Nat → Int32 → Int32 → TS → Int32 × TS
  | _, 0, _, sm, T => (sm, T)
  | k, m + 1, z, sm, T => if cChose ro N (sdT T z) rule 0 < 0 then sdF ro N rule (k + 1) m (nxSeed (nxSeed (nxSeed z))) sm (sdY k (sdT T z))
      else sdF ro N rule (k + 1) m (nxSeed (nxSeed (nxSeed z))) (sm + tGood (sdT T z) (cChose ro N (sdT T z) rule 0) 0) (sdY k (tDo (sdT T z) (cChose ro N (sdT T z) rule 0) 0))
theorem sdF_s (ro : Nat → Int32) (N : Nat) (rule : Int32) (k m : Nat) (z sm : Int32) (T : TS) : sdF ro N rule k (m + 1) z sm T = if cChose ro N (sdT T z) rule 0 < 0 then sdF ro N rule (k + 1) m (nxSeed (nxSeed (nxSeed z))) sm (sdY k (sdT T z))
      else sdF ro N rule (k + 1) m (nxSeed (nxSeed (nxSeed z))) (sm + tGood (sdT T z) (cChose ro N (sdT T z) rule 0) 0) (sdY k (tDo (sdT T z) (cChose ro N (sdT T z) rule 0) 0)) := rfl
def F_X3_seededSum (g : Nat → Nat) (t : Nat) : CF CS := cf_RRIII (g 0) (g t) (fun _ _ _ _ => True) (fun S r y z => some (.int (sdF (cRo S) (rowN (cRl S)) r 0 (y * 3).toNatClampNeg z 0 (cT S)).1)) (fun S r y z => csT S (sdF (cRo S) (rowN (cRl S)) r 0 (y * 3).toNatClampNeg z 0 (cT S)).2)
theorem inw_X3_seededSum_X2 : ∀ w ∈ u_ws RX2 TX2 8, w ∈ wsX3_seededSum := by decide +kernel
theorem inw_X3_seededSum_X3 : ∀ w ∈ u_ws RX3 TX3 9, w ∈ wsX3_seededSum := by decide +kernel
def bk_X3_seededSum_0 (g : Nat → Nat) (t : Nat) (Post : Option Value → CS → Prop) (K10 : PT CS) (L : Lc) (st : List Value) (s : CS) : Prop :=
  (wIload 4 <| wIst 5 <| wK (.int 0) <| wIst 6 <| wK (.int 0) <| wIst 7 <| wKeep [true, true, true, true, false, true, true, true, false, false, false] K10) L st s
set_option maxRecDepth 20000 in
theorem s_X3_seededSum_0 {X : Cx} (B : Bx) (g : Nat → Nat) (t : Nat) {Post : Option Value → CS → Prop} (C : OkX X (gx B) cX3_seededSum 11 wsX3_seededSum RX3 (rmD 6)) (R : RtX X (gx B) (some .int) (encC B g t) Post) {K10 : PT CS} (hK10 : Snd X (gx B) 11 (encC B g t) 10 K10) : Snd X (gx B) 11 (encC B g t) 0 (bk_X3_seededSum_0 g t Post K10) := by
  unfold bk_X3_seededSum_0
  refine s_iload C dX3_seededSum_0 ?_
  refine s_istore C (by decide) dX3_seededSum_2 ?_
  refine s_iconst C (by decide) dX3_seededSum_4 ?_
  refine s_istore C (by decide) dX3_seededSum_5 ?_
  refine s_iconst C (by decide) dX3_seededSum_7 ?_
  refine s_istore C (by decide) dX3_seededSum_8 ?_
  exact s_keep _ hK10
def bk_X3_seededSum_126 (g : Nat → Nat) (t : Nat) (Post : Option Value → CS → Prop) (K10 : PT CS) (L : Lc) (st : List Value) (s : CS) : Prop :=
  (wInc 7 1 <| wKeep [true, true, true, true, false, true, true, true, false, false, false] K10) L st s
set_option maxRecDepth 20000 in
theorem s_X3_seededSum_126 {X : Cx} (B : Bx) (g : Nat → Nat) (t : Nat) {Post : Option Value → CS → Prop} (C : OkX X (gx B) cX3_seededSum 11 wsX3_seededSum RX3 (rmD 6)) (R : RtX X (gx B) (some .int) (encC B g t) Post) {K10 : PT CS} (hK10 : Snd X (gx B) 11 (encC B g t) 10 K10) : Snd X (gx B) 11 (encC B g t) 126 (bk_X3_seededSum_126 g t Post K10) := by
  unfold bk_X3_seededSum_126
  refine s_iinc C (by decide) (by decide) dX3_seededSum_126 ?_
  refine s_goto C (tgt := 10) (by decide) dX3_seededSum_129 ?_
  exact s_keep _ hK10
def bk_X3_seededSum_108 (g : Nat → Nat) (t : Nat) (Post : Option Value → CS → Prop) (K10 : PT CS) (L : Lc) (st : List Value) (s : CS) : Prop :=
  (wIload 7 <| wK (.int 3) <| wDv (fun x y => x - x / y * y) <| wK (.int 2) <| wIf2 (fun x y => x = y) (wAload 1 <| wDup <| wGet (g t) (fun s => .int (cTYr s)) <| wK (.int 1) <| wB (fun x y => x + y) <| wPut (g t) csTYr <| bk_X3_seededSum_126 g t Post K10) (bk_X3_seededSum_126 g t Post K10)) L st s
set_option maxRecDepth 20000 in
theorem s_X3_seededSum_108 {X : Cx} (B : Bx) (g : Nat → Nat) (t : Nat) {Post : Option Value → CS → Prop} (C : OkX X (gx B) cX3_seededSum 11 wsX3_seededSum RX3 (rmD 6)) (R : RtX X (gx B) (some .int) (encC B g t) Post) {K10 : PT CS} (hK10 : Snd X (gx B) 11 (encC B g t) 10 K10) : Snd X (gx B) 11 (encC B g t) 108 (bk_X3_seededSum_108 g t Post K10) := by
  unfold bk_X3_seededSum_108
  refine s_iload C dX3_seededSum_108 ?_
  refine s_iconst C (by decide) dX3_seededSum_110 ?_
  refine s_irem C dX3_seededSum_111 ?_
  refine s_iconst C (by decide) dX3_seededSum_112 ?_
  refine s_icmp_ne C (tgt := 126) (by decide) dX3_seededSum_113 ?_ ?_
  · exact s_X3_seededSum_126 B g t C R hK10
  · refine s_aload_n C rfl dX3_seededSum_116 ?_
    refine s_dup C dX3_seededSum_117 ?_
    refine s_get C inw_X3_seededSum_X2 rfl (k := 7) (by decide) (by decide +kernel) (heC_2 B g t) (fun _ => rfl) dX3_seededSum_118 ?_
    refine s_iconst C (by decide) dX3_seededSum_121 ?_
    refine s_iadd C dX3_seededSum_122 ?_
    refine s_put C inw_X3_seededSum_X2 rfl (k := 7) (by decide) (by decide +kernel) tyX2_ok nmX2 (by decide +kernel) (by decide +kernel) (heC_2 B g t) (fun _ => Nat.le_of_ble_eq_true rfl) (fun _ _ => rfl) dX3_seededSum_123 ?_
    exact s_X3_seededSum_126 B g t C R hK10
def bk_X3_seededSum_10 (g : Nat → Nat) (t : Nat) (Post : Option Value → CS → Prop) (K10 : PT CS) (L : Lc) (st : List Value) (s : CS) : Prop :=
  (wIload 7 <| wIload 3 <| wK (.int 3) <| wB (fun x y => x * y) <| wIf2 (fun x y => y ≤ x) (wIload 6 <| wRetI Post) (wIload 5 <| wCallR 1 (F_X3_nextSeed) (fun _ => ()) (fun s _ => s) <| wIst 5 <| wIload 5 <| wAload 1 <| wGet (g t) (fun s => .int (cTPp s)) <| wCallR 2 (F_X3_draw) (fun _ => ()) (fun s _ => s) <| wIst 8 <| wIload 5 <| wCallR 1 (F_X3_nextSeed) (fun _ => ()) (fun s _ => s) <| wIst 5 <| wIload 5 <| wK (.int 4) <| wCallR 2 (F_X3_draw) (fun _ => ()) (fun s _ => s) <| wIst 9 <| wIload 5 <| wCallR 1 (F_X3_nextSeed) (fun _ => ()) (fun s _ => s) <| wIst 5 <| wAload 1 <| wIload 8 <| wIload 9 <| wK (.int 1) <| wIload 5 <| wK (.int 9) <| wCallR 2 (F_X3_draw) (fun _ => ()) (fun s _ => s) <| wB (fun x y => x + y) <| wCallR 4 (F_X2_putOnlyNeed g t) cT csT <| wAload 0 <| wAload 1 <| wIload 2 <| wK (.int 0) <| wCallR 4 (F_X3_chosenBy g t) id (fun _ u => u) <| wIst 10 <| wIload 10 <| wIf1 (fun x => x < 0) (bk_X3_seededSum_108 g t Post K10) (wIload 6 <| wAload 1 <| wIload 10 <| wK (.int 0) <| wCallR 3 (F_X2_goodOf g t) cT csT <| wB (fun x y => x + y) <| wIst 6 <| wAload 1 <| wIload 10 <| wK (.int 0) <| wCallR 3 (F_X2_doHelp g t) cT csT <| bk_X3_seededSum_108 g t Post K10))) L st s
set_option maxRecDepth 20000 in
theorem s_X3_seededSum_10 {X : Cx} (B : Bx) (g : Nat → Nat) (t : Nat) {Post : Option Value → CS → Prop} (C : OkX X (gx B) cX3_seededSum 11 wsX3_seededSum RX3 (rmD 6)) (R : RtX X (gx B) (some .int) (encC B g t) Post) {K10 : PT CS} (hK10 : Snd X (gx B) 11 (encC B g t) 10 K10) : Snd X (gx B) 11 (encC B g t) 10 (bk_X3_seededSum_10 g t Post K10) := by
  unfold bk_X3_seededSum_10
  refine s_iload C dX3_seededSum_10 ?_
  refine s_iload_n C rfl dX3_seededSum_12 ?_
  refine s_iconst C (by decide) dX3_seededSum_13 ?_
  refine s_imul C dX3_seededSum_14 ?_
  refine s_icmp_ge C (tgt := 132) (by decide) dX3_seededSum_15 ?_ ?_
  · refine s_iload C dX3_seededSum_132 ?_
    exact s_iret C R dX3_seededSum_134
  · refine s_iload C dX3_seededSum_18 ?_
    refine s_callS C (fr_C_E B g t) (k_X3_nextSeed B) gX3_seededSum_X3_nextSeed rfl (by decide +kernel) ⟨rfl, rfl⟩ (by decide) (cf_I_r _ _ _) dX3_seededSum_20 ?_
    refine s_istore C (by decide) dX3_seededSum_23 ?_
    refine s_iload C dX3_seededSum_25 ?_
    refine s_aload_n C rfl dX3_seededSum_27 ?_
    refine s_get C inw_X3_seededSum_X2 rfl (k := 1) (by decide) (by decide +kernel) (heC_2 B g t) (fun _ => rfl) dX3_seededSum_28 ?_
    refine s_callS C (fr_C_E B g t) (k_X3_draw B) gX3_seededSum_X3_draw rfl (by decide +kernel) ⟨rfl, rfl⟩ (by decide) (cf_II_r _ _ _) dX3_seededSum_31 ?_
    refine s_istore C (by decide) dX3_seededSum_34 ?_
    refine s_iload C dX3_seededSum_36 ?_
    refine s_callS C (fr_C_E B g t) (k_X3_nextSeed B) gX3_seededSum_X3_nextSeed rfl (by decide +kernel) ⟨rfl, rfl⟩ (by decide) (cf_I_r _ _ _) dX3_seededSum_38 ?_
    refine s_istore C (by decide) dX3_seededSum_41 ?_
    refine s_iload C dX3_seededSum_43 ?_
    refine s_iconst C (by decide) dX3_seededSum_45 ?_
    refine s_callS C (fr_C_E B g t) (k_X3_draw B) gX3_seededSum_X3_draw rfl (by decide +kernel) ⟨rfl, rfl⟩ (by decide) (cf_II_r _ _ _) dX3_seededSum_46 ?_
    refine s_istore C (by decide) dX3_seededSum_49 ?_
    refine s_iload C dX3_seededSum_51 ?_
    refine s_callS C (fr_C_E B g t) (k_X3_nextSeed B) gX3_seededSum_X3_nextSeed rfl (by decide +kernel) ⟨rfl, rfl⟩ (by decide) (cf_I_r _ _ _) dX3_seededSum_53 ?_
    refine s_istore C (by decide) dX3_seededSum_56 ?_
    refine s_aload_n C rfl dX3_seededSum_58 ?_
    refine s_iload C dX3_seededSum_59 ?_
    refine s_iload C dX3_seededSum_61 ?_
    refine s_iconst C (by decide) dX3_seededSum_63 ?_
    refine s_iload C dX3_seededSum_64 ?_
    refine s_bipush C (by decide) dX3_seededSum_66 ?_
    refine s_callS C (fr_C_E B g t) (k_X3_draw B) gX3_seededSum_X3_draw rfl (by decide +kernel) ⟨rfl, rfl⟩ (by decide) (cf_II_r _ _ _) dX3_seededSum_68 ?_
    refine s_iadd C dX3_seededSum_71 ?_
    refine s_callV C (fr_C_T B g t) (k_X2_putOnlyNeed B g t) gX3_seededSum_X2_putOnlyNeed rfl (by decide +kernel) ⟨rfl, rfl⟩ (by decide) rfl (fun s => ⟨_, heC_2 B g t s⟩) (cf_RIII_r _ _ _ _) dX3_seededSum_72 ?_
    refine s_aload_n C rfl dX3_seededSum_75 ?_
    refine s_aload_n C rfl dX3_seededSum_76 ?_
    refine s_iload_n C rfl dX3_seededSum_77 ?_
    refine s_iconst C (by decide) dX3_seededSum_78 ?_
    refine s_callV C (fr_C_C B g t) (k_X3_chosenBy B g t) gX3_seededSum_X3_chosenBy rfl (by decide +kernel) ⟨rfl, rfl⟩ (by decide) rfl (fun s => ⟨_, heC_0 B g t s⟩) (cf_RRII_r _ _ _ _ _) dX3_seededSum_79 ?_
    refine s_istore C (by decide) dX3_seededSum_82 ?_
    refine s_iload C dX3_seededSum_84 ?_
    refine s_if_lt C (tgt := 108) (by decide) dX3_seededSum_86 ?_ ?_
    · exact s_X3_seededSum_108 B g t C R hK10
    · refine s_iload C dX3_seededSum_89 ?_
      refine s_aload_n C rfl dX3_seededSum_91 ?_
      refine s_iload C dX3_seededSum_92 ?_
      refine s_iconst C (by decide) dX3_seededSum_94 ?_
      refine s_callV C (fr_C_T B g t) (k_X2_goodOf B g t) gX3_seededSum_X2_goodOf rfl (by decide +kernel) ⟨rfl, rfl⟩ (by decide) rfl (fun s => ⟨_, heC_2 B g t s⟩) (cf_RII_r _ _ _ _) dX3_seededSum_95 ?_
      refine s_iadd C dX3_seededSum_98 ?_
      refine s_istore C (by decide) dX3_seededSum_99 ?_
      refine s_aload_n C rfl dX3_seededSum_101 ?_
      refine s_iload C dX3_seededSum_102 ?_
      refine s_iconst C (by decide) dX3_seededSum_104 ?_
      refine s_callV C (fr_C_T B g t) (k_X2_doHelp B g t) gX3_seededSum_X2_doHelp rfl (by decide +kernel) ⟨rfl, rfl⟩ (by decide) rfl (fun s => ⟨_, heC_2 B g t s⟩) (cf_RII_r _ _ _ _) dX3_seededSum_105 ?_
      exact s_X3_seededSum_108 B g t C R hK10
def I_sd (g : Nat → Nat) (t : Nat) (S : CS) (r y : Int32) (M : Nat) (fin : Int32 × TS) (n : Nat) (L : Lc) (st : List Value) (s : CS) : Prop := ∃ (z sm : Int32) (T : TS) (k : Nat), n + k = M ∧ st = [] ∧ s = csT S T ∧ L = [some (.ref (g 0)), some (.ref (g t)), some (.int r), some (.int y), none, some (.int z), some (.int sm), some (.int (nI k)), none, none, none] ∧ sdF (cRo S) (rowN (cRl S)) r k n z sm T = fin
theorem k_X3_seededSum (B : Bx) (g : Nat → Nat) (t : Nat) : MtF (gx B) yX3_seededSum wsX3_seededSum (rmD 6) (encC B g t) (F_X3_seededSum g t) := by
  refine cf_RRIII_i (fun l S r y z0 _ => ?_)
  have hb := clamp_lt (y * 3)
  have hle : ∀ k, k < 2 ^ 31 → (y * 3 ≤ nI k ↔ (y * 3).toNatClampNeg ≤ k) := fun k hk => le_nI hk
  generalize (y * 3).toNatClampNeg = M at hb hle ⊢
  generalize hfin : sdF (cRo S) (rowN (cRl S)) r 0 M z0 0 (cT S) = fin
  refine Mt.of (P := bk_X3_seededSum_0 g t _ (fun L st s => ∃ n, I_sd g t S r y M fin n L st s)) (by decide) rfl (Nat.le_of_ble_eq_true rfl) rfl (fun X C R => s_X3_seededSum_0 B g t C R (snd_loop _ (I_sd g t S r y M fin) (fun K hK => s_X3_seededSum_10 B g t C R hK) ?_)) ?_
  · rintro K n L st s ⟨z, sm, T, k, hn, rfl, rfl, rfl, hf⟩ hK
    have d4 : (0 : Int32) < 4 := by decide
    have d9 : (0 : Int32) < 9 := by decide
    have d3 : ¬ (3 : Int32) = 0 := by decide
    simp only [wIload, wAload, wLload, wK, wB, wDv, wU, wLB, wLU, wLS, wL2i, wLcmp, wIf1, wIf2, wKeep, wInc, wIst, wAst, wLst, wDup, wPop, wDup2, wGet, wPut, wPutZ, wIald, wLald, wIast, wLast, wLen, wRetI, wRetZ, wRetL, wRetA, wRetV, wM1, wM2, wCpy, wTab, tabW, nth, stL, stL2, dropL, keepL, mkL, padL, restOK, restOKn, tl_some, tl_none, id_eq, eq_self, true_and, and_true, bk_X3_seededSum_0, bk_X3_seededSum_126, bk_X3_seededSum_108, bk_X3_seededSum_10, F_X2_doHelp, F_X2_goodOf, F_X2_putOnlyNeed, F_X3_chosenBy, F_X3_draw, F_X3_nextSeed, cf_II_e, cf_I_e, cf_RIII_e, cf_RII_e, cf_RRII_e, cg_Im_Im, cg_Im_Ro, cg_Im_Rl, cg_Im_T, cg_Ro_Im, cg_Ro_Ro, cg_Ro_Rl, cg_Ro_T, cg_Rl_Im, cg_Rl_Ro, cg_Rl_Rl, cg_Rl_T, cg_T_Im, cg_T_Ro, cg_T_Rl, cg_T_T, ce_Im, co_Im, ce_Ro, co_Ro, ce_Rl, co_Rl, ce_T, co_T, cTPp, cTYr, csTYr, isN, d4, d9, d3, if_true]
    have hN : ∃ k, k + 1 < 2 ^ 31 ∧ (0 : Int32) = nI k := ⟨0, by decide, rfl⟩
    rcases Nat.lt_or_ge k M with hlt | hge
    · have h1 : ¬ y * 3 ≤ nI k := by rw [hle k (by omega)]; omega
      obtain ⟨n, rfl⟩ : ∃ m, n = m + 1 := ⟨n - 1, by omega⟩
      rw [sdF_s] at hf
      have e1 : tOnly T (if 0 < tPp T then drawF (nxSeed z) (tPp T) else 0) (drawF (nxSeed (nxSeed z)) 4) (1 + drawF (nxSeed (nxSeed (nxSeed z))) 9) = sdT T z := rfl
      simp only [e1]
      by_cases h2 : cChose (cRo S) (rowN (cRl S)) (sdT T z) r 0 < 0
      · rw [if_pos h2] at hf
        simp only [h1, h2, hN, d3, false_implies, true_implies, not_true_eq_false, not_false_eq_true, true_and, and_true, implies_true, eq_self, ne_eq, true_or, or_true, false_or, or_false, and_self]
        have hc : ∀ U, sdY k (sdT T z) = U → K [some (.ref (g 0)), some (.ref (g t)), some (.int r), some (.int y), none, some (.int (nxSeed (nxSeed (nxSeed z)))), some (.int sm), some (.int (nI k + 1)), none, none, none] [] (csT S U) := by
          rintro U rfl
          rw [nI_1]
          exact hK n _ _ _ (by omega) ⟨_, _, _, k + 1, by omega, rfl, rfl, rfl, hf⟩
        refine ⟨fun h3 => hc _ ?_, fun h3 => hc _ ?_⟩
        · unfold sdY; rw [if_pos h3]
        · unfold sdY; rw [if_neg h3]
      · rw [if_neg h2] at hf
        simp only [h1, h2, hN, d3, false_implies, true_implies, not_true_eq_false, not_false_eq_true, true_and, and_true, implies_true, eq_self, ne_eq, true_or, or_true, false_or, or_false, and_self]
        have hc : ∀ U, sdY k (tDo (sdT T z) (cChose (cRo S) (rowN (cRl S)) (sdT T z) r 0) 0) = U → K [some (.ref (g 0)), some (.ref (g t)), some (.int r), some (.int y), none, some (.int (nxSeed (nxSeed (nxSeed z)))), some (.int (sm + tGood (sdT T z) (cChose (cRo S) (rowN (cRl S)) (sdT T z) r 0) 0)), some (.int (nI k + 1)), none, none, none] [] (csT S U) := by
          rintro U rfl
          rw [nI_1]
          exact hK n _ _ _ (by omega) ⟨_, _, _, k + 1, by omega, rfl, rfl, rfl, hf⟩
        refine ⟨fun h3 => hc _ ?_, fun h3 => hc _ ?_⟩
        · unfold sdY; rw [if_pos h3]
        · unfold sdY; rw [if_neg h3]
    · have h1 : y * 3 ≤ nI k := (hle k (by omega)).mpr hge
      have h0 : n = 0 := by omega
      subst h0
      have hf : (sm, T) = fin := hf
      subst hf
      simp only [h1, false_implies, true_implies, not_true_eq_false, not_false_eq_true, true_and, and_true, implies_true, eq_self, ne_eq, true_or, or_true, false_or, or_false, and_self]
  · simp only [wIload, wAload, wLload, wK, wB, wDv, wU, wLB, wLU, wLS, wL2i, wLcmp, wIf1, wIf2, wKeep, wInc, wIst, wAst, wLst, wDup, wPop, wDup2, wGet, wPut, wPutZ, wIald, wLald, wIast, wLast, wLen, wRetI, wRetZ, wRetL, wRetA, wRetV, wM1, wM2, wCpy, wTab, tabW, nth, stL, stL2, dropL, keepL, mkL, padL, restOK, restOKn, tl_some, tl_none, id_eq, eq_self, true_and, and_true, bk_X3_seededSum_0, bk_X3_seededSum_126, bk_X3_seededSum_108, bk_X3_seededSum_10, F_X2_doHelp, F_X2_goodOf, F_X2_putOnlyNeed, F_X3_chosenBy, F_X3_draw, F_X3_nextSeed, cf_II_e, cf_I_e, cf_RIII_e, cf_RII_e, cf_RRII_e]
    exact ⟨M, z0, 0, cT S, 0, by omega, rfl, rfl, rfl, hfin⟩
end
