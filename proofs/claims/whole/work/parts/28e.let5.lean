noncomputable section
def nnOk (S : LtS) (p : Int32) (T : TS) : Bool := !decide (12 ≤ tNn T) && ((tHasP T (lDg S (p + 1)) && decide (lDg S (p + 2) < 4)) && (!decide (lDg S (p + 3) < 1) && (!decide (lDg S (p + 4) < 1) && decide (lDg S (p + 4) ≤ 3))))
def nnT (S : LtS) (p : Int32) (T : TS) : Nat → TS
  | 0 => T
  | k + 1 => tPutN (nnT S p T k) (tNn T) (nI k) (lDg S (p + 1 + nI k))
theorem tNn_nnT (S : LtS) (p : Int32) (T : TS) : ∀ k, tNn (nnT S p T k) = tNn T := by
  intro k
  induction k with
  | zero => rfl
  | succ k ih => simp only [nnT, tNn_putN, ih]
def nnAll (S : LtS) (p : Int32) (T : TS) : TS := tsNn (tPutN (nnT S p T 5) (tNn T) 5 0) (tNn T + 1)
def F_X0_tellNeed (g : Nat → Nat) (t : Nat) : CF LT := cf_RRI (g 22) (g t) (fun _ _ => True) (fun S p => some (.int (b2i (nnOk (mL S) p (mT S))))) (fun S p => if nnOk (mL S) p (mT S) = true then msT S (nnAll (mL S) p (mT S)) else S)
theorem inw_X0_tellNeed_X0 : ∀ w ∈ u_ws RX0 TX0 2, w ∈ wsX0_tellNeed := by decide +kernel
theorem inw_X0_tellNeed_X2 : ∀ w ∈ u_ws RX2 TX2 8, w ∈ wsX0_tellNeed := by decide +kernel
def bk_X0_tellNeed_75 (g : Nat → Nat) (t : Nat) (Post : Option Value → LT → Prop)  (L : Lc) (st : List Value) (s : LT) : Prop :=
  (wK (.int 0) <| wRetZ Post) L st s
set_option maxRecDepth 20000 in
theorem s_X0_tellNeed_75 {X : Cx} (B : Bx) (g : Nat → Nat) (t : Nat) {Post : Option Value → LT → Prop} (C : OkX X (gx B) cX0_tellNeed 6 wsX0_tellNeed RX0 (rmD 3)) (R : RtX X (gx B) (some .boolean) (encLT B g t) Post)  : Snd X (gx B) 6 (encLT B g t) 75 (bk_X0_tellNeed_75 g t Post ) := by
  unfold bk_X0_tellNeed_75
  refine s_iconst C (by decide) dX0_tellNeed_75 ?_
  exact s_zret C R dX0_tellNeed_76
def bk_X0_tellNeed_38 (g : Nat → Nat) (t : Nat) (Post : Option Value → LT → Prop) (K80 : PT LT) (L : Lc) (st : List Value) (s : LT) : Prop :=
  (wIst 4 <| wAload 1 <| wGet (g t) (fun s => .int (mTNn s)) <| wK (.int 12) <| wIf2 (fun x y => y ≤ x) (bk_X0_tellNeed_75 g t Post ) (wIload 4 <| wIf1 (fun x => x = 0) (bk_X0_tellNeed_75 g t Post ) (wAload 0 <| wIload 2 <| wK (.int 3) <| wB (fun x y => x + y) <| wCallR 2 (F_X0_digit g) mL msL <| wK (.int 1) <| wIf2 (fun x y => x < y) (bk_X0_tellNeed_75 g t Post ) (wIload 3 <| wK (.int 1) <| wIf2 (fun x y => x < y) (bk_X0_tellNeed_75 g t Post ) (wIload 3 <| wK (.int 3) <| wIf2 (fun x y => x ≤ y) (wK (.int 0) <| wIst 5 <| wKeep [true, true, true, false, false, true] K80) (bk_X0_tellNeed_75 g t Post )))))) L st s
set_option maxRecDepth 20000 in
theorem s_X0_tellNeed_38 {X : Cx} (B : Bx) (g : Nat → Nat) (t : Nat) {Post : Option Value → LT → Prop} (C : OkX X (gx B) cX0_tellNeed 6 wsX0_tellNeed RX0 (rmD 3)) (R : RtX X (gx B) (some .boolean) (encLT B g t) Post) {K80 : PT LT} (hK80 : Snd X (gx B) 6 (encLT B g t) 80 K80) : Snd X (gx B) 6 (encLT B g t) 38 (bk_X0_tellNeed_38 g t Post K80) := by
  unfold bk_X0_tellNeed_38
  refine s_istore C (by decide) dX0_tellNeed_38 ?_
  refine s_aload_n C rfl dX0_tellNeed_40 ?_
  refine s_get C inw_X0_tellNeed_X2 rfl (k := 3) (by decide) (by decide +kernel) (heLT_2 B g t) (fun _ => rfl) dX0_tellNeed_41 ?_
  refine s_bipush C (by decide) dX0_tellNeed_44 ?_
  refine s_icmp_ge C (tgt := 75) (by decide) dX0_tellNeed_46 ?_ ?_
  · exact s_X0_tellNeed_75 B g t C R 
  · refine s_iload C dX0_tellNeed_49 ?_
    refine s_if_eq C (tgt := 75) (by decide) dX0_tellNeed_51 ?_ ?_
    · exact s_X0_tellNeed_75 B g t C R 
    · refine s_aload_n C rfl dX0_tellNeed_54 ?_
      refine s_iload_n C rfl dX0_tellNeed_55 ?_
      refine s_iconst C (by decide) dX0_tellNeed_56 ?_
      refine s_iadd C dX0_tellNeed_57 ?_
      refine s_callV C (fr_LT_L B g t) (k_X0_digit B g) gX0_tellNeed_X0_digit rfl (by decide +kernel) ⟨rfl, rfl⟩ (by decide) rfl (fun s => ⟨_, heLT_0 B g t s⟩) (cf_RI_r _ _ _ _) dX0_tellNeed_58 ?_
      refine s_iconst C (by decide) dX0_tellNeed_61 ?_
      refine s_icmp_lt C (tgt := 75) (by decide) dX0_tellNeed_62 ?_ ?_
      · exact s_X0_tellNeed_75 B g t C R 
      · refine s_iload_n C rfl dX0_tellNeed_65 ?_
        refine s_iconst C (by decide) dX0_tellNeed_66 ?_
        refine s_icmp_lt C (tgt := 75) (by decide) dX0_tellNeed_67 ?_ ?_
        · exact s_X0_tellNeed_75 B g t C R 
        · refine s_iload_n C rfl dX0_tellNeed_70 ?_
          refine s_iconst C (by decide) dX0_tellNeed_71 ?_
          refine s_icmp_le C (tgt := 77) (by decide) dX0_tellNeed_72 ?_ ?_
          · refine s_iconst C (by decide) dX0_tellNeed_77 ?_
            refine s_istore C (by decide) dX0_tellNeed_78 ?_
            exact s_keep _ hK80
          · exact s_X0_tellNeed_75 B g t C R 
def bk_X0_tellNeed_37 (g : Nat → Nat) (t : Nat) (Post : Option Value → LT → Prop) (K80 : PT LT) (L : Lc) (st : List Value) (s : LT) : Prop :=
  (wK (.int 0) <| bk_X0_tellNeed_38 g t Post K80) L st s
set_option maxRecDepth 20000 in
theorem s_X0_tellNeed_37 {X : Cx} (B : Bx) (g : Nat → Nat) (t : Nat) {Post : Option Value → LT → Prop} (C : OkX X (gx B) cX0_tellNeed 6 wsX0_tellNeed RX0 (rmD 3)) (R : RtX X (gx B) (some .boolean) (encLT B g t) Post) {K80 : PT LT} (hK80 : Snd X (gx B) 6 (encLT B g t) 80 K80) : Snd X (gx B) 6 (encLT B g t) 37 (bk_X0_tellNeed_37 g t Post K80) := by
  unfold bk_X0_tellNeed_37
  refine s_iconst C (by decide) dX0_tellNeed_37 ?_
  exact s_X0_tellNeed_38 B g t C R hK80
def bk_X0_tellNeed_0 (g : Nat → Nat) (t : Nat) (Post : Option Value → LT → Prop) (K80 : PT LT) (L : Lc) (st : List Value) (s : LT) : Prop :=
  (wAload 0 <| wIload 2 <| wK (.int 4) <| wB (fun x y => x + y) <| wCallR 2 (F_X0_digit g) mL msL <| wIst 3 <| wAload 1 <| wAload 0 <| wIload 2 <| wK (.int 1) <| wB (fun x y => x + y) <| wCallR 2 (F_X0_digit g) mL msL <| wCallR 2 (F_X2_hasPerson g t) mT msT <| wIf1 (fun x => x = 0) (bk_X0_tellNeed_37 g t Post K80) (wAload 0 <| wIload 2 <| wK (.int 2) <| wB (fun x y => x + y) <| wCallR 2 (F_X0_digit g) mL msL <| wK (.int 4) <| wIf2 (fun x y => y ≤ x) (bk_X0_tellNeed_37 g t Post K80) (wK (.int 1) <| bk_X0_tellNeed_38 g t Post K80))) L st s
set_option maxRecDepth 20000 in
theorem s_X0_tellNeed_0 {X : Cx} (B : Bx) (g : Nat → Nat) (t : Nat) {Post : Option Value → LT → Prop} (C : OkX X (gx B) cX0_tellNeed 6 wsX0_tellNeed RX0 (rmD 3)) (R : RtX X (gx B) (some .boolean) (encLT B g t) Post) {K80 : PT LT} (hK80 : Snd X (gx B) 6 (encLT B g t) 80 K80) : Snd X (gx B) 6 (encLT B g t) 0 (bk_X0_tellNeed_0 g t Post K80) := by
  unfold bk_X0_tellNeed_0
  refine s_aload_n C rfl dX0_tellNeed_0 ?_
  refine s_iload_n C rfl dX0_tellNeed_1 ?_
  refine s_iconst C (by decide) dX0_tellNeed_2 ?_
  refine s_iadd C dX0_tellNeed_3 ?_
  refine s_callV C (fr_LT_L B g t) (k_X0_digit B g) gX0_tellNeed_X0_digit rfl (by decide +kernel) ⟨rfl, rfl⟩ (by decide) rfl (fun s => ⟨_, heLT_0 B g t s⟩) (cf_RI_r _ _ _ _) dX0_tellNeed_4 ?_
  refine s_istore_n C rfl (by decide) dX0_tellNeed_7 ?_
  refine s_aload_n C rfl dX0_tellNeed_8 ?_
  refine s_aload_n C rfl dX0_tellNeed_9 ?_
  refine s_iload_n C rfl dX0_tellNeed_10 ?_
  refine s_iconst C (by decide) dX0_tellNeed_11 ?_
  refine s_iadd C dX0_tellNeed_12 ?_
  refine s_callV C (fr_LT_L B g t) (k_X0_digit B g) gX0_tellNeed_X0_digit rfl (by decide +kernel) ⟨rfl, rfl⟩ (by decide) rfl (fun s => ⟨_, heLT_0 B g t s⟩) (cf_RI_r _ _ _ _) dX0_tellNeed_13 ?_
  refine s_callV C (fr_LT_T B g t) (k_X2_hasPerson B g t) gX0_tellNeed_X2_hasPerson rfl (by decide +kernel) ⟨rfl, rfl⟩ (by decide) rfl (fun s => ⟨_, heLT_2 B g t s⟩) (cf_RI_r _ _ _ _) dX0_tellNeed_16 ?_
  refine s_if_eq C (tgt := 37) (by decide) dX0_tellNeed_19 ?_ ?_
  · exact s_X0_tellNeed_37 B g t C R hK80
  · refine s_aload_n C rfl dX0_tellNeed_22 ?_
    refine s_iload_n C rfl dX0_tellNeed_23 ?_
    refine s_iconst C (by decide) dX0_tellNeed_24 ?_
    refine s_iadd C dX0_tellNeed_25 ?_
    refine s_callV C (fr_LT_L B g t) (k_X0_digit B g) gX0_tellNeed_X0_digit rfl (by decide +kernel) ⟨rfl, rfl⟩ (by decide) rfl (fun s => ⟨_, heLT_0 B g t s⟩) (cf_RI_r _ _ _ _) dX0_tellNeed_26 ?_
    refine s_iconst C (by decide) dX0_tellNeed_29 ?_
    refine s_icmp_ge C (tgt := 37) (by decide) dX0_tellNeed_30 ?_ ?_
    · exact s_X0_tellNeed_37 B g t C R hK80
    · refine s_iconst C (by decide) dX0_tellNeed_33 ?_
      refine s_goto C (tgt := 38) (by decide) dX0_tellNeed_34 ?_
      exact s_X0_tellNeed_38 B g t C R hK80
def bk_X0_tellNeed_80 (g : Nat → Nat) (t : Nat) (Post : Option Value → LT → Prop) (K80 : PT LT) (L : Lc) (st : List Value) (s : LT) : Prop :=
  (wIload 5 <| wK (.int 4) <| wIf2 (fun x y => y < x) (wAload 1 <| wAload 1 <| wGet (g t) (fun s => .int (mTNn s)) <| wK (.int 5) <| wK (.int 0) <| wCallR 4 (F_X2_putNeed g t) mT msT <| wAload 1 <| wDup <| wGet (g t) (fun s => .int (mTNn s)) <| wK (.int 1) <| wB (fun x y => x + y) <| wPut (g t) msTNn <| wK (.int 1) <| wRetZ Post) (wAload 1 <| wAload 1 <| wGet (g t) (fun s => .int (mTNn s)) <| wIload 5 <| wAload 0 <| wIload 2 <| wK (.int 1) <| wB (fun x y => x + y) <| wIload 5 <| wB (fun x y => x + y) <| wCallR 2 (F_X0_digit g) mL msL <| wCallR 4 (F_X2_putNeed g t) mT msT <| wInc 5 1 <| wKeep [true, true, true, false, false, true] K80)) L st s
set_option maxRecDepth 20000 in
theorem s_X0_tellNeed_80 {X : Cx} (B : Bx) (g : Nat → Nat) (t : Nat) {Post : Option Value → LT → Prop} (C : OkX X (gx B) cX0_tellNeed 6 wsX0_tellNeed RX0 (rmD 3)) (R : RtX X (gx B) (some .boolean) (encLT B g t) Post) {K80 : PT LT} (hK80 : Snd X (gx B) 6 (encLT B g t) 80 K80) : Snd X (gx B) 6 (encLT B g t) 80 (bk_X0_tellNeed_80 g t Post K80) := by
  unfold bk_X0_tellNeed_80
  refine s_iload C dX0_tellNeed_80 ?_
  refine s_iconst C (by decide) dX0_tellNeed_82 ?_
  refine s_icmp_gt C (tgt := 112) (by decide) dX0_tellNeed_83 ?_ ?_
  · refine s_aload_n C rfl dX0_tellNeed_112 ?_
    refine s_aload_n C rfl dX0_tellNeed_113 ?_
    refine s_get C inw_X0_tellNeed_X2 rfl (k := 3) (by decide) (by decide +kernel) (heLT_2 B g t) (fun _ => rfl) dX0_tellNeed_114 ?_
    refine s_iconst C (by decide) dX0_tellNeed_117 ?_
    refine s_iconst C (by decide) dX0_tellNeed_118 ?_
    refine s_callV C (fr_LT_T B g t) (k_X2_putNeed B g t) gX0_tellNeed_X2_putNeed rfl (by decide +kernel) ⟨rfl, rfl⟩ (by decide) rfl (fun s => ⟨_, heLT_2 B g t s⟩) (cf_RIII_r _ _ _ _) dX0_tellNeed_119 ?_
    refine s_aload_n C rfl dX0_tellNeed_122 ?_
    refine s_dup C dX0_tellNeed_123 ?_
    refine s_get C inw_X0_tellNeed_X2 rfl (k := 3) (by decide) (by decide +kernel) (heLT_2 B g t) (fun _ => rfl) dX0_tellNeed_124 ?_
    refine s_iconst C (by decide) dX0_tellNeed_127 ?_
    refine s_iadd C dX0_tellNeed_128 ?_
    refine s_put C inw_X0_tellNeed_X2 rfl (k := 3) (by decide) (by decide +kernel) tyX2_ok nmX2 (by decide +kernel) (by decide +kernel) (heLT_2 B g t) (fun _ => Nat.le_of_ble_eq_true rfl) (fun _ _ => rfl) dX0_tellNeed_129 ?_
    refine s_iconst C (by decide) dX0_tellNeed_132 ?_
    exact s_zret C R dX0_tellNeed_133
  · refine s_aload_n C rfl dX0_tellNeed_86 ?_
    refine s_aload_n C rfl dX0_tellNeed_87 ?_
    refine s_get C inw_X0_tellNeed_X2 rfl (k := 3) (by decide) (by decide +kernel) (heLT_2 B g t) (fun _ => rfl) dX0_tellNeed_88 ?_
    refine s_iload C dX0_tellNeed_91 ?_
    refine s_aload_n C rfl dX0_tellNeed_93 ?_
    refine s_iload_n C rfl dX0_tellNeed_94 ?_
    refine s_iconst C (by decide) dX0_tellNeed_95 ?_
    refine s_iadd C dX0_tellNeed_96 ?_
    refine s_iload C dX0_tellNeed_97 ?_
    refine s_iadd C dX0_tellNeed_99 ?_
    refine s_callV C (fr_LT_L B g t) (k_X0_digit B g) gX0_tellNeed_X0_digit rfl (by decide +kernel) ⟨rfl, rfl⟩ (by decide) rfl (fun s => ⟨_, heLT_0 B g t s⟩) (cf_RI_r _ _ _ _) dX0_tellNeed_100 ?_
    refine s_callV C (fr_LT_T B g t) (k_X2_putNeed B g t) gX0_tellNeed_X2_putNeed rfl (by decide +kernel) ⟨rfl, rfl⟩ (by decide) rfl (fun s => ⟨_, heLT_2 B g t s⟩) (cf_RIII_r _ _ _ _) dX0_tellNeed_103 ?_
    refine s_iinc C (by decide) (by decide) dX0_tellNeed_106 ?_
    refine s_goto C (tgt := 80) (by decide) dX0_tellNeed_109 ?_
    exact s_keep _ hK80
def I_tn (g : Nat → Nat) (t : Nat) (S : LT) (p : Int32) (n : Nat) (L : Lc) (st : List Value) (s : LT) : Prop := ∃ k, n + k = 5 ∧ st = [] ∧ s = msT S (nnT (mL S) p (mT S) k) ∧ L = [some (.ref (g 22)), some (.ref (g t)), some (.int p), none, none, some (.int (nI k))]
theorem k_X0_tellNeed (B : Bx) (g : Nat → Nat) (t : Nat) : MtF (gx B) yX0_tellNeed wsX0_tellNeed (rmD 3) (encLT B g t) (F_X0_tellNeed g t) := by
  refine cf_RRI_i (fun l S p _ => Mt.of (P := bk_X0_tellNeed_0 g t (fun o u => o = some (.int (b2i (nnOk (mL S) p (mT S)))) ∧ u = if nnOk (mL S) p (mT S) = true then msT S (nnAll (mL S) p (mT S)) else S) (fun L st s => nnOk (mL S) p (mT S) = true ∧ ∃ n, I_tn g t S p n L st s)) (by decide) rfl (Nat.le_of_ble_eq_true rfl) rfl
    (fun X C R => s_X0_tellNeed_0 B g t C R (Snd.imp (fun hok => snd_loop _ (I_tn g t S p) (fun K hK => s_X0_tellNeed_80 B g t C R hK) ?_))) ?_)
  · rintro K n L st s ⟨k, hn, rfl, rfl, rfl⟩ hK
    simp only [wIload, wAload, wLload, wK, wB, wDv, wU, wLB, wLU, wLS, wL2i, wLcmp, wIf1, wIf2, wKeep, wInc, wIst, wAst, wLst, wDup, wPop, wDup2, wGet, wPut, wPutZ, wIald, wLald, wIast, wLast, wLen, wRetI, wRetZ, wRetL, wRetA, wRetV, wM1, wM2, wCpy, wTab, tabW, nth, stL, stL2, dropL, keepL, mkL, padL, restOK, restOKn, tl_some, tl_none, id_eq, eq_self, true_and, and_true, bk_X0_tellNeed_75, bk_X0_tellNeed_38, bk_X0_tellNeed_37, bk_X0_tellNeed_0, bk_X0_tellNeed_80, F_X0_digit, F_X2_hasPerson, F_X2_putNeed, cf_RIII_e, cf_RI_e, mg_L_L, mg_L_T, mg_T_L, mg_T_T, me_L, mo_L, me_T, mo_T, mTNn, msTNn, tNn_nnT, tNn_putN]
    rcases Nat.lt_or_ge k 5 with hlt | hge
    · have h1 : ¬ (4 : Int32) < nI k := nI_nlt (a := 4) (by omega) (by decide)
      simp only [h1, false_implies, true_implies, not_true_eq_false, not_false_eq_true, true_and, and_true, implies_true, eq_self, ne_eq, true_or, or_true, false_or, or_false, and_self]
      rw [nI_1]
      exact hK (n - 1) _ _ _ (by omega) ⟨k + 1, by omega, rfl, rfl, rfl⟩
    · have h1 : (4 : Int32) < nI k := nI_lt (a := 4) (by omega) (by omega)
      have hk : k = 5 := by omega
      subst hk
      simp only [h1, hok, if_true, b2i_t, false_implies, true_implies, not_true_eq_false, not_false_eq_true, true_and, and_true, implies_true, eq_self, ne_eq, true_or, or_true, false_or, or_false, and_self]
      first | exact ⟨Or.inr rfl, rfl, rfl⟩ | exact ⟨rfl, rfl⟩ | rfl | trivial
  · have d1 : ¬ (1 : Int32) = 0 := by decide
    simp only [wIload, wAload, wLload, wK, wB, wDv, wU, wLB, wLU, wLS, wL2i, wLcmp, wIf1, wIf2, wKeep, wInc, wIst, wAst, wLst, wDup, wPop, wDup2, wGet, wPut, wPutZ, wIald, wLald, wIast, wLast, wLen, wRetI, wRetZ, wRetL, wRetA, wRetV, wM1, wM2, wCpy, wTab, tabW, nth, stL, stL2, dropL, keepL, mkL, padL, restOK, restOKn, tl_some, tl_none, id_eq, eq_self, true_and, and_true, bk_X0_tellNeed_75, bk_X0_tellNeed_38, bk_X0_tellNeed_37, bk_X0_tellNeed_0, bk_X0_tellNeed_80, F_X0_digit, F_X2_hasPerson, F_X2_putNeed, cf_RIII_e, cf_RI_e, mg_L_L, mg_L_T, mg_T_L, mg_T_T, me_L, mo_L, me_T, mo_T, mTNn, b2i_eq0, d1]
    have hgo : nnOk (mL S) p (mT S) = true → nnOk (mL S) p (mT S) = true ∧ ∃ n, I_tn g t S p n [some (.ref (g 22)), some (.ref (g t)), some (.int p), none, none, some (.int 0)] [] S := fun h => ⟨h, 5, 0, rfl, rfl, rfl, rfl⟩
    have hno : nnOk (mL S) p (mT S) = false → some (Value.int 0) = some (Value.int (b2i (nnOk (mL S) p (mT S)))) ∧ S = if nnOk (mL S) p (mT S) = true then msT S (nnAll (mL S) p (mT S)) else S := fun h => by rw [h]; exact ⟨rfl, rfl⟩
    generalize (∃ n, I_tn g t S p n [some (.ref (g 22)), some (.ref (g t)), some (.int p), none, none, some (.int 0)] [] S) = QQ at hgo ⊢
    generalize hmm : (S = if nnOk (mL S) p (mT S) = true then msT S (nnAll (mL S) p (mT S)) else S) = MM at hno ⊢
    have e : nnOk (mL S) p (mT S) = (!decide (12 ≤ tNn (mT S)) && ((tHasP (mT S) (lDg (mL S) (p + 1)) && decide (lDg (mL S) (p + 2) < 4)) && (!decide (lDg (mL S) (p + 3) < 1) && (!decide (lDg (mL S) (p + 4) < 1) && decide (lDg (mL S) (p + 4) ≤ 3))))) := rfl
    clear hmm
    generalize nnOk (mL S) p (mT S) = ok at e hgo hno ⊢
    have hgo1 : ok = true → QQ := fun h => (hgo h).2
    by_cases a1 : (12 : Int32) ≤ tNn (mT S) <;> cases a2 : tHasP (mT S) (lDg (mL S) (p + 1)) <;> by_cases a3 : (4 : Int32) ≤ lDg (mL S) (p + 2) <;> by_cases a4 : lDg (mL S) (p + 3) < 1 <;> by_cases a5 : lDg (mL S) (p + 4) < 1 <;> by_cases a6 : lDg (mL S) (p + 4) ≤ 3
    all_goals
      have a3' : (lDg (mL S) (p + 2) < 4) = ¬ ((4 : Int32) ≤ lDg (mL S) (p + 2)) := propext Int32.not_le.symm
      simp only [a1, a2, a3, a4, a5, a6, a3', decide_true, decide_false, not_true_eq_false, not_false_eq_true, Bool.not_true, Bool.not_false, Bool.true_and, Bool.false_and, Bool.and_true, Bool.and_false, Bool.and_self] at e
      simp only [a1, a2, a3, a4, a5, a6, Bool.true_eq_false, Bool.false_eq_true, false_implies, true_implies, not_true_eq_false, not_false_eq_true, true_and, and_true, implies_true, eq_self, ne_eq, true_or, or_true, false_or, or_false, and_self]
      first
        | exact (hgo e).2
        | exact hgo e
        | exact hno e
        | exact ⟨Or.inl trivial, hno e⟩
        | exact (hno e).2
end
