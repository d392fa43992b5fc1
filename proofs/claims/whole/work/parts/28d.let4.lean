noncomputable section
def pnS (S : LtS) (p : Int32) : Int32 := if lDig S (p + 3) = true then p + 5 else p + 4
def pnM (S : LtS) (p : Int32) : Int32 := if lDig S (p + 3) = true then lDg S (p + 2) * 10 + lDg S (p + 3) else lDg S (p + 2)
def pnT (S : LtS) (p : Int32) (T : TS) : Nat → TS
  | 0 => tPutP (tPutP T (tPp T) 0 (lDg S (p + 1))) (tPp T) 1 (pnM S p)
  | k + 1 => tPutP (pnT S p T k) (tPp T) (2 + nI k) (lDg S (pnS S p + nI k))
theorem tPp_putP (T : TS) (p k v : Int32) : tPp (tPutP T p k v) = tPp T := by unfold tPutP; split <;> rfl
theorem tPp_pnT (S : LtS) (p : Int32) (T : TS) : ∀ k, tPp (pnT S p T k) = tPp T := by
  intro k
  induction k with
  | zero => simp only [pnT, tPp_putP]
  | succ k ih => simp only [pnT, tPp_putP, ih]
def pnOk (S : LtS) (p : Int32) (T : TS) : Bool := !decide (7 ≤ tPp T) && !decide (6 < lDg S (p + 1))
def pnAll (S : LtS) (p : Int32) (T : TS) : TS := tsPp (pnT S p T 4) (tPp T + 1)
def F_X0_tellPerson (g : Nat → Nat) (t : Nat) : CF LT := cf_RRI (g 22) (g t) (fun _ _ => True) (fun S p => some (.int (b2i (pnOk (mL S) p (mT S))))) (fun S p => if pnOk (mL S) p (mT S) = true then msT S (pnAll (mL S) p (mT S)) else S)
theorem inw_X0_tellPerson_X0 : ∀ w ∈ u_ws RX0 TX0 2, w ∈ wsX0_tellPerson := by decide +kernel
theorem inw_X0_tellPerson_X2 : ∀ w ∈ u_ws RX2 TX2 8, w ∈ wsX0_tellPerson := by decide +kernel
def bk_X0_tellPerson_21 (g : Nat → Nat) (t : Nat) (Post : Option Value → LT → Prop)  (L : Lc) (st : List Value) (s : LT) : Prop :=
  (wK (.int 0) <| wRetZ Post) L st s
set_option maxRecDepth 20000 in
theorem s_X0_tellPerson_21 {X : Cx} (B : Bx) (g : Nat → Nat) (t : Nat) {Post : Option Value → LT → Prop} (C : OkX X (gx B) cX0_tellPerson 7 wsX0_tellPerson RX0 (rmD 3)) (R : RtX X (gx B) (some .boolean) (encLT B g t) Post)  : Snd X (gx B) 7 (encLT B g t) 21 (bk_X0_tellPerson_21 g t Post ) := by
  unfold bk_X0_tellPerson_21
  refine s_iconst C (by decide) dX0_tellPerson_21 ?_
  exact s_zret C R dX0_tellPerson_22
def bk_X0_tellPerson_78 (g : Nat → Nat) (t : Nat) (Post : Option Value → LT → Prop) (K110 : PT LT) (L : Lc) (st : List Value) (s : LT) : Prop :=
  (wIst 5 <| wAload 1 <| wAload 1 <| wGet (g t) (fun s => .int (mTPp s)) <| wK (.int 0) <| wAload 0 <| wIload 2 <| wK (.int 1) <| wB (fun x y => x + y) <| wCallR 2 (F_X0_digit g) mL msL <| wCallR 4 (F_X2_putPerson g t) mT msT <| wAload 1 <| wAload 1 <| wGet (g t) (fun s => .int (mTPp s)) <| wK (.int 1) <| wIload 4 <| wCallR 4 (F_X2_putPerson g t) mT msT <| wK (.int 0) <| wIst 6 <| wKeep [true, true, false, false, false, true, true] K110) L st s
set_option maxRecDepth 20000 in
theorem s_X0_tellPerson_78 {X : Cx} (B : Bx) (g : Nat → Nat) (t : Nat) {Post : Option Value → LT → Prop} (C : OkX X (gx B) cX0_tellPerson 7 wsX0_tellPerson RX0 (rmD 3)) (R : RtX X (gx B) (some .boolean) (encLT B g t) Post) {K110 : PT LT} (hK110 : Snd X (gx B) 7 (encLT B g t) 110 K110) : Snd X (gx B) 7 (encLT B g t) 78 (bk_X0_tellPerson_78 g t Post K110) := by
  unfold bk_X0_tellPerson_78
  refine s_istore C (by decide) dX0_tellPerson_78 ?_
  refine s_aload_n C rfl dX0_tellPerson_80 ?_
  refine s_aload_n C rfl dX0_tellPerson_81 ?_
  refine s_get C inw_X0_tellPerson_X2 rfl (k := 1) (by decide) (by decide +kernel) (heLT_2 B g t) (fun _ => rfl) dX0_tellPerson_82 ?_
  refine s_iconst C (by decide) dX0_tellPerson_85 ?_
  refine s_aload_n C rfl dX0_tellPerson_86 ?_
  refine s_iload_n C rfl dX0_tellPerson_87 ?_
  refine s_iconst C (by decide) dX0_tellPerson_88 ?_
  refine s_iadd C dX0_tellPerson_89 ?_
  refine s_callV C (fr_LT_L B g t) (k_X0_digit B g) gX0_tellPerson_X0_digit rfl (by decide +kernel) ⟨rfl, rfl⟩ (by decide) rfl (fun s => ⟨_, heLT_0 B g t s⟩) (cf_RI_r _ _ _ _) dX0_tellPerson_90 ?_
  refine s_callV C (fr_LT_T B g t) (k_X2_putPerson B g t) gX0_tellPerson_X2_putPerson rfl (by decide +kernel) ⟨rfl, rfl⟩ (by decide) rfl (fun s => ⟨_, heLT_2 B g t s⟩) (cf_RIII_r _ _ _ _) dX0_tellPerson_93 ?_
  refine s_aload_n C rfl dX0_tellPerson_96 ?_
  refine s_aload_n C rfl dX0_tellPerson_97 ?_
  refine s_get C inw_X0_tellPerson_X2 rfl (k := 1) (by decide) (by decide +kernel) (heLT_2 B g t) (fun _ => rfl) dX0_tellPerson_98 ?_
  refine s_iconst C (by decide) dX0_tellPerson_101 ?_
  refine s_iload C dX0_tellPerson_102 ?_
  refine s_callV C (fr_LT_T B g t) (k_X2_putPerson B g t) gX0_tellPerson_X2_putPerson rfl (by decide +kernel) ⟨rfl, rfl⟩ (by decide) rfl (fun s => ⟨_, heLT_2 B g t s⟩) (cf_RIII_r _ _ _ _) dX0_tellPerson_104 ?_
  refine s_iconst C (by decide) dX0_tellPerson_107 ?_
  refine s_istore C (by decide) dX0_tellPerson_108 ?_
  exact s_keep _ hK110
def bk_X0_tellPerson_63 (g : Nat → Nat) (t : Nat) (Post : Option Value → LT → Prop) (K110 : PT LT) (L : Lc) (st : List Value) (s : LT) : Prop :=
  (wIst 4 <| wIload 3 <| wIf1 (fun x => x = 0) (wIload 2 <| wK (.int 4) <| wB (fun x y => x + y) <| bk_X0_tellPerson_78 g t Post K110) (wIload 2 <| wK (.int 5) <| wB (fun x y => x + y) <| bk_X0_tellPerson_78 g t Post K110)) L st s
set_option maxRecDepth 20000 in
theorem s_X0_tellPerson_63 {X : Cx} (B : Bx) (g : Nat → Nat) (t : Nat) {Post : Option Value → LT → Prop} (C : OkX X (gx B) cX0_tellPerson 7 wsX0_tellPerson RX0 (rmD 3)) (R : RtX X (gx B) (some .boolean) (encLT B g t) Post) {K110 : PT LT} (hK110 : Snd X (gx B) 7 (encLT B g t) 110 K110) : Snd X (gx B) 7 (encLT B g t) 63 (bk_X0_tellPerson_63 g t Post K110) := by
  unfold bk_X0_tellPerson_63
  refine s_istore C (by decide) dX0_tellPerson_63 ?_
  refine s_iload_n C rfl dX0_tellPerson_65 ?_
  refine s_if_eq C (tgt := 75) (by decide) dX0_tellPerson_66 ?_ ?_
  · refine s_iload_n C rfl dX0_tellPerson_75 ?_
    refine s_iconst C (by decide) dX0_tellPerson_76 ?_
    refine s_iadd C dX0_tellPerson_77 ?_
    exact s_X0_tellPerson_78 B g t C R hK110
  · refine s_iload_n C rfl dX0_tellPerson_69 ?_
    refine s_iconst C (by decide) dX0_tellPerson_70 ?_
    refine s_iadd C dX0_tellPerson_71 ?_
    refine s_goto C (tgt := 78) (by decide) dX0_tellPerson_72 ?_
    exact s_X0_tellPerson_78 B g t C R hK110
def bk_X0_tellPerson_0 (g : Nat → Nat) (t : Nat) (Post : Option Value → LT → Prop) (K110 : PT LT) (L : Lc) (st : List Value) (s : LT) : Prop :=
  (wAload 1 <| wGet (g t) (fun s => .int (mTPp s)) <| wK (.int 7) <| wIf2 (fun x y => y ≤ x) (bk_X0_tellPerson_21 g t Post ) (wAload 0 <| wIload 2 <| wK (.int 1) <| wB (fun x y => x + y) <| wCallR 2 (F_X0_digit g) mL msL <| wK (.int 6) <| wIf2 (fun x y => x ≤ y) (wAload 0 <| wIload 2 <| wK (.int 3) <| wB (fun x y => x + y) <| wCallR 2 (F_X0_isDigit g) mL msL <| wIst 3 <| wIload 3 <| wIf1 (fun x => x = 0) (wAload 0 <| wIload 2 <| wK (.int 2) <| wB (fun x y => x + y) <| wCallR 2 (F_X0_digit g) mL msL <| bk_X0_tellPerson_63 g t Post K110) (wAload 0 <| wIload 2 <| wK (.int 2) <| wB (fun x y => x + y) <| wCallR 2 (F_X0_digit g) mL msL <| wK (.int 10) <| wB (fun x y => x * y) <| wAload 0 <| wIload 2 <| wK (.int 3) <| wB (fun x y => x + y) <| wCallR 2 (F_X0_digit g) mL msL <| wB (fun x y => x + y) <| bk_X0_tellPerson_63 g t Post K110)) (bk_X0_tellPerson_21 g t Post ))) L st s
set_option maxRecDepth 20000 in
theorem s_X0_tellPerson_0 {X : Cx} (B : Bx) (g : Nat → Nat) (t : Nat) {Post : Option Value → LT → Prop} (C : OkX X (gx B) cX0_tellPerson 7 wsX0_tellPerson RX0 (rmD 3)) (R : RtX X (gx B) (some .boolean) (encLT B g t) Post) {K110 : PT LT} (hK110 : Snd X (gx B) 7 (encLT B g t) 110 K110) : Snd X (gx B) 7 (encLT B g t) 0 (bk_X0_tellPerson_0 g t Post K110) := by
  unfold bk_X0_tellPerson_0
  refine s_aload_n C rfl dX0_tellPerson_0 ?_
  refine s_get C inw_X0_tellPerson_X2 rfl (k := 1) (by decide) (by decide +kernel) (heLT_2 B g t) (fun _ => rfl) dX0_tellPerson_1 ?_
  refine s_bipush C (by decide) dX0_tellPerson_4 ?_
  refine s_icmp_ge C (tgt := 21) (by decide) dX0_tellPerson_6 ?_ ?_
  · exact s_X0_tellPerson_21 B g t C R 
  · refine s_aload_n C rfl dX0_tellPerson_9 ?_
    refine s_iload_n C rfl dX0_tellPerson_10 ?_
    refine s_iconst C (by decide) dX0_tellPerson_11 ?_
    refine s_iadd C dX0_tellPerson_12 ?_
    refine s_callV C (fr_LT_L B g t) (k_X0_digit B g) gX0_tellPerson_X0_digit rfl (by decide +kernel) ⟨rfl, rfl⟩ (by decide) rfl (fun s => ⟨_, heLT_0 B g t s⟩) (cf_RI_r _ _ _ _) dX0_tellPerson_13 ?_
    refine s_bipush C (by decide) dX0_tellPerson_16 ?_
    refine s_icmp_le C (tgt := 23) (by decide) dX0_tellPerson_18 ?_ ?_
    · refine s_aload_n C rfl dX0_tellPerson_23 ?_
      refine s_iload_n C rfl dX0_tellPerson_24 ?_
      refine s_iconst C (by decide) dX0_tellPerson_25 ?_
      refine s_iadd C dX0_tellPerson_26 ?_
      refine s_callV C (fr_LT_L B g t) (k_X0_isDigit B g) gX0_tellPerson_X0_isDigit rfl (by decide +kernel) ⟨rfl, rfl⟩ (by decide) rfl (fun s => ⟨_, heLT_0 B g t s⟩) (cf_RI_r _ _ _ _) dX0_tellPerson_27 ?_
      refine s_istore_n C rfl (by decide) dX0_tellPerson_30 ?_
      refine s_iload_n C rfl dX0_tellPerson_31 ?_
      refine s_if_eq C (tgt := 56) (by decide) dX0_tellPerson_32 ?_ ?_
      · refine s_aload_n C rfl dX0_tellPerson_56 ?_
        refine s_iload_n C rfl dX0_tellPerson_57 ?_
        refine s_iconst C (by decide) dX0_tellPerson_58 ?_
        refine s_iadd C dX0_tellPerson_59 ?_
        refine s_callV C (fr_LT_L B g t) (k_X0_digit B g) gX0_tellPerson_X0_digit rfl (by decide +kernel) ⟨rfl, rfl⟩ (by decide) rfl (fun s => ⟨_, heLT_0 B g t s⟩) (cf_RI_r _ _ _ _) dX0_tellPerson_60 ?_
        exact s_X0_tellPerson_63 B g t C R hK110
      · refine s_aload_n C rfl dX0_tellPerson_35 ?_
        refine s_iload_n C rfl dX0_tellPerson_36 ?_
        refine s_iconst C (by decide) dX0_tellPerson_37 ?_
        refine s_iadd C dX0_tellPerson_38 ?_
        refine s_callV C (fr_LT_L B g t) (k_X0_digit B g) gX0_tellPerson_X0_digit rfl (by decide +kernel) ⟨rfl, rfl⟩ (by decide) rfl (fun s => ⟨_, heLT_0 B g t s⟩) (cf_RI_r _ _ _ _) dX0_tellPerson_39 ?_
        refine s_bipush C (by decide) dX0_tellPerson_42 ?_
        refine s_imul C dX0_tellPerson_44 ?_
        refine s_aload_n C rfl dX0_tellPerson_45 ?_
        refine s_iload_n C rfl dX0_tellPerson_46 ?_
        refine s_iconst C (by decide) dX0_tellPerson_47 ?_
        refine s_iadd C dX0_tellPerson_48 ?_
        refine s_callV C (fr_LT_L B g t) (k_X0_digit B g) gX0_tellPerson_X0_digit rfl (by decide +kernel) ⟨rfl, rfl⟩ (by decide) rfl (fun s => ⟨_, heLT_0 B g t s⟩) (cf_RI_r _ _ _ _) dX0_tellPerson_49 ?_
        refine s_iadd C dX0_tellPerson_52 ?_
        refine s_goto C (tgt := 63) (by decide) dX0_tellPerson_53 ?_
        exact s_X0_tellPerson_63 B g t C R hK110
    · exact s_X0_tellPerson_21 B g t C R 
def bk_X0_tellPerson_110 (g : Nat → Nat) (t : Nat) (Post : Option Value → LT → Prop) (K110 : PT LT) (L : Lc) (st : List Value) (s : LT) : Prop :=
  (wIload 6 <| wK (.int 4) <| wIf2 (fun x y => y ≤ x) (wAload 1 <| wDup <| wGet (g t) (fun s => .int (mTPp s)) <| wK (.int 1) <| wB (fun x y => x + y) <| wPut (g t) msTPp <| wK (.int 1) <| wRetZ Post) (wAload 1 <| wAload 1 <| wGet (g t) (fun s => .int (mTPp s)) <| wK (.int 2) <| wIload 6 <| wB (fun x y => x + y) <| wAload 0 <| wIload 5 <| wIload 6 <| wB (fun x y => x + y) <| wCallR 2 (F_X0_digit g) mL msL <| wCallR 4 (F_X2_putPerson g t) mT msT <| wInc 6 1 <| wKeep [true, true, false, false, false, true, true] K110)) L st s
set_option maxRecDepth 20000 in
theorem s_X0_tellPerson_110 {X : Cx} (B : Bx) (g : Nat → Nat) (t : Nat) {Post : Option Value → LT → Prop} (C : OkX X (gx B) cX0_tellPerson 7 wsX0_tellPerson RX0 (rmD 3)) (R : RtX X (gx B) (some .boolean) (encLT B g t) Post) {K110 : PT LT} (hK110 : Snd X (gx B) 7 (encLT B g t) 110 K110) : Snd X (gx B) 7 (encLT B g t) 110 (bk_X0_tellPerson_110 g t Post K110) := by
  unfold bk_X0_tellPerson_110
  refine s_iload C dX0_tellPerson_110 ?_
  refine s_iconst C (by decide) dX0_tellPerson_112 ?_
  refine s_icmp_ge C (tgt := 143) (by decide) dX0_tellPerson_113 ?_ ?_
  · refine s_aload_n C rfl dX0_tellPerson_143 ?_
    refine s_dup C dX0_tellPerson_144 ?_
    refine s_get C inw_X0_tellPerson_X2 rfl (k := 1) (by decide) (by decide +kernel) (heLT_2 B g t) (fun _ => rfl) dX0_tellPerson_145 ?_
    refine s_iconst C (by decide) dX0_tellPerson_148 ?_
    refine s_iadd C dX0_tellPerson_149 ?_
    refine s_put C inw_X0_tellPerson_X2 rfl (k := 1) (by decide) (by decide +kernel) tyX2_ok nmX2 (by decide +kernel) (by decide +kernel) (heLT_2 B g t) (fun _ => Nat.le_of_ble_eq_true rfl) (fun _ _ => rfl) dX0_tellPerson_150 ?_
    refine s_iconst C (by decide) dX0_tellPerson_153 ?_
    exact s_zret C R dX0_tellPerson_154
  · refine s_aload_n C rfl dX0_tellPerson_116 ?_
    refine s_aload_n C rfl dX0_tellPerson_117 ?_
    refine s_get C inw_X0_tellPerson_X2 rfl (k := 1) (by decide) (by decide +kernel) (heLT_2 B g t) (fun _ => rfl) dX0_tellPerson_118 ?_
    refine s_iconst C (by decide) dX0_tellPerson_121 ?_
    refine s_iload C dX0_tellPerson_122 ?_
    refine s_iadd C dX0_tellPerson_124 ?_
    refine s_aload_n C rfl dX0_tellPerson_125 ?_
    refine s_iload C dX0_tellPerson_126 ?_
    refine s_iload C dX0_tellPerson_128 ?_
    refine s_iadd C dX0_tellPerson_130 ?_
    refine s_callV C (fr_LT_L B g t) (k_X0_digit B g) gX0_tellPerson_X0_digit rfl (by decide +kernel) ⟨rfl, rfl⟩ (by decide) rfl (fun s => ⟨_, heLT_0 B g t s⟩) (cf_RI_r _ _ _ _) dX0_tellPerson_131 ?_
    refine s_callV C (fr_LT_T B g t) (k_X2_putPerson B g t) gX0_tellPerson_X2_putPerson rfl (by decide +kernel) ⟨rfl, rfl⟩ (by decide) rfl (fun s => ⟨_, heLT_2 B g t s⟩) (cf_RIII_r _ _ _ _) dX0_tellPerson_134 ?_
    refine s_iinc C (by decide) (by decide) dX0_tellPerson_137 ?_
    refine s_goto C (tgt := 110) (by decide) dX0_tellPerson_140 ?_
    exact s_keep _ hK110
def I_tp (g : Nat → Nat) (t : Nat) (S : LT) (p : Int32) (n : Nat) (L : Lc) (st : List Value) (s : LT) : Prop := ∃ k, n + k = 4 ∧ st = [] ∧ s = msT S (pnT (mL S) p (mT S) k) ∧ L = [some (.ref (g 22)), some (.ref (g t)), none, none, none, some (.int (pnS (mL S) p)), some (.int (nI k))]
theorem k_X0_tellPerson (B : Bx) (g : Nat → Nat) (t : Nat) : MtF (gx B) yX0_tellPerson wsX0_tellPerson (rmD 3) (encLT B g t) (F_X0_tellPerson g t) := by
  refine cf_RRI_i (fun l S p _ => Mt.of (P := bk_X0_tellPerson_0 g t (fun o u => o = some (.int (b2i (pnOk (mL S) p (mT S)))) ∧ u = if pnOk (mL S) p (mT S) = true then msT S (pnAll (mL S) p (mT S)) else S) (fun L st s => pnOk (mL S) p (mT S) = true ∧ ∃ n, I_tp g t S p n L st s)) (by decide) rfl (Nat.le_of_ble_eq_true rfl) rfl
    (fun X C R => s_X0_tellPerson_0 B g t C R (Snd.imp (fun hok => snd_loop _ (I_tp g t S p) (fun K hK => s_X0_tellPerson_110 B g t C R hK) ?_))) ?_)
  · rintro K n L st s ⟨k, hn, rfl, rfl, rfl⟩ hK
    simp only [wIload, wAload, wLload, wK, wB, wDv, wU, wLB, wLU, wLS, wL2i, wLcmp, wIf1, wIf2, wKeep, wInc, wIst, wAst, wLst, wDup, wPop, wDup2, wGet, wPut, wPutZ, wIald, wLald, wIast, wLast, wLen, wRetI, wRetZ, wRetL, wRetA, wRetV, wM1, wM2, wCpy, wTab, tabW, nth, stL, stL2, dropL, keepL, mkL, padL, restOK, restOKn, tl_some, tl_none, id_eq, eq_self, true_and, and_true, bk_X0_tellPerson_21, bk_X0_tellPerson_78, bk_X0_tellPerson_63, bk_X0_tellPerson_0, bk_X0_tellPerson_110, F_X0_digit, F_X0_isDigit, F_X2_putPerson, cf_RIII_e, cf_RI_e, mg_L_L, mg_L_T, mg_T_L, mg_T_T, me_L, mo_L, me_T, mo_T, mTPp, msTPp, tPp_pnT]
    rcases Nat.lt_or_ge k 4 with hlt | hge
    · have h1 : ¬ (4 : Int32) ≤ nI k := nI_ge (a := k) (b := 4) hlt (by decide)
      simp only [h1, false_implies, true_implies, not_true_eq_false, not_false_eq_true, true_and, and_true, implies_true, eq_self, ne_eq, true_or, or_true, false_or, or_false, and_self]
      rw [nI_1]
      exact hK (n - 1) _ _ _ (by omega) ⟨k + 1, by omega, rfl, rfl, rfl⟩
    · have h1 : (4 : Int32) ≤ nI k := nI_le (a := 4) hge (by omega)
      have hk : k = 4 := by omega
      subst hk
      simp only [h1, hok, if_true, b2i_t, false_implies, true_implies, not_true_eq_false, not_false_eq_true, true_and, and_true, implies_true, eq_self, ne_eq, true_or, or_true, false_or, or_false, and_self]
      first | exact ⟨Or.inr rfl, rfl, rfl⟩ | exact ⟨rfl, rfl⟩ | rfl | trivial
  · simp only [wIload, wAload, wLload, wK, wB, wDv, wU, wLB, wLU, wLS, wL2i, wLcmp, wIf1, wIf2, wKeep, wInc, wIst, wAst, wLst, wDup, wPop, wDup2, wGet, wPut, wPutZ, wIald, wLald, wIast, wLast, wLen, wRetI, wRetZ, wRetL, wRetA, wRetV, wM1, wM2, wCpy, wTab, tabW, nth, stL, stL2, dropL, keepL, mkL, padL, restOK, restOKn, tl_some, tl_none, id_eq, eq_self, true_and, and_true, bk_X0_tellPerson_21, bk_X0_tellPerson_78, bk_X0_tellPerson_63, bk_X0_tellPerson_0, bk_X0_tellPerson_110, F_X0_digit, F_X0_isDigit, F_X2_putPerson, cf_RIII_e, cf_RI_e, mg_L_L, mg_L_T, mg_T_L, mg_T_T, me_L, mo_L, me_T, mo_T, mTPp, b2i_eq0]
    by_cases h7 : (7 : Int32) ≤ tPp (mT S)
    · have hno : pnOk (mL S) p (mT S) = false := by unfold pnOk; simp [h7]
      simp only [h7, hno, b2i_f, if_false, Bool.false_eq_true, false_implies, true_implies, not_true_eq_false, not_false_eq_true, true_and, and_true, implies_true, eq_self, ne_eq, true_or, or_true, false_or, or_false, and_self]
    · by_cases h6 : (6 : Int32) < lDg (mL S) (p + 1)
      · have hno : pnOk (mL S) p (mT S) = false := by unfold pnOk; simp [h6]
        have h6' : ¬ lDg (mL S) (p + 1) ≤ 6 := Int32.not_le.mpr h6
        simp only [h7, h6', hno, b2i_f, if_false, Bool.false_eq_true, false_implies, true_implies, not_true_eq_false, not_false_eq_true, true_and, and_true, implies_true, eq_self, ne_eq, true_or, or_true, false_or, or_false, and_self]
      · have hok : pnOk (mL S) p (mT S) = true := by unfold pnOk; simp [h7, Int32.not_lt.mp h6, Int32.not_le.mp h7]
        have h6' : lDg (mL S) (p + 1) ≤ 6 := Int32.not_lt.mp h6
        cases hd : lDig (mL S) (p + 3)
        · have e1 : pnS (mL S) p = p + 4 := by unfold pnS; rw [hd]; rfl
          have e2 : pnM (mL S) p = lDg (mL S) (p + 2) := by unfold pnM; rw [hd]; rfl
          simp only [h7, h6', hok, hd, Bool.true_eq_false, false_implies, true_implies, not_true_eq_false, not_false_eq_true, true_and, and_true, implies_true, eq_self, ne_eq, true_or, or_true, false_or, or_false, and_self]
          exact ⟨4, 0, rfl, rfl, by simp only [pnT, e2, tPp_putP], by rw [e1]; rfl⟩
        · have e1 : pnS (mL S) p = p + 5 := by unfold pnS; rw [hd]; rfl
          have e2 : pnM (mL S) p = lDg (mL S) (p + 2) * 10 + lDg (mL S) (p + 3) := by unfold pnM; rw [hd]; rfl
          simp only [h7, h6', hok, hd, Bool.true_eq_false, false_implies, true_implies, not_true_eq_false, not_false_eq_true, true_and, and_true, implies_true, eq_self, ne_eq, true_or, or_true, false_or, or_false, and_self]
          exact ⟨4, 0, rfl, rfl, by simp only [pnT, e2, tPp_putP], by rw [e1]; rfl⟩
end
