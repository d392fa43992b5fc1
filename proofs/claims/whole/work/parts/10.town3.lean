noncomputable section
def tMay (T : TS) (p q : Int32) : Bool := !decide (p = q) && (tHasP T p && (tHasP T q && (!tSpent T p q && (!decide (tOfP T p 0 = 6) || decide (tMin T p q ≤ 20)))))
def F_X2_mayHelp (g : Nat → Nat) (t : Nat) : CF TS := cf_RII (g t) (fun _ _ _ => True) (fun T p q => some (.int (b2i (tMay T p q)))) (fun T _ _ => T)
theorem inw_X2_mayHelp_X2 : ∀ w ∈ u_ws RX2 TX2 8, w ∈ wsX2_mayHelp := by decide +kernel
def bk_X2_mayHelp_30 (g : Nat → Nat) (t : Nat) (Post : Option Value → TS → Prop)  (L : Lc) (st : List Value) (s : TS) : Prop :=
  (wK (.int 0) <| wRetZ Post) L st s
set_option maxRecDepth 20000 in
theorem s_X2_mayHelp_30 {X : Cx} (B : Bx) (g : Nat → Nat) (t : Nat) {Post : Option Value → TS → Prop} (C : OkX X (gx B) cX2_mayHelp 3 wsX2_mayHelp RX2 (rmD 2)) (R : RtX X (gx B) (some .boolean) (encT B g t) Post)  : Snd X (gx B) 3 (encT B g t) 30 (bk_X2_mayHelp_30 g t Post ) := by
  unfold bk_X2_mayHelp_30
  refine s_iconst C (by decide) dX2_mayHelp_30 ?_
  exact s_zret C R dX2_mayHelp_31
def bk_X2_mayHelp_59 (g : Nat → Nat) (t : Nat) (Post : Option Value → TS → Prop)  (L : Lc) (st : List Value) (s : TS) : Prop :=
  (wRetZ Post) L st s
set_option maxRecDepth 20000 in
theorem s_X2_mayHelp_59 {X : Cx} (B : Bx) (g : Nat → Nat) (t : Nat) {Post : Option Value → TS → Prop} (C : OkX X (gx B) cX2_mayHelp 3 wsX2_mayHelp RX2 (rmD 2)) (R : RtX X (gx B) (some .boolean) (encT B g t) Post)  : Snd X (gx B) 3 (encT B g t) 59 (bk_X2_mayHelp_59 g t Post ) := by
  unfold bk_X2_mayHelp_59
  exact s_zret C R dX2_mayHelp_59
def bk_X2_mayHelp_54 (g : Nat → Nat) (t : Nat) (Post : Option Value → TS → Prop)  (L : Lc) (st : List Value) (s : TS) : Prop :=
  (wK (.int 1) <| bk_X2_mayHelp_59 g t Post ) L st s
set_option maxRecDepth 20000 in
theorem s_X2_mayHelp_54 {X : Cx} (B : Bx) (g : Nat → Nat) (t : Nat) {Post : Option Value → TS → Prop} (C : OkX X (gx B) cX2_mayHelp 3 wsX2_mayHelp RX2 (rmD 2)) (R : RtX X (gx B) (some .boolean) (encT B g t) Post)  : Snd X (gx B) 3 (encT B g t) 54 (bk_X2_mayHelp_54 g t Post ) := by
  unfold bk_X2_mayHelp_54
  refine s_iconst C (by decide) dX2_mayHelp_54 ?_
  refine s_goto C (tgt := 59) (by decide) dX2_mayHelp_55 ?_
  exact s_X2_mayHelp_59 B g t C R 
def bk_X2_mayHelp_0 (g : Nat → Nat) (t : Nat) (Post : Option Value → TS → Prop)  (L : Lc) (st : List Value) (s : TS) : Prop :=
  (wIload 1 <| wIload 2 <| wIf2 (fun x y => x = y) (bk_X2_mayHelp_30 g t Post ) (wAload 0 <| wIload 1 <| wCallR 2 (F_X2_hasPerson g t) id (fun _ u => u) <| wIf1 (fun x => x = 0) (bk_X2_mayHelp_30 g t Post ) (wAload 0 <| wIload 2 <| wCallR 2 (F_X2_hasPerson g t) id (fun _ u => u) <| wIf1 (fun x => x = 0) (bk_X2_mayHelp_30 g t Post ) (wAload 0 <| wIload 1 <| wIload 2 <| wCallR 3 (F_X2_isSpent g t) id (fun _ u => u) <| wIf1 (fun x => x = 0) (wAload 0 <| wIload 1 <| wK (.int 0) <| wCallR 3 (F_X2_ofPerson g t) id (fun _ u => u) <| wK (.int 6) <| wIf2 (fun x y => x = y) (wAload 0 <| wIload 1 <| wIload 2 <| wCallR 3 (F_X2_minutesBetween g t) id (fun _ u => u) <| wK (.int 20) <| wIf2 (fun x y => y < x) (wK (.int 0) <| bk_X2_mayHelp_59 g t Post ) (bk_X2_mayHelp_54 g t Post )) (bk_X2_mayHelp_54 g t Post )) (bk_X2_mayHelp_30 g t Post ))))) L st s
set_option maxRecDepth 20000 in
theorem s_X2_mayHelp_0 {X : Cx} (B : Bx) (g : Nat → Nat) (t : Nat) {Post : Option Value → TS → Prop} (C : OkX X (gx B) cX2_mayHelp 3 wsX2_mayHelp RX2 (rmD 2)) (R : RtX X (gx B) (some .boolean) (encT B g t) Post)  : Snd X (gx B) 3 (encT B g t) 0 (bk_X2_mayHelp_0 g t Post ) := by
  unfold bk_X2_mayHelp_0
  refine s_iload_n C rfl dX2_mayHelp_0 ?_
  refine s_iload_n C rfl dX2_mayHelp_1 ?_
  refine s_icmp_eq C (tgt := 30) (by decide) dX2_mayHelp_2 ?_ ?_
  · exact s_X2_mayHelp_30 B g t C R 
  · refine s_aload_n C rfl dX2_mayHelp_5 ?_
    refine s_iload_n C rfl dX2_mayHelp_6 ?_
    refine s_callV C (fr_T_T B g t) (k_X2_hasPerson B g t) gX2_mayHelp_X2_hasPerson rfl (by decide +kernel) ⟨rfl, rfl⟩ (by decide) rfl (fun s => ⟨_, heT_0 B g t s⟩) (cf_RI_r _ _ _ _) dX2_mayHelp_7 ?_
    refine s_if_eq C (tgt := 30) (by decide) dX2_mayHelp_10 ?_ ?_
    · exact s_X2_mayHelp_30 B g t C R 
    · refine s_aload_n C rfl dX2_mayHelp_13 ?_
      refine s_iload_n C rfl dX2_mayHelp_14 ?_
      refine s_callV C (fr_T_T B g t) (k_X2_hasPerson B g t) gX2_mayHelp_X2_hasPerson rfl (by decide +kernel) ⟨rfl, rfl⟩ (by decide) rfl (fun s => ⟨_, heT_0 B g t s⟩) (cf_RI_r _ _ _ _) dX2_mayHelp_15 ?_
      refine s_if_eq C (tgt := 30) (by decide) dX2_mayHelp_18 ?_ ?_
      · exact s_X2_mayHelp_30 B g t C R 
      · refine s_aload_n C rfl dX2_mayHelp_21 ?_
        refine s_iload_n C rfl dX2_mayHelp_22 ?_
        refine s_iload_n C rfl dX2_mayHelp_23 ?_
        refine s_callV C (fr_T_T B g t) (k_X2_isSpent B g t) gX2_mayHelp_X2_isSpent rfl (by decide +kernel) ⟨rfl, rfl⟩ (by decide) rfl (fun s => ⟨_, heT_0 B g t s⟩) (cf_RII_r _ _ _ _) dX2_mayHelp_24 ?_
        refine s_if_eq C (tgt := 32) (by decide) dX2_mayHelp_27 ?_ ?_
        · refine s_aload_n C rfl dX2_mayHelp_32 ?_
          refine s_iload_n C rfl dX2_mayHelp_33 ?_
          refine s_iconst C (by decide) dX2_mayHelp_34 ?_
          refine s_callV C (fr_T_T B g t) (k_X2_ofPerson B g t) gX2_mayHelp_X2_ofPerson rfl (by decide +kernel) ⟨rfl, rfl⟩ (by decide) rfl (fun s => ⟨_, heT_0 B g t s⟩) (cf_RII_r _ _ _ _) dX2_mayHelp_35 ?_
          refine s_bipush C (by decide) dX2_mayHelp_38 ?_
          refine s_icmp_ne C (tgt := 54) (by decide) dX2_mayHelp_40 ?_ ?_
          · exact s_X2_mayHelp_54 B g t C R 
          · refine s_aload_n C rfl dX2_mayHelp_43 ?_
            refine s_iload_n C rfl dX2_mayHelp_44 ?_
            refine s_iload_n C rfl dX2_mayHelp_45 ?_
            refine s_callV C (fr_T_T B g t) (k_X2_minutesBetween B g t) gX2_mayHelp_X2_minutesBetween rfl (by decide +kernel) ⟨rfl, rfl⟩ (by decide) rfl (fun s => ⟨_, heT_0 B g t s⟩) (cf_RII_r _ _ _ _) dX2_mayHelp_46 ?_
            refine s_bipush C (by decide) dX2_mayHelp_49 ?_
            refine s_icmp_gt C (tgt := 58) (by decide) dX2_mayHelp_51 ?_ ?_
            · refine s_iconst C (by decide) dX2_mayHelp_58 ?_
              exact s_X2_mayHelp_59 B g t C R 
            · exact s_X2_mayHelp_54 B g t C R 
        · exact s_X2_mayHelp_30 B g t C R 
theorem k_X2_mayHelp (B : Bx) (g : Nat → Nat) (t : Nat) : MtF (gx B) yX2_mayHelp wsX2_mayHelp (rmD 2) (encT B g t) (F_X2_mayHelp g t) := by
  refine cf_RII_i (fun l T p q _ => Mt.of (by decide) rfl (Nat.le_of_ble_eq_true rfl) rfl (fun X C R => s_X2_mayHelp_0 B g t C R) ?_)
  simp only [wIload, wAload, wLload, wK, wB, wDv, wU, wLB, wLU, wLS, wL2i, wLcmp, wIf1, wIf2, wKeep, wInc, wIst, wAst, wLst, wDup, wPop, wDup2, wGet, wPut, wPutZ, wIald, wLald, wIast, wLast, wLen, wRetI, wRetZ, wRetL, wRetA, wRetV, wM1, wM2, wCpy, wTab, tabW, nth, stL, stL2, dropL, keepL, mkL, padL, restOK, restOKn, tl_some, tl_none, id_eq, eq_self, true_and, and_true, bk_X2_mayHelp_30, bk_X2_mayHelp_59, bk_X2_mayHelp_54, bk_X2_mayHelp_0, F_X2_hasPerson, F_X2_isSpent, F_X2_minutesBetween, F_X2_ofPerson, cf_RII_e, cf_RI_e, b2i_eq0]
  repeat' first | refine And.intro ?_ ?_ | intro _
  all_goals grind [tMay, b2i]
def tMayW (T : TS) (p n : Int32) : Bool := decide (tOfN T n 5 &&& tBit p = 0) && (tOpen T n && tMay T p (tOfN T n 0))
def F_X2_mayHelpWith (g : Nat → Nat) (t : Nat) : CF TS := cf_RII (g t) (fun _ _ _ => True) (fun T p n => some (.int (b2i (tMayW T p n)))) (fun T _ _ => T)
theorem inw_X2_mayHelpWith_X2 : ∀ w ∈ u_ws RX2 TX2 8, w ∈ wsX2_mayHelpWith := by decide +kernel
def bk_X2_mayHelpWith_51 (g : Nat → Nat) (t : Nat) (Post : Option Value → TS → Prop)  (L : Lc) (st : List Value) (s : TS) : Prop :=
  (wRetZ Post) L st s
set_option maxRecDepth 20000 in
theorem s_X2_mayHelpWith_51 {X : Cx} (B : Bx) (g : Nat → Nat) (t : Nat) {Post : Option Value → TS → Prop} (C : OkX X (gx B) cX2_mayHelpWith 4 wsX2_mayHelpWith RX2 (rmD 3)) (R : RtX X (gx B) (some .boolean) (encT B g t) Post)  : Snd X (gx B) 4 (encT B g t) 51 (bk_X2_mayHelpWith_51 g t Post ) := by
  unfold bk_X2_mayHelpWith_51
  exact s_zret C R dX2_mayHelpWith_51
def bk_X2_mayHelpWith_50 (g : Nat → Nat) (t : Nat) (Post : Option Value → TS → Prop)  (L : Lc) (st : List Value) (s : TS) : Prop :=
  (wK (.int 0) <| bk_X2_mayHelpWith_51 g t Post ) L st s
set_option maxRecDepth 20000 in
theorem s_X2_mayHelpWith_50 {X : Cx} (B : Bx) (g : Nat → Nat) (t : Nat) {Post : Option Value → TS → Prop} (C : OkX X (gx B) cX2_mayHelpWith 4 wsX2_mayHelpWith RX2 (rmD 3)) (R : RtX X (gx B) (some .boolean) (encT B g t) Post)  : Snd X (gx B) 4 (encT B g t) 50 (bk_X2_mayHelpWith_50 g t Post ) := by
  unfold bk_X2_mayHelpWith_50
  refine s_iconst C (by decide) dX2_mayHelpWith_50 ?_
  exact s_X2_mayHelpWith_51 B g t C R 
def bk_X2_mayHelpWith_19 (g : Nat → Nat) (t : Nat) (Post : Option Value → TS → Prop)  (L : Lc) (st : List Value) (s : TS) : Prop :=
  (wIst 3 <| wIload 3 <| wIf1 (fun x => x = 0) (wAload 0 <| wIload 2 <| wCallR 2 (F_X2_isOpen g t) id (fun _ u => u) <| wIf1 (fun x => x = 0) (bk_X2_mayHelpWith_50 g t Post ) (wAload 0 <| wIload 1 <| wAload 0 <| wIload 2 <| wK (.int 0) <| wCallR 3 (F_X2_ofNeed g t) id (fun _ u => u) <| wCallR 3 (F_X2_mayHelp g t) id (fun _ u => u) <| wIf1 (fun x => x = 0) (bk_X2_mayHelpWith_50 g t Post ) (wK (.int 1) <| bk_X2_mayHelpWith_51 g t Post ))) (bk_X2_mayHelpWith_50 g t Post )) L st s
set_option maxRecDepth 20000 in
theorem s_X2_mayHelpWith_19 {X : Cx} (B : Bx) (g : Nat → Nat) (t : Nat) {Post : Option Value → TS → Prop} (C : OkX X (gx B) cX2_mayHelpWith 4 wsX2_mayHelpWith RX2 (rmD 3)) (R : RtX X (gx B) (some .boolean) (encT B g t) Post)  : Snd X (gx B) 4 (encT B g t) 19 (bk_X2_mayHelpWith_19 g t Post ) := by
  unfold bk_X2_mayHelpWith_19
  refine s_istore_n C rfl (by decide) dX2_mayHelpWith_19 ?_
  refine s_iload_n C rfl dX2_mayHelpWith_20 ?_
  refine s_if_ne C (tgt := 50) (by decide) dX2_mayHelpWith_21 ?_ ?_
  · exact s_X2_mayHelpWith_50 B g t C R 
  · refine s_aload_n C rfl dX2_mayHelpWith_24 ?_
    refine s_iload_n C rfl dX2_mayHelpWith_25 ?_
    refine s_callV C (fr_T_T B g t) (k_X2_isOpen B g t) gX2_mayHelpWith_X2_isOpen rfl (by decide +kernel) ⟨rfl, rfl⟩ (by decide) rfl (fun s => ⟨_, heT_0 B g t s⟩) (cf_RI_r _ _ _ _) dX2_mayHelpWith_26 ?_
    refine s_if_eq C (tgt := 50) (by decide) dX2_mayHelpWith_29 ?_ ?_
    · exact s_X2_mayHelpWith_50 B g t C R 
    · refine s_aload_n C rfl dX2_mayHelpWith_32 ?_
      refine s_iload_n C rfl dX2_mayHelpWith_33 ?_
      refine s_aload_n C rfl dX2_mayHelpWith_34 ?_
      refine s_iload_n C rfl dX2_mayHelpWith_35 ?_
      refine s_iconst C (by decide) dX2_mayHelpWith_36 ?_
      refine s_callV C (fr_T_T B g t) (k_X2_ofNeed B g t) gX2_mayHelpWith_X2_ofNeed rfl (by decide +kernel) ⟨rfl, rfl⟩ (by decide) rfl (fun s => ⟨_, heT_0 B g t s⟩) (cf_RII_r _ _ _ _) dX2_mayHelpWith_37 ?_
      refine s_callV C (fr_T_T B g t) (k_X2_mayHelp B g t) gX2_mayHelpWith_X2_mayHelp rfl (by decide +kernel) ⟨rfl, rfl⟩ (by decide) rfl (fun s => ⟨_, heT_0 B g t s⟩) (cf_RII_r _ _ _ _) dX2_mayHelpWith_40 ?_
      refine s_if_eq C (tgt := 50) (by decide) dX2_mayHelpWith_43 ?_ ?_
      · exact s_X2_mayHelpWith_50 B g t C R 
      · refine s_iconst C (by decide) dX2_mayHelpWith_46 ?_
        refine s_goto C (tgt := 51) (by decide) dX2_mayHelpWith_47 ?_
        exact s_X2_mayHelpWith_51 B g t C R 
def bk_X2_mayHelpWith_0 (g : Nat → Nat) (t : Nat) (Post : Option Value → TS → Prop)  (L : Lc) (st : List Value) (s : TS) : Prop :=
  (wAload 0 <| wIload 2 <| wK (.int 5) <| wCallR 3 (F_X2_ofNeed g t) id (fun _ u => u) <| wIload 1 <| wCallR 1 (F_X2_bitOf) (fun _ => ()) (fun s _ => s) <| wB (fun x y => x &&& y) <| wIf1 (fun x => x = 0) (wK (.int 0) <| bk_X2_mayHelpWith_19 g t Post ) (wK (.int 1) <| bk_X2_mayHelpWith_19 g t Post )) L st s
set_option maxRecDepth 20000 in
theorem s_X2_mayHelpWith_0 {X : Cx} (B : Bx) (g : Nat → Nat) (t : Nat) {Post : Option Value → TS → Prop} (C : OkX X (gx B) cX2_mayHelpWith 4 wsX2_mayHelpWith RX2 (rmD 3)) (R : RtX X (gx B) (some .boolean) (encT B g t) Post)  : Snd X (gx B) 4 (encT B g t) 0 (bk_X2_mayHelpWith_0 g t Post ) := by
  unfold bk_X2_mayHelpWith_0
  refine s_aload_n C rfl dX2_mayHelpWith_0 ?_
  refine s_iload_n C rfl dX2_mayHelpWith_1 ?_
  refine s_iconst C (by decide) dX2_mayHelpWith_2 ?_
  refine s_callV C (fr_T_T B g t) (k_X2_ofNeed B g t) gX2_mayHelpWith_X2_ofNeed rfl (by decide +kernel) ⟨rfl, rfl⟩ (by decide) rfl (fun s => ⟨_, heT_0 B g t s⟩) (cf_RII_r _ _ _ _) dX2_mayHelpWith_3 ?_
  refine s_iload_n C rfl dX2_mayHelpWith_6 ?_
  refine s_callS C (fr_T_E B g t) (k_X2_bitOf B) gX2_mayHelpWith_X2_bitOf rfl (by decide +kernel) ⟨rfl, rfl⟩ (by decide) (cf_I_r _ _ _) dX2_mayHelpWith_7 ?_
  refine s_iand C dX2_mayHelpWith_10 ?_
  refine s_if_eq C (tgt := 18) (by decide) dX2_mayHelpWith_11 ?_ ?_
  · refine s_iconst C (by decide) dX2_mayHelpWith_18 ?_
    exact s_X2_mayHelpWith_19 B g t C R 
  · refine s_iconst C (by decide) dX2_mayHelpWith_14 ?_
    refine s_goto C (tgt := 19) (by decide) dX2_mayHelpWith_15 ?_
    exact s_X2_mayHelpWith_19 B g t C R 
theorem k_X2_mayHelpWith (B : Bx) (g : Nat → Nat) (t : Nat) : MtF (gx B) yX2_mayHelpWith wsX2_mayHelpWith (rmD 3) (encT B g t) (F_X2_mayHelpWith g t) := by
  refine cf_RII_i (fun l T p n _ => Mt.of (by decide) rfl (Nat.le_of_ble_eq_true rfl) rfl (fun X C R => s_X2_mayHelpWith_0 B g t C R) ?_)
  simp only [wIload, wAload, wLload, wK, wB, wDv, wU, wLB, wLU, wLS, wL2i, wLcmp, wIf1, wIf2, wKeep, wInc, wIst, wAst, wLst, wDup, wPop, wDup2, wGet, wPut, wPutZ, wIald, wLald, wIast, wLast, wLen, wRetI, wRetZ, wRetL, wRetA, wRetV, wM1, wM2, wCpy, wTab, tabW, nth, stL, stL2, dropL, keepL, mkL, padL, restOK, restOKn, tl_some, tl_none, id_eq, eq_self, true_and, and_true, bk_X2_mayHelpWith_51, bk_X2_mayHelpWith_50, bk_X2_mayHelpWith_19, bk_X2_mayHelpWith_0, F_X2_bitOf, F_X2_isOpen, F_X2_mayHelp, F_X2_ofNeed, cf_I_e, cf_RII_e, cf_RI_e, b2i_eq0]
  repeat' first | refine And.intro ?_ ?_ | intro _
  all_goals grind [tMayW, b2i]
def tGood (T : TS) (p n : Int32) : Int32 :=
  let whole := tOfP T p (2 + tOfN T n 1) * tOfN T n 2
  let mi := tMin T p (tOfN T n 0)
  let plain := imax 0 (whole - mi / 10)
  let doc := if tOfN T n 1 = 0 then 2 * plain else plain
  if tOfP T p 0 = 1 then doc else if tOfP T p 0 = 2 then plain / 2 else if tOfP T p 0 = 3 then imax 0 (plain - 5) else if tOfP T p 0 = 4 then whole else if tOfP T p 0 = 5 then doc + 3 else if tOfP T p 0 = 6 then (if mi ≤ 20 then plain / 2 else 0) else plain
def F_X2_goodOf (g : Nat → Nat) (t : Nat) : CF TS := cf_RII (g t) (fun _ _ _ => True) (fun T p n => some (.int (tGood T p n))) (fun T _ _ => T)
theorem inw_X2_goodOf_X2 : ∀ w ∈ u_ws RX2 TX2 8, w ∈ wsX2_goodOf := by decide +kernel
def bk_X2_goodOf_151 (g : Nat → Nat) (t : Nat) (Post : Option Value → TS → Prop)  (L : Lc) (st : List Value) (s : TS) : Prop :=
  (wRetI Post) L st s
set_option maxRecDepth 20000 in
theorem s_X2_goodOf_151 {X : Cx} (B : Bx) (g : Nat → Nat) (t : Nat) {Post : Option Value → TS → Prop} (C : OkX X (gx B) cX2_goodOf 7 wsX2_goodOf RX2 (rmD 2)) (R : RtX X (gx B) (some .int) (encT B g t) Post)  : Snd X (gx B) 7 (encT B g t) 151 (bk_X2_goodOf_151 g t Post ) := by
  unfold bk_X2_goodOf_151
  exact s_iret C R dX2_goodOf_151
def bk_X2_goodOf_65 (g : Nat → Nat) (t : Nat) (Post : Option Value → TS → Prop)  (L : Lc) (st : List Value) (s : TS) : Prop :=
  (wIst 6 <| wAload 0 <| wIload 1 <| wK (.int 0) <| wCallR 3 (F_X2_ofPerson g t) id (fun _ u => u) <| wTab [(1, wIload 6 <| wRetI Post), (2, wIload 5 <| wK (.int 2) <| wDv (fun x y => x / y) <| wRetI Post), (3, wK (.int 0) <| wIload 5 <| wK (.int 5) <| wB (fun x y => x - y) <| wM2 (fun x y => if x < y then y else x) <| wRetI Post), (4, wIload 3 <| wRetI Post), (5, wIload 6 <| wK (.int 3) <| wB (fun x y => x + y) <| wRetI Post), (6, wIload 4 <| wK (.int 20) <| wIf2 (fun x y => x ≤ y) (wIload 5 <| wK (.int 2) <| wDv (fun x y => x / y) <| bk_X2_goodOf_151 g t Post ) (wK (.int 0) <| bk_X2_goodOf_151 g t Post ))] (wIload 5 <| wRetI Post)) L st s
set_option maxRecDepth 20000 in
theorem s_X2_goodOf_65 {X : Cx} (B : Bx) (g : Nat → Nat) (t : Nat) {Post : Option Value → TS → Prop} (C : OkX X (gx B) cX2_goodOf 7 wsX2_goodOf RX2 (rmD 2)) (R : RtX X (gx B) (some .int) (encT B g t) Post)  : Snd X (gx B) 7 (encT B g t) 65 (bk_X2_goodOf_65 g t Post ) := by
  unfold bk_X2_goodOf_65
  refine s_istore C (by decide) dX2_goodOf_65 ?_
  refine s_aload_n C rfl dX2_goodOf_67 ?_
  refine s_iload_n C rfl dX2_goodOf_68 ?_
  refine s_iconst C (by decide) dX2_goodOf_69 ?_
  refine s_callV C (fr_T_T B g t) (k_X2_ofPerson B g t) gX2_goodOf_X2_ofPerson rfl (by decide +kernel) ⟨rfl, rfl⟩ (by decide) rfl (fun s => ⟨_, heT_0 B g t s⟩) (cf_RII_r _ _ _ _) dX2_goodOf_70 ?_
  refine s_tab C 152 [112, 115, 120, 129, 131, 136] dX2_goodOf_73 (by decide) (by decide) rfl rfl rfl ?_ ?_
  · refine s_iload C dX2_goodOf_152 ?_
    exact s_iret C R dX2_goodOf_154
  · refine ⟨?_, ?_, ?_, ?_, ?_, ?_, trivial⟩
    · refine s_iload C dX2_goodOf_112 ?_
      exact s_iret C R dX2_goodOf_114
    · refine s_iload C dX2_goodOf_115 ?_
      refine s_iconst C (by decide) dX2_goodOf_117 ?_
      refine s_idiv C dX2_goodOf_118 ?_
      exact s_iret C R dX2_goodOf_119
    · refine s_iconst C (by decide) dX2_goodOf_120 ?_
      refine s_iload C dX2_goodOf_121 ?_
      refine s_iconst C (by decide) dX2_goodOf_123 ?_
      refine s_isub C dX2_goodOf_124 ?_
      refine s_mmax C (by decide +kernel) (by decide +kernel) (by decide +kernel) (by decide +kernel) (by decide) dX2_goodOf_125 ?_
      exact s_iret C R dX2_goodOf_128
    · refine s_iload_n C rfl dX2_goodOf_129 ?_
      exact s_iret C R dX2_goodOf_130
    · refine s_iload C dX2_goodOf_131 ?_
      refine s_iconst C (by decide) dX2_goodOf_133 ?_
      refine s_iadd C dX2_goodOf_134 ?_
      exact s_iret C R dX2_goodOf_135
    · refine s_iload C dX2_goodOf_136 ?_
      refine s_bipush C (by decide) dX2_goodOf_138 ?_
      refine s_icmp_le C (tgt := 147) (by decide) dX2_goodOf_140 ?_ ?_
      · refine s_iload C dX2_goodOf_147 ?_
        refine s_iconst C (by decide) dX2_goodOf_149 ?_
        refine s_idiv C dX2_goodOf_150 ?_
        exact s_X2_goodOf_151 B g t C R 
      · refine s_iconst C (by decide) dX2_goodOf_143 ?_
        refine s_goto C (tgt := 151) (by decide) dX2_goodOf_144 ?_
        exact s_X2_goodOf_151 B g t C R 
def bk_X2_goodOf_0 (g : Nat → Nat) (t : Nat) (Post : Option Value → TS → Prop)  (L : Lc) (st : List Value) (s : TS) : Prop :=
  (wAload 0 <| wIload 1 <| wK (.int 2) <| wAload 0 <| wIload 2 <| wK (.int 1) <| wCallR 3 (F_X2_ofNeed g t) id (fun _ u => u) <| wB (fun x y => x + y) <| wCallR 3 (F_X2_ofPerson g t) id (fun _ u => u) <| wAload 0 <| wIload 2 <| wK (.int 2) <| wCallR 3 (F_X2_ofNeed g t) id (fun _ u => u) <| wB (fun x y => x * y) <| wIst 3 <| wAload 0 <| wIload 1 <| wAload 0 <| wIload 2 <| wK (.int 0) <| wCallR 3 (F_X2_ofNeed g t) id (fun _ u => u) <| wCallR 3 (F_X2_minutesBetween g t) id (fun _ u => u) <| wIst 4 <| wK (.int 0) <| wIload 3 <| wIload 4 <| wK (.int 10) <| wDv (fun x y => x / y) <| wB (fun x y => x - y) <| wM2 (fun x y => if x < y then y else x) <| wIst 5 <| wAload 0 <| wIload 2 <| wK (.int 1) <| wCallR 3 (F_X2_ofNeed g t) id (fun _ u => u) <| wIf1 (fun x => x = 0) (wK (.int 2) <| wIload 5 <| wB (fun x y => x * y) <| bk_X2_goodOf_65 g t Post ) (wIload 5 <| bk_X2_goodOf_65 g t Post )) L st s
set_option maxRecDepth 20000 in
theorem s_X2_goodOf_0 {X : Cx} (B : Bx) (g : Nat → Nat) (t : Nat) {Post : Option Value → TS → Prop} (C : OkX X (gx B) cX2_goodOf 7 wsX2_goodOf RX2 (rmD 2)) (R : RtX X (gx B) (some .int) (encT B g t) Post)  : Snd X (gx B) 7 (encT B g t) 0 (bk_X2_goodOf_0 g t Post ) := by
  unfold bk_X2_goodOf_0
  refine s_aload_n C rfl dX2_goodOf_0 ?_
  refine s_iload_n C rfl dX2_goodOf_1 ?_
  refine s_iconst C (by decide) dX2_goodOf_2 ?_
  refine s_aload_n C rfl dX2_goodOf_3 ?_
  refine s_iload_n C rfl dX2_goodOf_4 ?_
  refine s_iconst C (by decide) dX2_goodOf_5 ?_
  refine s_callV C (fr_T_T B g t) (k_X2_ofNeed B g t) gX2_goodOf_X2_ofNeed rfl (by decide +kernel) ⟨rfl, rfl⟩ (by decide) rfl (fun s => ⟨_, heT_0 B g t s⟩) (cf_RII_r _ _ _ _) dX2_goodOf_6 ?_
  refine s_iadd C dX2_goodOf_9 ?_
  refine s_callV C (fr_T_T B g t) (k_X2_ofPerson B g t) gX2_goodOf_X2_ofPerson rfl (by decide +kernel) ⟨rfl, rfl⟩ (by decide) rfl (fun s => ⟨_, heT_0 B g t s⟩) (cf_RII_r _ _ _ _) dX2_goodOf_10 ?_
  refine s_aload_n C rfl dX2_goodOf_13 ?_
  refine s_iload_n C rfl dX2_goodOf_14 ?_
  refine s_iconst C (by decide) dX2_goodOf_15 ?_
  refine s_callV C (fr_T_T B g t) (k_X2_ofNeed B g t) gX2_goodOf_X2_ofNeed rfl (by decide +kernel) ⟨rfl, rfl⟩ (by decide) rfl (fun s => ⟨_, heT_0 B g t s⟩) (cf_RII_r _ _ _ _) dX2_goodOf_16 ?_
  refine s_imul C dX2_goodOf_19 ?_
  refine s_istore_n C rfl (by decide) dX2_goodOf_20 ?_
  refine s_aload_n C rfl dX2_goodOf_21 ?_
  refine s_iload_n C rfl dX2_goodOf_22 ?_
  refine s_aload_n C rfl dX2_goodOf_23 ?_
  refine s_iload_n C rfl dX2_goodOf_24 ?_
  refine s_iconst C (by decide) dX2_goodOf_25 ?_
  refine s_callV C (fr_T_T B g t) (k_X2_ofNeed B g t) gX2_goodOf_X2_ofNeed rfl (by decide +kernel) ⟨rfl, rfl⟩ (by decide) rfl (fun s => ⟨_, heT_0 B g t s⟩) (cf_RII_r _ _ _ _) dX2_goodOf_26 ?_
  refine s_callV C (fr_T_T B g t) (k_X2_minutesBetween B g t) gX2_goodOf_X2_minutesBetween rfl (by decide +kernel) ⟨rfl, rfl⟩ (by decide) rfl (fun s => ⟨_, heT_0 B g t s⟩) (cf_RII_r _ _ _ _) dX2_goodOf_29 ?_
  refine s_istore C (by decide) dX2_goodOf_32 ?_
  refine s_iconst C (by decide) dX2_goodOf_34 ?_
  refine s_iload_n C rfl dX2_goodOf_35 ?_
  refine s_iload C dX2_goodOf_36 ?_
  refine s_bipush C (by decide) dX2_goodOf_38 ?_
  refine s_idiv C dX2_goodOf_40 ?_
  refine s_isub C dX2_goodOf_41 ?_
  refine s_mmax C (by decide +kernel) (by decide +kernel) (by decide +kernel) (by decide +kernel) (by decide) dX2_goodOf_42 ?_
  refine s_istore C (by decide) dX2_goodOf_45 ?_
  refine s_aload_n C rfl dX2_goodOf_47 ?_
  refine s_iload_n C rfl dX2_goodOf_48 ?_
  refine s_iconst C (by decide) dX2_goodOf_49 ?_
  refine s_callV C (fr_T_T B g t) (k_X2_ofNeed B g t) gX2_goodOf_X2_ofNeed rfl (by decide +kernel) ⟨rfl, rfl⟩ (by decide) rfl (fun s => ⟨_, heT_0 B g t s⟩) (cf_RII_r _ _ _ _) dX2_goodOf_50 ?_
  refine s_if_ne C (tgt := 63) (by decide) dX2_goodOf_53 ?_ ?_
  · refine s_iload C dX2_goodOf_63 ?_
    exact s_X2_goodOf_65 B g t C R 
  · refine s_iconst C (by decide) dX2_goodOf_56 ?_
    refine s_iload C dX2_goodOf_57 ?_
    refine s_imul C dX2_goodOf_59 ?_
    refine s_goto C (tgt := 65) (by decide) dX2_goodOf_60 ?_
    exact s_X2_goodOf_65 B g t C R 
theorem k_X2_goodOf (B : Bx) (g : Nat → Nat) (t : Nat) : MtF (gx B) yX2_goodOf wsX2_goodOf (rmD 2) (encT B g t) (F_X2_goodOf g t) := by
  refine cf_RII_i (fun l T p n _ => Mt.of (by decide) rfl (Nat.le_of_ble_eq_true rfl) rfl (fun X C R => s_X2_goodOf_0 B g t C R) ?_)
  simp only [wIload, wAload, wLload, wK, wB, wDv, wU, wLB, wLU, wLS, wL2i, wLcmp, wIf1, wIf2, wKeep, wInc, wIst, wAst, wLst, wDup, wPop, wDup2, wGet, wPut, wPutZ, wIald, wLald, wIast, wLast, wLen, wRetI, wRetZ, wRetL, wRetA, wRetV, wM1, wM2, wCpy, wTab, tabW, nth, stL, stL2, dropL, keepL, mkL, padL, restOK, restOKn, tl_some, tl_none, id_eq, eq_self, true_and, and_true, bk_X2_goodOf_151, bk_X2_goodOf_65, bk_X2_goodOf_0, F_X2_minutesBetween, F_X2_ofNeed, F_X2_ofPerson, cf_RII_e]
  have d10 : ¬ (10 : Int32) = 0 := by decide
  have d2 : ¬ (2 : Int32) = 0 := by decide
  simp only [d10, d2, false_implies, true_implies, not_true_eq_false, not_false_eq_true, true_and, and_true, implies_true, eq_self, ne_eq, true_or, or_true, false_or, or_false, and_self]
  unfold tGood imax
  dsimp only
  repeat' first | refine And.intro ?_ ?_ | intro _
  all_goals grind
def tNeeds (T : TS) : Nat := (tNn T).toNatClampNeg
def tOpenN (T : TS) : Int32 := sumU (fun k => b2i (tOpen T (nI k))) (tNeeds T)
def F_X2_openNeeds (g : Nat → Nat) (t : Nat) : CF TS := cf_R (g t) (fun _ => True) (fun T => some (.int (tOpenN T))) (fun T => T)
theorem inw_X2_openNeeds_X2 : ∀ w ∈ u_ws RX2 TX2 8, w ∈ wsX2_openNeeds := by decide +kernel
def bk_X2_openNeeds_0 (g : Nat → Nat) (t : Nat) (Post : Option Value → TS → Prop) (K4 : PT TS) (L : Lc) (st : List Value) (s : TS) : Prop :=
  (wK (.int 0) <| wIst 1 <| wK (.int 0) <| wIst 2 <| wKeep [true, true, true] K4) L st s
set_option maxRecDepth 20000 in
theorem s_X2_openNeeds_0 {X : Cx} (B : Bx) (g : Nat → Nat) (t : Nat) {Post : Option Value → TS → Prop} (C : OkX X (gx B) cX2_openNeeds 3 wsX2_openNeeds RX2 (rmD 3)) (R : RtX X (gx B) (some .int) (encT B g t) Post) {K4 : PT TS} (hK4 : Snd X (gx B) 3 (encT B g t) 4 K4) : Snd X (gx B) 3 (encT B g t) 0 (bk_X2_openNeeds_0 g t Post K4) := by
  unfold bk_X2_openNeeds_0
  refine s_iconst C (by decide) dX2_openNeeds_0 ?_
  refine s_istore_n C rfl (by decide) dX2_openNeeds_1 ?_
  refine s_iconst C (by decide) dX2_openNeeds_2 ?_
  refine s_istore_n C rfl (by decide) dX2_openNeeds_3 ?_
  exact s_keep _ hK4
def bk_X2_openNeeds_26 (g : Nat → Nat) (t : Nat) (Post : Option Value → TS → Prop) (K4 : PT TS) (L : Lc) (st : List Value) (s : TS) : Prop :=
  (wB (fun x y => x + y) <| wIst 1 <| wInc 2 1 <| wKeep [true, true, true] K4) L st s
set_option maxRecDepth 20000 in
theorem s_X2_openNeeds_26 {X : Cx} (B : Bx) (g : Nat → Nat) (t : Nat) {Post : Option Value → TS → Prop} (C : OkX X (gx B) cX2_openNeeds 3 wsX2_openNeeds RX2 (rmD 3)) (R : RtX X (gx B) (some .int) (encT B g t) Post) {K4 : PT TS} (hK4 : Snd X (gx B) 3 (encT B g t) 4 K4) : Snd X (gx B) 3 (encT B g t) 26 (bk_X2_openNeeds_26 g t Post K4) := by
  unfold bk_X2_openNeeds_26
  refine s_iadd C dX2_openNeeds_26 ?_
  refine s_istore_n C rfl (by decide) dX2_openNeeds_27 ?_
  refine s_iinc C (by decide) (by decide) dX2_openNeeds_28 ?_
  refine s_goto C (tgt := 4) (by decide) dX2_openNeeds_31 ?_
  exact s_keep _ hK4
def bk_X2_openNeeds_4 (g : Nat → Nat) (t : Nat) (Post : Option Value → TS → Prop) (K4 : PT TS) (L : Lc) (st : List Value) (s : TS) : Prop :=
  (wIload 2 <| wAload 0 <| wGet (g t) (fun s => .int (tNn s)) <| wIf2 (fun x y => y ≤ x) (wIload 1 <| wRetI Post) (wIload 1 <| wAload 0 <| wIload 2 <| wCallR 2 (F_X2_isOpen g t) id (fun _ u => u) <| wIf1 (fun x => x = 0) (wK (.int 0) <| bk_X2_openNeeds_26 g t Post K4) (wK (.int 1) <| bk_X2_openNeeds_26 g t Post K4))) L st s
set_option maxRecDepth 20000 in
theorem s_X2_openNeeds_4 {X : Cx} (B : Bx) (g : Nat → Nat) (t : Nat) {Post : Option Value → TS → Prop} (C : OkX X (gx B) cX2_openNeeds 3 wsX2_openNeeds RX2 (rmD 3)) (R : RtX X (gx B) (some .int) (encT B g t) Post) {K4 : PT TS} (hK4 : Snd X (gx B) 3 (encT B g t) 4 K4) : Snd X (gx B) 3 (encT B g t) 4 (bk_X2_openNeeds_4 g t Post K4) := by
  unfold bk_X2_openNeeds_4
  refine s_iload_n C rfl dX2_openNeeds_4 ?_
  refine s_aload_n C rfl dX2_openNeeds_5 ?_
  refine s_get C inw_X2_openNeeds_X2 rfl (k := 3) (by decide) (by decide +kernel) (heT_0 B g t) (fun _ => rfl) dX2_openNeeds_6 ?_
  refine s_icmp_ge C (tgt := 34) (by decide) dX2_openNeeds_9 ?_ ?_
  · refine s_iload_n C rfl dX2_openNeeds_34 ?_
    exact s_iret C R dX2_openNeeds_35
  · refine s_iload_n C rfl dX2_openNeeds_12 ?_
    refine s_aload_n C rfl dX2_openNeeds_13 ?_
    refine s_iload_n C rfl dX2_openNeeds_14 ?_
    refine s_callV C (fr_T_T B g t) (k_X2_isOpen B g t) gX2_openNeeds_X2_isOpen rfl (by decide +kernel) ⟨rfl, rfl⟩ (by decide) rfl (fun s => ⟨_, heT_0 B g t s⟩) (cf_RI_r _ _ _ _) dX2_openNeeds_15 ?_
    refine s_if_eq C (tgt := 25) (by decide) dX2_openNeeds_18 ?_ ?_
    · refine s_iconst C (by decide) dX2_openNeeds_25 ?_
      exact s_X2_openNeeds_26 B g t C R hK4
    · refine s_iconst C (by decide) dX2_openNeeds_21 ?_
      refine s_goto C (tgt := 26) (by decide) dX2_openNeeds_22 ?_
      exact s_X2_openNeeds_26 B g t C R hK4
def I_openNeeds (g : Nat → Nat) (t : Nat) (T : TS) (n : Nat) (L : Lc) (st : List Value) (s : TS) : Prop := ∃ k, n + k = tNeeds T ∧ st = [] ∧ s = T ∧ L = [some (.ref (g t)), some (.int (sumU (fun k => b2i (tOpen T (nI k))) k)), some (.int (nI k))]
theorem k_X2_openNeeds (B : Bx) (g : Nat → Nat) (t : Nat) : MtF (gx B) yX2_openNeeds wsX2_openNeeds (rmD 3) (encT B g t) (F_X2_openNeeds g t) := by
  refine cf_R_i (fun l T _ => Mt.of (P := bk_X2_openNeeds_0 g t _ (fun L st s => ∃ n, I_openNeeds g t T n L st s)) (by decide) rfl (Nat.le_of_ble_eq_true rfl) rfl (fun X C R => s_X2_openNeeds_0 B g t C R (snd_loop _ (I_openNeeds g t T) (fun K hK => s_X2_openNeeds_4 B g t C R hK) ?_)) ?_)
  · rintro K n L st T' ⟨k, hk, rfl, rfl, rfl⟩ hK
    simp only [wIload, wAload, wLload, wK, wB, wDv, wU, wLB, wLU, wLS, wL2i, wLcmp, wIf1, wIf2, wKeep, wInc, wIst, wAst, wLst, wDup, wPop, wDup2, wGet, wPut, wPutZ, wIald, wLald, wIast, wLast, wLen, wRetI, wRetZ, wRetL, wRetA, wRetV, wM1, wM2, wCpy, wTab, tabW, nth, stL, stL2, dropL, keepL, mkL, padL, restOK, restOKn, tl_some, tl_none, id_eq, eq_self, true_and, and_true, bk_X2_openNeeds_0, bk_X2_openNeeds_26, bk_X2_openNeeds_4, F_X2_isOpen, cf_RI_e, b2i_eq0]
    have hb := clamp_lt (tNn T')
    unfold tNeeds at hk
    rcases Nat.lt_or_ge k (tNn T').toNatClampNeg with hlt | hge
    · have h1 : ¬ tNn T' ≤ nI k := by rw [le_nI (by omega)]; omega
      have hc := hK (n - 1) _ _ _ (by omega) ⟨k + 1, by unfold tNeeds; omega, rfl, rfl, rfl⟩
      rw [← nI_1] at hc
      simp only [sumU] at hc
      cases ho : tOpen T' (nI k)
      · simp only [ho, b2i_f] at hc
        simp only [h1, ho, false_implies, true_implies, not_true_eq_false, not_false_eq_true, true_and, and_true, implies_true, eq_self, ne_eq, true_or, or_true, false_or, or_false, and_self]
        exact hc
      · simp only [ho, b2i_t] at hc
        simp only [h1, ho, Bool.true_eq_false, Bool.false_eq_true, false_implies, true_implies, not_true_eq_false, not_false_eq_true, true_and, and_true, implies_true, eq_self, ne_eq, true_or, or_true, false_or, or_false, and_self]
        exact hc
    · have h1 : tNn T' ≤ nI k := (le_nI (by omega)).mpr hge
      have h2 : k = tNeeds T' := by unfold tNeeds; omega
      simp only [h1, false_implies, true_implies, not_true_eq_false, not_false_eq_true, true_and, and_true, implies_true, eq_self, ne_eq, true_or, or_true, false_or, or_false, and_self]
      rw [h2]
      rfl
  · simp only [wIload, wAload, wLload, wK, wB, wDv, wU, wLB, wLU, wLS, wL2i, wLcmp, wIf1, wIf2, wKeep, wInc, wIst, wAst, wLst, wDup, wPop, wDup2, wGet, wPut, wPutZ, wIald, wLald, wIast, wLast, wLen, wRetI, wRetZ, wRetL, wRetA, wRetV, wM1, wM2, wCpy, wTab, tabW, nth, stL, stL2, dropL, keepL, mkL, padL, restOK, restOKn, tl_some, tl_none, id_eq, eq_self, true_and, and_true, bk_X2_openNeeds_0, bk_X2_openNeeds_26, bk_X2_openNeeds_4, F_X2_isOpen, cf_RI_e]
    exact ⟨tNeeds T, 0, by omega, rfl, rfl, rfl⟩
def tHLF (T : TS) (y : Int32) : Int32 := sumU (fun k => if tOfN T (nI k) 4 < y then 0 else tHL T (nI k)) (tNeeds T)
def F_X2_handsLeftFrom (g : Nat → Nat) (t : Nat) : CF TS := cf_RI (g t) (fun _ _ => True) (fun T y => some (.int (tHLF T y))) (fun T _ => T)
theorem inw_X2_handsLeftFrom_X2 : ∀ w ∈ u_ws RX2 TX2 8, w ∈ wsX2_handsLeftFrom := by decide +kernel
def bk_X2_handsLeftFrom_0 (g : Nat → Nat) (t : Nat) (Post : Option Value → TS → Prop) (K4 : PT TS) (L : Lc) (st : List Value) (s : TS) : Prop :=
  (wK (.int 0) <| wIst 2 <| wK (.int 0) <| wIst 3 <| wKeep [true, true, true, true] K4) L st s
set_option maxRecDepth 20000 in
theorem s_X2_handsLeftFrom_0 {X : Cx} (B : Bx) (g : Nat → Nat) (t : Nat) {Post : Option Value → TS → Prop} (C : OkX X (gx B) cX2_handsLeftFrom 4 wsX2_handsLeftFrom RX2 (rmD 2)) (R : RtX X (gx B) (some .int) (encT B g t) Post) {K4 : PT TS} (hK4 : Snd X (gx B) 4 (encT B g t) 4 K4) : Snd X (gx B) 4 (encT B g t) 0 (bk_X2_handsLeftFrom_0 g t Post K4) := by
  unfold bk_X2_handsLeftFrom_0
  refine s_iconst C (by decide) dX2_handsLeftFrom_0 ?_
  refine s_istore_n C rfl (by decide) dX2_handsLeftFrom_1 ?_
  refine s_iconst C (by decide) dX2_handsLeftFrom_2 ?_
  refine s_istore_n C rfl (by decide) dX2_handsLeftFrom_3 ?_
  exact s_keep _ hK4
def bk_X2_handsLeftFrom_32 (g : Nat → Nat) (t : Nat) (Post : Option Value → TS → Prop) (K4 : PT TS) (L : Lc) (st : List Value) (s : TS) : Prop :=
  (wB (fun x y => x + y) <| wIst 2 <| wInc 3 1 <| wKeep [true, true, true, true] K4) L st s
set_option maxRecDepth 20000 in
theorem s_X2_handsLeftFrom_32 {X : Cx} (B : Bx) (g : Nat → Nat) (t : Nat) {Post : Option Value → TS → Prop} (C : OkX X (gx B) cX2_handsLeftFrom 4 wsX2_handsLeftFrom RX2 (rmD 2)) (R : RtX X (gx B) (some .int) (encT B g t) Post) {K4 : PT TS} (hK4 : Snd X (gx B) 4 (encT B g t) 4 K4) : Snd X (gx B) 4 (encT B g t) 32 (bk_X2_handsLeftFrom_32 g t Post K4) := by
  unfold bk_X2_handsLeftFrom_32
  refine s_iadd C dX2_handsLeftFrom_32 ?_
  refine s_istore_n C rfl (by decide) dX2_handsLeftFrom_33 ?_
  refine s_iinc C (by decide) (by decide) dX2_handsLeftFrom_34 ?_
  refine s_goto C (tgt := 4) (by decide) dX2_handsLeftFrom_37 ?_
  exact s_keep _ hK4
def bk_X2_handsLeftFrom_4 (g : Nat → Nat) (t : Nat) (Post : Option Value → TS → Prop) (K4 : PT TS) (L : Lc) (st : List Value) (s : TS) : Prop :=
  (wIload 3 <| wAload 0 <| wGet (g t) (fun s => .int (tNn s)) <| wIf2 (fun x y => y ≤ x) (wIload 2 <| wRetI Post) (wIload 2 <| wAload 0 <| wIload 3 <| wK (.int 4) <| wCallR 3 (F_X2_ofNeed g t) id (fun _ u => u) <| wIload 1 <| wIf2 (fun x y => x < y) (wK (.int 0) <| bk_X2_handsLeftFrom_32 g t Post K4) (wAload 0 <| wIload 3 <| wCallR 2 (F_X2_handsLeft g t) id (fun _ u => u) <| bk_X2_handsLeftFrom_32 g t Post K4))) L st s
set_option maxRecDepth 20000 in
theorem s_X2_handsLeftFrom_4 {X : Cx} (B : Bx) (g : Nat → Nat) (t : Nat) {Post : Option Value → TS → Prop} (C : OkX X (gx B) cX2_handsLeftFrom 4 wsX2_handsLeftFrom RX2 (rmD 2)) (R : RtX X (gx B) (some .int) (encT B g t) Post) {K4 : PT TS} (hK4 : Snd X (gx B) 4 (encT B g t) 4 K4) : Snd X (gx B) 4 (encT B g t) 4 (bk_X2_handsLeftFrom_4 g t Post K4) := by
  unfold bk_X2_handsLeftFrom_4
  refine s_iload_n C rfl dX2_handsLeftFrom_4 ?_
  refine s_aload_n C rfl dX2_handsLeftFrom_5 ?_
  refine s_get C inw_X2_handsLeftFrom_X2 rfl (k := 3) (by decide) (by decide +kernel) (heT_0 B g t) (fun _ => rfl) dX2_handsLeftFrom_6 ?_
  refine s_icmp_ge C (tgt := 40) (by decide) dX2_handsLeftFrom_9 ?_ ?_
  · refine s_iload_n C rfl dX2_handsLeftFrom_40 ?_
    exact s_iret C R dX2_handsLeftFrom_41
  · refine s_iload_n C rfl dX2_handsLeftFrom_12 ?_
    refine s_aload_n C rfl dX2_handsLeftFrom_13 ?_
    refine s_iload_n C rfl dX2_handsLeftFrom_14 ?_
    refine s_iconst C (by decide) dX2_handsLeftFrom_15 ?_
    refine s_callV C (fr_T_T B g t) (k_X2_ofNeed B g t) gX2_handsLeftFrom_X2_ofNeed rfl (by decide +kernel) ⟨rfl, rfl⟩ (by decide) rfl (fun s => ⟨_, heT_0 B g t s⟩) (cf_RII_r _ _ _ _) dX2_handsLeftFrom_16 ?_
    refine s_iload_n C rfl dX2_handsLeftFrom_19 ?_
    refine s_icmp_lt C (tgt := 31) (by decide) dX2_handsLeftFrom_20 ?_ ?_
    · refine s_iconst C (by decide) dX2_handsLeftFrom_31 ?_
      exact s_X2_handsLeftFrom_32 B g t C R hK4
    · refine s_aload_n C rfl dX2_handsLeftFrom_23 ?_
      refine s_iload_n C rfl dX2_handsLeftFrom_24 ?_
      refine s_callV C (fr_T_T B g t) (k_X2_handsLeft B g t) gX2_handsLeftFrom_X2_handsLeft rfl (by decide +kernel) ⟨rfl, rfl⟩ (by decide) rfl (fun s => ⟨_, heT_0 B g t s⟩) (cf_RI_r _ _ _ _) dX2_handsLeftFrom_25 ?_
      refine s_goto C (tgt := 32) (by decide) dX2_handsLeftFrom_28 ?_
      exact s_X2_handsLeftFrom_32 B g t C R hK4
def I_hlf (g : Nat → Nat) (t : Nat) (T : TS) (y : Int32) (n : Nat) (L : Lc) (st : List Value) (s : TS) : Prop := ∃ k, n + k = tNeeds T ∧ st = [] ∧ s = T ∧ L = [some (.ref (g t)), some (.int y), some (.int (sumU (fun k => if tOfN T (nI k) 4 < y then 0 else tHL T (nI k)) k)), some (.int (nI k))]
theorem k_X2_handsLeftFrom (B : Bx) (g : Nat → Nat) (t : Nat) : MtF (gx B) yX2_handsLeftFrom wsX2_handsLeftFrom (rmD 2) (encT B g t) (F_X2_handsLeftFrom g t) := by
  refine cf_RI_i (fun l T y _ => Mt.of (P := bk_X2_handsLeftFrom_0 g t _ (fun L st s => ∃ n, I_hlf g t T y n L st s)) (by decide) rfl (Nat.le_of_ble_eq_true rfl) rfl (fun X C R => s_X2_handsLeftFrom_0 B g t C R (snd_loop _ (I_hlf g t T y) (fun K hK => s_X2_handsLeftFrom_4 B g t C R hK) ?_)) ?_)
  · rintro K n L st T' ⟨k, hk, rfl, rfl, rfl⟩ hK
    simp only [wIload, wAload, wLload, wK, wB, wDv, wU, wLB, wLU, wLS, wL2i, wLcmp, wIf1, wIf2, wKeep, wInc, wIst, wAst, wLst, wDup, wPop, wDup2, wGet, wPut, wPutZ, wIald, wLald, wIast, wLast, wLen, wRetI, wRetZ, wRetL, wRetA, wRetV, wM1, wM2, wCpy, wTab, tabW, nth, stL, stL2, dropL, keepL, mkL, padL, restOK, restOKn, tl_some, tl_none, id_eq, eq_self, true_and, and_true, bk_X2_handsLeftFrom_0, bk_X2_handsLeftFrom_32, bk_X2_handsLeftFrom_4, F_X2_handsLeft, F_X2_ofNeed, cf_RII_e, cf_RI_e]
    have hb := clamp_lt (tNn T')
    unfold tNeeds at hk
    rcases Nat.lt_or_ge k (tNn T').toNatClampNeg with hlt | hge
    · have h1 : ¬ tNn T' ≤ nI k := by rw [le_nI (by omega)]; omega
      have hc := hK (n - 1) _ _ _ (by omega) ⟨k + 1, by unfold tNeeds; omega, rfl, rfl, rfl⟩
      rw [← nI_1] at hc
      simp only [sumU] at hc
      by_cases ho : tOfN T' (nI k) 4 < y
      · rw [if_pos ho] at hc
        simp only [h1, ho, false_implies, true_implies, not_true_eq_false, not_false_eq_true, true_and, and_true, implies_true, eq_self, ne_eq, true_or, or_true, false_or, or_false, and_self]
        exact hc
      · rw [if_neg ho] at hc
        simp only [h1, ho, false_implies, true_implies, not_true_eq_false, not_false_eq_true, true_and, and_true, implies_true, eq_self, ne_eq, true_or, or_true, false_or, or_false, and_self]
        exact hc
    · have h1 : tNn T' ≤ nI k := (le_nI (by omega)).mpr hge
      have h2 : k = tNeeds T' := by unfold tNeeds; omega
      simp only [h1, false_implies, true_implies, not_true_eq_false, not_false_eq_true, true_and, and_true, implies_true, eq_self, ne_eq, true_or, or_true, false_or, or_false, and_self]
      rw [h2]
      rfl
  · simp only [wIload, wAload, wLload, wK, wB, wDv, wU, wLB, wLU, wLS, wL2i, wLcmp, wIf1, wIf2, wKeep, wInc, wIst, wAst, wLst, wDup, wPop, wDup2, wGet, wPut, wPutZ, wIald, wLald, wIast, wLast, wLen, wRetI, wRetZ, wRetL, wRetA, wRetV, wM1, wM2, wCpy, wTab, tabW, nth, stL, stL2, dropL, keepL, mkL, padL, restOK, restOKn, tl_some, tl_none, id_eq, eq_self, true_and, and_true, bk_X2_handsLeftFrom_0, bk_X2_handsLeftFrom_32, bk_X2_handsLeftFrom_4, F_X2_handsLeft, F_X2_ofNeed, cf_RII_e, cf_RI_e]
    exact ⟨tNeeds T, 0, by omega, rfl, rfl, rfl⟩
def lsF (T : TS) (p : Int32) (n : Nat) : Nat → Int32
  | 0 => 0
  | j + 1 => if n < j ∧ tOfN T (nI j) 0 = tOfN T (nI n) 0 then imax (lsF T p n j) (tGood T p (nI j)) else lsF T p n j
theorem lsF_0 (T : TS) (p : Int32) (n : Nat) : ∀ j, j ≤ n + 1 → lsF T p n j = 0 := by
  intro j
  induction j with
  | zero => intro _; rfl
  | succ j ih =>
    intro h
    simp only [lsF]
    rw [if_neg (by omega)]
    exact ih (by omega)
def tLoss (T : TS) (p n : Int32) : Int32 := lsF T p n.toNatClampNeg (tNeeds T)
def F_X2_lossOf (g : Nat → Nat) (t : Nat) : CF TS := cf_RII (g t) (fun _ _ n => ∃ k, k + 1 < 2 ^ 31 ∧ n = nI k) (fun T p n => some (.int (tLoss T p n))) (fun T _ _ => T)
theorem inw_X2_lossOf_X2 : ∀ w ∈ u_ws RX2 TX2 8, w ∈ wsX2_lossOf := by decide +kernel
def bk_X2_lossOf_0 (g : Nat → Nat) (t : Nat) (Post : Option Value → TS → Prop) (K7 : PT TS) (L : Lc) (st : List Value) (s : TS) : Prop :=
  (wK (.int 0) <| wIst 3 <| wIload 2 <| wK (.int 1) <| wB (fun x y => x + y) <| wIst 4 <| wKeep [true, true, true, true, true] K7) L st s
set_option maxRecDepth 20000 in
theorem s_X2_lossOf_0 {X : Cx} (B : Bx) (g : Nat → Nat) (t : Nat) {Post : Option Value → TS → Prop} (C : OkX X (gx B) cX2_lossOf 5 wsX2_lossOf RX2 (rmD 3)) (R : RtX X (gx B) (some .int) (encT B g t) Post) {K7 : PT TS} (hK7 : Snd X (gx B) 5 (encT B g t) 7 K7) : Snd X (gx B) 5 (encT B g t) 0 (bk_X2_lossOf_0 g t Post K7) := by
  unfold bk_X2_lossOf_0
  refine s_iconst C (by decide) dX2_lossOf_0 ?_
  refine s_istore_n C rfl (by decide) dX2_lossOf_1 ?_
  refine s_iload_n C rfl dX2_lossOf_2 ?_
  refine s_iconst C (by decide) dX2_lossOf_3 ?_
  refine s_iadd C dX2_lossOf_4 ?_
  refine s_istore C (by decide) dX2_lossOf_5 ?_
  exact s_keep _ hK7
def bk_X2_lossOf_44 (g : Nat → Nat) (t : Nat) (Post : Option Value → TS → Prop) (K7 : PT TS) (L : Lc) (st : List Value) (s : TS) : Prop :=
  (wInc 4 1 <| wKeep [true, true, true, true, true] K7) L st s
set_option maxRecDepth 20000 in
theorem s_X2_lossOf_44 {X : Cx} (B : Bx) (g : Nat → Nat) (t : Nat) {Post : Option Value → TS → Prop} (C : OkX X (gx B) cX2_lossOf 5 wsX2_lossOf RX2 (rmD 3)) (R : RtX X (gx B) (some .int) (encT B g t) Post) {K7 : PT TS} (hK7 : Snd X (gx B) 5 (encT B g t) 7 K7) : Snd X (gx B) 5 (encT B g t) 44 (bk_X2_lossOf_44 g t Post K7) := by
  unfold bk_X2_lossOf_44
  refine s_iinc C (by decide) (by decide) dX2_lossOf_44 ?_
  refine s_goto C (tgt := 7) (by decide) dX2_lossOf_47 ?_
  exact s_keep _ hK7
def bk_X2_lossOf_7 (g : Nat → Nat) (t : Nat) (Post : Option Value → TS → Prop) (K7 : PT TS) (L : Lc) (st : List Value) (s : TS) : Prop :=
  (wIload 4 <| wAload 0 <| wGet (g t) (fun s => .int (tNn s)) <| wIf2 (fun x y => y ≤ x) (wIload 3 <| wRetI Post) (wAload 0 <| wIload 4 <| wK (.int 0) <| wCallR 3 (F_X2_ofNeed g t) id (fun _ u => u) <| wAload 0 <| wIload 2 <| wK (.int 0) <| wCallR 3 (F_X2_ofNeed g t) id (fun _ u => u) <| wIf2 (fun x y => x = y) (wIload 3 <| wAload 0 <| wIload 1 <| wIload 4 <| wCallR 3 (F_X2_goodOf g t) id (fun _ u => u) <| wM2 (fun x y => if x < y then y else x) <| wIst 3 <| bk_X2_lossOf_44 g t Post K7) (bk_X2_lossOf_44 g t Post K7))) L st s
set_option maxRecDepth 20000 in
theorem s_X2_lossOf_7 {X : Cx} (B : Bx) (g : Nat → Nat) (t : Nat) {Post : Option Value → TS → Prop} (C : OkX X (gx B) cX2_lossOf 5 wsX2_lossOf RX2 (rmD 3)) (R : RtX X (gx B) (some .int) (encT B g t) Post) {K7 : PT TS} (hK7 : Snd X (gx B) 5 (encT B g t) 7 K7) : Snd X (gx B) 5 (encT B g t) 7 (bk_X2_lossOf_7 g t Post K7) := by
  unfold bk_X2_lossOf_7
  refine s_iload C dX2_lossOf_7 ?_
  refine s_aload_n C rfl dX2_lossOf_9 ?_
  refine s_get C inw_X2_lossOf_X2 rfl (k := 3) (by decide) (by decide +kernel) (heT_0 B g t) (fun _ => rfl) dX2_lossOf_10 ?_
  refine s_icmp_ge C (tgt := 50) (by decide) dX2_lossOf_13 ?_ ?_
  · refine s_iload_n C rfl dX2_lossOf_50 ?_
    exact s_iret C R dX2_lossOf_51
  · refine s_aload_n C rfl dX2_lossOf_16 ?_
    refine s_iload C dX2_lossOf_17 ?_
    refine s_iconst C (by decide) dX2_lossOf_19 ?_
    refine s_callV C (fr_T_T B g t) (k_X2_ofNeed B g t) gX2_lossOf_X2_ofNeed rfl (by decide +kernel) ⟨rfl, rfl⟩ (by decide) rfl (fun s => ⟨_, heT_0 B g t s⟩) (cf_RII_r _ _ _ _) dX2_lossOf_20 ?_
    refine s_aload_n C rfl dX2_lossOf_23 ?_
    refine s_iload_n C rfl dX2_lossOf_24 ?_
    refine s_iconst C (by decide) dX2_lossOf_25 ?_
    refine s_callV C (fr_T_T B g t) (k_X2_ofNeed B g t) gX2_lossOf_X2_ofNeed rfl (by decide +kernel) ⟨rfl, rfl⟩ (by decide) rfl (fun s => ⟨_, heT_0 B g t s⟩) (cf_RII_r _ _ _ _) dX2_lossOf_26 ?_
    refine s_icmp_ne C (tgt := 44) (by decide) dX2_lossOf_29 ?_ ?_
    · exact s_X2_lossOf_44 B g t C R hK7
    · refine s_iload_n C rfl dX2_lossOf_32 ?_
      refine s_aload_n C rfl dX2_lossOf_33 ?_
      refine s_iload_n C rfl dX2_lossOf_34 ?_
      refine s_iload C dX2_lossOf_35 ?_
      refine s_callV C (fr_T_T B g t) (k_X2_goodOf B g t) gX2_lossOf_X2_goodOf rfl (by decide +kernel) ⟨rfl, rfl⟩ (by decide) rfl (fun s => ⟨_, heT_0 B g t s⟩) (cf_RII_r _ _ _ _) dX2_lossOf_37 ?_
      refine s_mmax C (by decide +kernel) (by decide +kernel) (by decide +kernel) (by decide +kernel) (by decide) dX2_lossOf_40 ?_
      refine s_istore_n C rfl (by decide) dX2_lossOf_43 ?_
      exact s_X2_lossOf_44 B g t C R hK7
def I_loss (g : Nat → Nat) (t : Nat) (T : TS) (p : Int32) (q : Nat) (n : Nat) (L : Lc) (st : List Value) (s : TS) : Prop := ∃ k, q + 1 ≤ k ∧ k < 2 ^ 31 ∧ (k ≤ tNeeds T ∨ k = q + 1) ∧ n = tNeeds T - k ∧ st = [] ∧ s = T ∧ L = [some (.ref (g t)), some (.int p), some (.int (nI q)), some (.int (lsF T p q k)), some (.int (nI k))]
theorem k_X2_lossOf (B : Bx) (g : Nat → Nat) (t : Nat) : MtF (gx B) yX2_lossOf wsX2_lossOf (rmD 3) (encT B g t) (F_X2_lossOf g t) := by
  refine cf_RII_i (fun l T p n hn => ?_)
  obtain ⟨q, hq, rfl⟩ := hn
  refine Mt.of (P := bk_X2_lossOf_0 g t _ (fun L st s => ∃ n, I_loss g t T p q n L st s)) (by decide) rfl (Nat.le_of_ble_eq_true rfl) rfl (fun X C R => s_X2_lossOf_0 B g t C R (snd_loop _ (I_loss g t T p q) (fun K hK => s_X2_lossOf_7 B g t C R hK) ?_)) ?_
  · rintro K n L st T' ⟨k, hk, hk2, hk3, hk4, rfl, rfl, rfl⟩ hK
    simp only [wIload, wAload, wLload, wK, wB, wDv, wU, wLB, wLU, wLS, wL2i, wLcmp, wIf1, wIf2, wKeep, wInc, wIst, wAst, wLst, wDup, wPop, wDup2, wGet, wPut, wPutZ, wIald, wLald, wIast, wLast, wLen, wRetI, wRetZ, wRetL, wRetA, wRetV, wM1, wM2, wCpy, wTab, tabW, nth, stL, stL2, dropL, keepL, mkL, padL, restOK, restOKn, tl_some, tl_none, id_eq, eq_self, true_and, and_true, bk_X2_lossOf_0, bk_X2_lossOf_44, bk_X2_lossOf_7, F_X2_goodOf, F_X2_ofNeed, cf_RII_e]
    have hb := clamp_lt (tNn T')
    unfold tNeeds at hk3 hk4
    rcases Nat.lt_or_ge k (tNn T').toNatClampNeg with hlt | hge
    · have h1 : ¬ tNn T' ≤ nI k := by rw [le_nI (by omega)]; omega
      have hc := hK (n - 1) _ _ _ (by omega) ⟨k + 1, by omega, by omega, by unfold tNeeds; omega, by unfold tNeeds; omega, rfl, rfl, rfl⟩
      rw [← nI_1] at hc
      simp only [lsF, imax] at hc
      by_cases ho : tOfN T' (nI k) 0 = tOfN T' (nI q) 0
      · rw [if_pos ⟨by omega, ho⟩] at hc
        simp only [h1, ho, false_implies, true_implies, not_true_eq_false, not_false_eq_true, true_and, and_true, implies_true, eq_self, ne_eq, true_or, or_true, false_or, or_false, and_self]
        exact hc
      · rw [if_neg (fun z => ho z.2)] at hc
        simp only [h1, ho, false_implies, true_implies, not_true_eq_false, not_false_eq_true, true_and, and_true, implies_true, eq_self, ne_eq, true_or, or_true, false_or, or_false, and_self]
        exact hc
    · have h1 : tNn T' ≤ nI k := (le_nI (by omega)).mpr hge
      simp only [h1, false_implies, true_implies, not_true_eq_false, not_false_eq_true, true_and, and_true, implies_true, eq_self, ne_eq, true_or, or_true, false_or, or_false, and_self]
      unfold tLoss
      rw [nI_clamp (by omega)]
      rcases hk3 with h | h
      · rw [show tNeeds T' = k by unfold tNeeds; omega]
      · rw [lsF_0 T' p q k (by omega), lsF_0 T' p q (tNeeds T') (by unfold tNeeds; omega)]
  · simp only [wIload, wAload, wLload, wK, wB, wDv, wU, wLB, wLU, wLS, wL2i, wLcmp, wIf1, wIf2, wKeep, wInc, wIst, wAst, wLst, wDup, wPop, wDup2, wGet, wPut, wPutZ, wIald, wLald, wIast, wLast, wLen, wRetI, wRetZ, wRetL, wRetA, wRetV, wM1, wM2, wCpy, wTab, tabW, nth, stL, stL2, dropL, keepL, mkL, padL, restOK, restOKn, tl_some, tl_none, id_eq, eq_self, true_and, and_true, bk_X2_lossOf_0, bk_X2_lossOf_44, bk_X2_lossOf_7, F_X2_goodOf, F_X2_ofNeed, cf_RII_e]
    exact ⟨_, q + 1, by omega, by omega, Or.inr rfl, rfl, rfl, rfl, by rw [lsF_0 T p q (q + 1) (by omega), nI_1]⟩
end
