noncomputable section
def tLaw (T : TS) : Int32 := tSe T 0
def tCnt (T : TS) (k : Nat) : Bool := if tSe T 0 = 2 then decide (tYr T - tBt T (k * 5 + 2) < tSe T 1) else if tSe T 0 = 3 then decide (tSe T 2 ≤ tBt T (k * 5 + 3)) else true
def F_X2_stillCounts (g : Nat → Nat) (t : Nat) : CF TS := cf_RI (g t) (fun _ a => ∃ k, k < 270 ∧ a = nI k * 5) (fun T a => some (.int (b2i (tCnt T (a.toNatClampNeg / 5))))) (fun T _ => T)
theorem inw_X2_stillCounts_X2 : ∀ w ∈ u_ws RX2 TX2 8, w ∈ wsX2_stillCounts := by decide +kernel
def bk_X2_stillCounts_15 (g : Nat → Nat) (t : Nat) (Post : Option Value → TS → Prop)  (L : Lc) (st : List Value) (s : TS) : Prop :=
  (wK (.int 0) <| wRetZ Post) L st s
set_option maxRecDepth 20000 in
theorem s_X2_stillCounts_15 {X : Cx} (B : Bx) (g : Nat → Nat) (t : Nat) {Post : Option Value → TS → Prop} (C : OkX X (gx B) cX2_stillCounts 2 wsX2_stillCounts RX2 (rmD 0)) (R : RtX X (gx B) (some .boolean) (encT B g t) Post)  : Snd X (gx B) 2 (encT B g t) 15 (bk_X2_stillCounts_15 g t Post ) := by
  unfold bk_X2_stillCounts_15
  refine s_iconst C (by decide) dX2_stillCounts_15 ?_
  exact s_zret C R dX2_stillCounts_16
def bk_X2_stillCounts_54 (g : Nat → Nat) (t : Nat) (Post : Option Value → TS → Prop)  (L : Lc) (st : List Value) (s : TS) : Prop :=
  (wRetZ Post) L st s
set_option maxRecDepth 20000 in
theorem s_X2_stillCounts_54 {X : Cx} (B : Bx) (g : Nat → Nat) (t : Nat) {Post : Option Value → TS → Prop} (C : OkX X (gx B) cX2_stillCounts 2 wsX2_stillCounts RX2 (rmD 0)) (R : RtX X (gx B) (some .boolean) (encT B g t) Post)  : Snd X (gx B) 2 (encT B g t) 54 (bk_X2_stillCounts_54 g t Post ) := by
  unfold bk_X2_stillCounts_54
  exact s_zret C R dX2_stillCounts_54
def bk_X2_stillCounts_87 (g : Nat → Nat) (t : Nat) (Post : Option Value → TS → Prop)  (L : Lc) (st : List Value) (s : TS) : Prop :=
  (wRetZ Post) L st s
set_option maxRecDepth 20000 in
theorem s_X2_stillCounts_87 {X : Cx} (B : Bx) (g : Nat → Nat) (t : Nat) {Post : Option Value → TS → Prop} (C : OkX X (gx B) cX2_stillCounts 2 wsX2_stillCounts RX2 (rmD 0)) (R : RtX X (gx B) (some .boolean) (encT B g t) Post)  : Snd X (gx B) 2 (encT B g t) 87 (bk_X2_stillCounts_87 g t Post ) := by
  unfold bk_X2_stillCounts_87
  exact s_zret C R dX2_stillCounts_87
def bk_X2_stillCounts_82 (g : Nat → Nat) (t : Nat) (Post : Option Value → TS → Prop)  (L : Lc) (st : List Value) (s : TS) : Prop :=
  (wK (.int 1) <| bk_X2_stillCounts_87 g t Post ) L st s
set_option maxRecDepth 20000 in
theorem s_X2_stillCounts_82 {X : Cx} (B : Bx) (g : Nat → Nat) (t : Nat) {Post : Option Value → TS → Prop} (C : OkX X (gx B) cX2_stillCounts 2 wsX2_stillCounts RX2 (rmD 0)) (R : RtX X (gx B) (some .boolean) (encT B g t) Post)  : Snd X (gx B) 2 (encT B g t) 82 (bk_X2_stillCounts_82 g t Post ) := by
  unfold bk_X2_stillCounts_82
  refine s_iconst C (by decide) dX2_stillCounts_82 ?_
  refine s_goto C (tgt := 87) (by decide) dX2_stillCounts_83 ?_
  exact s_X2_stillCounts_87 B g t C R 
def bk_X2_stillCounts_0 (g : Nat → Nat) (t : Nat) (Post : Option Value → TS → Prop)  (L : Lc) (st : List Value) (s : TS) : Prop :=
  (wIload 1 <| wIf1 (fun x => x < 0) (bk_X2_stillCounts_15 g t Post ) (wIload 1 <| wK (.int 5) <| wB (fun x y => x + y) <| wAload 0 <| wGet (g t) (fun _ => .ref (g (t + 3))) <| wLen (g (t + 3)) 1350 <| wIf2 (fun x y => x ≤ y) (wAload 0 <| wGet (g t) (fun _ => .ref (g (t + 4))) <| wK (.int 0) <| wIald (g (t + 4)) 4 tSe <| wK (.int 2) <| wIf2 (fun x y => x = y) (wAload 0 <| wGet (g t) (fun s => .int (tYr s)) <| wAload 0 <| wGet (g t) (fun _ => .ref (g (t + 3))) <| wIload 1 <| wK (.int 2) <| wB (fun x y => x + y) <| wIald (g (t + 3)) 1350 tBt <| wB (fun x y => x - y) <| wAload 0 <| wGet (g t) (fun _ => .ref (g (t + 4))) <| wK (.int 1) <| wIald (g (t + 4)) 4 tSe <| wIf2 (fun x y => y ≤ x) (wK (.int 0) <| bk_X2_stillCounts_54 g t Post ) (wK (.int 1) <| bk_X2_stillCounts_54 g t Post )) (wAload 0 <| wGet (g t) (fun _ => .ref (g (t + 4))) <| wK (.int 0) <| wIald (g (t + 4)) 4 tSe <| wK (.int 3) <| wIf2 (fun x y => x = y) (wAload 0 <| wGet (g t) (fun _ => .ref (g (t + 3))) <| wIload 1 <| wK (.int 3) <| wB (fun x y => x + y) <| wIald (g (t + 3)) 1350 tBt <| wAload 0 <| wGet (g t) (fun _ => .ref (g (t + 4))) <| wK (.int 2) <| wIald (g (t + 4)) 4 tSe <| wIf2 (fun x y => x < y) (wK (.int 0) <| bk_X2_stillCounts_87 g t Post ) (bk_X2_stillCounts_82 g t Post )) (bk_X2_stillCounts_82 g t Post ))) (bk_X2_stillCounts_15 g t Post ))) L st s
set_option maxRecDepth 20000 in
theorem s_X2_stillCounts_0 {X : Cx} (B : Bx) (g : Nat → Nat) (t : Nat) {Post : Option Value → TS → Prop} (C : OkX X (gx B) cX2_stillCounts 2 wsX2_stillCounts RX2 (rmD 0)) (R : RtX X (gx B) (some .boolean) (encT B g t) Post)  : Snd X (gx B) 2 (encT B g t) 0 (bk_X2_stillCounts_0 g t Post ) := by
  unfold bk_X2_stillCounts_0
  refine s_iload_n C rfl dX2_stillCounts_0 ?_
  refine s_if_lt C (tgt := 15) (by decide) dX2_stillCounts_1 ?_ ?_
  · exact s_X2_stillCounts_15 B g t C R 
  · refine s_iload_n C rfl dX2_stillCounts_4 ?_
    refine s_iconst C (by decide) dX2_stillCounts_5 ?_
    refine s_iadd C dX2_stillCounts_6 ?_
    refine s_aload_n C rfl dX2_stillCounts_7 ?_
    refine s_get C inw_X2_stillCounts_X2 rfl (k := 4) (by decide) (by decide +kernel) (heT_0 B g t) (fun _ => rfl) dX2_stillCounts_8 ?_
    refine s_alen C (t0 := 0) (heT_3 B g t) rfl (fun _ => rfl) dX2_stillCounts_11 ?_
    refine s_icmp_le C (tgt := 17) (by decide) dX2_stillCounts_12 ?_ ?_
    · refine s_aload_n C rfl dX2_stillCounts_17 ?_
      refine s_get C inw_X2_stillCounts_X2 rfl (k := 6) (by decide) (by decide +kernel) (heT_0 B g t) (fun _ => rfl) dX2_stillCounts_18 ?_
      refine s_iconst C (by decide) dX2_stillCounts_21 ?_
      refine s_iald C (heT_4 B g t) dX2_stillCounts_22 ?_
      refine s_iconst C (by decide) dX2_stillCounts_23 ?_
      refine s_icmp_ne C (tgt := 55) (by decide) dX2_stillCounts_24 ?_ ?_
      · refine s_aload_n C rfl dX2_stillCounts_55 ?_
        refine s_get C inw_X2_stillCounts_X2 rfl (k := 6) (by decide) (by decide +kernel) (heT_0 B g t) (fun _ => rfl) dX2_stillCounts_56 ?_
        refine s_iconst C (by decide) dX2_stillCounts_59 ?_
        refine s_iald C (heT_4 B g t) dX2_stillCounts_60 ?_
        refine s_iconst C (by decide) dX2_stillCounts_61 ?_
        refine s_icmp_ne C (tgt := 82) (by decide) dX2_stillCounts_62 ?_ ?_
        · exact s_X2_stillCounts_82 B g t C R 
        · refine s_aload_n C rfl dX2_stillCounts_65 ?_
          refine s_get C inw_X2_stillCounts_X2 rfl (k := 4) (by decide) (by decide +kernel) (heT_0 B g t) (fun _ => rfl) dX2_stillCounts_66 ?_
          refine s_iload_n C rfl dX2_stillCounts_69 ?_
          refine s_iconst C (by decide) dX2_stillCounts_70 ?_
          refine s_iadd C dX2_stillCounts_71 ?_
          refine s_iald C (heT_3 B g t) dX2_stillCounts_72 ?_
          refine s_aload_n C rfl dX2_stillCounts_73 ?_
          refine s_get C inw_X2_stillCounts_X2 rfl (k := 6) (by decide) (by decide +kernel) (heT_0 B g t) (fun _ => rfl) dX2_stillCounts_74 ?_
          refine s_iconst C (by decide) dX2_stillCounts_77 ?_
          refine s_iald C (heT_4 B g t) dX2_stillCounts_78 ?_
          refine s_icmp_lt C (tgt := 86) (by decide) dX2_stillCounts_79 ?_ ?_
          · refine s_iconst C (by decide) dX2_stillCounts_86 ?_
            exact s_X2_stillCounts_87 B g t C R 
          · exact s_X2_stillCounts_82 B g t C R 
      · refine s_aload_n C rfl dX2_stillCounts_27 ?_
        refine s_get C inw_X2_stillCounts_X2 rfl (k := 7) (by decide) (by decide +kernel) (heT_0 B g t) (fun _ => rfl) dX2_stillCounts_28 ?_
        refine s_aload_n C rfl dX2_stillCounts_31 ?_
        refine s_get C inw_X2_stillCounts_X2 rfl (k := 4) (by decide) (by decide +kernel) (heT_0 B g t) (fun _ => rfl) dX2_stillCounts_32 ?_
        refine s_iload_n C rfl dX2_stillCounts_35 ?_
        refine s_iconst C (by decide) dX2_stillCounts_36 ?_
        refine s_iadd C dX2_stillCounts_37 ?_
        refine s_iald C (heT_3 B g t) dX2_stillCounts_38 ?_
        refine s_isub C dX2_stillCounts_39 ?_
        refine s_aload_n C rfl dX2_stillCounts_40 ?_
        refine s_get C inw_X2_stillCounts_X2 rfl (k := 6) (by decide) (by decide +kernel) (heT_0 B g t) (fun _ => rfl) dX2_stillCounts_41 ?_
        refine s_iconst C (by decide) dX2_stillCounts_44 ?_
        refine s_iald C (heT_4 B g t) dX2_stillCounts_45 ?_
        refine s_icmp_ge C (tgt := 53) (by decide) dX2_stillCounts_46 ?_ ?_
        · refine s_iconst C (by decide) dX2_stillCounts_53 ?_
          exact s_X2_stillCounts_54 B g t C R 
        · refine s_iconst C (by decide) dX2_stillCounts_49 ?_
          refine s_goto C (tgt := 54) (by decide) dX2_stillCounts_50 ?_
          exact s_X2_stillCounts_54 B g t C R 
    · exact s_X2_stillCounts_15 B g t C R 
theorem k_X2_stillCounts (B : Bx) (g : Nat → Nat) (t : Nat) : MtF (gx B) yX2_stillCounts wsX2_stillCounts (rmD 0) (encT B g t) (F_X2_stillCounts g t) := by
  refine cf_RI_i (fun l T a ha => Mt.of (by decide) rfl (Nat.le_of_ble_eq_true rfl) rfl (fun X C R => s_X2_stillCounts_0 B g t C R) ?_)
  obtain ⟨k, hk, rfl⟩ := ha
  simp only [wIload, wAload, wLload, wK, wB, wDv, wU, wLB, wLU, wLS, wL2i, wLcmp, wIf1, wIf2, wKeep, wInc, wIst, wAst, wLst, wDup, wPop, wDup2, wGet, wPut, wPutZ, wIald, wLald, wIast, wLast, wLen, wRetI, wRetZ, wRetL, wRetA, wRetV, wM1, wM2, wCpy, wTab, tabW, nth, stL, stL2, dropL, keepL, mkL, padL, restOK, restOKn, tl_some, tl_none, id_eq, eq_self, true_and, and_true, bk_X2_stillCounts_15, bk_X2_stillCounts_54, bk_X2_stillCounts_87, bk_X2_stillCounts_82, bk_X2_stillCounts_0]
  have e1 : (nI k * 5 : Int32) = nI (k * 5) := pk_mul k 5
  have e2 : (nI (k * 5)).toNatClampNeg / 5 = k := by rw [nI_clamp (by omega)]; omega
  have e3 : ¬ nI (k * 5) < 0 := nI_pos (by omega)
  have e4 : ¬ (1350 : Int32) < nI (k * 5) + 5 := by
    rw [show nI (k * 5) + 5 = nI (k * 5 + 5) from nI_add _ 5]
    exact nI_nlt (a := 1350) (by omega) (by decide)
  have v0 : vp_in 0 4 := vp_lit 0 (by decide) (by decide)
  have v1 : vp_in 1 4 := vp_lit 1 (by decide) (by decide)
  have v2 : vp_in 2 4 := vp_lit 2 (by decide) (by decide)
  have w2 : vp_in (nI (k * 5) + 2) 1350 := by rw [show nI (k * 5) + 2 = nI (k * 5 + 2) from nI_add _ 2]; exact vp_in_nI (by omega) (by decide)
  have w3 : vp_in (nI (k * 5) + 3) 1350 := by rw [show nI (k * 5) + 3 = nI (k * 5 + 3) from nI_add _ 3]; exact vp_in_nI (by omega) (by decide)
  have c2 : (nI (k * 5) + 2).toNatClampNeg = k * 5 + 2 := by rw [show nI (k * 5) + 2 = nI (k * 5 + 2) from nI_add _ 2]; exact nI_clamp (by omega)
  have c3 : (nI (k * 5) + 3).toNatClampNeg = k * 5 + 3 := by rw [show nI (k * 5) + 3 = nI (k * 5 + 3) from nI_add _ 3]; exact nI_clamp (by omega)
  have z0 : (0 : Int32).toNatClampNeg = 0 := rfl
  have z1 : (1 : Int32).toNatClampNeg = 1 := rfl
  have z2 : (2 : Int32).toNatClampNeg = 2 := rfl
  grind [tCnt, b2i]
def tN (T : TS) : Nat := min (tHh T).toNatClampNeg 270
def tHit (T : TS) (p q : Int32) (k : Nat) : Bool := ((decide (tBt T (k * 5) = p) && decide (tBt T (k * 5 + 1) = q)) || (!decide (tSe T 0 = 1) && (decide (tBt T (k * 5) = q) && decide (tBt T (k * 5 + 1) = p)))) && tCnt T k
def tSpent (T : TS) (p q : Int32) : Bool := !decide (tOfP T p 0 = 4) && (List.range (tN T)).any (fun k => tHit T p q k)
def F_X2_isSpent (g : Nat → Nat) (t : Nat) : CF TS := cf_RII (g t) (fun _ _ _ => True) (fun T p q => some (.int (b2i (tSpent T p q)))) (fun T _ _ => T)
theorem inw_X2_isSpent_X2 : ∀ w ∈ u_ws RX2 TX2 8, w ∈ wsX2_isSpent := by decide +kernel
def bk_X2_isSpent_27 (g : Nat → Nat) (t : Nat) (Post : Option Value → TS → Prop) (K31 : PT TS) (L : Lc) (st : List Value) (s : TS) : Prop :=
  (wIst 3 <| wK (.int 0) <| wIst 4 <| wKeep [true, true, true, true, true, false, false, false, false] K31) L st s
set_option maxRecDepth 20000 in
theorem s_X2_isSpent_27 {X : Cx} (B : Bx) (g : Nat → Nat) (t : Nat) {Post : Option Value → TS → Prop} (C : OkX X (gx B) cX2_isSpent 9 wsX2_isSpent RX2 (rmD 1)) (R : RtX X (gx B) (some .boolean) (encT B g t) Post) {K31 : PT TS} (hK31 : Snd X (gx B) 9 (encT B g t) 31 K31) : Snd X (gx B) 9 (encT B g t) 27 (bk_X2_isSpent_27 g t Post K31) := by
  unfold bk_X2_isSpent_27
  refine s_istore_n C rfl (by decide) dX2_isSpent_27 ?_
  refine s_iconst C (by decide) dX2_isSpent_28 ?_
  refine s_istore C (by decide) dX2_isSpent_29 ?_
  exact s_keep _ hK31
def bk_X2_isSpent_0 (g : Nat → Nat) (t : Nat) (Post : Option Value → TS → Prop) (K31 : PT TS) (L : Lc) (st : List Value) (s : TS) : Prop :=
  (wAload 0 <| wIload 1 <| wK (.int 0) <| wCallR 3 (F_X2_ofPerson g t) id (fun _ u => u) <| wK (.int 4) <| wIf2 (fun x y => x = y) (wK (.int 0) <| wRetZ Post) (wAload 0 <| wGet (g t) (fun _ => .ref (g (t + 4))) <| wK (.int 0) <| wIald (g (t + 4)) 4 tSe <| wK (.int 1) <| wIf2 (fun x y => x = y) (wK (.int 0) <| bk_X2_isSpent_27 g t Post K31) (wK (.int 1) <| bk_X2_isSpent_27 g t Post K31))) L st s
set_option maxRecDepth 20000 in
theorem s_X2_isSpent_0 {X : Cx} (B : Bx) (g : Nat → Nat) (t : Nat) {Post : Option Value → TS → Prop} (C : OkX X (gx B) cX2_isSpent 9 wsX2_isSpent RX2 (rmD 1)) (R : RtX X (gx B) (some .boolean) (encT B g t) Post) {K31 : PT TS} (hK31 : Snd X (gx B) 9 (encT B g t) 31 K31) : Snd X (gx B) 9 (encT B g t) 0 (bk_X2_isSpent_0 g t Post K31) := by
  unfold bk_X2_isSpent_0
  refine s_aload_n C rfl dX2_isSpent_0 ?_
  refine s_iload_n C rfl dX2_isSpent_1 ?_
  refine s_iconst C (by decide) dX2_isSpent_2 ?_
  refine s_callV C (fr_T_T B g t) (k_X2_ofPerson B g t) gX2_isSpent_X2_ofPerson rfl (by decide +kernel) ⟨rfl, rfl⟩ (by decide) rfl (fun s => ⟨_, heT_0 B g t s⟩) (cf_RII_r _ _ _ _) dX2_isSpent_3 ?_
  refine s_iconst C (by decide) dX2_isSpent_6 ?_
  refine s_icmp_ne C (tgt := 12) (by decide) dX2_isSpent_7 ?_ ?_
  · refine s_aload_n C rfl dX2_isSpent_12 ?_
    refine s_get C inw_X2_isSpent_X2 rfl (k := 6) (by decide) (by decide +kernel) (heT_0 B g t) (fun _ => rfl) dX2_isSpent_13 ?_
    refine s_iconst C (by decide) dX2_isSpent_16 ?_
    refine s_iald C (heT_4 B g t) dX2_isSpent_17 ?_
    refine s_iconst C (by decide) dX2_isSpent_18 ?_
    refine s_icmp_eq C (tgt := 26) (by decide) dX2_isSpent_19 ?_ ?_
    · refine s_iconst C (by decide) dX2_isSpent_26 ?_
      exact s_X2_isSpent_27 B g t C R hK31
    · refine s_iconst C (by decide) dX2_isSpent_22 ?_
      refine s_goto C (tgt := 27) (by decide) dX2_isSpent_23 ?_
      exact s_X2_isSpent_27 B g t C R hK31
  · refine s_iconst C (by decide) dX2_isSpent_10 ?_
    exact s_zret C R dX2_isSpent_11
def bk_X2_isSpent_127 (g : Nat → Nat) (t : Nat) (Post : Option Value → TS → Prop) (K31 : PT TS) (L : Lc) (st : List Value) (s : TS) : Prop :=
  (wInc 4 1 <| wKeep [true, true, true, true, true, false, false, false, false] K31) L st s
set_option maxRecDepth 20000 in
theorem s_X2_isSpent_127 {X : Cx} (B : Bx) (g : Nat → Nat) (t : Nat) {Post : Option Value → TS → Prop} (C : OkX X (gx B) cX2_isSpent 9 wsX2_isSpent RX2 (rmD 1)) (R : RtX X (gx B) (some .boolean) (encT B g t) Post) {K31 : PT TS} (hK31 : Snd X (gx B) 9 (encT B g t) 31 K31) : Snd X (gx B) 9 (encT B g t) 127 (bk_X2_isSpent_127 g t Post K31) := by
  unfold bk_X2_isSpent_127
  refine s_iinc C (by decide) (by decide) dX2_isSpent_127 ?_
  refine s_goto C (tgt := 31) (by decide) dX2_isSpent_130 ?_
  exact s_keep _ hK31
def bk_X2_isSpent_109 (g : Nat → Nat) (t : Nat) (Post : Option Value → TS → Prop) (K31 : PT TS) (L : Lc) (st : List Value) (s : TS) : Prop :=
  (wIst 8 <| wIload 8 <| wIf1 (fun x => x = 0) (bk_X2_isSpent_127 g t Post K31) (wAload 0 <| wIload 5 <| wCallR 2 (F_X2_stillCounts g t) id (fun _ u => u) <| wIf1 (fun x => x = 0) (bk_X2_isSpent_127 g t Post K31) (wK (.int 1) <| wRetZ Post))) L st s
set_option maxRecDepth 20000 in
theorem s_X2_isSpent_109 {X : Cx} (B : Bx) (g : Nat → Nat) (t : Nat) {Post : Option Value → TS → Prop} (C : OkX X (gx B) cX2_isSpent 9 wsX2_isSpent RX2 (rmD 1)) (R : RtX X (gx B) (some .boolean) (encT B g t) Post) {K31 : PT TS} (hK31 : Snd X (gx B) 9 (encT B g t) 31 K31) : Snd X (gx B) 9 (encT B g t) 109 (bk_X2_isSpent_109 g t Post K31) := by
  unfold bk_X2_isSpent_109
  refine s_istore C (by decide) dX2_isSpent_109 ?_
  refine s_iload C dX2_isSpent_111 ?_
  refine s_if_eq C (tgt := 127) (by decide) dX2_isSpent_113 ?_ ?_
  · exact s_X2_isSpent_127 B g t C R hK31
  · refine s_aload_n C rfl dX2_isSpent_116 ?_
    refine s_iload C dX2_isSpent_117 ?_
    refine s_callV C (fr_T_T B g t) (k_X2_stillCounts B g t) gX2_isSpent_X2_stillCounts rfl (by decide +kernel) ⟨rfl, rfl⟩ (by decide) rfl (fun s => ⟨_, heT_0 B g t s⟩) (cf_RI_r _ _ _ _) dX2_isSpent_119 ?_
    refine s_if_eq C (tgt := 127) (by decide) dX2_isSpent_122 ?_ ?_
    · exact s_X2_isSpent_127 B g t C R hK31
    · refine s_iconst C (by decide) dX2_isSpent_125 ?_
      exact s_zret C R dX2_isSpent_126
def bk_X2_isSpent_104 (g : Nat → Nat) (t : Nat) (Post : Option Value → TS → Prop) (K31 : PT TS) (L : Lc) (st : List Value) (s : TS) : Prop :=
  (wK (.int 1) <| bk_X2_isSpent_109 g t Post K31) L st s
set_option maxRecDepth 20000 in
theorem s_X2_isSpent_104 {X : Cx} (B : Bx) (g : Nat → Nat) (t : Nat) {Post : Option Value → TS → Prop} (C : OkX X (gx B) cX2_isSpent 9 wsX2_isSpent RX2 (rmD 1)) (R : RtX X (gx B) (some .boolean) (encT B g t) Post) {K31 : PT TS} (hK31 : Snd X (gx B) 9 (encT B g t) 31 K31) : Snd X (gx B) 9 (encT B g t) 104 (bk_X2_isSpent_104 g t Post K31) := by
  unfold bk_X2_isSpent_104
  refine s_iconst C (by decide) dX2_isSpent_104 ?_
  refine s_goto C (tgt := 109) (by decide) dX2_isSpent_105 ?_
  exact s_X2_isSpent_109 B g t C R hK31
def bk_X2_isSpent_108 (g : Nat → Nat) (t : Nat) (Post : Option Value → TS → Prop) (K31 : PT TS) (L : Lc) (st : List Value) (s : TS) : Prop :=
  (wK (.int 0) <| bk_X2_isSpent_109 g t Post K31) L st s
set_option maxRecDepth 20000 in
theorem s_X2_isSpent_108 {X : Cx} (B : Bx) (g : Nat → Nat) (t : Nat) {Post : Option Value → TS → Prop} (C : OkX X (gx B) cX2_isSpent 9 wsX2_isSpent RX2 (rmD 1)) (R : RtX X (gx B) (some .boolean) (encT B g t) Post) {K31 : PT TS} (hK31 : Snd X (gx B) 9 (encT B g t) 31 K31) : Snd X (gx B) 9 (encT B g t) 108 (bk_X2_isSpent_108 g t Post K31) := by
  unfold bk_X2_isSpent_108
  refine s_iconst C (by decide) dX2_isSpent_108 ?_
  exact s_X2_isSpent_109 B g t C R hK31
def bk_X2_isSpent_88 (g : Nat → Nat) (t : Nat) (Post : Option Value → TS → Prop) (K31 : PT TS) (L : Lc) (st : List Value) (s : TS) : Prop :=
  (wIload 3 <| wIf1 (fun x => x = 0) (bk_X2_isSpent_108 g t Post K31) (wIload 6 <| wIload 2 <| wIf2 (fun x y => x = y) (wIload 7 <| wIload 1 <| wIf2 (fun x y => x = y) (bk_X2_isSpent_104 g t Post K31) (bk_X2_isSpent_108 g t Post K31)) (bk_X2_isSpent_108 g t Post K31))) L st s
set_option maxRecDepth 20000 in
theorem s_X2_isSpent_88 {X : Cx} (B : Bx) (g : Nat → Nat) (t : Nat) {Post : Option Value → TS → Prop} (C : OkX X (gx B) cX2_isSpent 9 wsX2_isSpent RX2 (rmD 1)) (R : RtX X (gx B) (some .boolean) (encT B g t) Post) {K31 : PT TS} (hK31 : Snd X (gx B) 9 (encT B g t) 31 K31) : Snd X (gx B) 9 (encT B g t) 88 (bk_X2_isSpent_88 g t Post K31) := by
  unfold bk_X2_isSpent_88
  refine s_iload_n C rfl dX2_isSpent_88 ?_
  refine s_if_eq C (tgt := 108) (by decide) dX2_isSpent_89 ?_ ?_
  · exact s_X2_isSpent_108 B g t C R hK31
  · refine s_iload C dX2_isSpent_92 ?_
    refine s_iload_n C rfl dX2_isSpent_94 ?_
    refine s_icmp_ne C (tgt := 108) (by decide) dX2_isSpent_95 ?_ ?_
    · exact s_X2_isSpent_108 B g t C R hK31
    · refine s_iload C dX2_isSpent_98 ?_
      refine s_iload_n C rfl dX2_isSpent_100 ?_
      refine s_icmp_ne C (tgt := 108) (by decide) dX2_isSpent_101 ?_ ?_
      · exact s_X2_isSpent_108 B g t C R hK31
      · exact s_X2_isSpent_104 B g t C R hK31
def bk_X2_isSpent_133 (g : Nat → Nat) (t : Nat) (Post : Option Value → TS → Prop)  (L : Lc) (st : List Value) (s : TS) : Prop :=
  (wK (.int 0) <| wRetZ Post) L st s
set_option maxRecDepth 20000 in
theorem s_X2_isSpent_133 {X : Cx} (B : Bx) (g : Nat → Nat) (t : Nat) {Post : Option Value → TS → Prop} (C : OkX X (gx B) cX2_isSpent 9 wsX2_isSpent RX2 (rmD 1)) (R : RtX X (gx B) (some .boolean) (encT B g t) Post)  : Snd X (gx B) 9 (encT B g t) 133 (bk_X2_isSpent_133 g t Post ) := by
  unfold bk_X2_isSpent_133
  refine s_iconst C (by decide) dX2_isSpent_133 ?_
  exact s_zret C R dX2_isSpent_134
def bk_X2_isSpent_31 (g : Nat → Nat) (t : Nat) (Post : Option Value → TS → Prop) (K31 : PT TS) (L : Lc) (st : List Value) (s : TS) : Prop :=
  (wIload 4 <| wAload 0 <| wGet (g t) (fun s => .int (tHh s)) <| wIf2 (fun x y => y ≤ x) (bk_X2_isSpent_133 g t Post ) (wIload 4 <| wK (.int 270) <| wIf2 (fun x y => y ≤ x) (bk_X2_isSpent_133 g t Post ) (wIload 4 <| wK (.int 5) <| wB (fun x y => x * y) <| wIst 5 <| wAload 0 <| wGet (g t) (fun _ => .ref (g (t + 3))) <| wIload 5 <| wK (.int 0) <| wB (fun x y => x + y) <| wIald (g (t + 3)) 1350 tBt <| wIst 6 <| wAload 0 <| wGet (g t) (fun _ => .ref (g (t + 3))) <| wIload 5 <| wK (.int 1) <| wB (fun x y => x + y) <| wIald (g (t + 3)) 1350 tBt <| wIst 7 <| wIload 6 <| wIload 1 <| wIf2 (fun x y => x = y) (wIload 7 <| wIload 2 <| wIf2 (fun x y => x = y) (bk_X2_isSpent_104 g t Post K31) (bk_X2_isSpent_88 g t Post K31)) (bk_X2_isSpent_88 g t Post K31)))) L st s
set_option maxRecDepth 20000 in
theorem s_X2_isSpent_31 {X : Cx} (B : Bx) (g : Nat → Nat) (t : Nat) {Post : Option Value → TS → Prop} (C : OkX X (gx B) cX2_isSpent 9 wsX2_isSpent RX2 (rmD 1)) (R : RtX X (gx B) (some .boolean) (encT B g t) Post) {K31 : PT TS} (hK31 : Snd X (gx B) 9 (encT B g t) 31 K31) : Snd X (gx B) 9 (encT B g t) 31 (bk_X2_isSpent_31 g t Post K31) := by
  unfold bk_X2_isSpent_31
  refine s_iload C dX2_isSpent_31 ?_
  refine s_aload_n C rfl dX2_isSpent_33 ?_
  refine s_get C inw_X2_isSpent_X2 rfl (k := 5) (by decide) (by decide +kernel) (heT_0 B g t) (fun _ => rfl) dX2_isSpent_34 ?_
  refine s_icmp_ge C (tgt := 133) (by decide) dX2_isSpent_37 ?_ ?_
  · exact s_X2_isSpent_133 B g t C R 
  · refine s_iload C dX2_isSpent_40 ?_
    refine s_sipush C (by decide) dX2_isSpent_42 ?_
    refine s_icmp_ge C (tgt := 133) (by decide) dX2_isSpent_45 ?_ ?_
    · exact s_X2_isSpent_133 B g t C R 
    · refine s_iload C dX2_isSpent_48 ?_
      refine s_iconst C (by decide) dX2_isSpent_50 ?_
      refine s_imul C dX2_isSpent_51 ?_
      refine s_istore C (by decide) dX2_isSpent_52 ?_
      refine s_aload_n C rfl dX2_isSpent_54 ?_
      refine s_get C inw_X2_isSpent_X2 rfl (k := 4) (by decide) (by decide +kernel) (heT_0 B g t) (fun _ => rfl) dX2_isSpent_55 ?_
      refine s_iload C dX2_isSpent_58 ?_
      refine s_iconst C (by decide) dX2_isSpent_60 ?_
      refine s_iadd C dX2_isSpent_61 ?_
      refine s_iald C (heT_3 B g t) dX2_isSpent_62 ?_
      refine s_istore C (by decide) dX2_isSpent_63 ?_
      refine s_aload_n C rfl dX2_isSpent_65 ?_
      refine s_get C inw_X2_isSpent_X2 rfl (k := 4) (by decide) (by decide +kernel) (heT_0 B g t) (fun _ => rfl) dX2_isSpent_66 ?_
      refine s_iload C dX2_isSpent_69 ?_
      refine s_iconst C (by decide) dX2_isSpent_71 ?_
      refine s_iadd C dX2_isSpent_72 ?_
      refine s_iald C (heT_3 B g t) dX2_isSpent_73 ?_
      refine s_istore C (by decide) dX2_isSpent_74 ?_
      refine s_iload C dX2_isSpent_76 ?_
      refine s_iload_n C rfl dX2_isSpent_78 ?_
      refine s_icmp_ne C (tgt := 88) (by decide) dX2_isSpent_79 ?_ ?_
      · exact s_X2_isSpent_88 B g t C R hK31
      · refine s_iload C dX2_isSpent_82 ?_
        refine s_iload_n C rfl dX2_isSpent_84 ?_
        refine s_icmp_eq C (tgt := 104) (by decide) dX2_isSpent_85 ?_ ?_
        · exact s_X2_isSpent_104 B g t C R hK31
        · exact s_X2_isSpent_88 B g t C R hK31
def I_isSpent (g : Nat → Nat) (t : Nat) (T : TS) (p q : Int32) (n : Nat) (L : Lc) (st : List Value) (s : TS) : Prop := ∃ k, n + k = tN T ∧ st = [] ∧ s = T ∧ L = [some (.ref (g t)), some (.int p), some (.int q), some (.int (if tSe T 0 = 1 then 0 else 1)), some (.int (nI k)), none, none, none, none] ∧ (¬ tOfP T p 0 = 4) ∧ ∀ j, j < k → tHit T p q j = false
theorem k_X2_isSpent (B : Bx) (g : Nat → Nat) (t : Nat) : MtF (gx B) yX2_isSpent wsX2_isSpent (rmD 1) (encT B g t) (F_X2_isSpent g t) := by
  refine cf_RII_i (fun l T p q _ => Mt.of (P := bk_X2_isSpent_0 g t (fun o u => o = some (.int (b2i (tSpent T p q))) ∧ u = T) (fun L st s => ∃ n, I_isSpent g t T p q n L st s)) (by decide) rfl (Nat.le_of_ble_eq_true rfl) rfl (fun X C R => s_X2_isSpent_0 B g t C R (snd_loop _ (I_isSpent g t T p q) (fun K hK => s_X2_isSpent_31 B g t C R hK) ?_)) ?_)
  · rintro K n L st T' ⟨k, hk, rfl, rfl, rfl, hG, hh⟩ hK
    simp only [wIload, wAload, wLload, wK, wB, wDv, wU, wLB, wLU, wLS, wL2i, wLcmp, wIf1, wIf2, wKeep, wInc, wIst, wAst, wLst, wDup, wPop, wDup2, wGet, wPut, wPutZ, wIald, wLald, wIast, wLast, wLen, wRetI, wRetZ, wRetL, wRetA, wRetV, wM1, wM2, wCpy, wTab, tabW, nth, stL, stL2, dropL, keepL, mkL, padL, restOK, restOKn, tl_some, tl_none, id_eq, eq_self, true_and, and_true, bk_X2_isSpent_27, bk_X2_isSpent_0, bk_X2_isSpent_127, bk_X2_isSpent_109, bk_X2_isSpent_104, bk_X2_isSpent_108, bk_X2_isSpent_88, bk_X2_isSpent_133, bk_X2_isSpent_31, F_X2_ofPerson, F_X2_stillCounts, cf_RII_e, cf_RI_e]
    have hk2 : k ≤ tN T' := by omega
    unfold tN at hk2
    rcases Nat.lt_or_ge k (tN T') with hlt | hge
    · have hlt2 := hlt
      unfold tN at hlt
      have h1 : ¬ tHh T' ≤ nI k := by rw [le_nI (by omega)]; omega
      have h2 : ¬ (270 : Int32) ≤ nI k := nI_ge (a := k) (b := 270) (by omega) (by decide)
      have c0 : (nI k * 5 + 0).toNatClampNeg = k * 5 := ix_ma (b := 5) (c := 0) (by omega)
      have c1 : (nI k * 5 + 1).toNatClampNeg = k * 5 + 1 := ix_ma (b := 5) (c := 1) (by omega)
      have c5 : (nI k * 5).toNatClampNeg / 5 = k := by rw [show nI k * 5 = nI (k * 5) from pk_mul k 5, nI_clamp (by omega)]; omega
      have w0 : vp_in (nI k * 5 + 0) 1350 := vp_ma (b := 5) (c := 0) (by omega) (by decide)
      have w1 : vp_in (nI k * 5 + 1) 1350 := vp_ma (b := 5) (c := 1) (by omega) (by decide)
      have w5 : ∃ k_1, k_1 < 270 ∧ nI k * 5 = nI k_1 * 5 := ⟨k, by omega, rfl⟩
      have hc : tHit T' p q k = false → K [some (.ref (g t)), some (.int p), some (.int q), some (.int (if tSe T' 0 = 1 then 0 else 1)), some (.int (nI k + 1)), none, none, none, none] [] T' := fun h => hK (n - 1) _ _ _ (by omega) ⟨k + 1, by omega, rfl, rfl, by rw [nI_1], hG, fun j hj => by rcases Nat.lt_succ_iff_lt_or_eq.mp hj with h' | rfl; exact hh j h'; exact h⟩
      have ht : tHit T' p q k = true → tSpent T' p q = true := fun h => by
        unfold tSpent
        rw [Bool.and_eq_true, List.any_eq_true]
        exact ⟨by simpa using hG, k, List.mem_range.mpr hlt2, h⟩
      simp only [h1, h2, c0, c1, c5, w0, w1, w5, b2i_eq0, false_implies, true_implies, not_true_eq_false, not_false_eq_true, true_and, and_true, implies_true, eq_self, ne_eq, true_or, or_true, false_or, or_false, and_self]
      unfold tHit at hc ht
      repeat' first | refine And.intro ?_ ?_ | intro _
      all_goals grind [b2i]
    · have hex : tSpent T' p q = false := by
        unfold tSpent
        rw [Bool.and_eq_false_iff]
        refine Or.inr ?_
        rw [List.any_eq_false]
        exact fun j hj => by simp [hh j (by have := List.mem_range.mp hj; omega)]
      have hx : tHh T' ≤ nI k ∨ (270 : Int32) ≤ nI k := by
        unfold tN at hge
        rcases Nat.lt_or_ge k 270 with h | h
        · exact Or.inl ((le_nI (by omega)).mpr (by omega))
        · exact Or.inr (nI_le (a := 270) h (by omega))
      repeat' first | refine And.intro ?_ ?_ | intro _
      all_goals grind [b2i]
  · simp only [wIload, wAload, wLload, wK, wB, wDv, wU, wLB, wLU, wLS, wL2i, wLcmp, wIf1, wIf2, wKeep, wInc, wIst, wAst, wLst, wDup, wPop, wDup2, wGet, wPut, wPutZ, wIald, wLald, wIast, wLast, wLen, wRetI, wRetZ, wRetL, wRetA, wRetV, wM1, wM2, wCpy, wTab, tabW, nth, stL, stL2, dropL, keepL, mkL, padL, restOK, restOKn, tl_some, tl_none, id_eq, eq_self, true_and, and_true, bk_X2_isSpent_27, bk_X2_isSpent_0, bk_X2_isSpent_127, bk_X2_isSpent_109, bk_X2_isSpent_104, bk_X2_isSpent_108, bk_X2_isSpent_88, bk_X2_isSpent_133, bk_X2_isSpent_31, F_X2_ofPerson, F_X2_stillCounts, cf_RII_e, cf_RI_e]
    have v0 : vp_in 0 4 := vp_lit 0 (by decide) (by decide)
    have z0 : (0 : Int32).toNatClampNeg = 0 := rfl
    have hx : tOfP T p 0 = 4 → tSpent T p q = false := fun h => by simp [tSpent, h]
    have hi : ¬ tOfP T p 0 = 4 → ∃ n, I_isSpent g t T p q n [some (.ref (g t)), some (.int p), some (.int q), some (.int (if tSe T 0 = 1 then 0 else 1)), some (.int 0), none, none, none, none] [] T := fun h => ⟨tN T, 0, by omega, rfl, rfl, rfl, h, fun j hj => absurd hj (Nat.not_lt_zero j)⟩
    grind [b2i]
end
