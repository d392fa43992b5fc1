noncomputable section
def r_row (S : HS) (p : Int32) : Int32 × HS := if tHasP (hNow S) p = false then (-1, hRef S (-1)) else if hRl S < 0 ∨ 10 ≤ hRl S then (-6, hRef S (-6)) else (hRl S + 1, hsRl (haRo S (hRl S).toNatClampNeg p) (hRl S + 1))
def F_X3_row (g : Nat → Nat) : CF HS := cf_RI (g 0) (fun _ _ => True) (fun S p => some (.int (r_row S p).1)) (fun S p => (r_row S p).2)
theorem inw_X3_row_X3 : ∀ w ∈ u_ws RX3 TX3 9, w ∈ wsX3_row := by decide +kernel
def bk_X3_row_36 (g : Nat → Nat) (Post : Option Value → HS → Prop)  (L : Lc) (st : List Value) (s : HS) : Prop :=
  (wAload 0 <| wK (.int (-6)) <| wCallR 2 (F_X3_refuse g) id (fun _ u => u) <| wRetI Post) L st s
set_option maxRecDepth 20000 in
theorem s_X3_row_36 {X : Cx} (B : Bx) (g : Nat → Nat) {Post : Option Value → HS → Prop} (C : OkX X (gx B) cX3_row 2 wsX3_row RX3 (rmD 1)) (R : RtX X (gx B) (some .int) (encH B g) Post)  : Snd X (gx B) 2 (encH B g) 36 (bk_X3_row_36 g Post ) := by
  unfold bk_X3_row_36
  refine s_aload_n C rfl dX3_row_36 ?_
  refine s_bipush C (by decide) dX3_row_37 ?_
  refine s_callV C (fr_H_H B g) (k_X3_refuse B g) gX3_row_X3_refuse rfl (by decide +kernel) ⟨rfl, rfl⟩ (by decide) rfl (fun s => ⟨_, heH_0 B g s⟩) (cf_RI_r _ _ _ _) dX3_row_39 ?_
  exact s_iret C R dX3_row_42
def bk_X3_row_0 (g : Nat → Nat) (Post : Option Value → HS → Prop)  (L : Lc) (st : List Value) (s : HS) : Prop :=
  (wAload 0 <| wGet (g 0) (fun _ => .ref (g 1)) <| wIload 1 <| wCallR 2 (F_X2_hasPerson g 1) hNow hsNow <| wIf1 (fun x => x = 0) (wAload 0 <| wK (.int (-1)) <| wCallR 2 (F_X3_refuse g) id (fun _ u => u) <| wRetI Post) (wAload 0 <| wGet (g 0) (fun s => .int (hRl s)) <| wIf1 (fun x => x < 0) (bk_X3_row_36 g Post ) (wAload 0 <| wGet (g 0) (fun s => .int (hRl s)) <| wAload 0 <| wGet (g 0) (fun _ => .ref (g 24)) <| wLen (g 24) 10 <| wIf2 (fun x y => x < y) (wAload 0 <| wGet (g 0) (fun _ => .ref (g 24)) <| wAload 0 <| wGet (g 0) (fun s => .int (hRl s)) <| wIload 1 <| wIast (g 24) 10 haRo <| wAload 0 <| wDup <| wGet (g 0) (fun s => .int (hRl s)) <| wK (.int 1) <| wB (fun x y => x + y) <| wPut (g 0) hsRl <| wAload 0 <| wGet (g 0) (fun s => .int (hRl s)) <| wRetI Post) (bk_X3_row_36 g Post )))) L st s
set_option maxRecDepth 20000 in
theorem s_X3_row_0 {X : Cx} (B : Bx) (g : Nat → Nat) {Post : Option Value → HS → Prop} (C : OkX X (gx B) cX3_row 2 wsX3_row RX3 (rmD 1)) (R : RtX X (gx B) (some .int) (encH B g) Post)  : Snd X (gx B) 2 (encH B g) 0 (bk_X3_row_0 g Post ) := by
  unfold bk_X3_row_0
  refine s_aload_n C rfl dX3_row_0 ?_
  refine s_get C inw_X3_row_X3 rfl (k := 0) (by decide) (by decide +kernel) (heH_0 B g) (fun _ => rfl) dX3_row_1 ?_
  refine s_iload_n C rfl dX3_row_4 ?_
  refine s_callV C (fr_H_T1 B g) (k_X2_hasPerson B g 1) gX3_row_X2_hasPerson rfl (by decide +kernel) ⟨rfl, rfl⟩ (by decide) rfl (fun s => ⟨_, heH_1 B g s⟩) (cf_RI_r _ _ _ _) dX3_row_5 ?_
  refine s_if_ne C (tgt := 17) (by decide) dX3_row_8 ?_ ?_
  · refine s_aload_n C rfl dX3_row_17 ?_
    refine s_get C inw_X3_row_X3 rfl (k := 7) (by decide) (by decide +kernel) (heH_0 B g) (fun _ => rfl) dX3_row_18 ?_
    refine s_if_lt C (tgt := 36) (by decide) dX3_row_21 ?_ ?_
    · exact s_X3_row_36 B g C R 
    · refine s_aload_n C rfl dX3_row_24 ?_
      refine s_get C inw_X3_row_X3 rfl (k := 7) (by decide) (by decide +kernel) (heH_0 B g) (fun _ => rfl) dX3_row_25 ?_
      refine s_aload_n C rfl dX3_row_28 ?_
      refine s_get C inw_X3_row_X3 rfl (k := 6) (by decide) (by decide +kernel) (heH_0 B g) (fun _ => rfl) dX3_row_29 ?_
      refine s_alen C (t0 := 0) (heH_24 B g) rfl (fun _ => rfl) dX3_row_32 ?_
      refine s_icmp_lt C (tgt := 43) (by decide) dX3_row_33 ?_ ?_
      · refine s_aload_n C rfl dX3_row_43 ?_
        refine s_get C inw_X3_row_X3 rfl (k := 6) (by decide) (by decide +kernel) (heH_0 B g) (fun _ => rfl) dX3_row_44 ?_
        refine s_aload_n C rfl dX3_row_47 ?_
        refine s_get C inw_X3_row_X3 rfl (k := 7) (by decide) (by decide +kernel) (heH_0 B g) (fun _ => rfl) dX3_row_48 ?_
        refine s_iload_n C rfl dX3_row_51 ?_
        refine s_iast C (heH_24 B g) (fun _ _ _ => rfl) dX3_row_52 ?_
        refine s_aload_n C rfl dX3_row_53 ?_
        refine s_dup C dX3_row_54 ?_
        refine s_get C inw_X3_row_X3 rfl (k := 7) (by decide) (by decide +kernel) (heH_0 B g) (fun _ => rfl) dX3_row_55 ?_
        refine s_iconst C (by decide) dX3_row_58 ?_
        refine s_iadd C dX3_row_59 ?_
        refine s_put C inw_X3_row_X3 rfl (k := 7) (by decide) (by decide +kernel) tyX3_ok nmX3 (by decide +kernel) (by decide +kernel) (heH_0 B g) (fun _ => Nat.le_of_ble_eq_true rfl) (fun _ _ => rfl) dX3_row_60 ?_
        refine s_aload_n C rfl dX3_row_63 ?_
        refine s_get C inw_X3_row_X3 rfl (k := 7) (by decide) (by decide +kernel) (heH_0 B g) (fun _ => rfl) dX3_row_64 ?_
        exact s_iret C R dX3_row_67
      · exact s_X3_row_36 B g C R 
  · refine s_aload_n C rfl dX3_row_11 ?_
    refine s_iconst C (by decide) dX3_row_12 ?_
    refine s_callV C (fr_H_H B g) (k_X3_refuse B g) gX3_row_X3_refuse rfl (by decide +kernel) ⟨rfl, rfl⟩ (by decide) rfl (fun s => ⟨_, heH_0 B g s⟩) (cf_RI_r _ _ _ _) dX3_row_13 ?_
    exact s_iret C R dX3_row_16
theorem v10 {k : Int32} : ¬ k < 0 → k < 10 → vp_in k 10 := by
  intro h1 h2
  obtain ⟨a, ha, ea⟩ := ixN' (n := 10) rfl h1 h2
  exact vpN ea ha (by decide)
theorem haRo_1 (S : HS) (i : Nat) (v : Int32) : hRl (haRo S i v) = hRl S := rfl
theorem k_X3_row (B : Bx) (g : Nat → Nat) : MtF (gx B) yX3_row wsX3_row (rmD 1) (encH B g) (F_X3_row g) := by
  refine cf_RI_i (fun l S p _ => Mt.of (by decide) rfl (Nat.le_of_ble_eq_true rfl) rfl (fun X C R => s_X3_row_0 B g C R) ?_)
  simp only [wIload, wAload, wLload, wK, wB, wDv, wU, wLB, wLU, wLS, wL2i, wLcmp, wIf1, wIf2, wKeep, wInc, wIst, wAst, wLst, wDup, wPop, wDup2, wGet, wPut, wPutZ, wIald, wLald, wIast, wLast, wLen, wRetI, wRetZ, wRetL, wRetA, wRetV, wM1, wM2, wCpy, wTab, tabW, nth, stL, stL2, dropL, keepL, mkL, padL, restOK, restOKn, tl_some, tl_none, id_eq, eq_self, true_and, and_true, bk_X3_row_36, bk_X3_row_0, F_X2_hasPerson, F_X3_refuse, cf_RI_e, b2i_eq0, true_or, or_true, haRo_1, hg_Now_Now, hg_Now_Mind, hg_Now_Image, hg_Now_Im, hg_Now_S, hg_Now_L, hg_Now_Ro, hg_Now_Rl, hg_Now_Re, hg_Mind_Now, hg_Mind_Mind, hg_Mind_Image, hg_Mind_Im, hg_Mind_S, hg_Mind_L, hg_Mind_Ro, hg_Mind_Rl, hg_Mind_Re, hg_Image_Now, hg_Image_Mind, hg_Image_Image, hg_Image_Im, hg_Image_S, hg_Image_L, hg_Image_Ro, hg_Image_Rl, hg_Image_Re, hg_Im_Now, hg_Im_Mind, hg_Im_Image, hg_Im_Im, hg_Im_S, hg_Im_L, hg_Im_Ro, hg_Im_Rl, hg_Im_Re, hg_S_Now, hg_S_Mind, hg_S_Image, hg_S_Im, hg_S_S, hg_S_L, hg_S_Ro, hg_S_Rl, hg_S_Re, hg_L_Now, hg_L_Mind, hg_L_Image, hg_L_Im, hg_L_S, hg_L_L, hg_L_Ro, hg_L_Rl, hg_L_Re, hg_Ro_Now, hg_Ro_Mind, hg_Ro_Image, hg_Ro_Im, hg_Ro_S, hg_Ro_L, hg_Ro_Ro, hg_Ro_Rl, hg_Ro_Re, hg_Rl_Now, hg_Rl_Mind, hg_Rl_Image, hg_Rl_Im, hg_Rl_S, hg_Rl_L, hg_Rl_Ro, hg_Rl_Rl, hg_Rl_Re, hg_Re_Now, hg_Re_Mind, hg_Re_Image, hg_Re_Im, hg_Re_S, hg_Re_L, hg_Re_Ro, hg_Re_Rl, hg_Re_Re, he_Now, ho_Now, he_Mind, ho_Mind, he_Image, ho_Image, he_Im, ho_Im, he_S, ho_S, he_L, ho_L, he_Ro, ho_Ro, he_Rl, ho_Rl, he_Re, ho_Re]
  have h10 := @v10 (hRl S)
  unfold vp_in at h10
  repeat' first | refine And.intro ?_ ?_ | intro _
  all_goals grind [r_row]
def r_count (S : HS) (w : Int32) : Int32 := if 10 < w ∧ w ≤ 16 then hRe S (w - 10).toNatClampNeg else if w = 0 then tPp (hNow S) else if w = 1 then tNn (hNow S) else if w = 2 then tHh (hNow S) else if w = 3 then tOpenN (hNow S) else if w = 4 then tYr (hNow S) else if w = 5 then lLn (hL S) else if w = 6 then hRl S else if w = 7 then tSet (hNow S) 0 else -9
def F_X3_count (g : Nat → Nat) : CF HS := cf_RI (g 0) (fun _ _ => True) (fun S p => some (.int (r_count S p))) (fun S _ => S)
theorem inw_X3_count_X0 : ∀ w ∈ u_ws RX0 TX0 2, w ∈ wsX3_count := by decide +kernel
theorem inw_X3_count_X2 : ∀ w ∈ u_ws RX2 TX2 8, w ∈ wsX3_count := by decide +kernel
theorem inw_X3_count_X3 : ∀ w ∈ u_ws RX3 TX3 9, w ∈ wsX3_count := by decide +kernel
def bk_X3_count_22 (g : Nat → Nat) (Post : Option Value → HS → Prop)  (L : Lc) (st : List Value) (s : HS) : Prop :=
  (wIload 1 <| wTab [(0, wAload 0 <| wGet (g 0) (fun _ => .ref (g 1)) <| wGet (g 1) (fun s => .int (hNowPp s)) <| wRetI Post), (1, wAload 0 <| wGet (g 0) (fun _ => .ref (g 1)) <| wGet (g 1) (fun s => .int (hNowNn s)) <| wRetI Post), (2, wAload 0 <| wGet (g 0) (fun _ => .ref (g 1)) <| wGet (g 1) (fun s => .int (hNowHh s)) <| wRetI Post), (3, wAload 0 <| wGet (g 0) (fun _ => .ref (g 1)) <| wCallR 1 (F_X2_openNeeds g 1) hNow hsNow <| wRetI Post), (4, wAload 0 <| wGet (g 0) (fun _ => .ref (g 1)) <| wGet (g 1) (fun s => .int (hNowYr s)) <| wRetI Post), (5, wAload 0 <| wGet (g 0) (fun _ => .ref (g 22)) <| wGet (g 22) (fun s => .int (hLLn s)) <| wRetI Post), (6, wAload 0 <| wGet (g 0) (fun s => .int (hRl s)) <| wRetI Post), (7, wAload 0 <| wGet (g 0) (fun _ => .ref (g 1)) <| wK (.int 0) <| wCallR 2 (F_X2_setting g 1) hNow hsNow <| wRetI Post)] (wK (.int (-9)) <| wRetI Post)) L st s
set_option maxRecDepth 20000 in
theorem s_X3_count_22 {X : Cx} (B : Bx) (g : Nat → Nat) {Post : Option Value → HS → Prop} (C : OkX X (gx B) cX3_count 2 wsX3_count RX3 (rmD 4)) (R : RtX X (gx B) (some .int) (encH B g) Post)  : Snd X (gx B) 2 (encH B g) 22 (bk_X3_count_22 g Post ) := by
  unfold bk_X3_count_22
  refine s_iload_n C rfl dX3_count_22 ?_
  refine s_tab C 130 [68, 76, 84, 92, 100, 108, 116, 121] dX3_count_23 (by decide) (by decide) rfl rfl rfl ?_ ?_
  · refine s_bipush C (by decide) dX3_count_130 ?_
    exact s_iret C R dX3_count_132
  · refine ⟨?_, ?_, ?_, ?_, ?_, ?_, ?_, ?_, trivial⟩
    · refine s_aload_n C rfl dX3_count_68 ?_
      refine s_get C inw_X3_count_X3 rfl (k := 0) (by decide) (by decide +kernel) (heH_0 B g) (fun _ => rfl) dX3_count_69 ?_
      refine s_get C inw_X3_count_X2 rfl (k := 1) (by decide) (by decide +kernel) (heH_1 B g) (fun _ => rfl) dX3_count_72 ?_
      exact s_iret C R dX3_count_75
    · refine s_aload_n C rfl dX3_count_76 ?_
      refine s_get C inw_X3_count_X3 rfl (k := 0) (by decide) (by decide +kernel) (heH_0 B g) (fun _ => rfl) dX3_count_77 ?_
      refine s_get C inw_X3_count_X2 rfl (k := 3) (by decide) (by decide +kernel) (heH_1 B g) (fun _ => rfl) dX3_count_80 ?_
      exact s_iret C R dX3_count_83
    · refine s_aload_n C rfl dX3_count_84 ?_
      refine s_get C inw_X3_count_X3 rfl (k := 0) (by decide) (by decide +kernel) (heH_0 B g) (fun _ => rfl) dX3_count_85 ?_
      refine s_get C inw_X3_count_X2 rfl (k := 5) (by decide) (by decide +kernel) (heH_1 B g) (fun _ => rfl) dX3_count_88 ?_
      exact s_iret C R dX3_count_91
    · refine s_aload_n C rfl dX3_count_92 ?_
      refine s_get C inw_X3_count_X3 rfl (k := 0) (by decide) (by decide +kernel) (heH_0 B g) (fun _ => rfl) dX3_count_93 ?_
      refine s_callV C (fr_H_T1 B g) (k_X2_openNeeds B g 1) gX3_count_X2_openNeeds rfl (by decide +kernel) ⟨rfl, rfl⟩ (by decide) rfl (fun s => ⟨_, heH_1 B g s⟩) (cf_R_r _ _ _ _) dX3_count_96 ?_
      exact s_iret C R dX3_count_99
    · refine s_aload_n C rfl dX3_count_100 ?_
      refine s_get C inw_X3_count_X3 rfl (k := 0) (by decide) (by decide +kernel) (heH_0 B g) (fun _ => rfl) dX3_count_101 ?_
      refine s_get C inw_X3_count_X2 rfl (k := 7) (by decide) (by decide +kernel) (heH_1 B g) (fun _ => rfl) dX3_count_104 ?_
      exact s_iret C R dX3_count_107
    · refine s_aload_n C rfl dX3_count_108 ?_
      refine s_get C inw_X3_count_X3 rfl (k := 5) (by decide) (by decide +kernel) (heH_0 B g) (fun _ => rfl) dX3_count_109 ?_
      refine s_get C inw_X3_count_X0 rfl (k := 1) (by decide) (by decide +kernel) (heH_22 B g) (fun _ => rfl) dX3_count_112 ?_
      exact s_iret C R dX3_count_115
    · refine s_aload_n C rfl dX3_count_116 ?_
      refine s_get C inw_X3_count_X3 rfl (k := 7) (by decide) (by decide +kernel) (heH_0 B g) (fun _ => rfl) dX3_count_117 ?_
      exact s_iret C R dX3_count_120
    · refine s_aload_n C rfl dX3_count_121 ?_
      refine s_get C inw_X3_count_X3 rfl (k := 0) (by decide) (by decide +kernel) (heH_0 B g) (fun _ => rfl) dX3_count_122 ?_
      refine s_iconst C (by decide) dX3_count_125 ?_
      refine s_callV C (fr_H_T1 B g) (k_X2_setting B g 1) gX3_count_X2_setting rfl (by decide +kernel) ⟨rfl, rfl⟩ (by decide) rfl (fun s => ⟨_, heH_1 B g s⟩) (cf_RI_r _ _ _ _) dX3_count_126 ?_
      exact s_iret C R dX3_count_129
def bk_X3_count_0 (g : Nat → Nat) (Post : Option Value → HS → Prop)  (L : Lc) (st : List Value) (s : HS) : Prop :=
  (wIload 1 <| wK (.int 10) <| wIf2 (fun x y => x ≤ y) (bk_X3_count_22 g Post ) (wIload 1 <| wK (.int 16) <| wIf2 (fun x y => y < x) (bk_X3_count_22 g Post ) (wAload 0 <| wGet (g 0) (fun _ => .ref (g 25)) <| wIload 1 <| wK (.int 10) <| wB (fun x y => x - y) <| wIald (g 25) 7 hRe <| wRetI Post))) L st s
set_option maxRecDepth 20000 in
theorem s_X3_count_0 {X : Cx} (B : Bx) (g : Nat → Nat) {Post : Option Value → HS → Prop} (C : OkX X (gx B) cX3_count 2 wsX3_count RX3 (rmD 4)) (R : RtX X (gx B) (some .int) (encH B g) Post)  : Snd X (gx B) 2 (encH B g) 0 (bk_X3_count_0 g Post ) := by
  unfold bk_X3_count_0
  refine s_iload_n C rfl dX3_count_0 ?_
  refine s_bipush C (by decide) dX3_count_1 ?_
  refine s_icmp_le C (tgt := 22) (by decide) dX3_count_3 ?_ ?_
  · exact s_X3_count_22 B g C R 
  · refine s_iload_n C rfl dX3_count_6 ?_
    refine s_bipush C (by decide) dX3_count_7 ?_
    refine s_icmp_gt C (tgt := 22) (by decide) dX3_count_9 ?_ ?_
    · exact s_X3_count_22 B g C R 
    · refine s_aload_n C rfl dX3_count_12 ?_
      refine s_get C inw_X3_count_X3 rfl (k := 8) (by decide) (by decide +kernel) (heH_0 B g) (fun _ => rfl) dX3_count_13 ?_
      refine s_iload_n C rfl dX3_count_16 ?_
      refine s_bipush C (by decide) dX3_count_17 ?_
      refine s_isub C dX3_count_19 ?_
      refine s_iald C (heH_25 B g) dX3_count_20 ?_
      exact s_iret C R dX3_count_21
theorem v7c {w : Int32} : 10 < w → w ≤ 16 → vp_in (w - 10) 7 := by
  intro h1 h2
  obtain ⟨j, hj, rfl⟩ := nI_of2 (M := 16) (n := 16) rfl (fun z => (Int32.lt_irrefl (a := w)) (Int32.lt_trans z (Int32.lt_trans (by decide) h1))) h2
  have h3 : 10 < j := by
    rcases Nat.lt_or_ge 10 j with h | h
    · exact h
    · exact absurd h1 (nI_nlt (a := 10) h (by decide))
  rw [show nI j - 10 = nI (j - 10) from pk_sub (a := j) (b := 10) (by omega)]
  exact vp_in_nI (by omega) (by decide)
theorem k_X3_count (B : Bx) (g : Nat → Nat) : MtF (gx B) yX3_count wsX3_count (rmD 4) (encH B g) (F_X3_count g) := by
  refine cf_RI_i (fun l S w _ => Mt.of (by decide) rfl (Nat.le_of_ble_eq_true rfl) rfl (fun X C R => s_X3_count_0 B g C R) ?_)
  simp only [wIload, wAload, wLload, wK, wB, wDv, wU, wLB, wLU, wLS, wL2i, wLcmp, wIf1, wIf2, wKeep, wInc, wIst, wAst, wLst, wDup, wPop, wDup2, wGet, wPut, wPutZ, wIald, wLald, wIast, wLast, wLen, wRetI, wRetZ, wRetL, wRetA, wRetV, wM1, wM2, wCpy, wTab, tabW, nth, stL, stL2, dropL, keepL, mkL, padL, restOK, restOKn, tl_some, tl_none, id_eq, eq_self, true_and, and_true, bk_X3_count_22, bk_X3_count_0, F_X2_openNeeds, F_X2_setting, cf_RI_e, cf_R_e, hNowPp, hNowNn, hNowHh, hNowYr, hLLn, hg_Now_Now, hg_Now_Mind, hg_Now_Image, hg_Now_Im, hg_Now_S, hg_Now_L, hg_Now_Ro, hg_Now_Rl, hg_Now_Re, hg_Mind_Now, hg_Mind_Mind, hg_Mind_Image, hg_Mind_Im, hg_Mind_S, hg_Mind_L, hg_Mind_Ro, hg_Mind_Rl, hg_Mind_Re, hg_Image_Now, hg_Image_Mind, hg_Image_Image, hg_Image_Im, hg_Image_S, hg_Image_L, hg_Image_Ro, hg_Image_Rl, hg_Image_Re, hg_Im_Now, hg_Im_Mind, hg_Im_Image, hg_Im_Im, hg_Im_S, hg_Im_L, hg_Im_Ro, hg_Im_Rl, hg_Im_Re, hg_S_Now, hg_S_Mind, hg_S_Image, hg_S_Im, hg_S_S, hg_S_L, hg_S_Ro, hg_S_Rl, hg_S_Re, hg_L_Now, hg_L_Mind, hg_L_Image, hg_L_Im, hg_L_S, hg_L_L, hg_L_Ro, hg_L_Rl, hg_L_Re, hg_Ro_Now, hg_Ro_Mind, hg_Ro_Image, hg_Ro_Im, hg_Ro_S, hg_Ro_L, hg_Ro_Ro, hg_Ro_Rl, hg_Ro_Re, hg_Rl_Now, hg_Rl_Mind, hg_Rl_Image, hg_Rl_Im, hg_Rl_S, hg_Rl_L, hg_Rl_Ro, hg_Rl_Rl, hg_Rl_Re, hg_Re_Now, hg_Re_Mind, hg_Re_Image, hg_Re_Im, hg_Re_S, hg_Re_L, hg_Re_Ro, hg_Re_Rl, hg_Re_Re, he_Now, ho_Now, he_Mind, ho_Mind, he_Image, ho_Image, he_Im, ho_Im, he_S, ho_S, he_L, ho_L, he_Ro, ho_Ro, he_Rl, ho_Rl, he_Re, ho_Re]
  have h7 := @v7c w
  unfold vp_in at h7
  repeat' first | refine And.intro ?_ ?_ | intro _
  all_goals grind [r_count]
def laF (ro : Nat → Int32) (N : Nat) (rule help : Int32) : Nat → Nat → TS → Nat × TS
  | 0, y, T => (y, T)
  | m + 1, y, T => if (ahF ro N rule help 0 (tPeople T) T).1 = false then (y, (ahF ro N rule help 0 (tPeople T) T).2) else laF ro N rule help m (y + 1) (tsYr (ahF ro N rule help 0 (tPeople T) T).2 (tYr (ahF ro N rule help 0 (tPeople T) T).2 + 1))
theorem laF_s (ro : Nat → Int32) (N : Nat) (rule help : Int32) (m y : Nat) (T : TS) : laF ro N rule help (m + 1) y T = if (ahF ro N rule help 0 (tPeople T) T).1 = false then (y, (ahF ro N rule help 0 (tPeople T) T).2) else laF ro N rule help m (y + 1) (tsYr (ahF ro N rule help 0 (tPeople T) T).2 (tYr (ahF ro N rule help 0 (tPeople T) T).2 + 1)) := rfl
def hLast (S : HS) (r h : Int32) : Nat × TS := laF (hRo S) (rowN (hRl S)) r h 30 0 (tCopy (hMind S) (hNow S))
def r_lasts (S : HS) (r h : Int32) : Int32 × HS := if 0 ≤ r ∧ r ≤ 5 then (if h < 0 ∨ 4 ≤ h then (-1, hRef S (-1)) else if tPp (hNow S) = 0 then (-3, hRef S (-3)) else (nI (hLast S r h).1, hsMind S (hLast S r h).2)) else (-2, hRef S (-2))
def F_X3_lasts (g : Nat → Nat) : CF HS := cf_RII (g 0) (fun _ _ _ => True) (fun S p w => some (.int (r_lasts S p w).1)) (fun S p w => (r_lasts S p w).2)
theorem inw_X3_lasts_X2 : ∀ w ∈ u_ws RX2 TX2 8, w ∈ wsX3_lasts := by decide +kernel
theorem inw_X3_lasts_X3 : ∀ w ∈ u_ws RX3 TX3 9, w ∈ wsX3_lasts := by decide +kernel
def bk_X3_lasts_23 (g : Nat → Nat) (Post : Option Value → HS → Prop)  (L : Lc) (st : List Value) (s : HS) : Prop :=
  (wAload 0 <| wK (.int (-1)) <| wCallR 2 (F_X3_refuse g) id (fun _ u => u) <| wRetI Post) L st s
set_option maxRecDepth 20000 in
theorem s_X3_lasts_23 {X : Cx} (B : Bx) (g : Nat → Nat) {Post : Option Value → HS → Prop} (C : OkX X (gx B) cX3_lasts 4 wsX3_lasts RX3 (rmD 7)) (R : RtX X (gx B) (some .int) (encH B g) Post)  : Snd X (gx B) 4 (encH B g) 23 (bk_X3_lasts_23 g Post ) := by
  unfold bk_X3_lasts_23
  refine s_aload_n C rfl dX3_lasts_23 ?_
  refine s_iconst C (by decide) dX3_lasts_24 ?_
  refine s_callV C (fr_H_H B g) (k_X3_refuse B g) gX3_lasts_X3_refuse rfl (by decide +kernel) ⟨rfl, rfl⟩ (by decide) rfl (fun s => ⟨_, heH_0 B g s⟩) (cf_RI_r _ _ _ _) dX3_lasts_25 ?_
  exact s_iret C R dX3_lasts_28
def bk_X3_lasts_0 (g : Nat → Nat) (Post : Option Value → HS → Prop) (K59 : PT HS) (L : Lc) (st : List Value) (s : HS) : Prop :=
  (wIload 1 <| wCallR 1 (F_X3_isRule) (fun _ => ()) (fun s _ => s) <| wIf1 (fun x => x = 0) (wAload 0 <| wK (.int (-2)) <| wCallR 2 (F_X3_refuse g) id (fun _ u => u) <| wRetI Post) (wIload 2 <| wIf1 (fun x => x < 0) (bk_X3_lasts_23 g Post ) (wIload 2 <| wK (.int 4) <| wIf2 (fun x y => x < y) (wAload 0 <| wGet (g 0) (fun _ => .ref (g 1)) <| wGet (g 1) (fun s => .int (hNowPp s)) <| wIf1 (fun x => x = 0) (wAload 0 <| wK (.int (-3)) <| wCallR 2 (F_X3_refuse g) id (fun _ u => u) <| wRetI Post) (wAload 0 <| wGet (g 0) (fun _ => .ref (g 6)) <| wAload 0 <| wGet (g 0) (fun _ => .ref (g 1)) <| wCallR 2 (F_X2_copyFrom g 6 1) hDMindNow hsDMindNow <| wK (.int 0) <| wIst 3 <| wKeep [true, true, true, true] K59)) (bk_X3_lasts_23 g Post )))) L st s
set_option maxRecDepth 20000 in
theorem s_X3_lasts_0 {X : Cx} (B : Bx) (g : Nat → Nat) {Post : Option Value → HS → Prop} (C : OkX X (gx B) cX3_lasts 4 wsX3_lasts RX3 (rmD 7)) (R : RtX X (gx B) (some .int) (encH B g) Post) {K59 : PT HS} (hK59 : Snd X (gx B) 4 (encH B g) 59 K59) : Snd X (gx B) 4 (encH B g) 0 (bk_X3_lasts_0 g Post K59) := by
  unfold bk_X3_lasts_0
  refine s_iload_n C rfl dX3_lasts_0 ?_
  refine s_callS C (fr_H_E B g) (k_X3_isRule B) gX3_lasts_X3_isRule rfl (by decide +kernel) ⟨rfl, rfl⟩ (by decide) (cf_I_r _ _ _) dX3_lasts_1 ?_
  refine s_if_ne C (tgt := 14) (by decide) dX3_lasts_4 ?_ ?_
  · refine s_iload_n C rfl dX3_lasts_14 ?_
    refine s_if_lt C (tgt := 23) (by decide) dX3_lasts_15 ?_ ?_
    · exact s_X3_lasts_23 B g C R 
    · refine s_iload_n C rfl dX3_lasts_18 ?_
      refine s_iconst C (by decide) dX3_lasts_19 ?_
      refine s_icmp_lt C (tgt := 29) (by decide) dX3_lasts_20 ?_ ?_
      · refine s_aload_n C rfl dX3_lasts_29 ?_
        refine s_get C inw_X3_lasts_X3 rfl (k := 0) (by decide) (by decide +kernel) (heH_0 B g) (fun _ => rfl) dX3_lasts_30 ?_
        refine s_get C inw_X3_lasts_X2 rfl (k := 1) (by decide) (by decide +kernel) (heH_1 B g) (fun _ => rfl) dX3_lasts_33 ?_
        refine s_if_ne C (tgt := 46) (by decide) dX3_lasts_36 ?_ ?_
        · refine s_aload_n C rfl dX3_lasts_46 ?_
          refine s_get C inw_X3_lasts_X3 rfl (k := 1) (by decide) (by decide +kernel) (heH_0 B g) (fun _ => rfl) dX3_lasts_47 ?_
          refine s_aload_n C rfl dX3_lasts_50 ?_
          refine s_get C inw_X3_lasts_X3 rfl (k := 0) (by decide) (by decide +kernel) (heH_0 B g) (fun _ => rfl) dX3_lasts_51 ?_
          refine s_callV C (fr_H_D6_1 B g) (k_X2_copyFrom B g 6 1) gX3_lasts_X2_copyFrom rfl (by decide +kernel) ⟨rfl, rfl⟩ (by decide) rfl (fun s => ⟨_, heH_6 B g s⟩) (cf_RR_r _ _ _ _ _) dX3_lasts_54 ?_
          refine s_iconst C (by decide) dX3_lasts_57 ?_
          refine s_istore_n C rfl (by decide) dX3_lasts_58 ?_
          exact s_keep _ hK59
        · refine s_aload_n C rfl dX3_lasts_39 ?_
          refine s_bipush C (by decide) dX3_lasts_40 ?_
          refine s_callV C (fr_H_H B g) (k_X3_refuse B g) gX3_lasts_X3_refuse rfl (by decide +kernel) ⟨rfl, rfl⟩ (by decide) rfl (fun s => ⟨_, heH_0 B g s⟩) (cf_RI_r _ _ _ _) dX3_lasts_42 ?_
          exact s_iret C R dX3_lasts_45
      · exact s_X3_lasts_23 B g C R 
  · refine s_aload_n C rfl dX3_lasts_7 ?_
    refine s_bipush C (by decide) dX3_lasts_8 ?_
    refine s_callV C (fr_H_H B g) (k_X3_refuse B g) gX3_lasts_X3_refuse rfl (by decide +kernel) ⟨rfl, rfl⟩ (by decide) rfl (fun s => ⟨_, heH_0 B g s⟩) (cf_RI_r _ _ _ _) dX3_lasts_10 ?_
    exact s_iret C R dX3_lasts_13
def bk_X3_lasts_59 (g : Nat → Nat) (Post : Option Value → HS → Prop) (K59 : PT HS) (L : Lc) (st : List Value) (s : HS) : Prop :=
  (wIload 3 <| wK (.int 30) <| wIf2 (fun x y => y ≤ x) (wK (.int 30) <| wRetI Post) (wAload 0 <| wAload 0 <| wGet (g 0) (fun _ => .ref (g 6)) <| wIload 1 <| wIload 2 <| wCallR 4 (F_X3_allAreHelped g 6) hCMind hsCMind <| wIf1 (fun x => x = 0) (wIload 3 <| wRetI Post) (wAload 0 <| wGet (g 0) (fun _ => .ref (g 6)) <| wDup <| wGet (g 6) (fun s => .int (hMindYr s)) <| wK (.int 1) <| wB (fun x y => x + y) <| wPut (g 6) hsMindYr <| wInc 3 1 <| wKeep [true, true, true, true] K59))) L st s
set_option maxRecDepth 20000 in
theorem s_X3_lasts_59 {X : Cx} (B : Bx) (g : Nat → Nat) {Post : Option Value → HS → Prop} (C : OkX X (gx B) cX3_lasts 4 wsX3_lasts RX3 (rmD 7)) (R : RtX X (gx B) (some .int) (encH B g) Post) {K59 : PT HS} (hK59 : Snd X (gx B) 4 (encH B g) 59 K59) : Snd X (gx B) 4 (encH B g) 59 (bk_X3_lasts_59 g Post K59) := by
  unfold bk_X3_lasts_59
  refine s_iload_n C rfl dX3_lasts_59 ?_
  refine s_bipush C (by decide) dX3_lasts_60 ?_
  refine s_icmp_ge C (tgt := 99) (by decide) dX3_lasts_62 ?_ ?_
  · refine s_bipush C (by decide) dX3_lasts_99 ?_
    exact s_iret C R dX3_lasts_101
  · refine s_aload_n C rfl dX3_lasts_65 ?_
    refine s_aload_n C rfl dX3_lasts_66 ?_
    refine s_get C inw_X3_lasts_X3 rfl (k := 1) (by decide) (by decide +kernel) (heH_0 B g) (fun _ => rfl) dX3_lasts_67 ?_
    refine s_iload_n C rfl dX3_lasts_70 ?_
    refine s_iload_n C rfl dX3_lasts_71 ?_
    refine s_callV C (fr_H_C6 B g) (k_X3_allAreHelped B g 6) gX3_lasts_X3_allAreHelped rfl (by decide +kernel) ⟨rfl, rfl⟩ (by decide) rfl (fun s => ⟨_, heH_0 B g s⟩) (cf_RRII_r _ _ _ _ _) dX3_lasts_72 ?_
    refine s_if_ne C (tgt := 80) (by decide) dX3_lasts_75 ?_ ?_
    · refine s_aload_n C rfl dX3_lasts_80 ?_
      refine s_get C inw_X3_lasts_X3 rfl (k := 1) (by decide) (by decide +kernel) (heH_0 B g) (fun _ => rfl) dX3_lasts_81 ?_
      refine s_dup C dX3_lasts_84 ?_
      refine s_get C inw_X3_lasts_X2 rfl (k := 7) (by decide) (by decide +kernel) (heH_6 B g) (fun _ => rfl) dX3_lasts_85 ?_
      refine s_iconst C (by decide) dX3_lasts_88 ?_
      refine s_iadd C dX3_lasts_89 ?_
      refine s_put C inw_X3_lasts_X2 rfl (k := 7) (by decide) (by decide +kernel) tyX2_ok nmX2 (by decide +kernel) (by decide +kernel) (heH_6 B g) (fun _ => Nat.le_of_ble_eq_true rfl) (fun _ _ => rfl) dX3_lasts_90 ?_
      refine s_iinc C (by decide) (by decide) dX3_lasts_93 ?_
      refine s_goto C (tgt := 59) (by decide) dX3_lasts_96 ?_
      exact s_keep _ hK59
    · refine s_iload_n C rfl dX3_lasts_78 ?_
      exact s_iret C R dX3_lasts_79
def I_las (g : Nat → Nat) (S : HS) (r h : Int32) (fin : Nat × TS) (n : Nat) (L : Lc) (st : List Value) (s : HS) : Prop := ∃ (y : Nat) (T : TS), n + y = 30 ∧ st = [] ∧ s = hsMind S T ∧ L = [some (.ref (g 0)), some (.int r), some (.int h), some (.int (nI y))] ∧ laF (hRo S) (rowN (hRl S)) r h n y T = fin
theorem k_X3_lasts (B : Bx) (g : Nat → Nat) : MtF (gx B) yX3_lasts wsX3_lasts (rmD 7) (encH B g) (F_X3_lasts g) := by
  refine cf_RII_i (fun l S r h _ => ?_)
  refine Mt.of (P := bk_X3_lasts_0 g (fun o u => o = some (.int (r_lasts S r h).1) ∧ u = (r_lasts S r h).2) (fun L st s => ((0 ≤ r ∧ r ≤ 5) ∧ ¬ (h < 0 ∨ 4 ≤ h) ∧ ¬ tPp (hNow S) = 0) ∧ ∃ n, I_las g S r h (hLast S r h) n L st s)) (by decide) rfl (Nat.le_of_ble_eq_true rfl) rfl (fun X C R => s_X3_lasts_0 B g C R (Snd.imp (fun hc => snd_loop _ (I_las g S r h (hLast S r h)) (fun K hK => s_X3_lasts_59 B g C R hK) ?_))) ?_
  · rintro K n L st s ⟨y, T, hn, rfl, rfl, rfl, hf⟩ hK
    have er : r_lasts S r h = (nI (hLast S r h).1, hsMind S (hLast S r h).2) := by
      unfold r_lasts
      rw [if_pos hc.1, if_neg hc.2.1, if_neg hc.2.2]
    simp only [wIload, wAload, wLload, wK, wB, wDv, wU, wLB, wLU, wLS, wL2i, wLcmp, wIf1, wIf2, wKeep, wInc, wIst, wAst, wLst, wDup, wPop, wDup2, wGet, wPut, wPutZ, wIald, wLald, wIast, wLast, wLen, wRetI, wRetZ, wRetL, wRetA, wRetV, wM1, wM2, wCpy, wTab, tabW, nth, stL, stL2, dropL, keepL, mkL, padL, restOK, restOKn, tl_some, tl_none, id_eq, eq_self, true_and, and_true, bk_X3_lasts_23, bk_X3_lasts_0, bk_X3_lasts_59, F_X2_copyFrom, F_X3_allAreHelped, F_X3_isRule, F_X3_refuse, cf_I_e, cf_RI_e, cf_RRII_e, cf_RR_e, b2i_eq0, hC_mind1, hC_mind2, hC_mind3, hC_mind4, hMindYr, hsMindYr, hg_Now_Now, hg_Now_Mind, hg_Now_Image, hg_Now_Im, hg_Now_S, hg_Now_L, hg_Now_Ro, hg_Now_Rl, hg_Now_Re, hg_Mind_Now, hg_Mind_Mind, hg_Mind_Image, hg_Mind_Im, hg_Mind_S, hg_Mind_L, hg_Mind_Ro, hg_Mind_Rl, hg_Mind_Re, hg_Image_Now, hg_Image_Mind, hg_Image_Image, hg_Image_Im, hg_Image_S, hg_Image_L, hg_Image_Ro, hg_Image_Rl, hg_Image_Re, hg_Im_Now, hg_Im_Mind, hg_Im_Image, hg_Im_Im, hg_Im_S, hg_Im_L, hg_Im_Ro, hg_Im_Rl, hg_Im_Re, hg_S_Now, hg_S_Mind, hg_S_Image, hg_S_Im, hg_S_S, hg_S_L, hg_S_Ro, hg_S_Rl, hg_S_Re, hg_L_Now, hg_L_Mind, hg_L_Image, hg_L_Im, hg_L_S, hg_L_L, hg_L_Ro, hg_L_Rl, hg_L_Re, hg_Ro_Now, hg_Ro_Mind, hg_Ro_Image, hg_Ro_Im, hg_Ro_S, hg_Ro_L, hg_Ro_Ro, hg_Ro_Rl, hg_Ro_Re, hg_Rl_Now, hg_Rl_Mind, hg_Rl_Image, hg_Rl_Im, hg_Rl_S, hg_Rl_L, hg_Rl_Ro, hg_Rl_Rl, hg_Rl_Re, hg_Re_Now, hg_Re_Mind, hg_Re_Image, hg_Re_Im, hg_Re_S, hg_Re_L, hg_Re_Ro, hg_Re_Rl, hg_Re_Re, he_Now, ho_Now, he_Mind, ho_Mind, he_Image, ho_Image, he_Im, ho_Im, he_S, ho_S, he_L, ho_L, he_Ro, ho_Ro, he_Rl, ho_Rl, he_Re, ho_Re]
    rw [er]
    rcases Nat.lt_or_ge y 30 with hlt | hge
    · have h1 : ¬ (30 : Int32) ≤ nI y := nI_ge (a := y) (b := 30) hlt (by decide)
      obtain ⟨n, rfl⟩ : ∃ m, n = m + 1 := ⟨n - 1, by omega⟩
      rw [laF_s] at hf
      cases hb : (ahF (hRo S) (rowN (hRl S)) r h 0 (tPeople T) T).1
      · rw [if_pos hb] at hf
        rw [← hf]
        simp only [h1, hb, false_implies, true_implies, not_true_eq_false, not_false_eq_true, true_and, and_true, implies_true, eq_self, ne_eq, true_or, or_true, false_or, or_false, and_self]
      · rw [if_neg (by rw [hb]; exact Bool.noConfusion)] at hf
        simp only [h1, hb, Bool.true_eq_false, false_implies, true_implies, not_true_eq_false, not_false_eq_true, true_and, and_true, implies_true, eq_self, ne_eq, true_or, or_true, false_or, or_false, and_self]
        rw [nI_1]
        exact hK n _ _ _ (by omega) ⟨y + 1, _, by omega, rfl, rfl, rfl, hf⟩
    · have h1 : (30 : Int32) ≤ nI y := nI_le (a := 30) hge (by omega)
      have h0 : n = 0 := by omega
      subst h0
      have h30 : y = 30 := by omega
      subst h30
      have hf : (30, T) = hLast S r h := hf
      rw [← hf]
      simp only [h1, false_implies, true_implies, not_true_eq_false, not_false_eq_true, true_and, and_true, implies_true, eq_self, ne_eq, true_or, or_true, false_or, or_false, and_self]
      all_goals first | exact ⟨rfl, rfl⟩ | rfl
  · simp only [wIload, wAload, wLload, wK, wB, wDv, wU, wLB, wLU, wLS, wL2i, wLcmp, wIf1, wIf2, wKeep, wInc, wIst, wAst, wLst, wDup, wPop, wDup2, wGet, wPut, wPutZ, wIald, wLald, wIast, wLast, wLen, wRetI, wRetZ, wRetL, wRetA, wRetV, wM1, wM2, wCpy, wTab, tabW, nth, stL, stL2, dropL, keepL, mkL, padL, restOK, restOKn, tl_some, tl_none, id_eq, eq_self, true_and, and_true, bk_X3_lasts_23, bk_X3_lasts_0, bk_X3_lasts_59, F_X2_copyFrom, F_X3_allAreHelped, F_X3_isRule, F_X3_refuse, cf_I_e, cf_RI_e, cf_RRII_e, cf_RR_e, b2i_eq0, true_or, or_true, decide_eq_false_iff_not, hNowPp, hD_1, hD_2, hD_3, hg_Now_Now, hg_Now_Mind, hg_Now_Image, hg_Now_Im, hg_Now_S, hg_Now_L, hg_Now_Ro, hg_Now_Rl, hg_Now_Re, hg_Mind_Now, hg_Mind_Mind, hg_Mind_Image, hg_Mind_Im, hg_Mind_S, hg_Mind_L, hg_Mind_Ro, hg_Mind_Rl, hg_Mind_Re, hg_Image_Now, hg_Image_Mind, hg_Image_Image, hg_Image_Im, hg_Image_S, hg_Image_L, hg_Image_Ro, hg_Image_Rl, hg_Image_Re, hg_Im_Now, hg_Im_Mind, hg_Im_Image, hg_Im_Im, hg_Im_S, hg_Im_L, hg_Im_Ro, hg_Im_Rl, hg_Im_Re, hg_S_Now, hg_S_Mind, hg_S_Image, hg_S_Im, hg_S_S, hg_S_L, hg_S_Ro, hg_S_Rl, hg_S_Re, hg_L_Now, hg_L_Mind, hg_L_Image, hg_L_Im, hg_L_S, hg_L_L, hg_L_Ro, hg_L_Rl, hg_L_Re, hg_Ro_Now, hg_Ro_Mind, hg_Ro_Image, hg_Ro_Im, hg_Ro_S, hg_Ro_L, hg_Ro_Ro, hg_Ro_Rl, hg_Ro_Re, hg_Rl_Now, hg_Rl_Mind, hg_Rl_Image, hg_Rl_Im, hg_Rl_S, hg_Rl_L, hg_Rl_Ro, hg_Rl_Rl, hg_Rl_Re, hg_Re_Now, hg_Re_Mind, hg_Re_Image, hg_Re_Im, hg_Re_S, hg_Re_L, hg_Re_Ro, hg_Re_Rl, hg_Re_Re, he_Now, ho_Now, he_Mind, ho_Mind, he_Image, ho_Image, he_Im, ho_Im, he_S, ho_S, he_L, ho_L, he_Ro, ho_Ro, he_Rl, ho_Rl, he_Re, ho_Re]
    have hi : (0 ≤ r ∧ r ≤ 5) → ¬ (h < 0 ∨ 4 ≤ h) → ¬ tPp (hNow S) = 0 → ((0 ≤ r ∧ r ≤ 5) ∧ ¬ (h < 0 ∨ 4 ≤ h) ∧ ¬ tPp (hNow S) = 0) ∧ ∃ n, I_las g S r h (hLast S r h) n [some (.ref (g 0)), some (.int r), some (.int h), some (.int 0)] [] (hsMind S (tCopy (hMind S) (hNow S))) := fun a b c => ⟨⟨a, b, c⟩, 30, 0, _, rfl, rfl, rfl, rfl, rfl⟩
    repeat' first | refine And.intro ?_ ?_ | intro _
    all_goals grind [r_lasts]
def bpF (ro : Nat → Int32) (N : Nat) (W : TS) (p : Int32) : Nat → Nat → Int32 → Int32 → TS → Int32 × TS
  | _, 0, b, _, M => (b, M)
  | k, m + 1, b, gr, M => if gr < (runF ro N 1 0 (tPutP (tCopy M W) p 1 (nI (10 * k)))).1 then bpF ro N W p (k + 1) m (nI (10 * k)) (runF ro N 1 0 (tPutP (tCopy M W) p 1 (nI (10 * k)))).1 (runF ro N 1 0 (tPutP (tCopy M W) p 1 (nI (10 * k)))).2.2 else bpF ro N W p (k + 1) m b gr (runF ro N 1 0 (tPutP (tCopy M W) p 1 (nI (10 * k)))).2.2
theorem bpF_s (ro : Nat → Int32) (N : Nat) (W : TS) (p : Int32) (k m : Nat) (b gr : Int32) (M : TS) : bpF ro N W p k (m + 1) b gr M = if gr < (runF ro N 1 0 (tPutP (tCopy M W) p 1 (nI (10 * k)))).1 then bpF ro N W p (k + 1) m (nI (10 * k)) (runF ro N 1 0 (tPutP (tCopy M W) p 1 (nI (10 * k)))).1 (runF ro N 1 0 (tPutP (tCopy M W) p 1 (nI (10 * k)))).2.2 else bpF ro N W p (k + 1) m b gr (runF ro N 1 0 (tPutP (tCopy M W) p 1 (nI (10 * k)))).2.2 := rfl
theorem hD_3m (S : HS) (M T : TS) : hsDMindNow (hsMind S M) (T, hNow S) = hsMind S T := rfl
theorem tYr_putP (T : TS) (p k v : Int32) : tYr (tPutP T p k v) = tYr T := by unfold tPutP; split <;> rfl
def hBest (S : HS) (p : Int32) : Int32 × TS := bpF (hRo S) (rowN (hRl S)) (hNow S) p 0 10 0 (-1) (hMind S)
def r_bestPlace (S : HS) (p : Int32) : Int32 × HS := if tHasP (hNow S) p = false then (-1, hRef S (-1)) else ((hBest S p).1, hsMind S (hBest S p).2)
def F_X3_bestPlace (g : Nat → Nat) : CF HS := cf_RI (g 0) (fun S _ => hYr S) (fun S p => some (.int (r_bestPlace S p).1)) (fun S p => (r_bestPlace S p).2)
theorem inw_X3_bestPlace_X2 : ∀ w ∈ u_ws RX2 TX2 8, w ∈ wsX3_bestPlace := by decide +kernel
theorem inw_X3_bestPlace_X3 : ∀ w ∈ u_ws RX3 TX3 9, w ∈ wsX3_bestPlace := by decide +kernel
def bk_X3_bestPlace_0 (g : Nat → Nat) (Post : Option Value → HS → Prop) (K24 : PT HS) (L : Lc) (st : List Value) (s : HS) : Prop :=
  (wAload 0 <| wGet (g 0) (fun _ => .ref (g 1)) <| wIload 1 <| wCallR 2 (F_X2_hasPerson g 1) hNow hsNow <| wIf1 (fun x => x = 0) (wAload 0 <| wK (.int (-1)) <| wCallR 2 (F_X3_refuse g) id (fun _ u => u) <| wRetI Post) (wK (.int 0) <| wIst 2 <| wK (.int (-1)) <| wIst 3 <| wK (.int 0) <| wIst 4 <| wKeep [true, true, true, true, true, false] K24)) L st s
set_option maxRecDepth 20000 in
theorem s_X3_bestPlace_0 {X : Cx} (B : Bx) (g : Nat → Nat) {Post : Option Value → HS → Prop} (C : OkX X (gx B) cX3_bestPlace 6 wsX3_bestPlace RX3 (rmD 7)) (R : RtX X (gx B) (some .int) (encH B g) Post) {K24 : PT HS} (hK24 : Snd X (gx B) 6 (encH B g) 24 K24) : Snd X (gx B) 6 (encH B g) 0 (bk_X3_bestPlace_0 g Post K24) := by
  unfold bk_X3_bestPlace_0
  refine s_aload_n C rfl dX3_bestPlace_0 ?_
  refine s_get C inw_X3_bestPlace_X3 rfl (k := 0) (by decide) (by decide +kernel) (heH_0 B g) (fun _ => rfl) dX3_bestPlace_1 ?_
  refine s_iload_n C rfl dX3_bestPlace_4 ?_
  refine s_callV C (fr_H_T1 B g) (k_X2_hasPerson B g 1) gX3_bestPlace_X2_hasPerson rfl (by decide +kernel) ⟨rfl, rfl⟩ (by decide) rfl (fun s => ⟨_, heH_1 B g s⟩) (cf_RI_r _ _ _ _) dX3_bestPlace_5 ?_
  refine s_if_ne C (tgt := 17) (by decide) dX3_bestPlace_8 ?_ ?_
  · refine s_iconst C (by decide) dX3_bestPlace_17 ?_
    refine s_istore_n C rfl (by decide) dX3_bestPlace_18 ?_
    refine s_iconst C (by decide) dX3_bestPlace_19 ?_
    refine s_istore_n C rfl (by decide) dX3_bestPlace_20 ?_
    refine s_iconst C (by decide) dX3_bestPlace_21 ?_
    refine s_istore C (by decide) dX3_bestPlace_22 ?_
    exact s_keep _ hK24
  · refine s_aload_n C rfl dX3_bestPlace_11 ?_
    refine s_iconst C (by decide) dX3_bestPlace_12 ?_
    refine s_callV C (fr_H_H B g) (k_X3_refuse B g) gX3_bestPlace_X3_refuse rfl (by decide +kernel) ⟨rfl, rfl⟩ (by decide) rfl (fun s => ⟨_, heH_0 B g s⟩) (cf_RI_r _ _ _ _) dX3_bestPlace_13 ?_
    exact s_iret C R dX3_bestPlace_16
def bk_X3_bestPlace_77 (g : Nat → Nat) (Post : Option Value → HS → Prop) (K24 : PT HS) (L : Lc) (st : List Value) (s : HS) : Prop :=
  (wInc 4 10 <| wKeep [true, true, true, true, true, false] K24) L st s
set_option maxRecDepth 20000 in
theorem s_X3_bestPlace_77 {X : Cx} (B : Bx) (g : Nat → Nat) {Post : Option Value → HS → Prop} (C : OkX X (gx B) cX3_bestPlace 6 wsX3_bestPlace RX3 (rmD 7)) (R : RtX X (gx B) (some .int) (encH B g) Post) {K24 : PT HS} (hK24 : Snd X (gx B) 6 (encH B g) 24 K24) : Snd X (gx B) 6 (encH B g) 77 (bk_X3_bestPlace_77 g Post K24) := by
  unfold bk_X3_bestPlace_77
  refine s_iinc C (by decide) (by decide) dX3_bestPlace_77 ?_
  refine s_goto C (tgt := 24) (by decide) dX3_bestPlace_80 ?_
  exact s_keep _ hK24
def bk_X3_bestPlace_24 (g : Nat → Nat) (Post : Option Value → HS → Prop) (K24 : PT HS) (L : Lc) (st : List Value) (s : HS) : Prop :=
  (wIload 4 <| wK (.int 99) <| wIf2 (fun x y => y < x) (wIload 2 <| wRetI Post) (wAload 0 <| wGet (g 0) (fun _ => .ref (g 6)) <| wAload 0 <| wGet (g 0) (fun _ => .ref (g 1)) <| wCallR 2 (F_X2_copyFrom g 6 1) hDMindNow hsDMindNow <| wAload 0 <| wGet (g 0) (fun _ => .ref (g 6)) <| wIload 1 <| wK (.int 1) <| wIload 4 <| wCallR 4 (F_X2_putPerson g 6) hMind hsMind <| wAload 0 <| wAload 0 <| wGet (g 0) (fun _ => .ref (g 6)) <| wK (.int 1) <| wK (.int 0) <| wCallR 4 (F_X3_runSum g 6) hCMind hsCMind <| wIst 5 <| wIload 5 <| wIload 3 <| wIf2 (fun x y => x ≤ y) (bk_X3_bestPlace_77 g Post K24) (wIload 5 <| wIst 3 <| wIload 4 <| wIst 2 <| bk_X3_bestPlace_77 g Post K24))) L st s
set_option maxRecDepth 20000 in
theorem s_X3_bestPlace_24 {X : Cx} (B : Bx) (g : Nat → Nat) {Post : Option Value → HS → Prop} (C : OkX X (gx B) cX3_bestPlace 6 wsX3_bestPlace RX3 (rmD 7)) (R : RtX X (gx B) (some .int) (encH B g) Post) {K24 : PT HS} (hK24 : Snd X (gx B) 6 (encH B g) 24 K24) : Snd X (gx B) 6 (encH B g) 24 (bk_X3_bestPlace_24 g Post K24) := by
  unfold bk_X3_bestPlace_24
  refine s_iload C dX3_bestPlace_24 ?_
  refine s_bipush C (by decide) dX3_bestPlace_26 ?_
  refine s_icmp_gt C (tgt := 83) (by decide) dX3_bestPlace_28 ?_ ?_
  · refine s_iload_n C rfl dX3_bestPlace_83 ?_
    exact s_iret C R dX3_bestPlace_84
  · refine s_aload_n C rfl dX3_bestPlace_31 ?_
    refine s_get C inw_X3_bestPlace_X3 rfl (k := 1) (by decide) (by decide +kernel) (heH_0 B g) (fun _ => rfl) dX3_bestPlace_32 ?_
    refine s_aload_n C rfl dX3_bestPlace_35 ?_
    refine s_get C inw_X3_bestPlace_X3 rfl (k := 0) (by decide) (by decide +kernel) (heH_0 B g) (fun _ => rfl) dX3_bestPlace_36 ?_
    refine s_callV C (fr_H_D6_1 B g) (k_X2_copyFrom B g 6 1) gX3_bestPlace_X2_copyFrom rfl (by decide +kernel) ⟨rfl, rfl⟩ (by decide) rfl (fun s => ⟨_, heH_6 B g s⟩) (cf_RR_r _ _ _ _ _) dX3_bestPlace_39 ?_
    refine s_aload_n C rfl dX3_bestPlace_42 ?_
    refine s_get C inw_X3_bestPlace_X3 rfl (k := 1) (by decide) (by decide +kernel) (heH_0 B g) (fun _ => rfl) dX3_bestPlace_43 ?_
    refine s_iload_n C rfl dX3_bestPlace_46 ?_
    refine s_iconst C (by decide) dX3_bestPlace_47 ?_
    refine s_iload C dX3_bestPlace_48 ?_
    refine s_callV C (fr_H_T6 B g) (k_X2_putPerson B g 6) gX3_bestPlace_X2_putPerson rfl (by decide +kernel) ⟨rfl, rfl⟩ (by decide) rfl (fun s => ⟨_, heH_6 B g s⟩) (cf_RIII_r _ _ _ _) dX3_bestPlace_50 ?_
    refine s_aload_n C rfl dX3_bestPlace_53 ?_
    refine s_aload_n C rfl dX3_bestPlace_54 ?_
    refine s_get C inw_X3_bestPlace_X3 rfl (k := 1) (by decide) (by decide +kernel) (heH_0 B g) (fun _ => rfl) dX3_bestPlace_55 ?_
    refine s_iconst C (by decide) dX3_bestPlace_58 ?_
    refine s_iconst C (by decide) dX3_bestPlace_59 ?_
    refine s_callV C (fr_H_C6 B g) (k_X3_runSum B g 6) gX3_bestPlace_X3_runSum rfl (by decide +kernel) ⟨rfl, rfl⟩ (by decide) rfl (fun s => ⟨_, heH_0 B g s⟩) (cf_RRII_r _ _ _ _ _) dX3_bestPlace_60 ?_
    refine s_istore C (by decide) dX3_bestPlace_63 ?_
    refine s_iload C dX3_bestPlace_65 ?_
    refine s_iload_n C rfl dX3_bestPlace_67 ?_
    refine s_icmp_le C (tgt := 77) (by decide) dX3_bestPlace_68 ?_ ?_
    · exact s_X3_bestPlace_77 B g C R hK24
    · refine s_iload C dX3_bestPlace_71 ?_
      refine s_istore_n C rfl (by decide) dX3_bestPlace_73 ?_
      refine s_iload C dX3_bestPlace_74 ?_
      refine s_istore_n C rfl (by decide) dX3_bestPlace_76 ?_
      exact s_X3_bestPlace_77 B g C R hK24
def I_bp (g : Nat → Nat) (S : HS) (p : Int32) (fin : Int32 × TS) (n : Nat) (L : Lc) (st : List Value) (s : HS) : Prop := ∃ (k : Nat) (b gr : Int32) (M : TS), n + k = 10 ∧ st = [] ∧ s = hsMind S M ∧ L = [some (.ref (g 0)), some (.int p), some (.int b), some (.int gr), some (.int (nI (10 * k))), none] ∧ bpF (hRo S) (rowN (hRl S)) (hNow S) p k n b gr M = fin
theorem k_X3_bestPlace (B : Bx) (g : Nat → Nat) : MtF (gx B) yX3_bestPlace wsX3_bestPlace (rmD 7) (encH B g) (F_X3_bestPlace g) := by
  refine cf_RI_i (fun l S p hy => ?_)
  refine Mt.of (P := bk_X3_bestPlace_0 g (fun o u => o = some (.int (r_bestPlace S p).1) ∧ u = (r_bestPlace S p).2) (fun L st s => tHasP (hNow S) p = true ∧ ∃ n, I_bp g S p (hBest S p) n L st s)) (by decide) rfl (Nat.le_of_ble_eq_true rfl) rfl (fun X C R => s_X3_bestPlace_0 B g C R (Snd.imp (fun hc => snd_loop _ (I_bp g S p (hBest S p)) (fun K hK => s_X3_bestPlace_24 B g C R hK) ?_))) ?_
  · rintro K n L st s ⟨k, b, gr, M, hn, rfl, rfl, rfl, hf⟩ hK
    have hy' : ∃ a, a < 1000 ∧ tYr (hNow S) = nI a := hy
    have er : r_bestPlace S p = ((hBest S p).1, hsMind S (hBest S p).2) := by
      unfold r_bestPlace
      rw [if_neg (by rw [hc]; exact Bool.noConfusion)]
    simp only [wIload, wAload, wLload, wK, wB, wDv, wU, wLB, wLU, wLS, wL2i, wLcmp, wIf1, wIf2, wKeep, wInc, wIst, wAst, wLst, wDup, wPop, wDup2, wGet, wPut, wPutZ, wIald, wLald, wIast, wLast, wLen, wRetI, wRetZ, wRetL, wRetA, wRetV, wM1, wM2, wCpy, wTab, tabW, nth, stL, stL2, dropL, keepL, mkL, padL, restOK, restOKn, tl_some, tl_none, id_eq, eq_self, true_and, and_true, bk_X3_bestPlace_0, bk_X3_bestPlace_77, bk_X3_bestPlace_24, F_X2_copyFrom, F_X2_hasPerson, F_X2_putPerson, F_X3_refuse, F_X3_runSum, cf_RIII_e, cf_RI_e, cf_RRII_e, cf_RR_e, b2i_eq0, hC_mind1, hC_mind2, hC_mind3, hC_mind4, hC_mind6, hD_1, hD_2, hD_3m, tYr_putP, tCopy_yr, hg_Now_Now, hg_Now_Mind, hg_Now_Image, hg_Now_Im, hg_Now_S, hg_Now_L, hg_Now_Ro, hg_Now_Rl, hg_Now_Re, hg_Mind_Now, hg_Mind_Mind, hg_Mind_Image, hg_Mind_Im, hg_Mind_S, hg_Mind_L, hg_Mind_Ro, hg_Mind_Rl, hg_Mind_Re, hg_Image_Now, hg_Image_Mind, hg_Image_Image, hg_Image_Im, hg_Image_S, hg_Image_L, hg_Image_Ro, hg_Image_Rl, hg_Image_Re, hg_Im_Now, hg_Im_Mind, hg_Im_Image, hg_Im_Im, hg_Im_S, hg_Im_L, hg_Im_Ro, hg_Im_Rl, hg_Im_Re, hg_S_Now, hg_S_Mind, hg_S_Image, hg_S_Im, hg_S_S, hg_S_L, hg_S_Ro, hg_S_Rl, hg_S_Re, hg_L_Now, hg_L_Mind, hg_L_Image, hg_L_Im, hg_L_S, hg_L_L, hg_L_Ro, hg_L_Rl, hg_L_Re, hg_Ro_Now, hg_Ro_Mind, hg_Ro_Image, hg_Ro_Im, hg_Ro_S, hg_Ro_L, hg_Ro_Ro, hg_Ro_Rl, hg_Ro_Re, hg_Rl_Now, hg_Rl_Mind, hg_Rl_Image, hg_Rl_Im, hg_Rl_S, hg_Rl_L, hg_Rl_Ro, hg_Rl_Rl, hg_Rl_Re, hg_Re_Now, hg_Re_Mind, hg_Re_Image, hg_Re_Im, hg_Re_S, hg_Re_L, hg_Re_Ro, hg_Re_Rl, hg_Re_Re, he_Now, ho_Now, he_Mind, ho_Mind, he_Image, ho_Image, he_Im, ho_Im, he_S, ho_S, he_L, ho_L, he_Ro, ho_Ro, he_Rl, ho_Rl, he_Re, ho_Re]
    rw [er]
    rcases Nat.lt_or_ge k 10 with hlt | hge
    · have h1 : ¬ (99 : Int32) < nI (10 * k) := nI_nlt (a := 99) (by omega) (by decide)
      obtain ⟨n, rfl⟩ : ∃ m, n = m + 1 := ⟨n - 1, by omega⟩
      rw [bpF_s] at hf
      have e10 : nI (10 * k) + 10 = nI (10 * (k + 1)) := nI_add _ 10
      generalize hq : runF (hRo S) (rowN (hRl S)) 1 0 (tPutP (tCopy M (hNow S)) p 1 (nI (10 * k))) = q at hf ⊢
      by_cases h2 : gr < q.1
      · rw [if_pos h2] at hf
        have h3 : ¬ q.1 ≤ gr := Int32.not_le.mpr h2
        simp only [h1, h3, hy', e10, h2, false_implies, true_implies, not_true_eq_false, not_false_eq_true, true_and, and_true, implies_true, eq_self, ne_eq, true_or, or_true, false_or, or_false, and_self]
        exact hK n _ _ _ (by omega) ⟨k + 1, _, _, _, by omega, rfl, rfl, rfl, hf⟩
      · rw [if_neg h2] at hf
        have h3 : q.1 ≤ gr := Int32.not_lt.mp h2
        simp only [h1, h3, hy', e10, h2, false_implies, true_implies, not_true_eq_false, not_false_eq_true, true_and, and_true, implies_true, eq_self, ne_eq, true_or, or_true, false_or, or_false, and_self]
        exact hK n _ _ _ (by omega) ⟨k + 1, _, _, _, by omega, rfl, rfl, rfl, hf⟩
    · have h1 : (99 : Int32) < nI (10 * k) := nI_lt (a := 99) (by omega) (by omega)
      have h0 : n = 0 := by omega
      subst h0
      have hf : (b, M) = hBest S p := hf
      rw [← hf]
      simp only [h1, false_implies, true_implies, not_true_eq_false, not_false_eq_true, true_and, and_true, implies_true, eq_self, ne_eq, true_or, or_true, false_or, or_false, and_self]
      all_goals first | exact ⟨rfl, rfl⟩ | rfl
  · simp only [wIload, wAload, wLload, wK, wB, wDv, wU, wLB, wLU, wLS, wL2i, wLcmp, wIf1, wIf2, wKeep, wInc, wIst, wAst, wLst, wDup, wPop, wDup2, wGet, wPut, wPutZ, wIald, wLald, wIast, wLast, wLen, wRetI, wRetZ, wRetL, wRetA, wRetV, wM1, wM2, wCpy, wTab, tabW, nth, stL, stL2, dropL, keepL, mkL, padL, restOK, restOKn, tl_some, tl_none, id_eq, eq_self, true_and, and_true, bk_X3_bestPlace_0, bk_X3_bestPlace_77, bk_X3_bestPlace_24, F_X2_copyFrom, F_X2_hasPerson, F_X2_putPerson, F_X3_refuse, F_X3_runSum, cf_RIII_e, cf_RI_e, cf_RRII_e, cf_RR_e, b2i_eq0, true_or, or_true, hg_Now_Now, hg_Now_Mind, hg_Now_Image, hg_Now_Im, hg_Now_S, hg_Now_L, hg_Now_Ro, hg_Now_Rl, hg_Now_Re, hg_Mind_Now, hg_Mind_Mind, hg_Mind_Image, hg_Mind_Im, hg_Mind_S, hg_Mind_L, hg_Mind_Ro, hg_Mind_Rl, hg_Mind_Re, hg_Image_Now, hg_Image_Mind, hg_Image_Image, hg_Image_Im, hg_Image_S, hg_Image_L, hg_Image_Ro, hg_Image_Rl, hg_Image_Re, hg_Im_Now, hg_Im_Mind, hg_Im_Image, hg_Im_Im, hg_Im_S, hg_Im_L, hg_Im_Ro, hg_Im_Rl, hg_Im_Re, hg_S_Now, hg_S_Mind, hg_S_Image, hg_S_Im, hg_S_S, hg_S_L, hg_S_Ro, hg_S_Rl, hg_S_Re, hg_L_Now, hg_L_Mind, hg_L_Image, hg_L_Im, hg_L_S, hg_L_L, hg_L_Ro, hg_L_Rl, hg_L_Re, hg_Ro_Now, hg_Ro_Mind, hg_Ro_Image, hg_Ro_Im, hg_Ro_S, hg_Ro_L, hg_Ro_Ro, hg_Ro_Rl, hg_Ro_Re, hg_Rl_Now, hg_Rl_Mind, hg_Rl_Image, hg_Rl_Im, hg_Rl_S, hg_Rl_L, hg_Rl_Ro, hg_Rl_Rl, hg_Rl_Re, hg_Re_Now, hg_Re_Mind, hg_Re_Image, hg_Re_Im, hg_Re_S, hg_Re_L, hg_Re_Ro, hg_Re_Rl, hg_Re_Re, he_Now, ho_Now, he_Mind, ho_Mind, he_Image, ho_Image, he_Im, ho_Im, he_S, ho_S, he_L, ho_L, he_Ro, ho_Ro, he_Rl, ho_Rl, he_Re, ho_Re]
    have hi : tHasP (hNow S) p = true → tHasP (hNow S) p = true ∧ ∃ n, I_bp g S p (hBest S p) n [some (.ref (g 0)), some (.int p), some (.int 0), some (.int (-1)), some (.int 0), none] [] S := fun a => ⟨a, 10, 0, 0, -1, hMind S, rfl, rfl, rfl, rfl, rfl⟩
    repeat' first | refine And.intro ?_ ?_ | intro _
    all_goals grind [r_bestPlace]
def szF (ro : Nat → Int32) (N : Nat) (W : TS) : Nat → Nat → Int32 → Int32 → TS → Int32 × TS
  | _, 0, b, _, M => (b, M)
  | k, m + 1, b, gr, M => if gr < (runF ro N 1 0 (tSettle (tSettle (tCopy M W) 0 3) 2 (nI k))).1 then szF ro N W (k + 1) m (nI k) (runF ro N 1 0 (tSettle (tSettle (tCopy M W) 0 3) 2 (nI k))).1 (runF ro N 1 0 (tSettle (tSettle (tCopy M W) 0 3) 2 (nI k))).2.2 else szF ro N W (k + 1) m b gr (runF ro N 1 0 (tSettle (tSettle (tCopy M W) 0 3) 2 (nI k))).2.2
theorem szF_s (ro : Nat → Int32) (N : Nat) (W : TS) (k m : Nat) (b gr : Int32) (M : TS) : szF ro N W k (m + 1) b gr M = if gr < (runF ro N 1 0 (tSettle (tSettle (tCopy M W) 0 3) 2 (nI k))).1 then szF ro N W (k + 1) m (nI k) (runF ro N 1 0 (tSettle (tSettle (tCopy M W) 0 3) 2 (nI k))).1 (runF ro N 1 0 (tSettle (tSettle (tCopy M W) 0 3) 2 (nI k))).2.2 else szF ro N W (k + 1) m b gr (runF ro N 1 0 (tSettle (tSettle (tCopy M W) 0 3) 2 (nI k))).2.2 := rfl
def hSmall (S : HS) : Int32 × TS := szF (hRo S) (rowN (hRl S)) (hNow S) 0 10 0 (-1) (hMind S)
def F_X3_smallest (g : Nat → Nat) : CF HS := cf_R (g 0) (fun S => hYr S) (fun S => some (.int (hSmall S).1)) (fun S => hsMind S (hSmall S).2)
theorem inw_X3_smallest_X2 : ∀ w ∈ u_ws RX2 TX2 8, w ∈ wsX3_smallest := by decide +kernel
theorem inw_X3_smallest_X3 : ∀ w ∈ u_ws RX3 TX3 9, w ∈ wsX3_smallest := by decide +kernel
def bk_X3_smallest_0 (g : Nat → Nat) (Post : Option Value → HS → Prop) (K6 : PT HS) (L : Lc) (st : List Value) (s : HS) : Prop :=
  (wK (.int 0) <| wIst 1 <| wK (.int (-1)) <| wIst 2 <| wK (.int 0) <| wIst 3 <| wKeep [true, true, true, true, false] K6) L st s
set_option maxRecDepth 20000 in
theorem s_X3_smallest_0 {X : Cx} (B : Bx) (g : Nat → Nat) {Post : Option Value → HS → Prop} (C : OkX X (gx B) cX3_smallest 5 wsX3_smallest RX3 (rmD 7)) (R : RtX X (gx B) (some .int) (encH B g) Post) {K6 : PT HS} (hK6 : Snd X (gx B) 5 (encH B g) 6 K6) : Snd X (gx B) 5 (encH B g) 0 (bk_X3_smallest_0 g Post K6) := by
  unfold bk_X3_smallest_0
  refine s_iconst C (by decide) dX3_smallest_0 ?_
  refine s_istore_n C rfl (by decide) dX3_smallest_1 ?_
  refine s_iconst C (by decide) dX3_smallest_2 ?_
  refine s_istore_n C rfl (by decide) dX3_smallest_3 ?_
  refine s_iconst C (by decide) dX3_smallest_4 ?_
  refine s_istore_n C rfl (by decide) dX3_smallest_5 ?_
  exact s_keep _ hK6
def bk_X3_smallest_66 (g : Nat → Nat) (Post : Option Value → HS → Prop) (K6 : PT HS) (L : Lc) (st : List Value) (s : HS) : Prop :=
  (wInc 3 1 <| wKeep [true, true, true, true, false] K6) L st s
set_option maxRecDepth 20000 in
theorem s_X3_smallest_66 {X : Cx} (B : Bx) (g : Nat → Nat) {Post : Option Value → HS → Prop} (C : OkX X (gx B) cX3_smallest 5 wsX3_smallest RX3 (rmD 7)) (R : RtX X (gx B) (some .int) (encH B g) Post) {K6 : PT HS} (hK6 : Snd X (gx B) 5 (encH B g) 6 K6) : Snd X (gx B) 5 (encH B g) 66 (bk_X3_smallest_66 g Post K6) := by
  unfold bk_X3_smallest_66
  refine s_iinc C (by decide) (by decide) dX3_smallest_66 ?_
  refine s_goto C (tgt := 6) (by decide) dX3_smallest_69 ?_
  exact s_keep _ hK6
def bk_X3_smallest_6 (g : Nat → Nat) (Post : Option Value → HS → Prop) (K6 : PT HS) (L : Lc) (st : List Value) (s : HS) : Prop :=
  (wIload 3 <| wK (.int 2) <| wCallR 1 (F_X3_greatestSetting) (fun _ => ()) (fun s _ => s) <| wIf2 (fun x y => y < x) (wIload 1 <| wRetI Post) (wAload 0 <| wGet (g 0) (fun _ => .ref (g 6)) <| wAload 0 <| wGet (g 0) (fun _ => .ref (g 1)) <| wCallR 2 (F_X2_copyFrom g 6 1) hDMindNow hsDMindNow <| wAload 0 <| wGet (g 0) (fun _ => .ref (g 6)) <| wK (.int 0) <| wK (.int 3) <| wCallR 3 (F_X2_settle g 6) hMind hsMind <| wAload 0 <| wGet (g 0) (fun _ => .ref (g 6)) <| wK (.int 2) <| wIload 3 <| wCallR 3 (F_X2_settle g 6) hMind hsMind <| wAload 0 <| wAload 0 <| wGet (g 0) (fun _ => .ref (g 6)) <| wK (.int 1) <| wK (.int 0) <| wCallR 4 (F_X3_runSum g 6) hCMind hsCMind <| wIst 4 <| wIload 4 <| wIload 2 <| wIf2 (fun x y => x ≤ y) (bk_X3_smallest_66 g Post K6) (wIload 4 <| wIst 2 <| wIload 3 <| wIst 1 <| bk_X3_smallest_66 g Post K6))) L st s
set_option maxRecDepth 20000 in
theorem s_X3_smallest_6 {X : Cx} (B : Bx) (g : Nat → Nat) {Post : Option Value → HS → Prop} (C : OkX X (gx B) cX3_smallest 5 wsX3_smallest RX3 (rmD 7)) (R : RtX X (gx B) (some .int) (encH B g) Post) {K6 : PT HS} (hK6 : Snd X (gx B) 5 (encH B g) 6 K6) : Snd X (gx B) 5 (encH B g) 6 (bk_X3_smallest_6 g Post K6) := by
  unfold bk_X3_smallest_6
  refine s_iload_n C rfl dX3_smallest_6 ?_
  refine s_iconst C (by decide) dX3_smallest_7 ?_
  refine s_callS C (fr_H_E B g) (k_X3_greatestSetting B) gX3_smallest_X3_greatestSetting rfl (by decide +kernel) ⟨rfl, rfl⟩ (by decide) (cf_I_r _ _ _) dX3_smallest_8 ?_
  refine s_icmp_gt C (tgt := 72) (by decide) dX3_smallest_11 ?_ ?_
  · refine s_iload_n C rfl dX3_smallest_72 ?_
    exact s_iret C R dX3_smallest_73
  · refine s_aload_n C rfl dX3_smallest_14 ?_
    refine s_get C inw_X3_smallest_X3 rfl (k := 1) (by decide) (by decide +kernel) (heH_0 B g) (fun _ => rfl) dX3_smallest_15 ?_
    refine s_aload_n C rfl dX3_smallest_18 ?_
    refine s_get C inw_X3_smallest_X3 rfl (k := 0) (by decide) (by decide +kernel) (heH_0 B g) (fun _ => rfl) dX3_smallest_19 ?_
    refine s_callV C (fr_H_D6_1 B g) (k_X2_copyFrom B g 6 1) gX3_smallest_X2_copyFrom rfl (by decide +kernel) ⟨rfl, rfl⟩ (by decide) rfl (fun s => ⟨_, heH_6 B g s⟩) (cf_RR_r _ _ _ _ _) dX3_smallest_22 ?_
    refine s_aload_n C rfl dX3_smallest_25 ?_
    refine s_get C inw_X3_smallest_X3 rfl (k := 1) (by decide) (by decide +kernel) (heH_0 B g) (fun _ => rfl) dX3_smallest_26 ?_
    refine s_iconst C (by decide) dX3_smallest_29 ?_
    refine s_iconst C (by decide) dX3_smallest_30 ?_
    refine s_callV C (fr_H_T6 B g) (k_X2_settle B g 6) gX3_smallest_X2_settle rfl (by decide +kernel) ⟨rfl, rfl⟩ (by decide) rfl (fun s => ⟨_, heH_6 B g s⟩) (cf_RII_r _ _ _ _) dX3_smallest_31 ?_
    refine s_aload_n C rfl dX3_smallest_34 ?_
    refine s_get C inw_X3_smallest_X3 rfl (k := 1) (by decide) (by decide +kernel) (heH_0 B g) (fun _ => rfl) dX3_smallest_35 ?_
    refine s_iconst C (by decide) dX3_smallest_38 ?_
    refine s_iload_n C rfl dX3_smallest_39 ?_
    refine s_callV C (fr_H_T6 B g) (k_X2_settle B g 6) gX3_smallest_X2_settle rfl (by decide +kernel) ⟨rfl, rfl⟩ (by decide) rfl (fun s => ⟨_, heH_6 B g s⟩) (cf_RII_r _ _ _ _) dX3_smallest_40 ?_
    refine s_aload_n C rfl dX3_smallest_43 ?_
    refine s_aload_n C rfl dX3_smallest_44 ?_
    refine s_get C inw_X3_smallest_X3 rfl (k := 1) (by decide) (by decide +kernel) (heH_0 B g) (fun _ => rfl) dX3_smallest_45 ?_
    refine s_iconst C (by decide) dX3_smallest_48 ?_
    refine s_iconst C (by decide) dX3_smallest_49 ?_
    refine s_callV C (fr_H_C6 B g) (k_X3_runSum B g 6) gX3_smallest_X3_runSum rfl (by decide +kernel) ⟨rfl, rfl⟩ (by decide) rfl (fun s => ⟨_, heH_0 B g s⟩) (cf_RRII_r _ _ _ _ _) dX3_smallest_50 ?_
    refine s_istore C (by decide) dX3_smallest_53 ?_
    refine s_iload C dX3_smallest_55 ?_
    refine s_iload_n C rfl dX3_smallest_57 ?_
    refine s_icmp_le C (tgt := 66) (by decide) dX3_smallest_58 ?_ ?_
    · exact s_X3_smallest_66 B g C R hK6
    · refine s_iload C dX3_smallest_61 ?_
      refine s_istore_n C rfl (by decide) dX3_smallest_63 ?_
      refine s_iload_n C rfl dX3_smallest_64 ?_
      refine s_istore_n C rfl (by decide) dX3_smallest_65 ?_
      exact s_X3_smallest_66 B g C R hK6
def I_sm (g : Nat → Nat) (S : HS) (fin : Int32 × TS) (n : Nat) (L : Lc) (st : List Value) (s : HS) : Prop := ∃ (k : Nat) (b gr : Int32) (M : TS), n + k = 10 ∧ st = [] ∧ s = hsMind S M ∧ L = [some (.ref (g 0)), some (.int b), some (.int gr), some (.int (nI k)), none] ∧ szF (hRo S) (rowN (hRl S)) (hNow S) k n b gr M = fin
theorem k_X3_smallest (B : Bx) (g : Nat → Nat) : MtF (gx B) yX3_smallest wsX3_smallest (rmD 7) (encH B g) (F_X3_smallest g) := by
  refine cf_R_i (fun l S hy => ?_)
  refine Mt.of (P := bk_X3_smallest_0 g (fun o u => o = some (.int (hSmall S).1) ∧ u = hsMind S (hSmall S).2) (fun L st s => ∃ n, I_sm g S (hSmall S) n L st s)) (by decide) rfl (Nat.le_of_ble_eq_true rfl) rfl (fun X C R => s_X3_smallest_0 B g C R (snd_loop _ (I_sm g S (hSmall S)) (fun K hK => s_X3_smallest_6 B g C R hK) ?_)) ?_
  · rintro K n L st s ⟨k, b, gr, M, hn, rfl, rfl, rfl, hf⟩ hK
    have hy' : ∃ a, a < 1000 ∧ tYr (hNow S) = nI a := hy
    have d2 : ¬ (2 : Int32) = 0 := by decide
    simp only [wIload, wAload, wLload, wK, wB, wDv, wU, wLB, wLU, wLS, wL2i, wLcmp, wIf1, wIf2, wKeep, wInc, wIst, wAst, wLst, wDup, wPop, wDup2, wGet, wPut, wPutZ, wIald, wLald, wIast, wLast, wLen, wRetI, wRetZ, wRetL, wRetA, wRetV, wM1, wM2, wCpy, wTab, tabW, nth, stL, stL2, dropL, keepL, mkL, padL, restOK, restOKn, tl_some, tl_none, id_eq, eq_self, true_and, and_true, bk_X3_smallest_0, bk_X3_smallest_66, bk_X3_smallest_6, F_X2_copyFrom, F_X2_settle, F_X3_greatestSetting, F_X3_runSum, cf_I_e, cf_RII_e, cf_RRII_e, cf_RR_e, b2i_eq0, hC_mind1, hC_mind2, hC_mind3, hC_mind4, hC_mind6, hD_1, hD_2, hD_3m, tYr_settle, tCopy_yr, d2, if_false, hg_Now_Now, hg_Now_Mind, hg_Now_Image, hg_Now_Im, hg_Now_S, hg_Now_L, hg_Now_Ro, hg_Now_Rl, hg_Now_Re, hg_Mind_Now, hg_Mind_Mind, hg_Mind_Image, hg_Mind_Im, hg_Mind_S, hg_Mind_L, hg_Mind_Ro, hg_Mind_Rl, hg_Mind_Re, hg_Image_Now, hg_Image_Mind, hg_Image_Image, hg_Image_Im, hg_Image_S, hg_Image_L, hg_Image_Ro, hg_Image_Rl, hg_Image_Re, hg_Im_Now, hg_Im_Mind, hg_Im_Image, hg_Im_Im, hg_Im_S, hg_Im_L, hg_Im_Ro, hg_Im_Rl, hg_Im_Re, hg_S_Now, hg_S_Mind, hg_S_Image, hg_S_Im, hg_S_S, hg_S_L, hg_S_Ro, hg_S_Rl, hg_S_Re, hg_L_Now, hg_L_Mind, hg_L_Image, hg_L_Im, hg_L_S, hg_L_L, hg_L_Ro, hg_L_Rl, hg_L_Re, hg_Ro_Now, hg_Ro_Mind, hg_Ro_Image, hg_Ro_Im, hg_Ro_S, hg_Ro_L, hg_Ro_Ro, hg_Ro_Rl, hg_Ro_Re, hg_Rl_Now, hg_Rl_Mind, hg_Rl_Image, hg_Rl_Im, hg_Rl_S, hg_Rl_L, hg_Rl_Ro, hg_Rl_Rl, hg_Rl_Re, hg_Re_Now, hg_Re_Mind, hg_Re_Image, hg_Re_Im, hg_Re_S, hg_Re_L, hg_Re_Ro, hg_Re_Rl, hg_Re_Re, he_Now, ho_Now, he_Mind, ho_Mind, he_Image, ho_Image, he_Im, ho_Im, he_S, ho_S, he_L, ho_L, he_Ro, ho_Ro, he_Rl, ho_Rl, he_Re, ho_Re]
    rcases Nat.lt_or_ge k 10 with hlt | hge
    · have h1 : nI k ≤ 9 := nI_le (b := 9) (by omega) (by decide)
      obtain ⟨n, rfl⟩ : ∃ m, n = m + 1 := ⟨n - 1, by omega⟩
      rw [szF_s] at hf
      generalize hq : runF (hRo S) (rowN (hRl S)) 1 0 (tSettle (tSettle (tCopy M (hNow S)) 0 3) 2 (nI k)) = q at hf ⊢
      have h1' : ¬ (9 : Int32) < nI k := Int32.not_lt.mpr h1
      by_cases h2 : gr < q.1
      · rw [if_pos h2] at hf
        have h3 : ¬ q.1 ≤ gr := Int32.not_le.mpr h2
        simp only [h1, h1', h3, hy', nI_1, h2, false_implies, true_implies, not_true_eq_false, not_false_eq_true, true_and, and_true, implies_true, eq_self, ne_eq, true_or, or_true, false_or, or_false, and_self]
        exact hK n _ _ _ (by omega) ⟨k + 1, _, _, _, by omega, rfl, rfl, rfl, hf⟩
      · rw [if_neg h2] at hf
        have h3 : q.1 ≤ gr := Int32.not_lt.mp h2
        simp only [h1, h1', h3, hy', nI_1, h2, false_implies, true_implies, not_true_eq_false, not_false_eq_true, true_and, and_true, implies_true, eq_self, ne_eq, true_or, or_true, false_or, or_false, and_self]
        exact hK n _ _ _ (by omega) ⟨k + 1, _, _, _, by omega, rfl, rfl, rfl, hf⟩
    · have h1 : ¬ nI k ≤ 9 := nI_ge (b := k) (a := 9) (by omega) (by omega)
      have h1' : (9 : Int32) < nI k := Int32.not_le.mp h1
      have h0 : n = 0 := by omega
      subst h0
      have hf : (b, M) = hSmall S := hf
      rw [← hf]
      simp only [h1, h1', false_implies, true_implies, not_true_eq_false, not_false_eq_true, true_and, and_true, implies_true, eq_self, ne_eq, true_or, or_true, false_or, or_false, and_self]
      all_goals first | exact ⟨rfl, rfl⟩ | rfl
  · simp only [wIload, wAload, wLload, wK, wB, wDv, wU, wLB, wLU, wLS, wL2i, wLcmp, wIf1, wIf2, wKeep, wInc, wIst, wAst, wLst, wDup, wPop, wDup2, wGet, wPut, wPutZ, wIald, wLald, wIast, wLast, wLen, wRetI, wRetZ, wRetL, wRetA, wRetV, wM1, wM2, wCpy, wTab, tabW, nth, stL, stL2, dropL, keepL, mkL, padL, restOK, restOKn, tl_some, tl_none, id_eq, eq_self, true_and, and_true, bk_X3_smallest_0, bk_X3_smallest_66, bk_X3_smallest_6, F_X2_copyFrom, F_X2_settle, F_X3_greatestSetting, F_X3_runSum, cf_I_e, cf_RII_e, cf_RRII_e, cf_RR_e]
    exact ⟨10, 0, 0, -1, hMind S, rfl, rfl, rfl, rfl, rfl⟩
end
