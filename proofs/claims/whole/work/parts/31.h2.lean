noncomputable section
def hYr (S : HS) : Prop := ∃ a, a < 1000 ∧ tYr (hNow S) = nI a
def ruleOK (r : Int32) : Prop := 0 ≤ r ∧ r ≤ 5
def r_chosen (S : HS) (r n : Int32) : Int32 × HS := if 0 ≤ r ∧ r ≤ 5 then (if tHasN (hNow S) n = false then (-1, hRef S (-1)) else (cChose (hRo S) (rowN (hRl S)) (hNow S) r n, S)) else (-2, hRef S (-2))
def F_X3_chosen (g : Nat → Nat) : CF HS := cf_RII (g 0) (fun _ _ _ => True) (fun S p w => some (.int (r_chosen S p w).1)) (fun S p w => (r_chosen S p w).2)
theorem hC_now (S : HS) : cRo (hCNow S) = hRo S ∧ cRl (hCNow S) = hRl S ∧ cT (hCNow S) = hNow S ∧ hsCNow S (hCNow S) = S := ⟨rfl, rfl, rfl, rfl⟩
theorem hC_now1 (S : HS) : cRo (hCNow S) = hRo S := rfl
theorem hC_now2 (S : HS) : cRl (hCNow S) = hRl S := rfl
theorem hC_now3 (S : HS) : cT (hCNow S) = hNow S := rfl
theorem hC_now4 (S : HS) : hsCNow S (hCNow S) = S := rfl
theorem hC_mind1 (S : HS) : cRo (hCMind S) = hRo S := rfl
theorem hC_mind2 (S : HS) : cRl (hCMind S) = hRl S := rfl
theorem hC_mind3 (S : HS) : cT (hCMind S) = hMind S := rfl
theorem hC_mind4 (S : HS) (T : TS) : hsCMind S (csT (hCMind S) T) = hsMind S T := rfl
theorem hC_mind5 (S : HS) : hsCMind S (hCMind S) = S := rfl
theorem hC_mind6 (S : HS) : cTYr (hCMind S) = tYr (hMind S) := rfl
theorem tCopy_yr (A O : TS) : tYr (tCopy A O) = tYr O := rfl
theorem hCp1 (S : HS) : hRo (hCopy S) = hRo S := rfl
theorem hCp2 (S : HS) : hRl (hCopy S) = hRl S := rfl
theorem hCp3 (S : HS) : hMind (hCopy S) = tCopy (hMind S) (hNow S) := rfl
theorem hCp4 (S : HS) : hNow (hCopy S) = hNow S := rfl
theorem hCp6 (S : HS) : hsNow (hCopy S) (hNow S) = hCopy S := rfl
theorem hCp5 (S : HS) (T : TS) : hsMind (hCopy S) T = hsMind S T := rfl
theorem inw_X3_chosen_X2 : ∀ w ∈ u_ws RX2 TX2 8, w ∈ wsX3_chosen := by decide +kernel
theorem inw_X3_chosen_X3 : ∀ w ∈ u_ws RX3 TX3 9, w ∈ wsX3_chosen := by decide +kernel
def bk_X3_chosen_0 (g : Nat → Nat) (Post : Option Value → HS → Prop)  (L : Lc) (st : List Value) (s : HS) : Prop :=
  (wIload 1 <| wCallR 1 (F_X3_isRule) (fun _ => ()) (fun s _ => s) <| wIf1 (fun x => x = 0) (wAload 0 <| wK (.int (-2)) <| wCallR 2 (F_X3_refuse g) id (fun _ u => u) <| wRetI Post) (wAload 0 <| wGet (g 0) (fun _ => .ref (g 1)) <| wIload 2 <| wCallR 2 (F_X2_hasNeed g 1) hNow hsNow <| wIf1 (fun x => x = 0) (wAload 0 <| wK (.int (-1)) <| wCallR 2 (F_X3_refuse g) id (fun _ u => u) <| wRetI Post) (wAload 0 <| wAload 0 <| wGet (g 0) (fun _ => .ref (g 1)) <| wIload 1 <| wIload 2 <| wCallR 4 (F_X3_chosenBy g 1) hCNow hsCNow <| wRetI Post))) L st s
set_option maxRecDepth 20000 in
theorem s_X3_chosen_0 {X : Cx} (B : Bx) (g : Nat → Nat) {Post : Option Value → HS → Prop} (C : OkX X (gx B) cX3_chosen 3 wsX3_chosen RX3 (rmD 6)) (R : RtX X (gx B) (some .int) (encH B g) Post)  : Snd X (gx B) 3 (encH B g) 0 (bk_X3_chosen_0 g Post ) := by
  unfold bk_X3_chosen_0
  refine s_iload_n C rfl dX3_chosen_0 ?_
  refine s_callS C (fr_H_E B g) (k_X3_isRule B) gX3_chosen_X3_isRule rfl (by decide +kernel) ⟨rfl, rfl⟩ (by decide) (cf_I_r _ _ _) dX3_chosen_1 ?_
  refine s_if_ne C (tgt := 14) (by decide) dX3_chosen_4 ?_ ?_
  · refine s_aload_n C rfl dX3_chosen_14 ?_
    refine s_get C inw_X3_chosen_X3 rfl (k := 0) (by decide) (by decide +kernel) (heH_0 B g) (fun _ => rfl) dX3_chosen_15 ?_
    refine s_iload_n C rfl dX3_chosen_18 ?_
    refine s_callV C (fr_H_T1 B g) (k_X2_hasNeed B g 1) gX3_chosen_X2_hasNeed rfl (by decide +kernel) ⟨rfl, rfl⟩ (by decide) rfl (fun s => ⟨_, heH_1 B g s⟩) (cf_RI_r _ _ _ _) dX3_chosen_19 ?_
    refine s_if_ne C (tgt := 31) (by decide) dX3_chosen_22 ?_ ?_
    · refine s_aload_n C rfl dX3_chosen_31 ?_
      refine s_aload_n C rfl dX3_chosen_32 ?_
      refine s_get C inw_X3_chosen_X3 rfl (k := 0) (by decide) (by decide +kernel) (heH_0 B g) (fun _ => rfl) dX3_chosen_33 ?_
      refine s_iload_n C rfl dX3_chosen_36 ?_
      refine s_iload_n C rfl dX3_chosen_37 ?_
      refine s_callV C (fr_H_C1 B g) (k_X3_chosenBy B g 1) gX3_chosen_X3_chosenBy rfl (by decide +kernel) ⟨rfl, rfl⟩ (by decide) rfl (fun s => ⟨_, heH_0 B g s⟩) (cf_RRII_r _ _ _ _ _) dX3_chosen_38 ?_
      exact s_iret C R dX3_chosen_41
    · refine s_aload_n C rfl dX3_chosen_25 ?_
      refine s_iconst C (by decide) dX3_chosen_26 ?_
      refine s_callV C (fr_H_H B g) (k_X3_refuse B g) gX3_chosen_X3_refuse rfl (by decide +kernel) ⟨rfl, rfl⟩ (by decide) rfl (fun s => ⟨_, heH_0 B g s⟩) (cf_RI_r _ _ _ _) dX3_chosen_27 ?_
      exact s_iret C R dX3_chosen_30
  · refine s_aload_n C rfl dX3_chosen_7 ?_
    refine s_bipush C (by decide) dX3_chosen_8 ?_
    refine s_callV C (fr_H_H B g) (k_X3_refuse B g) gX3_chosen_X3_refuse rfl (by decide +kernel) ⟨rfl, rfl⟩ (by decide) rfl (fun s => ⟨_, heH_0 B g s⟩) (cf_RI_r _ _ _ _) dX3_chosen_10 ?_
    exact s_iret C R dX3_chosen_13
theorem k_X3_chosen (B : Bx) (g : Nat → Nat) : MtF (gx B) yX3_chosen wsX3_chosen (rmD 6) (encH B g) (F_X3_chosen g) := by
  refine cf_RII_i (fun l S r n _ => Mt.of (by decide) rfl (Nat.le_of_ble_eq_true rfl) rfl (fun X C R => s_X3_chosen_0 B g C R) ?_)
  have hi := fun h => isN_of (T := hNow S) (n := n) h
  simp only [wIload, wAload, wLload, wK, wB, wDv, wU, wLB, wLU, wLS, wL2i, wLcmp, wIf1, wIf2, wKeep, wInc, wIst, wAst, wLst, wDup, wPop, wDup2, wGet, wPut, wPutZ, wIald, wLald, wIast, wLast, wLen, wRetI, wRetZ, wRetL, wRetA, wRetV, wM1, wM2, wCpy, wTab, tabW, nth, stL, stL2, dropL, keepL, mkL, padL, restOK, restOKn, tl_some, tl_none, id_eq, eq_self, true_and, and_true, bk_X3_chosen_0, F_X2_hasNeed, F_X3_chosenBy, F_X3_isRule, F_X3_refuse, cf_I_e, cf_RI_e, cf_RRII_e, b2i_eq0, true_or, or_true, hC_now1, hC_now2, hC_now3, hC_now4, decide_eq_false_iff_not, hg_Now_Now, hg_Now_Mind, hg_Now_Image, hg_Now_Im, hg_Now_S, hg_Now_L, hg_Now_Ro, hg_Now_Rl, hg_Now_Re, hg_Mind_Now, hg_Mind_Mind, hg_Mind_Image, hg_Mind_Im, hg_Mind_S, hg_Mind_L, hg_Mind_Ro, hg_Mind_Rl, hg_Mind_Re, hg_Image_Now, hg_Image_Mind, hg_Image_Image, hg_Image_Im, hg_Image_S, hg_Image_L, hg_Image_Ro, hg_Image_Rl, hg_Image_Re, hg_Im_Now, hg_Im_Mind, hg_Im_Image, hg_Im_Im, hg_Im_S, hg_Im_L, hg_Im_Ro, hg_Im_Rl, hg_Im_Re, hg_S_Now, hg_S_Mind, hg_S_Image, hg_S_Im, hg_S_S, hg_S_L, hg_S_Ro, hg_S_Rl, hg_S_Re, hg_L_Now, hg_L_Mind, hg_L_Image, hg_L_Im, hg_L_S, hg_L_L, hg_L_Ro, hg_L_Rl, hg_L_Re, hg_Ro_Now, hg_Ro_Mind, hg_Ro_Image, hg_Ro_Im, hg_Ro_S, hg_Ro_L, hg_Ro_Ro, hg_Ro_Rl, hg_Ro_Re, hg_Rl_Now, hg_Rl_Mind, hg_Rl_Image, hg_Rl_Im, hg_Rl_S, hg_Rl_L, hg_Rl_Ro, hg_Rl_Rl, hg_Rl_Re, hg_Re_Now, hg_Re_Mind, hg_Re_Image, hg_Re_Im, hg_Re_S, hg_Re_L, hg_Re_Ro, hg_Re_Rl, hg_Re_Re, he_Now, ho_Now, he_Mind, ho_Mind, he_Image, ho_Image, he_Im, ho_Im, he_S, ho_S, he_L, ho_L, he_Ro, ho_Ro, he_Rl, ho_Rl, he_Re, ho_Re]
  repeat' first | refine And.intro ?_ ?_ | intro _
  all_goals grind [r_chosen]
def r_loss (S : HS) (p n : Int32) : Int32 × HS := if tHasP (hNow S) p = true ∧ tHasN (hNow S) n = true then (tLoss (hNow S) p n, S) else (-1, hRef S (-1))
def F_X3_loss (g : Nat → Nat) : CF HS := cf_RII (g 0) (fun _ _ _ => True) (fun S p w => some (.int (r_loss S p w).1)) (fun S p w => (r_loss S p w).2)
theorem inw_X3_loss_X3 : ∀ w ∈ u_ws RX3 TX3 9, w ∈ wsX3_loss := by decide +kernel
def bk_X3_loss_22 (g : Nat → Nat) (Post : Option Value → HS → Prop)  (L : Lc) (st : List Value) (s : HS) : Prop :=
  (wAload 0 <| wK (.int (-1)) <| wCallR 2 (F_X3_refuse g) id (fun _ u => u) <| wRetI Post) L st s
set_option maxRecDepth 20000 in
theorem s_X3_loss_22 {X : Cx} (B : Bx) (g : Nat → Nat) {Post : Option Value → HS → Prop} (C : OkX X (gx B) cX3_loss 3 wsX3_loss RX3 (rmD 4)) (R : RtX X (gx B) (some .int) (encH B g) Post)  : Snd X (gx B) 3 (encH B g) 22 (bk_X3_loss_22 g Post ) := by
  unfold bk_X3_loss_22
  refine s_aload_n C rfl dX3_loss_22 ?_
  refine s_iconst C (by decide) dX3_loss_23 ?_
  refine s_callV C (fr_H_H B g) (k_X3_refuse B g) gX3_loss_X3_refuse rfl (by decide +kernel) ⟨rfl, rfl⟩ (by decide) rfl (fun s => ⟨_, heH_0 B g s⟩) (cf_RI_r _ _ _ _) dX3_loss_24 ?_
  exact s_iret C R dX3_loss_27
def bk_X3_loss_0 (g : Nat → Nat) (Post : Option Value → HS → Prop)  (L : Lc) (st : List Value) (s : HS) : Prop :=
  (wAload 0 <| wGet (g 0) (fun _ => .ref (g 1)) <| wIload 1 <| wCallR 2 (F_X2_hasPerson g 1) hNow hsNow <| wIf1 (fun x => x = 0) (bk_X3_loss_22 g Post ) (wAload 0 <| wGet (g 0) (fun _ => .ref (g 1)) <| wIload 2 <| wCallR 2 (F_X2_hasNeed g 1) hNow hsNow <| wIf1 (fun x => x = 0) (bk_X3_loss_22 g Post ) (wAload 0 <| wGet (g 0) (fun _ => .ref (g 1)) <| wIload 1 <| wIload 2 <| wCallR 3 (F_X2_lossOf g 1) hNow hsNow <| wRetI Post))) L st s
set_option maxRecDepth 20000 in
theorem s_X3_loss_0 {X : Cx} (B : Bx) (g : Nat → Nat) {Post : Option Value → HS → Prop} (C : OkX X (gx B) cX3_loss 3 wsX3_loss RX3 (rmD 4)) (R : RtX X (gx B) (some .int) (encH B g) Post)  : Snd X (gx B) 3 (encH B g) 0 (bk_X3_loss_0 g Post ) := by
  unfold bk_X3_loss_0
  refine s_aload_n C rfl dX3_loss_0 ?_
  refine s_get C inw_X3_loss_X3 rfl (k := 0) (by decide) (by decide +kernel) (heH_0 B g) (fun _ => rfl) dX3_loss_1 ?_
  refine s_iload_n C rfl dX3_loss_4 ?_
  refine s_callV C (fr_H_T1 B g) (k_X2_hasPerson B g 1) gX3_loss_X2_hasPerson rfl (by decide +kernel) ⟨rfl, rfl⟩ (by decide) rfl (fun s => ⟨_, heH_1 B g s⟩) (cf_RI_r _ _ _ _) dX3_loss_5 ?_
  refine s_if_eq C (tgt := 22) (by decide) dX3_loss_8 ?_ ?_
  · exact s_X3_loss_22 B g C R 
  · refine s_aload_n C rfl dX3_loss_11 ?_
    refine s_get C inw_X3_loss_X3 rfl (k := 0) (by decide) (by decide +kernel) (heH_0 B g) (fun _ => rfl) dX3_loss_12 ?_
    refine s_iload_n C rfl dX3_loss_15 ?_
    refine s_callV C (fr_H_T1 B g) (k_X2_hasNeed B g 1) gX3_loss_X2_hasNeed rfl (by decide +kernel) ⟨rfl, rfl⟩ (by decide) rfl (fun s => ⟨_, heH_1 B g s⟩) (cf_RI_r _ _ _ _) dX3_loss_16 ?_
    refine s_if_ne C (tgt := 28) (by decide) dX3_loss_19 ?_ ?_
    · refine s_aload_n C rfl dX3_loss_28 ?_
      refine s_get C inw_X3_loss_X3 rfl (k := 0) (by decide) (by decide +kernel) (heH_0 B g) (fun _ => rfl) dX3_loss_29 ?_
      refine s_iload_n C rfl dX3_loss_32 ?_
      refine s_iload_n C rfl dX3_loss_33 ?_
      refine s_callV C (fr_H_T1 B g) (k_X2_lossOf B g 1) gX3_loss_X2_lossOf rfl (by decide +kernel) ⟨rfl, rfl⟩ (by decide) rfl (fun s => ⟨_, heH_1 B g s⟩) (cf_RII_r _ _ _ _) dX3_loss_34 ?_
      exact s_iret C R dX3_loss_37
    · exact s_X3_loss_22 B g C R 
theorem k_X3_loss (B : Bx) (g : Nat → Nat) : MtF (gx B) yX3_loss wsX3_loss (rmD 4) (encH B g) (F_X3_loss g) := by
  refine cf_RII_i (fun l S p n _ => Mt.of (by decide) rfl (Nat.le_of_ble_eq_true rfl) rfl (fun X C R => s_X3_loss_0 B g C R) ?_)
  have hi := fun h => isN_of (T := hNow S) (n := n) h
  unfold isN at hi
  simp only [wIload, wAload, wLload, wK, wB, wDv, wU, wLB, wLU, wLS, wL2i, wLcmp, wIf1, wIf2, wKeep, wInc, wIst, wAst, wLst, wDup, wPop, wDup2, wGet, wPut, wPutZ, wIald, wLald, wIast, wLast, wLen, wRetI, wRetZ, wRetL, wRetA, wRetV, wM1, wM2, wCpy, wTab, tabW, nth, stL, stL2, dropL, keepL, mkL, padL, restOK, restOKn, tl_some, tl_none, id_eq, eq_self, true_and, and_true, bk_X3_loss_22, bk_X3_loss_0, F_X2_hasNeed, F_X2_hasPerson, F_X2_lossOf, F_X3_refuse, cf_RII_e, cf_RI_e, b2i_eq0, true_or, or_true, hg_Now_Now, hg_Now_Mind, hg_Now_Image, hg_Now_Im, hg_Now_S, hg_Now_L, hg_Now_Ro, hg_Now_Rl, hg_Now_Re, hg_Mind_Now, hg_Mind_Mind, hg_Mind_Image, hg_Mind_Im, hg_Mind_S, hg_Mind_L, hg_Mind_Ro, hg_Mind_Rl, hg_Mind_Re, hg_Image_Now, hg_Image_Mind, hg_Image_Image, hg_Image_Im, hg_Image_S, hg_Image_L, hg_Image_Ro, hg_Image_Rl, hg_Image_Re, hg_Im_Now, hg_Im_Mind, hg_Im_Image, hg_Im_Im, hg_Im_S, hg_Im_L, hg_Im_Ro, hg_Im_Rl, hg_Im_Re, hg_S_Now, hg_S_Mind, hg_S_Image, hg_S_Im, hg_S_S, hg_S_L, hg_S_Ro, hg_S_Rl, hg_S_Re, hg_L_Now, hg_L_Mind, hg_L_Image, hg_L_Im, hg_L_S, hg_L_L, hg_L_Ro, hg_L_Rl, hg_L_Re, hg_Ro_Now, hg_Ro_Mind, hg_Ro_Image, hg_Ro_Im, hg_Ro_S, hg_Ro_L, hg_Ro_Ro, hg_Ro_Rl, hg_Ro_Re, hg_Rl_Now, hg_Rl_Mind, hg_Rl_Image, hg_Rl_Im, hg_Rl_S, hg_Rl_L, hg_Rl_Ro, hg_Rl_Rl, hg_Rl_Re, hg_Re_Now, hg_Re_Mind, hg_Re_Image, hg_Re_Im, hg_Re_S, hg_Re_L, hg_Re_Ro, hg_Re_Rl, hg_Re_Re, he_Now, ho_Now, he_Mind, ho_Mind, he_Image, ho_Image, he_Im, ho_Im, he_S, ho_S, he_L, ho_L, he_Ro, ho_Ro, he_Rl, ho_Rl, he_Re, ho_Re]
  repeat' first | refine And.intro ?_ ?_ | intro _
  all_goals grind [r_loss]
/-- a run in mind: the sum; what mind is then -/
def hRun (S : HS) (r x : Int32) : RS := runF (hRo S) (rowN (hRl S)) r x (tCopy (hMind S) (hNow S))
def r_run (S : HS) (r : Int32) : Int32 × HS := if 0 ≤ r ∧ r ≤ 5 then ((hRun S r 0).1, hsMind S (hRun S r 0).2.2) else (-2, hRef S (-2))
def F_X3_run (g : Nat → Nat) : CF HS := cf_RI (g 0) (fun S _ => hYr S) (fun S p => some (.int (r_run S p).1)) (fun S p => (r_run S p).2)
theorem inw_X3_run_X2 : ∀ w ∈ u_ws RX2 TX2 8, w ∈ wsX3_run := by decide +kernel
theorem inw_X3_run_X3 : ∀ w ∈ u_ws RX3 TX3 9, w ∈ wsX3_run := by decide +kernel
def bk_X3_run_0 (g : Nat → Nat) (Post : Option Value → HS → Prop)  (L : Lc) (st : List Value) (s : HS) : Prop :=
  (wIload 1 <| wCallR 1 (F_X3_isRule) (fun _ => ()) (fun s _ => s) <| wIf1 (fun x => x = 0) (wAload 0 <| wK (.int (-2)) <| wCallR 2 (F_X3_refuse g) id (fun _ u => u) <| wRetI Post) (wAload 0 <| wAload 0 <| wCallR 1 (F_X3_mindOfNow g) id (fun _ u => u) <| wIload 1 <| wK (.int 0) <| wCallR 4 (F_X3_runSum g 6) hCMind hsCMind <| wRetI Post)) L st s
set_option maxRecDepth 20000 in
theorem s_X3_run_0 {X : Cx} (B : Bx) (g : Nat → Nat) {Post : Option Value → HS → Prop} (C : OkX X (gx B) cX3_run 2 wsX3_run RX3 (rmD 7)) (R : RtX X (gx B) (some .int) (encH B g) Post)  : Snd X (gx B) 2 (encH B g) 0 (bk_X3_run_0 g Post ) := by
  unfold bk_X3_run_0
  refine s_iload_n C rfl dX3_run_0 ?_
  refine s_callS C (fr_H_E B g) (k_X3_isRule B) gX3_run_X3_isRule rfl (by decide +kernel) ⟨rfl, rfl⟩ (by decide) (cf_I_r _ _ _) dX3_run_1 ?_
  refine s_if_ne C (tgt := 14) (by decide) dX3_run_4 ?_ ?_
  · refine s_aload_n C rfl dX3_run_14 ?_
    refine s_aload_n C rfl dX3_run_15 ?_
    refine s_callV C (fr_H_H B g) (k_X3_mindOfNow B g) gX3_run_X3_mindOfNow rfl (by decide +kernel) ⟨rfl, rfl⟩ (by decide) rfl (fun s => ⟨_, heH_0 B g s⟩) (cf_R_r _ _ _ _) dX3_run_16 ?_
    refine s_iload_n C rfl dX3_run_19 ?_
    refine s_iconst C (by decide) dX3_run_20 ?_
    refine s_callV C (fr_H_C6 B g) (k_X3_runSum B g 6) gX3_run_X3_runSum rfl (by decide +kernel) ⟨rfl, rfl⟩ (by decide) rfl (fun s => ⟨_, heH_0 B g s⟩) (cf_RRII_r _ _ _ _ _) dX3_run_21 ?_
    exact s_iret C R dX3_run_24
  · refine s_aload_n C rfl dX3_run_7 ?_
    refine s_bipush C (by decide) dX3_run_8 ?_
    refine s_callV C (fr_H_H B g) (k_X3_refuse B g) gX3_run_X3_refuse rfl (by decide +kernel) ⟨rfl, rfl⟩ (by decide) rfl (fun s => ⟨_, heH_0 B g s⟩) (cf_RI_r _ _ _ _) dX3_run_10 ?_
    exact s_iret C R dX3_run_13
theorem k_X3_run (B : Bx) (g : Nat → Nat) : MtF (gx B) yX3_run wsX3_run (rmD 7) (encH B g) (F_X3_run g) := by
  refine cf_RI_i (fun l S r hy => Mt.of (by decide) rfl (Nat.le_of_ble_eq_true rfl) rfl (fun X C R => s_X3_run_0 B g C R) ?_)
  have hy' : ∃ a, a < 1000 ∧ tYr (hNow S) = nI a := hy
  simp only [wIload, wAload, wLload, wK, wB, wDv, wU, wLB, wLU, wLS, wL2i, wLcmp, wIf1, wIf2, wKeep, wInc, wIst, wAst, wLst, wDup, wPop, wDup2, wGet, wPut, wPutZ, wIald, wLald, wIast, wLast, wLen, wRetI, wRetZ, wRetL, wRetA, wRetV, wM1, wM2, wCpy, wTab, tabW, nth, stL, stL2, dropL, keepL, mkL, padL, restOK, restOKn, tl_some, tl_none, id_eq, eq_self, true_and, and_true, bk_X3_run_0, F_X3_isRule, F_X3_mindOfNow, F_X3_refuse, F_X3_runSum, cf_I_e, cf_RI_e, cf_RRII_e, cf_R_e, b2i_eq0, true_or, or_true, hC_mind1, hC_mind2, hC_mind3, hC_mind4, hC_mind6, hCp1, hCp2, hCp3, hCp4, hCp5, tCopy_yr, decide_eq_false_iff_not]
  have e : hRun S r 0 = runF (hRo S) (rowN (hRl S)) r 0 (tCopy (hMind S) (hNow S)) := rfl
  simp only [← e]
  repeat' first | refine And.intro ?_ ?_ | intro _
  all_goals grind [r_run]
def r_without (S : HS) (r : Int32) : Int32 × HS := if 0 ≤ r ∧ r ≤ 5 then (tHLF (hRun S r 0).2.2 (tYr (hNow S)), hsMind S (hRun S r 0).2.2) else (-2, hRef S (-2))
def F_X3_without (g : Nat → Nat) : CF HS := cf_RI (g 0) (fun S _ => hYr S) (fun S p => some (.int (r_without S p).1)) (fun S p => (r_without S p).2)
theorem inw_X3_without_X2 : ∀ w ∈ u_ws RX2 TX2 8, w ∈ wsX3_without := by decide +kernel
theorem inw_X3_without_X3 : ∀ w ∈ u_ws RX3 TX3 9, w ∈ wsX3_without := by decide +kernel
def bk_X3_without_0 (g : Nat → Nat) (Post : Option Value → HS → Prop)  (L : Lc) (st : List Value) (s : HS) : Prop :=
  (wIload 1 <| wCallR 1 (F_X3_isRule) (fun _ => ()) (fun s _ => s) <| wIf1 (fun x => x = 0) (wAload 0 <| wK (.int (-2)) <| wCallR 2 (F_X3_refuse g) id (fun _ u => u) <| wRetI Post) (wAload 0 <| wAload 0 <| wCallR 1 (F_X3_mindOfNow g) id (fun _ u => u) <| wIload 1 <| wK (.int 0) <| wCallR 4 (F_X3_runSum g 6) hCMind hsCMind <| wPop <| wAload 0 <| wGet (g 0) (fun _ => .ref (g 6)) <| wAload 0 <| wGet (g 0) (fun _ => .ref (g 1)) <| wGet (g 1) (fun s => .int (hNowYr s)) <| wCallR 2 (F_X2_handsLeftFrom g 6) hMind hsMind <| wRetI Post)) L st s
set_option maxRecDepth 20000 in
theorem s_X3_without_0 {X : Cx} (B : Bx) (g : Nat → Nat) {Post : Option Value → HS → Prop} (C : OkX X (gx B) cX3_without 2 wsX3_without RX3 (rmD 7)) (R : RtX X (gx B) (some .int) (encH B g) Post)  : Snd X (gx B) 2 (encH B g) 0 (bk_X3_without_0 g Post ) := by
  unfold bk_X3_without_0
  refine s_iload_n C rfl dX3_without_0 ?_
  refine s_callS C (fr_H_E B g) (k_X3_isRule B) gX3_without_X3_isRule rfl (by decide +kernel) ⟨rfl, rfl⟩ (by decide) (cf_I_r _ _ _) dX3_without_1 ?_
  refine s_if_ne C (tgt := 14) (by decide) dX3_without_4 ?_ ?_
  · refine s_aload_n C rfl dX3_without_14 ?_
    refine s_aload_n C rfl dX3_without_15 ?_
    refine s_callV C (fr_H_H B g) (k_X3_mindOfNow B g) gX3_without_X3_mindOfNow rfl (by decide +kernel) ⟨rfl, rfl⟩ (by decide) rfl (fun s => ⟨_, heH_0 B g s⟩) (cf_R_r _ _ _ _) dX3_without_16 ?_
    refine s_iload_n C rfl dX3_without_19 ?_
    refine s_iconst C (by decide) dX3_without_20 ?_
    refine s_callV C (fr_H_C6 B g) (k_X3_runSum B g 6) gX3_without_X3_runSum rfl (by decide +kernel) ⟨rfl, rfl⟩ (by decide) rfl (fun s => ⟨_, heH_0 B g s⟩) (cf_RRII_r _ _ _ _ _) dX3_without_21 ?_
    refine s_pop C dX3_without_24 ?_
    refine s_aload_n C rfl dX3_without_25 ?_
    refine s_get C inw_X3_without_X3 rfl (k := 1) (by decide) (by decide +kernel) (heH_0 B g) (fun _ => rfl) dX3_without_26 ?_
    refine s_aload_n C rfl dX3_without_29 ?_
    refine s_get C inw_X3_without_X3 rfl (k := 0) (by decide) (by decide +kernel) (heH_0 B g) (fun _ => rfl) dX3_without_30 ?_
    refine s_get C inw_X3_without_X2 rfl (k := 7) (by decide) (by decide +kernel) (heH_1 B g) (fun _ => rfl) dX3_without_33 ?_
    refine s_callV C (fr_H_T6 B g) (k_X2_handsLeftFrom B g 6) gX3_without_X2_handsLeftFrom rfl (by decide +kernel) ⟨rfl, rfl⟩ (by decide) rfl (fun s => ⟨_, heH_6 B g s⟩) (cf_RI_r _ _ _ _) dX3_without_36 ?_
    exact s_iret C R dX3_without_39
  · refine s_aload_n C rfl dX3_without_7 ?_
    refine s_bipush C (by decide) dX3_without_8 ?_
    refine s_callV C (fr_H_H B g) (k_X3_refuse B g) gX3_without_X3_refuse rfl (by decide +kernel) ⟨rfl, rfl⟩ (by decide) rfl (fun s => ⟨_, heH_0 B g s⟩) (cf_RI_r _ _ _ _) dX3_without_10 ?_
    exact s_iret C R dX3_without_13
theorem k_X3_without (B : Bx) (g : Nat → Nat) : MtF (gx B) yX3_without wsX3_without (rmD 7) (encH B g) (F_X3_without g) := by
  refine cf_RI_i (fun l S r hy => Mt.of (by decide) rfl (Nat.le_of_ble_eq_true rfl) rfl (fun X C R => s_X3_without_0 B g C R) ?_)
  have hy' : ∃ a, a < 1000 ∧ tYr (hNow S) = nI a := hy
  simp only [wIload, wAload, wLload, wK, wB, wDv, wU, wLB, wLU, wLS, wL2i, wLcmp, wIf1, wIf2, wKeep, wInc, wIst, wAst, wLst, wDup, wPop, wDup2, wGet, wPut, wPutZ, wIald, wLald, wIast, wLast, wLen, wRetI, wRetZ, wRetL, wRetA, wRetV, wM1, wM2, wCpy, wTab, tabW, nth, stL, stL2, dropL, keepL, mkL, padL, restOK, restOKn, tl_some, tl_none, id_eq, eq_self, true_and, and_true, bk_X3_without_0, F_X2_handsLeftFrom, F_X3_isRule, F_X3_mindOfNow, F_X3_refuse, F_X3_runSum, cf_I_e, cf_RI_e, cf_RRII_e, cf_R_e, b2i_eq0, true_or, or_true, hC_mind1, hC_mind2, hC_mind3, hC_mind4, hC_mind6, hCp1, hCp2, hCp3, hCp4, hCp5, tCopy_yr, decide_eq_false_iff_not, hNowYr, hg_Now_Now, hg_Now_Mind, hg_Now_Image, hg_Now_Im, hg_Now_S, hg_Now_L, hg_Now_Ro, hg_Now_Rl, hg_Now_Re, hg_Mind_Now, hg_Mind_Mind, hg_Mind_Image, hg_Mind_Im, hg_Mind_S, hg_Mind_L, hg_Mind_Ro, hg_Mind_Rl, hg_Mind_Re, hg_Image_Now, hg_Image_Mind, hg_Image_Image, hg_Image_Im, hg_Image_S, hg_Image_L, hg_Image_Ro, hg_Image_Rl, hg_Image_Re, hg_Im_Now, hg_Im_Mind, hg_Im_Image, hg_Im_Im, hg_Im_S, hg_Im_L, hg_Im_Ro, hg_Im_Rl, hg_Im_Re, hg_S_Now, hg_S_Mind, hg_S_Image, hg_S_Im, hg_S_S, hg_S_L, hg_S_Ro, hg_S_Rl, hg_S_Re, hg_L_Now, hg_L_Mind, hg_L_Image, hg_L_Im, hg_L_S, hg_L_L, hg_L_Ro, hg_L_Rl, hg_L_Re, hg_Ro_Now, hg_Ro_Mind, hg_Ro_Image, hg_Ro_Im, hg_Ro_S, hg_Ro_L, hg_Ro_Ro, hg_Ro_Rl, hg_Ro_Re, hg_Rl_Now, hg_Rl_Mind, hg_Rl_Image, hg_Rl_Im, hg_Rl_S, hg_Rl_L, hg_Rl_Ro, hg_Rl_Rl, hg_Rl_Re, hg_Re_Now, hg_Re_Mind, hg_Re_Image, hg_Re_Im, hg_Re_S, hg_Re_L, hg_Re_Ro, hg_Re_Rl, hg_Re_Re, he_Now, ho_Now, he_Mind, ho_Mind, he_Image, ho_Image, he_Im, ho_Im, he_S, ho_S, he_L, ho_L, he_Ro, ho_Ro, he_Rl, ho_Rl, he_Re, ho_Re]
  have e : hRun S r 0 = runF (hRo S) (rowN (hRl S)) r 0 (tCopy (hMind S) (hNow S)) := rfl
  simp only [← e]
  repeat' first | refine And.intro ?_ ?_ | intro _
  all_goals grind [r_without]
def r_strangers (S : HS) (r : Int32) : Int32 × HS := if 0 ≤ r ∧ r ≤ 5 then ((hRun S r (tSet (hNow S) 3)).1, hsMind S (hRun S r (tSet (hNow S) 3)).2.2) else (-2, hRef S (-2))
def F_X3_strangers (g : Nat → Nat) : CF HS := cf_RI (g 0) (fun S _ => hYr S) (fun S p => some (.int (r_strangers S p).1)) (fun S p => (r_strangers S p).2)
theorem inw_X3_strangers_X2 : ∀ w ∈ u_ws RX2 TX2 8, w ∈ wsX3_strangers := by decide +kernel
theorem inw_X3_strangers_X3 : ∀ w ∈ u_ws RX3 TX3 9, w ∈ wsX3_strangers := by decide +kernel
def bk_X3_strangers_0 (g : Nat → Nat) (Post : Option Value → HS → Prop)  (L : Lc) (st : List Value) (s : HS) : Prop :=
  (wIload 1 <| wCallR 1 (F_X3_isRule) (fun _ => ()) (fun s _ => s) <| wIf1 (fun x => x = 0) (wAload 0 <| wK (.int (-2)) <| wCallR 2 (F_X3_refuse g) id (fun _ u => u) <| wRetI Post) (wAload 0 <| wAload 0 <| wCallR 1 (F_X3_mindOfNow g) id (fun _ u => u) <| wIload 1 <| wAload 0 <| wGet (g 0) (fun _ => .ref (g 1)) <| wK (.int 3) <| wCallR 2 (F_X2_setting g 1) hNow hsNow <| wCallR 4 (F_X3_runSum g 6) hCMind hsCMind <| wRetI Post)) L st s
set_option maxRecDepth 20000 in
theorem s_X3_strangers_0 {X : Cx} (B : Bx) (g : Nat → Nat) {Post : Option Value → HS → Prop} (C : OkX X (gx B) cX3_strangers 2 wsX3_strangers RX3 (rmD 7)) (R : RtX X (gx B) (some .int) (encH B g) Post)  : Snd X (gx B) 2 (encH B g) 0 (bk_X3_strangers_0 g Post ) := by
  unfold bk_X3_strangers_0
  refine s_iload_n C rfl dX3_strangers_0 ?_
  refine s_callS C (fr_H_E B g) (k_X3_isRule B) gX3_strangers_X3_isRule rfl (by decide +kernel) ⟨rfl, rfl⟩ (by decide) (cf_I_r _ _ _) dX3_strangers_1 ?_
  refine s_if_ne C (tgt := 14) (by decide) dX3_strangers_4 ?_ ?_
  · refine s_aload_n C rfl dX3_strangers_14 ?_
    refine s_aload_n C rfl dX3_strangers_15 ?_
    refine s_callV C (fr_H_H B g) (k_X3_mindOfNow B g) gX3_strangers_X3_mindOfNow rfl (by decide +kernel) ⟨rfl, rfl⟩ (by decide) rfl (fun s => ⟨_, heH_0 B g s⟩) (cf_R_r _ _ _ _) dX3_strangers_16 ?_
    refine s_iload_n C rfl dX3_strangers_19 ?_
    refine s_aload_n C rfl dX3_strangers_20 ?_
    refine s_get C inw_X3_strangers_X3 rfl (k := 0) (by decide) (by decide +kernel) (heH_0 B g) (fun _ => rfl) dX3_strangers_21 ?_
    refine s_iconst C (by decide) dX3_strangers_24 ?_
    refine s_callV C (fr_H_T1 B g) (k_X2_setting B g 1) gX3_strangers_X2_setting rfl (by decide +kernel) ⟨rfl, rfl⟩ (by decide) rfl (fun s => ⟨_, heH_1 B g s⟩) (cf_RI_r _ _ _ _) dX3_strangers_25 ?_
    refine s_callV C (fr_H_C6 B g) (k_X3_runSum B g 6) gX3_strangers_X3_runSum rfl (by decide +kernel) ⟨rfl, rfl⟩ (by decide) rfl (fun s => ⟨_, heH_0 B g s⟩) (cf_RRII_r _ _ _ _ _) dX3_strangers_28 ?_
    exact s_iret C R dX3_strangers_31
  · refine s_aload_n C rfl dX3_strangers_7 ?_
    refine s_bipush C (by decide) dX3_strangers_8 ?_
    refine s_callV C (fr_H_H B g) (k_X3_refuse B g) gX3_strangers_X3_refuse rfl (by decide +kernel) ⟨rfl, rfl⟩ (by decide) rfl (fun s => ⟨_, heH_0 B g s⟩) (cf_RI_r _ _ _ _) dX3_strangers_10 ?_
    exact s_iret C R dX3_strangers_13
theorem k_X3_strangers (B : Bx) (g : Nat → Nat) : MtF (gx B) yX3_strangers wsX3_strangers (rmD 7) (encH B g) (F_X3_strangers g) := by
  refine cf_RI_i (fun l S r hy => Mt.of (by decide) rfl (Nat.le_of_ble_eq_true rfl) rfl (fun X C R => s_X3_strangers_0 B g C R) ?_)
  have hy' : ∃ a, a < 1000 ∧ tYr (hNow S) = nI a := hy
  simp only [wIload, wAload, wLload, wK, wB, wDv, wU, wLB, wLU, wLS, wL2i, wLcmp, wIf1, wIf2, wKeep, wInc, wIst, wAst, wLst, wDup, wPop, wDup2, wGet, wPut, wPutZ, wIald, wLald, wIast, wLast, wLen, wRetI, wRetZ, wRetL, wRetA, wRetV, wM1, wM2, wCpy, wTab, tabW, nth, stL, stL2, dropL, keepL, mkL, padL, restOK, restOKn, tl_some, tl_none, id_eq, eq_self, true_and, and_true, bk_X3_strangers_0, F_X2_setting, F_X3_isRule, F_X3_mindOfNow, F_X3_refuse, F_X3_runSum, cf_I_e, cf_RI_e, cf_RRII_e, cf_R_e, b2i_eq0, true_or, or_true, hC_mind1, hC_mind2, hC_mind3, hC_mind4, hC_mind6, hCp1, hCp2, hCp3, hCp4, hCp5, hCp6, tCopy_yr, decide_eq_false_iff_not, hg_Now_Now, hg_Now_Mind, hg_Now_Image, hg_Now_Im, hg_Now_S, hg_Now_L, hg_Now_Ro, hg_Now_Rl, hg_Now_Re, hg_Mind_Now, hg_Mind_Mind, hg_Mind_Image, hg_Mind_Im, hg_Mind_S, hg_Mind_L, hg_Mind_Ro, hg_Mind_Rl, hg_Mind_Re, hg_Image_Now, hg_Image_Mind, hg_Image_Image, hg_Image_Im, hg_Image_S, hg_Image_L, hg_Image_Ro, hg_Image_Rl, hg_Image_Re, hg_Im_Now, hg_Im_Mind, hg_Im_Image, hg_Im_Im, hg_Im_S, hg_Im_L, hg_Im_Ro, hg_Im_Rl, hg_Im_Re, hg_S_Now, hg_S_Mind, hg_S_Image, hg_S_Im, hg_S_S, hg_S_L, hg_S_Ro, hg_S_Rl, hg_S_Re, hg_L_Now, hg_L_Mind, hg_L_Image, hg_L_Im, hg_L_S, hg_L_L, hg_L_Ro, hg_L_Rl, hg_L_Re, hg_Ro_Now, hg_Ro_Mind, hg_Ro_Image, hg_Ro_Im, hg_Ro_S, hg_Ro_L, hg_Ro_Ro, hg_Ro_Rl, hg_Ro_Re, hg_Rl_Now, hg_Rl_Mind, hg_Rl_Image, hg_Rl_Im, hg_Rl_S, hg_Rl_L, hg_Rl_Ro, hg_Rl_Rl, hg_Rl_Re, hg_Re_Now, hg_Re_Mind, hg_Re_Image, hg_Re_Im, hg_Re_S, hg_Re_L, hg_Re_Ro, hg_Re_Rl, hg_Re_Re, he_Now, ho_Now, he_Mind, ho_Mind, he_Image, ho_Image, he_Im, ho_Im, he_S, ho_S, he_L, ho_L, he_Ro, ho_Ro, he_Rl, ho_Rl, he_Re, ho_Re]
  have e : hRun S r (tSet (hNow S) 3) = runF (hRo S) (rowN (hRl S)) r (tSet (hNow S) 3) (tCopy (hMind S) (hNow S)) := rfl
  simp only [← e]
  repeat' first | refine And.intro ?_ ?_ | intro _
  all_goals grind [r_strangers]
def hLawRun (S : HS) (w r : Int32) : RS := runF (hRo S) (rowN (hRl S)) r 0 (tSettle (tCopy (hMind S) (hNow S)) 0 w)
theorem tYr_settle (T : TS) (k v : Int32) : tYr (tSettle T k v) = tYr T := by unfold tSettle; split <;> rfl
def r_byLaw (S : HS) (w r : Int32) : Int32 × HS := if (0 ≤ w ∧ w ≤ 3) ∧ 0 ≤ r ∧ r ≤ 5 then ((hLawRun S w r).1, hsMind S (hLawRun S w r).2.2) else (-2, hRef S (-2))
def F_X3_byLaw (g : Nat → Nat) : CF HS := cf_RII (g 0) (fun S _ _ => hYr S) (fun S w p => some (.int (r_byLaw S w p).1)) (fun S w p => (r_byLaw S w p).2)
theorem inw_X3_byLaw_X2 : ∀ w ∈ u_ws RX2 TX2 8, w ∈ wsX3_byLaw := by decide +kernel
theorem inw_X3_byLaw_X3 : ∀ w ∈ u_ws RX3 TX3 9, w ∈ wsX3_byLaw := by decide +kernel
def bk_X3_byLaw_14 (g : Nat → Nat) (Post : Option Value → HS → Prop)  (L : Lc) (st : List Value) (s : HS) : Prop :=
  (wAload 0 <| wK (.int (-2)) <| wCallR 2 (F_X3_refuse g) id (fun _ u => u) <| wRetI Post) L st s
set_option maxRecDepth 20000 in
theorem s_X3_byLaw_14 {X : Cx} (B : Bx) (g : Nat → Nat) {Post : Option Value → HS → Prop} (C : OkX X (gx B) cX3_byLaw 3 wsX3_byLaw RX3 (rmD 7)) (R : RtX X (gx B) (some .int) (encH B g) Post)  : Snd X (gx B) 3 (encH B g) 14 (bk_X3_byLaw_14 g Post ) := by
  unfold bk_X3_byLaw_14
  refine s_aload_n C rfl dX3_byLaw_14 ?_
  refine s_bipush C (by decide) dX3_byLaw_15 ?_
  refine s_callV C (fr_H_H B g) (k_X3_refuse B g) gX3_byLaw_X3_refuse rfl (by decide +kernel) ⟨rfl, rfl⟩ (by decide) rfl (fun s => ⟨_, heH_0 B g s⟩) (cf_RI_r _ _ _ _) dX3_byLaw_17 ?_
  exact s_iret C R dX3_byLaw_20
def bk_X3_byLaw_0 (g : Nat → Nat) (Post : Option Value → HS → Prop)  (L : Lc) (st : List Value) (s : HS) : Prop :=
  (wIload 1 <| wCallR 1 (F_X3_isLaw) (fun _ => ()) (fun s _ => s) <| wIf1 (fun x => x = 0) (bk_X3_byLaw_14 g Post ) (wIload 2 <| wCallR 1 (F_X3_isRule) (fun _ => ()) (fun s _ => s) <| wIf1 (fun x => x = 0) (bk_X3_byLaw_14 g Post ) (wAload 0 <| wGet (g 0) (fun _ => .ref (g 6)) <| wAload 0 <| wGet (g 0) (fun _ => .ref (g 1)) <| wCallR 2 (F_X2_copyFrom g 6 1) hDMindNow hsDMindNow <| wAload 0 <| wGet (g 0) (fun _ => .ref (g 6)) <| wK (.int 0) <| wIload 1 <| wCallR 3 (F_X2_settle g 6) hMind hsMind <| wAload 0 <| wAload 0 <| wGet (g 0) (fun _ => .ref (g 6)) <| wIload 2 <| wK (.int 0) <| wCallR 4 (F_X3_runSum g 6) hCMind hsCMind <| wRetI Post))) L st s
set_option maxRecDepth 20000 in
theorem s_X3_byLaw_0 {X : Cx} (B : Bx) (g : Nat → Nat) {Post : Option Value → HS → Prop} (C : OkX X (gx B) cX3_byLaw 3 wsX3_byLaw RX3 (rmD 7)) (R : RtX X (gx B) (some .int) (encH B g) Post)  : Snd X (gx B) 3 (encH B g) 0 (bk_X3_byLaw_0 g Post ) := by
  unfold bk_X3_byLaw_0
  refine s_iload_n C rfl dX3_byLaw_0 ?_
  refine s_callS C (fr_H_E B g) (k_X3_isLaw B) gX3_byLaw_X3_isLaw rfl (by decide +kernel) ⟨rfl, rfl⟩ (by decide) (cf_I_r _ _ _) dX3_byLaw_1 ?_
  refine s_if_eq C (tgt := 14) (by decide) dX3_byLaw_4 ?_ ?_
  · exact s_X3_byLaw_14 B g C R 
  · refine s_iload_n C rfl dX3_byLaw_7 ?_
    refine s_callS C (fr_H_E B g) (k_X3_isRule B) gX3_byLaw_X3_isRule rfl (by decide +kernel) ⟨rfl, rfl⟩ (by decide) (cf_I_r _ _ _) dX3_byLaw_8 ?_
    refine s_if_ne C (tgt := 21) (by decide) dX3_byLaw_11 ?_ ?_
    · refine s_aload_n C rfl dX3_byLaw_21 ?_
      refine s_get C inw_X3_byLaw_X3 rfl (k := 1) (by decide) (by decide +kernel) (heH_0 B g) (fun _ => rfl) dX3_byLaw_22 ?_
      refine s_aload_n C rfl dX3_byLaw_25 ?_
      refine s_get C inw_X3_byLaw_X3 rfl (k := 0) (by decide) (by decide +kernel) (heH_0 B g) (fun _ => rfl) dX3_byLaw_26 ?_
      refine s_callV C (fr_H_D6_1 B g) (k_X2_copyFrom B g 6 1) gX3_byLaw_X2_copyFrom rfl (by decide +kernel) ⟨rfl, rfl⟩ (by decide) rfl (fun s => ⟨_, heH_6 B g s⟩) (cf_RR_r _ _ _ _ _) dX3_byLaw_29 ?_
      refine s_aload_n C rfl dX3_byLaw_32 ?_
      refine s_get C inw_X3_byLaw_X3 rfl (k := 1) (by decide) (by decide +kernel) (heH_0 B g) (fun _ => rfl) dX3_byLaw_33 ?_
      refine s_iconst C (by decide) dX3_byLaw_36 ?_
      refine s_iload_n C rfl dX3_byLaw_37 ?_
      refine s_callV C (fr_H_T6 B g) (k_X2_settle B g 6) gX3_byLaw_X2_settle rfl (by decide +kernel) ⟨rfl, rfl⟩ (by decide) rfl (fun s => ⟨_, heH_6 B g s⟩) (cf_RII_r _ _ _ _) dX3_byLaw_38 ?_
      refine s_aload_n C rfl dX3_byLaw_41 ?_
      refine s_aload_n C rfl dX3_byLaw_42 ?_
      refine s_get C inw_X3_byLaw_X3 rfl (k := 1) (by decide) (by decide +kernel) (heH_0 B g) (fun _ => rfl) dX3_byLaw_43 ?_
      refine s_iload_n C rfl dX3_byLaw_46 ?_
      refine s_iconst C (by decide) dX3_byLaw_47 ?_
      refine s_callV C (fr_H_C6 B g) (k_X3_runSum B g 6) gX3_byLaw_X3_runSum rfl (by decide +kernel) ⟨rfl, rfl⟩ (by decide) rfl (fun s => ⟨_, heH_0 B g s⟩) (cf_RRII_r _ _ _ _ _) dX3_byLaw_48 ?_
      exact s_iret C R dX3_byLaw_51
    · exact s_X3_byLaw_14 B g C R 
theorem hD_1 (S : HS) : dA (hDMindNow S) = hMind S := rfl
theorem hD_2 (S : HS) : dO (hDMindNow S) = hNow S := rfl
theorem hD_3 (S : HS) (T : TS) : hsDMindNow S (T, hNow S) = hsMind S T := rfl
theorem k_X3_byLaw (B : Bx) (g : Nat → Nat) : MtF (gx B) yX3_byLaw wsX3_byLaw (rmD 7) (encH B g) (F_X3_byLaw g) := by
  refine cf_RII_i (fun l S w r hy => Mt.of (by decide) rfl (Nat.le_of_ble_eq_true rfl) rfl (fun X C R => s_X3_byLaw_0 B g C R) ?_)
  have hy' : ∃ a, a < 1000 ∧ tYr (hNow S) = nI a := hy
  simp only [wIload, wAload, wLload, wK, wB, wDv, wU, wLB, wLU, wLS, wL2i, wLcmp, wIf1, wIf2, wKeep, wInc, wIst, wAst, wLst, wDup, wPop, wDup2, wGet, wPut, wPutZ, wIald, wLald, wIast, wLast, wLen, wRetI, wRetZ, wRetL, wRetA, wRetV, wM1, wM2, wCpy, wTab, tabW, nth, stL, stL2, dropL, keepL, mkL, padL, restOK, restOKn, tl_some, tl_none, id_eq, eq_self, true_and, and_true, bk_X3_byLaw_14, bk_X3_byLaw_0, F_X2_copyFrom, F_X2_settle, F_X3_isLaw, F_X3_isRule, F_X3_refuse, F_X3_runSum, cf_I_e, cf_RII_e, cf_RI_e, cf_RRII_e, cf_RR_e, b2i_eq0, true_or, or_true, hC_mind1, hC_mind2, hC_mind3, hC_mind4, hC_mind6, tCopy_yr, tYr_settle, hD_1, hD_2, hD_3, decide_eq_false_iff_not, hg_Now_Now, hg_Now_Mind, hg_Now_Image, hg_Now_Im, hg_Now_S, hg_Now_L, hg_Now_Ro, hg_Now_Rl, hg_Now_Re, hg_Mind_Now, hg_Mind_Mind, hg_Mind_Image, hg_Mind_Im, hg_Mind_S, hg_Mind_L, hg_Mind_Ro, hg_Mind_Rl, hg_Mind_Re, hg_Image_Now, hg_Image_Mind, hg_Image_Image, hg_Image_Im, hg_Image_S, hg_Image_L, hg_Image_Ro, hg_Image_Rl, hg_Image_Re, hg_Im_Now, hg_Im_Mind, hg_Im_Image, hg_Im_Im, hg_Im_S, hg_Im_L, hg_Im_Ro, hg_Im_Rl, hg_Im_Re, hg_S_Now, hg_S_Mind, hg_S_Image, hg_S_Im, hg_S_S, hg_S_L, hg_S_Ro, hg_S_Rl, hg_S_Re, hg_L_Now, hg_L_Mind, hg_L_Image, hg_L_Im, hg_L_S, hg_L_L, hg_L_Ro, hg_L_Rl, hg_L_Re, hg_Ro_Now, hg_Ro_Mind, hg_Ro_Image, hg_Ro_Im, hg_Ro_S, hg_Ro_L, hg_Ro_Ro, hg_Ro_Rl, hg_Ro_Re, hg_Rl_Now, hg_Rl_Mind, hg_Rl_Image, hg_Rl_Im, hg_Rl_S, hg_Rl_L, hg_Rl_Ro, hg_Rl_Rl, hg_Rl_Re, hg_Re_Now, hg_Re_Mind, hg_Re_Image, hg_Re_Im, hg_Re_S, hg_Re_L, hg_Re_Ro, hg_Re_Rl, hg_Re_Re, he_Now, ho_Now, he_Mind, ho_Mind, he_Image, ho_Image, he_Im, ho_Im, he_S, ho_S, he_L, ho_L, he_Ro, ho_Ro, he_Rl, ho_Rl, he_Re, ho_Re]
  have e : hLawRun S w r = runF (hRo S) (rowN (hRl S)) r 0 (tSettle (tCopy (hMind S) (hNow S)) 0 w) := rfl
  simp only [← e]
  repeat' first | refine And.intro ?_ ?_ | intro _
  all_goals grind [r_byLaw]
def r_many (S : HS) (w n : Int32) : Int32 × HS := if 0 ≤ w ∧ w ≤ 3 then (if n < 1 then (-4, hRef S (-4)) else if 999 < n then (-6, hRef S (-6)) else if w = 1 then (n + 1, S) else (2 * n + 1, S)) else (-2, hRef S (-2))
def F_X3_many (g : Nat → Nat) : CF HS := cf_RII (g 0) (fun _ _ _ => True) (fun S p w => some (.int (r_many S p w).1)) (fun S p w => (r_many S p w).2)
theorem inw_X3_many_X3 : ∀ w ∈ u_ws RX3 TX3 9, w ∈ wsX3_many := by decide +kernel
def bk_X3_many_56 (g : Nat → Nat) (Post : Option Value → HS → Prop)  (L : Lc) (st : List Value) (s : HS) : Prop :=
  (wRetI Post) L st s
set_option maxRecDepth 20000 in
theorem s_X3_many_56 {X : Cx} (B : Bx) (g : Nat → Nat) {Post : Option Value → HS → Prop} (C : OkX X (gx B) cX3_many 3 wsX3_many RX3 (rmD 1)) (R : RtX X (gx B) (some .int) (encH B g) Post)  : Snd X (gx B) 3 (encH B g) 56 (bk_X3_many_56 g Post ) := by
  unfold bk_X3_many_56
  exact s_iret C R dX3_many_56
def bk_X3_many_0 (g : Nat → Nat) (Post : Option Value → HS → Prop)  (L : Lc) (st : List Value) (s : HS) : Prop :=
  (wIload 1 <| wCallR 1 (F_X3_isLaw) (fun _ => ()) (fun s _ => s) <| wIf1 (fun x => x = 0) (wAload 0 <| wK (.int (-2)) <| wCallR 2 (F_X3_refuse g) id (fun _ u => u) <| wRetI Post) (wIload 2 <| wK (.int 1) <| wIf2 (fun x y => y ≤ x) (wIload 2 <| wK (.int 999) <| wIf2 (fun x y => x ≤ y) (wIload 1 <| wK (.int 1) <| wIf2 (fun x y => x = y) (wIload 2 <| wK (.int 1) <| wB (fun x y => x + y) <| bk_X3_many_56 g Post ) (wK (.int 2) <| wIload 2 <| wB (fun x y => x * y) <| wK (.int 1) <| wB (fun x y => x + y) <| bk_X3_many_56 g Post )) (wAload 0 <| wK (.int (-6)) <| wCallR 2 (F_X3_refuse g) id (fun _ u => u) <| wRetI Post)) (wAload 0 <| wK (.int (-4)) <| wCallR 2 (F_X3_refuse g) id (fun _ u => u) <| wRetI Post))) L st s
set_option maxRecDepth 20000 in
theorem s_X3_many_0 {X : Cx} (B : Bx) (g : Nat → Nat) {Post : Option Value → HS → Prop} (C : OkX X (gx B) cX3_many 3 wsX3_many RX3 (rmD 1)) (R : RtX X (gx B) (some .int) (encH B g) Post)  : Snd X (gx B) 3 (encH B g) 0 (bk_X3_many_0 g Post ) := by
  unfold bk_X3_many_0
  refine s_iload_n C rfl dX3_many_0 ?_
  refine s_callS C (fr_H_E B g) (k_X3_isLaw B) gX3_many_X3_isLaw rfl (by decide +kernel) ⟨rfl, rfl⟩ (by decide) (cf_I_r _ _ _) dX3_many_1 ?_
  refine s_if_ne C (tgt := 14) (by decide) dX3_many_4 ?_ ?_
  · refine s_iload_n C rfl dX3_many_14 ?_
    refine s_iconst C (by decide) dX3_many_15 ?_
    refine s_icmp_ge C (tgt := 26) (by decide) dX3_many_16 ?_ ?_
    · refine s_iload_n C rfl dX3_many_26 ?_
      refine s_sipush C (by decide) dX3_many_27 ?_
      refine s_icmp_le C (tgt := 40) (by decide) dX3_many_30 ?_ ?_
      · refine s_iload_n C rfl dX3_many_40 ?_
        refine s_iconst C (by decide) dX3_many_41 ?_
        refine s_icmp_ne C (tgt := 51) (by decide) dX3_many_42 ?_ ?_
        · refine s_iconst C (by decide) dX3_many_51 ?_
          refine s_iload_n C rfl dX3_many_52 ?_
          refine s_imul C dX3_many_53 ?_
          refine s_iconst C (by decide) dX3_many_54 ?_
          refine s_iadd C dX3_many_55 ?_
          exact s_X3_many_56 B g C R 
        · refine s_iload_n C rfl dX3_many_45 ?_
          refine s_iconst C (by decide) dX3_many_46 ?_
          refine s_iadd C dX3_many_47 ?_
          refine s_goto C (tgt := 56) (by decide) dX3_many_48 ?_
          exact s_X3_many_56 B g C R 
      · refine s_aload_n C rfl dX3_many_33 ?_
        refine s_bipush C (by decide) dX3_many_34 ?_
        refine s_callV C (fr_H_H B g) (k_X3_refuse B g) gX3_many_X3_refuse rfl (by decide +kernel) ⟨rfl, rfl⟩ (by decide) rfl (fun s => ⟨_, heH_0 B g s⟩) (cf_RI_r _ _ _ _) dX3_many_36 ?_
        exact s_iret C R dX3_many_39
    · refine s_aload_n C rfl dX3_many_19 ?_
      refine s_bipush C (by decide) dX3_many_20 ?_
      refine s_callV C (fr_H_H B g) (k_X3_refuse B g) gX3_many_X3_refuse rfl (by decide +kernel) ⟨rfl, rfl⟩ (by decide) rfl (fun s => ⟨_, heH_0 B g s⟩) (cf_RI_r _ _ _ _) dX3_many_22 ?_
      exact s_iret C R dX3_many_25
  · refine s_aload_n C rfl dX3_many_7 ?_
    refine s_bipush C (by decide) dX3_many_8 ?_
    refine s_callV C (fr_H_H B g) (k_X3_refuse B g) gX3_many_X3_refuse rfl (by decide +kernel) ⟨rfl, rfl⟩ (by decide) rfl (fun s => ⟨_, heH_0 B g s⟩) (cf_RI_r _ _ _ _) dX3_many_10 ?_
    exact s_iret C R dX3_many_13
theorem k_X3_many (B : Bx) (g : Nat → Nat) : MtF (gx B) yX3_many wsX3_many (rmD 1) (encH B g) (F_X3_many g) := by
  refine cf_RII_i (fun l S p n _ => Mt.of (by decide) rfl (Nat.le_of_ble_eq_true rfl) rfl (fun X C R => s_X3_many_0 B g C R) ?_)
  simp only [wIload, wAload, wLload, wK, wB, wDv, wU, wLB, wLU, wLS, wL2i, wLcmp, wIf1, wIf2, wKeep, wInc, wIst, wAst, wLst, wDup, wPop, wDup2, wGet, wPut, wPutZ, wIald, wLald, wIast, wLast, wLen, wRetI, wRetZ, wRetL, wRetA, wRetV, wM1, wM2, wCpy, wTab, tabW, nth, stL, stL2, dropL, keepL, mkL, padL, restOK, restOKn, tl_some, tl_none, id_eq, eq_self, true_and, and_true, bk_X3_many_56, bk_X3_many_0, F_X3_isLaw, F_X3_refuse, cf_I_e, cf_RI_e, b2i_eq0, true_or, or_true, decide_eq_false_iff_not]
  repeat' first | refine And.intro ?_ ?_ | intro _
  all_goals grind [r_many]
def r_move (S : HS) (p v : Int32) : Int32 × HS := if tHasP (hNow S) p = false then (-1, hRef S (-1)) else if v < 0 then (-4, hRef S (-4)) else if 99 < v then (-6, hRef S (-6)) else (tOfP (hNow S) p 1, hsNow S (tPutP (hNow S) p 1 v))
def F_X3_move (g : Nat → Nat) : CF HS := cf_RII (g 0) (fun _ _ _ => True) (fun S p w => some (.int (r_move S p w).1)) (fun S p w => (r_move S p w).2)
theorem inw_X3_move_X3 : ∀ w ∈ u_ws RX3 TX3 9, w ∈ wsX3_move := by decide +kernel
def bk_X3_move_0 (g : Nat → Nat) (Post : Option Value → HS → Prop)  (L : Lc) (st : List Value) (s : HS) : Prop :=
  (wAload 0 <| wGet (g 0) (fun _ => .ref (g 1)) <| wIload 1 <| wCallR 2 (F_X2_hasPerson g 1) hNow hsNow <| wIf1 (fun x => x = 0) (wAload 0 <| wK (.int (-1)) <| wCallR 2 (F_X3_refuse g) id (fun _ u => u) <| wRetI Post) (wIload 2 <| wIf1 (fun x => 0 ≤ x) (wIload 2 <| wK (.int 99) <| wIf2 (fun x y => x ≤ y) (wAload 0 <| wGet (g 0) (fun _ => .ref (g 1)) <| wIload 1 <| wK (.int 1) <| wCallR 3 (F_X2_ofPerson g 1) hNow hsNow <| wIst 3 <| wAload 0 <| wGet (g 0) (fun _ => .ref (g 1)) <| wIload 1 <| wK (.int 1) <| wIload 2 <| wCallR 4 (F_X2_putPerson g 1) hNow hsNow <| wIload 3 <| wRetI Post) (wAload 0 <| wK (.int (-6)) <| wCallR 2 (F_X3_refuse g) id (fun _ u => u) <| wRetI Post)) (wAload 0 <| wK (.int (-4)) <| wCallR 2 (F_X3_refuse g) id (fun _ u => u) <| wRetI Post))) L st s
set_option maxRecDepth 20000 in
theorem s_X3_move_0 {X : Cx} (B : Bx) (g : Nat → Nat) {Post : Option Value → HS → Prop} (C : OkX X (gx B) cX3_move 4 wsX3_move RX3 (rmD 1)) (R : RtX X (gx B) (some .int) (encH B g) Post)  : Snd X (gx B) 4 (encH B g) 0 (bk_X3_move_0 g Post ) := by
  unfold bk_X3_move_0
  refine s_aload_n C rfl dX3_move_0 ?_
  refine s_get C inw_X3_move_X3 rfl (k := 0) (by decide) (by decide +kernel) (heH_0 B g) (fun _ => rfl) dX3_move_1 ?_
  refine s_iload_n C rfl dX3_move_4 ?_
  refine s_callV C (fr_H_T1 B g) (k_X2_hasPerson B g 1) gX3_move_X2_hasPerson rfl (by decide +kernel) ⟨rfl, rfl⟩ (by decide) rfl (fun s => ⟨_, heH_1 B g s⟩) (cf_RI_r _ _ _ _) dX3_move_5 ?_
  refine s_if_ne C (tgt := 17) (by decide) dX3_move_8 ?_ ?_
  · refine s_iload_n C rfl dX3_move_17 ?_
    refine s_if_ge C (tgt := 28) (by decide) dX3_move_18 ?_ ?_
    · refine s_iload_n C rfl dX3_move_28 ?_
      refine s_bipush C (by decide) dX3_move_29 ?_
      refine s_icmp_le C (tgt := 41) (by decide) dX3_move_31 ?_ ?_
      · refine s_aload_n C rfl dX3_move_41 ?_
        refine s_get C inw_X3_move_X3 rfl (k := 0) (by decide) (by decide +kernel) (heH_0 B g) (fun _ => rfl) dX3_move_42 ?_
        refine s_iload_n C rfl dX3_move_45 ?_
        refine s_iconst C (by decide) dX3_move_46 ?_
        refine s_callV C (fr_H_T1 B g) (k_X2_ofPerson B g 1) gX3_move_X2_ofPerson rfl (by decide +kernel) ⟨rfl, rfl⟩ (by decide) rfl (fun s => ⟨_, heH_1 B g s⟩) (cf_RII_r _ _ _ _) dX3_move_47 ?_
        refine s_istore_n C rfl (by decide) dX3_move_50 ?_
        refine s_aload_n C rfl dX3_move_51 ?_
        refine s_get C inw_X3_move_X3 rfl (k := 0) (by decide) (by decide +kernel) (heH_0 B g) (fun _ => rfl) dX3_move_52 ?_
        refine s_iload_n C rfl dX3_move_55 ?_
        refine s_iconst C (by decide) dX3_move_56 ?_
        refine s_iload_n C rfl dX3_move_57 ?_
        refine s_callV C (fr_H_T1 B g) (k_X2_putPerson B g 1) gX3_move_X2_putPerson rfl (by decide +kernel) ⟨rfl, rfl⟩ (by decide) rfl (fun s => ⟨_, heH_1 B g s⟩) (cf_RIII_r _ _ _ _) dX3_move_58 ?_
        refine s_iload_n C rfl dX3_move_61 ?_
        exact s_iret C R dX3_move_62
      · refine s_aload_n C rfl dX3_move_34 ?_
        refine s_bipush C (by decide) dX3_move_35 ?_
        refine s_callV C (fr_H_H B g) (k_X3_refuse B g) gX3_move_X3_refuse rfl (by decide +kernel) ⟨rfl, rfl⟩ (by decide) rfl (fun s => ⟨_, heH_0 B g s⟩) (cf_RI_r _ _ _ _) dX3_move_37 ?_
        exact s_iret C R dX3_move_40
    · refine s_aload_n C rfl dX3_move_21 ?_
      refine s_bipush C (by decide) dX3_move_22 ?_
      refine s_callV C (fr_H_H B g) (k_X3_refuse B g) gX3_move_X3_refuse rfl (by decide +kernel) ⟨rfl, rfl⟩ (by decide) rfl (fun s => ⟨_, heH_0 B g s⟩) (cf_RI_r _ _ _ _) dX3_move_24 ?_
      exact s_iret C R dX3_move_27
  · refine s_aload_n C rfl dX3_move_11 ?_
    refine s_iconst C (by decide) dX3_move_12 ?_
    refine s_callV C (fr_H_H B g) (k_X3_refuse B g) gX3_move_X3_refuse rfl (by decide +kernel) ⟨rfl, rfl⟩ (by decide) rfl (fun s => ⟨_, heH_0 B g s⟩) (cf_RI_r _ _ _ _) dX3_move_13 ?_
    exact s_iret C R dX3_move_16
theorem k_X3_move (B : Bx) (g : Nat → Nat) : MtF (gx B) yX3_move wsX3_move (rmD 1) (encH B g) (F_X3_move g) := by
  refine cf_RII_i (fun l S p n _ => Mt.of (by decide) rfl (Nat.le_of_ble_eq_true rfl) rfl (fun X C R => s_X3_move_0 B g C R) ?_)
  simp only [wIload, wAload, wLload, wK, wB, wDv, wU, wLB, wLU, wLS, wL2i, wLcmp, wIf1, wIf2, wKeep, wInc, wIst, wAst, wLst, wDup, wPop, wDup2, wGet, wPut, wPutZ, wIald, wLald, wIast, wLast, wLen, wRetI, wRetZ, wRetL, wRetA, wRetV, wM1, wM2, wCpy, wTab, tabW, nth, stL, stL2, dropL, keepL, mkL, padL, restOK, restOKn, tl_some, tl_none, id_eq, eq_self, true_and, and_true, bk_X3_move_0, F_X2_hasPerson, F_X2_ofPerson, F_X2_putPerson, F_X3_refuse, cf_RIII_e, cf_RII_e, cf_RI_e, b2i_eq0, true_or, or_true, hg_Now_Now, hg_Now_Mind, hg_Now_Image, hg_Now_Im, hg_Now_S, hg_Now_L, hg_Now_Ro, hg_Now_Rl, hg_Now_Re, hg_Mind_Now, hg_Mind_Mind, hg_Mind_Image, hg_Mind_Im, hg_Mind_S, hg_Mind_L, hg_Mind_Ro, hg_Mind_Rl, hg_Mind_Re, hg_Image_Now, hg_Image_Mind, hg_Image_Image, hg_Image_Im, hg_Image_S, hg_Image_L, hg_Image_Ro, hg_Image_Rl, hg_Image_Re, hg_Im_Now, hg_Im_Mind, hg_Im_Image, hg_Im_Im, hg_Im_S, hg_Im_L, hg_Im_Ro, hg_Im_Rl, hg_Im_Re, hg_S_Now, hg_S_Mind, hg_S_Image, hg_S_Im, hg_S_S, hg_S_L, hg_S_Ro, hg_S_Rl, hg_S_Re, hg_L_Now, hg_L_Mind, hg_L_Image, hg_L_Im, hg_L_S, hg_L_L, hg_L_Ro, hg_L_Rl, hg_L_Re, hg_Ro_Now, hg_Ro_Mind, hg_Ro_Image, hg_Ro_Im, hg_Ro_S, hg_Ro_L, hg_Ro_Ro, hg_Ro_Rl, hg_Ro_Re, hg_Rl_Now, hg_Rl_Mind, hg_Rl_Image, hg_Rl_Im, hg_Rl_S, hg_Rl_L, hg_Rl_Ro, hg_Rl_Rl, hg_Rl_Re, hg_Re_Now, hg_Re_Mind, hg_Re_Image, hg_Re_Im, hg_Re_S, hg_Re_L, hg_Re_Ro, hg_Re_Rl, hg_Re_Re, he_Now, ho_Now, he_Mind, ho_Mind, he_Image, ho_Image, he_Im, ho_Im, he_S, ho_S, he_L, ho_L, he_Ro, ho_Ro, he_Rl, ho_Rl, he_Re, ho_Re]
  repeat' first | refine And.intro ?_ ?_ | intro _
  all_goals grind [r_move]
def hSeed (S : HS) (r n z : Int32) : Int32 × TS := sdF (hRo S) (rowN (hRl S)) r 0 (n * 3).toNatClampNeg z 0 (tCopy (hMind S) (hNow S))
def r_seeds (S : HS) (r n z : Int32) : Int32 × HS := if 0 ≤ r ∧ r ≤ 5 then (if n < 1 then (-4, hRef S (-4)) else if 10 < n then (-6, hRef S (-6)) else if tPp (hNow S) = 0 then (-3, hRef S (-3)) else ((hSeed S r n z).1, hsMind S (hSeed S r n z).2)) else (-2, hRef S (-2))
def F_X3_seeds (g : Nat → Nat) : CF HS := cf_RIII (g 0) (fun _ _ _ _ => True) (fun S r n z => some (.int (r_seeds S r n z).1)) (fun S r n z => (r_seeds S r n z).2)
theorem inw_X3_seeds_X2 : ∀ w ∈ u_ws RX2 TX2 8, w ∈ wsX3_seeds := by decide +kernel
theorem inw_X3_seeds_X3 : ∀ w ∈ u_ws RX3 TX3 9, w ∈ wsX3_seeds := by decide +kernel
def bk_X3_seeds_0 (g : Nat → Nat) (Post : Option Value → HS → Prop)  (L : Lc) (st : List Value) (s : HS) : Prop :=
  (wIload 1 <| wCallR 1 (F_X3_isRule) (fun _ => ()) (fun s _ => s) <| wIf1 (fun x => x = 0) (wAload 0 <| wK (.int (-2)) <| wCallR 2 (F_X3_refuse g) id (fun _ u => u) <| wRetI Post) (wIload 2 <| wK (.int 1) <| wIf2 (fun x y => y ≤ x) (wIload 2 <| wK (.int 10) <| wIf2 (fun x y => x ≤ y) (wAload 0 <| wGet (g 0) (fun _ => .ref (g 1)) <| wGet (g 1) (fun s => .int (hNowPp s)) <| wIf1 (fun x => x = 0) (wAload 0 <| wK (.int (-3)) <| wCallR 2 (F_X3_refuse g) id (fun _ u => u) <| wRetI Post) (wAload 0 <| wAload 0 <| wCallR 1 (F_X3_mindOfNow g) id (fun _ u => u) <| wIload 1 <| wIload 2 <| wIload 3 <| wCallR 5 (F_X3_seededSum g 6) hCMind hsCMind <| wRetI Post)) (wAload 0 <| wK (.int (-6)) <| wCallR 2 (F_X3_refuse g) id (fun _ u => u) <| wRetI Post)) (wAload 0 <| wK (.int (-4)) <| wCallR 2 (F_X3_refuse g) id (fun _ u => u) <| wRetI Post))) L st s
set_option maxRecDepth 20000 in
theorem s_X3_seeds_0 {X : Cx} (B : Bx) (g : Nat → Nat) {Post : Option Value → HS → Prop} (C : OkX X (gx B) cX3_seeds 4 wsX3_seeds RX3 (rmD 7)) (R : RtX X (gx B) (some .int) (encH B g) Post)  : Snd X (gx B) 4 (encH B g) 0 (bk_X3_seeds_0 g Post ) := by
  unfold bk_X3_seeds_0
  refine s_iload_n C rfl dX3_seeds_0 ?_
  refine s_callS C (fr_H_E B g) (k_X3_isRule B) gX3_seeds_X3_isRule rfl (by decide +kernel) ⟨rfl, rfl⟩ (by decide) (cf_I_r _ _ _) dX3_seeds_1 ?_
  refine s_if_ne C (tgt := 14) (by decide) dX3_seeds_4 ?_ ?_
  · refine s_iload_n C rfl dX3_seeds_14 ?_
    refine s_iconst C (by decide) dX3_seeds_15 ?_
    refine s_icmp_ge C (tgt := 26) (by decide) dX3_seeds_16 ?_ ?_
    · refine s_iload_n C rfl dX3_seeds_26 ?_
      refine s_bipush C (by decide) dX3_seeds_27 ?_
      refine s_icmp_le C (tgt := 39) (by decide) dX3_seeds_29 ?_ ?_
      · refine s_aload_n C rfl dX3_seeds_39 ?_
        refine s_get C inw_X3_seeds_X3 rfl (k := 0) (by decide) (by decide +kernel) (heH_0 B g) (fun _ => rfl) dX3_seeds_40 ?_
        refine s_get C inw_X3_seeds_X2 rfl (k := 1) (by decide) (by decide +kernel) (heH_1 B g) (fun _ => rfl) dX3_seeds_43 ?_
        refine s_if_ne C (tgt := 56) (by decide) dX3_seeds_46 ?_ ?_
        · refine s_aload_n C rfl dX3_seeds_56 ?_
          refine s_aload_n C rfl dX3_seeds_57 ?_
          refine s_callV C (fr_H_H B g) (k_X3_mindOfNow B g) gX3_seeds_X3_mindOfNow rfl (by decide +kernel) ⟨rfl, rfl⟩ (by decide) rfl (fun s => ⟨_, heH_0 B g s⟩) (cf_R_r _ _ _ _) dX3_seeds_58 ?_
          refine s_iload_n C rfl dX3_seeds_61 ?_
          refine s_iload_n C rfl dX3_seeds_62 ?_
          refine s_iload_n C rfl dX3_seeds_63 ?_
          refine s_callV C (fr_H_C6 B g) (k_X3_seededSum B g 6) gX3_seeds_X3_seededSum rfl (by decide +kernel) ⟨rfl, rfl⟩ (by decide) rfl (fun s => ⟨_, heH_0 B g s⟩) (cf_RRIII_r _ _ _ _ _) dX3_seeds_64 ?_
          exact s_iret C R dX3_seeds_67
        · refine s_aload_n C rfl dX3_seeds_49 ?_
          refine s_bipush C (by decide) dX3_seeds_50 ?_
          refine s_callV C (fr_H_H B g) (k_X3_refuse B g) gX3_seeds_X3_refuse rfl (by decide +kernel) ⟨rfl, rfl⟩ (by decide) rfl (fun s => ⟨_, heH_0 B g s⟩) (cf_RI_r _ _ _ _) dX3_seeds_52 ?_
          exact s_iret C R dX3_seeds_55
      · refine s_aload_n C rfl dX3_seeds_32 ?_
        refine s_bipush C (by decide) dX3_seeds_33 ?_
        refine s_callV C (fr_H_H B g) (k_X3_refuse B g) gX3_seeds_X3_refuse rfl (by decide +kernel) ⟨rfl, rfl⟩ (by decide) rfl (fun s => ⟨_, heH_0 B g s⟩) (cf_RI_r _ _ _ _) dX3_seeds_35 ?_
        exact s_iret C R dX3_seeds_38
    · refine s_aload_n C rfl dX3_seeds_19 ?_
      refine s_bipush C (by decide) dX3_seeds_20 ?_
      refine s_callV C (fr_H_H B g) (k_X3_refuse B g) gX3_seeds_X3_refuse rfl (by decide +kernel) ⟨rfl, rfl⟩ (by decide) rfl (fun s => ⟨_, heH_0 B g s⟩) (cf_RI_r _ _ _ _) dX3_seeds_22 ?_
      exact s_iret C R dX3_seeds_25
  · refine s_aload_n C rfl dX3_seeds_7 ?_
    refine s_bipush C (by decide) dX3_seeds_8 ?_
    refine s_callV C (fr_H_H B g) (k_X3_refuse B g) gX3_seeds_X3_refuse rfl (by decide +kernel) ⟨rfl, rfl⟩ (by decide) rfl (fun s => ⟨_, heH_0 B g s⟩) (cf_RI_r _ _ _ _) dX3_seeds_10 ?_
    exact s_iret C R dX3_seeds_13
theorem k_X3_seeds (B : Bx) (g : Nat → Nat) : MtF (gx B) yX3_seeds wsX3_seeds (rmD 7) (encH B g) (F_X3_seeds g) := by
  refine cf_RIII_i (fun l S r n z _ => Mt.of (by decide) rfl (Nat.le_of_ble_eq_true rfl) rfl (fun X C R => s_X3_seeds_0 B g C R) ?_)
  simp only [wIload, wAload, wLload, wK, wB, wDv, wU, wLB, wLU, wLS, wL2i, wLcmp, wIf1, wIf2, wKeep, wInc, wIst, wAst, wLst, wDup, wPop, wDup2, wGet, wPut, wPutZ, wIald, wLald, wIast, wLast, wLen, wRetI, wRetZ, wRetL, wRetA, wRetV, wM1, wM2, wCpy, wTab, tabW, nth, stL, stL2, dropL, keepL, mkL, padL, restOK, restOKn, tl_some, tl_none, id_eq, eq_self, true_and, and_true, bk_X3_seeds_0, F_X3_isRule, F_X3_mindOfNow, F_X3_refuse, F_X3_seededSum, cf_I_e, cf_RI_e, cf_RRIII_e, cf_R_e, b2i_eq0, true_or, or_true, hC_mind1, hC_mind2, hC_mind3, hC_mind4, hCp1, hCp2, hCp3, hCp4, hCp5, decide_eq_false_iff_not, hNowPp, hg_Now_Now, hg_Now_Mind, hg_Now_Image, hg_Now_Im, hg_Now_S, hg_Now_L, hg_Now_Ro, hg_Now_Rl, hg_Now_Re, hg_Mind_Now, hg_Mind_Mind, hg_Mind_Image, hg_Mind_Im, hg_Mind_S, hg_Mind_L, hg_Mind_Ro, hg_Mind_Rl, hg_Mind_Re, hg_Image_Now, hg_Image_Mind, hg_Image_Image, hg_Image_Im, hg_Image_S, hg_Image_L, hg_Image_Ro, hg_Image_Rl, hg_Image_Re, hg_Im_Now, hg_Im_Mind, hg_Im_Image, hg_Im_Im, hg_Im_S, hg_Im_L, hg_Im_Ro, hg_Im_Rl, hg_Im_Re, hg_S_Now, hg_S_Mind, hg_S_Image, hg_S_Im, hg_S_S, hg_S_L, hg_S_Ro, hg_S_Rl, hg_S_Re, hg_L_Now, hg_L_Mind, hg_L_Image, hg_L_Im, hg_L_S, hg_L_L, hg_L_Ro, hg_L_Rl, hg_L_Re, hg_Ro_Now, hg_Ro_Mind, hg_Ro_Image, hg_Ro_Im, hg_Ro_S, hg_Ro_L, hg_Ro_Ro, hg_Ro_Rl, hg_Ro_Re, hg_Rl_Now, hg_Rl_Mind, hg_Rl_Image, hg_Rl_Im, hg_Rl_S, hg_Rl_L, hg_Rl_Ro, hg_Rl_Rl, hg_Rl_Re, hg_Re_Now, hg_Re_Mind, hg_Re_Image, hg_Re_Im, hg_Re_S, hg_Re_L, hg_Re_Ro, hg_Re_Rl, hg_Re_Re, he_Now, ho_Now, he_Mind, ho_Mind, he_Image, ho_Image, he_Im, ho_Im, he_S, ho_S, he_L, ho_L, he_Ro, ho_Ro, he_Rl, ho_Rl, he_Re, ho_Re]
  have e : hSeed S r n z = sdF (hRo S) (rowN (hRl S)) r 0 (n * 3).toNatClampNeg z 0 (tCopy (hMind S) (hNow S)) := rfl
  simp only [← e]
  repeat' first | refine And.intro ?_ ?_ | intro _
  all_goals grind [r_seeds]
def r_judge (S : HS) : Int32 × HS := (jRes (hRl S) (jN (hRo S) (rowN (hRl S)) 0 (tNeeds (tCopy (hMind S) (hNow S))) 0 (tCopy (hMind S) (hNow S))), hsRl (hsMind S (jN (hRo S) (rowN (hRl S)) 0 (tNeeds (tCopy (hMind S) (hNow S))) 0 (tCopy (hMind S) (hNow S))).2.2) 0)
def F_X3_judge (g : Nat → Nat) : CF HS := cf_R (g 0) (fun _ => True) (fun S => some (.int (r_judge S).1)) (fun S => (r_judge S).2)
theorem inw_X3_judge_X2 : ∀ w ∈ u_ws RX2 TX2 8, w ∈ wsX3_judge := by decide +kernel
theorem inw_X3_judge_X3 : ∀ w ∈ u_ws RX3 TX3 9, w ∈ wsX3_judge := by decide +kernel
def bk_X3_judge_0 (g : Nat → Nat) (Post : Option Value → HS → Prop)  (L : Lc) (st : List Value) (s : HS) : Prop :=
  (wAload 0 <| wAload 0 <| wCallR 1 (F_X3_mindOfNow g) id (fun _ u => u) <| wCallR 2 (F_X3_judgedRow g 6) hCMind hsCMind <| wIst 1 <| wAload 0 <| wK (.int 0) <| wPut (g 0) hsRl <| wIload 1 <| wRetI Post) L st s
set_option maxRecDepth 20000 in
theorem s_X3_judge_0 {X : Cx} (B : Bx) (g : Nat → Nat) {Post : Option Value → HS → Prop} (C : OkX X (gx B) cX3_judge 2 wsX3_judge RX3 (rmD 5)) (R : RtX X (gx B) (some .int) (encH B g) Post)  : Snd X (gx B) 2 (encH B g) 0 (bk_X3_judge_0 g Post ) := by
  unfold bk_X3_judge_0
  refine s_aload_n C rfl dX3_judge_0 ?_
  refine s_aload_n C rfl dX3_judge_1 ?_
  refine s_callV C (fr_H_H B g) (k_X3_mindOfNow B g) gX3_judge_X3_mindOfNow rfl (by decide +kernel) ⟨rfl, rfl⟩ (by decide) rfl (fun s => ⟨_, heH_0 B g s⟩) (cf_R_r _ _ _ _) dX3_judge_2 ?_
  refine s_callV C (fr_H_C6 B g) (k_X3_judgedRow B g 6) gX3_judge_X3_judgedRow rfl (by decide +kernel) ⟨rfl, rfl⟩ (by decide) rfl (fun s => ⟨_, heH_0 B g s⟩) (cf_RR_r _ _ _ _ _) dX3_judge_5 ?_
  refine s_istore_n C rfl (by decide) dX3_judge_8 ?_
  refine s_aload_n C rfl dX3_judge_9 ?_
  refine s_iconst C (by decide) dX3_judge_10 ?_
  refine s_put C inw_X3_judge_X3 rfl (k := 7) (by decide) (by decide +kernel) tyX3_ok nmX3 (by decide +kernel) (by decide +kernel) (heH_0 B g) (fun _ => Nat.le_of_ble_eq_true rfl) (fun _ _ => rfl) dX3_judge_11 ?_
  refine s_iload_n C rfl dX3_judge_14 ?_
  exact s_iret C R dX3_judge_15
theorem k_X3_judge (B : Bx) (g : Nat → Nat) : MtF (gx B) yX3_judge wsX3_judge (rmD 5) (encH B g) (F_X3_judge g) := by
  refine cf_R_i (fun l S _ => Mt.of (by decide) rfl (Nat.le_of_ble_eq_true rfl) rfl (fun X C R => s_X3_judge_0 B g C R) ?_)
  simp only [wIload, wAload, wLload, wK, wB, wDv, wU, wLB, wLU, wLS, wL2i, wLcmp, wIf1, wIf2, wKeep, wInc, wIst, wAst, wLst, wDup, wPop, wDup2, wGet, wPut, wPutZ, wIald, wLald, wIast, wLast, wLen, wRetI, wRetZ, wRetL, wRetA, wRetV, wM1, wM2, wCpy, wTab, tabW, nth, stL, stL2, dropL, keepL, mkL, padL, restOK, restOKn, tl_some, tl_none, id_eq, eq_self, true_and, and_true, bk_X3_judge_0, F_X3_judgedRow, F_X3_mindOfNow, cf_RR_e, cf_R_e, hC_mind1, hC_mind2, hC_mind3, hC_mind4, hCp1, hCp2, hCp3, hCp4, hCp5, r_judge]
def r_clear (S : HS) : Int32 × HS := (hRl S, hsRl S 0)
def F_X3_clear (g : Nat → Nat) : CF HS := cf_R (g 0) (fun _ => True) (fun S => some (.int (r_clear S).1)) (fun S => (r_clear S).2)
theorem inw_X3_clear_X3 : ∀ w ∈ u_ws RX3 TX3 9, w ∈ wsX3_clear := by decide +kernel
def bk_X3_clear_0 (g : Nat → Nat) (Post : Option Value → HS → Prop)  (L : Lc) (st : List Value) (s : HS) : Prop :=
  (wAload 0 <| wGet (g 0) (fun s => .int (hRl s)) <| wIst 1 <| wAload 0 <| wK (.int 0) <| wPut (g 0) hsRl <| wIload 1 <| wRetI Post) L st s
set_option maxRecDepth 20000 in
theorem s_X3_clear_0 {X : Cx} (B : Bx) (g : Nat → Nat) {Post : Option Value → HS → Prop} (C : OkX X (gx B) cX3_clear 2 wsX3_clear RX3 (rmD 0)) (R : RtX X (gx B) (some .int) (encH B g) Post)  : Snd X (gx B) 2 (encH B g) 0 (bk_X3_clear_0 g Post ) := by
  unfold bk_X3_clear_0
  refine s_aload_n C rfl dX3_clear_0 ?_
  refine s_get C inw_X3_clear_X3 rfl (k := 7) (by decide) (by decide +kernel) (heH_0 B g) (fun _ => rfl) dX3_clear_1 ?_
  refine s_istore_n C rfl (by decide) dX3_clear_4 ?_
  refine s_aload_n C rfl dX3_clear_5 ?_
  refine s_iconst C (by decide) dX3_clear_6 ?_
  refine s_put C inw_X3_clear_X3 rfl (k := 7) (by decide) (by decide +kernel) tyX3_ok nmX3 (by decide +kernel) (by decide +kernel) (heH_0 B g) (fun _ => Nat.le_of_ble_eq_true rfl) (fun _ _ => rfl) dX3_clear_7 ?_
  refine s_iload_n C rfl dX3_clear_10 ?_
  exact s_iret C R dX3_clear_11
theorem k_X3_clear (B : Bx) (g : Nat → Nat) : MtF (gx B) yX3_clear wsX3_clear (rmD 0) (encH B g) (F_X3_clear g) := by
  refine cf_R_i (fun l S _ => Mt.of (by decide) rfl (Nat.le_of_ble_eq_true rfl) rfl (fun X C R => s_X3_clear_0 B g C R) ?_)
  simp only [wIload, wAload, wLload, wK, wB, wDv, wU, wLB, wLU, wLS, wL2i, wLcmp, wIf1, wIf2, wKeep, wInc, wIst, wAst, wLst, wDup, wPop, wDup2, wGet, wPut, wPutZ, wIald, wLald, wIast, wLast, wLen, wRetI, wRetZ, wRetL, wRetA, wRetV, wM1, wM2, wCpy, wTab, tabW, nth, stL, stL2, dropL, keepL, mkL, padL, restOK, restOKn, tl_some, tl_none, id_eq, eq_self, true_and, and_true, bk_X3_clear_0, r_clear]
def r_image (S : HS) : Int32 × HS := (tYr (hNow S), hsIm (hsImage S (tCopy (hImage S) (hNow S))) 1)
def F_X3_image (g : Nat → Nat) : CF HS := cf_R (g 0) (fun _ => True) (fun S => some (.int (r_image S).1)) (fun S => (r_image S).2)
theorem inw_X3_image_X2 : ∀ w ∈ u_ws RX2 TX2 8, w ∈ wsX3_image := by decide +kernel
theorem inw_X3_image_X3 : ∀ w ∈ u_ws RX3 TX3 9, w ∈ wsX3_image := by decide +kernel
def bk_X3_image_0 (g : Nat → Nat) (Post : Option Value → HS → Prop)  (L : Lc) (st : List Value) (s : HS) : Prop :=
  (wAload 0 <| wGet (g 0) (fun _ => .ref (g 11)) <| wAload 0 <| wGet (g 0) (fun _ => .ref (g 1)) <| wCallR 2 (F_X2_copyFrom g 11 1) hDImageNow hsDImageNow <| wAload 0 <| wK (.int 1) <| wPutZ (g 0) hsIm <| wAload 0 <| wGet (g 0) (fun _ => .ref (g 1)) <| wGet (g 1) (fun s => .int (hNowYr s)) <| wRetI Post) L st s
set_option maxRecDepth 20000 in
theorem s_X3_image_0 {X : Cx} (B : Bx) (g : Nat → Nat) {Post : Option Value → HS → Prop} (C : OkX X (gx B) cX3_image 1 wsX3_image RX3 (rmD 2)) (R : RtX X (gx B) (some .int) (encH B g) Post)  : Snd X (gx B) 1 (encH B g) 0 (bk_X3_image_0 g Post ) := by
  unfold bk_X3_image_0
  refine s_aload_n C rfl dX3_image_0 ?_
  refine s_get C inw_X3_image_X3 rfl (k := 2) (by decide) (by decide +kernel) (heH_0 B g) (fun _ => rfl) dX3_image_1 ?_
  refine s_aload_n C rfl dX3_image_4 ?_
  refine s_get C inw_X3_image_X3 rfl (k := 0) (by decide) (by decide +kernel) (heH_0 B g) (fun _ => rfl) dX3_image_5 ?_
  refine s_callV C (fr_H_D11_1 B g) (k_X2_copyFrom B g 11 1) gX3_image_X2_copyFrom rfl (by decide +kernel) ⟨rfl, rfl⟩ (by decide) rfl (fun s => ⟨_, heH_11 B g s⟩) (cf_RR_r _ _ _ _ _) dX3_image_8 ?_
  refine s_aload_n C rfl dX3_image_11 ?_
  refine s_iconst C (by decide) dX3_image_12 ?_
  refine s_putZ C inw_X3_image_X3 rfl (k := 3) (by decide) (by decide +kernel) tyX3_ok nmX3 (by decide +kernel) (by decide +kernel) (heH_0 B g) (fun _ => Nat.le_of_ble_eq_true rfl) (fun _ _ => rfl) dX3_image_13 ?_
  refine s_aload_n C rfl dX3_image_16 ?_
  refine s_get C inw_X3_image_X3 rfl (k := 0) (by decide) (by decide +kernel) (heH_0 B g) (fun _ => rfl) dX3_image_17 ?_
  refine s_get C inw_X3_image_X2 rfl (k := 7) (by decide) (by decide +kernel) (heH_1 B g) (fun _ => rfl) dX3_image_20 ?_
  exact s_iret C R dX3_image_23
theorem hD_4 (S : HS) : dA (hDImageNow S) = hImage S := rfl
theorem hD_5 (S : HS) : dO (hDImageNow S) = hNow S := rfl
theorem hD_6 (S : HS) (T : TS) : hsDImageNow S (T, hNow S) = hsImage S T := rfl
theorem k_X3_image (B : Bx) (g : Nat → Nat) : MtF (gx B) yX3_image wsX3_image (rmD 2) (encH B g) (F_X3_image g) := by
  refine cf_R_i (fun l S _ => Mt.of (by decide) rfl (Nat.le_of_ble_eq_true rfl) rfl (fun X C R => s_X3_image_0 B g C R) ?_)
  simp only [wIload, wAload, wLload, wK, wB, wDv, wU, wLB, wLU, wLS, wL2i, wLcmp, wIf1, wIf2, wKeep, wInc, wIst, wAst, wLst, wDup, wPop, wDup2, wGet, wPut, wPutZ, wIald, wLald, wIast, wLast, wLen, wRetI, wRetZ, wRetL, wRetA, wRetV, wM1, wM2, wCpy, wTab, tabW, nth, stL, stL2, dropL, keepL, mkL, padL, restOK, restOKn, tl_some, tl_none, id_eq, eq_self, true_and, and_true, bk_X3_image_0, F_X2_copyFrom, cf_RR_e, r_image, hD_4, hD_5, hD_6, hNowYr, or_true, hg_Now_Now, hg_Now_Mind, hg_Now_Image, hg_Now_Im, hg_Now_S, hg_Now_L, hg_Now_Ro, hg_Now_Rl, hg_Now_Re, hg_Mind_Now, hg_Mind_Mind, hg_Mind_Image, hg_Mind_Im, hg_Mind_S, hg_Mind_L, hg_Mind_Ro, hg_Mind_Rl, hg_Mind_Re, hg_Image_Now, hg_Image_Mind, hg_Image_Image, hg_Image_Im, hg_Image_S, hg_Image_L, hg_Image_Ro, hg_Image_Rl, hg_Image_Re, hg_Im_Now, hg_Im_Mind, hg_Im_Image, hg_Im_Im, hg_Im_S, hg_Im_L, hg_Im_Ro, hg_Im_Rl, hg_Im_Re, hg_S_Now, hg_S_Mind, hg_S_Image, hg_S_Im, hg_S_S, hg_S_L, hg_S_Ro, hg_S_Rl, hg_S_Re, hg_L_Now, hg_L_Mind, hg_L_Image, hg_L_Im, hg_L_S, hg_L_L, hg_L_Ro, hg_L_Rl, hg_L_Re, hg_Ro_Now, hg_Ro_Mind, hg_Ro_Image, hg_Ro_Im, hg_Ro_S, hg_Ro_L, hg_Ro_Ro, hg_Ro_Rl, hg_Ro_Re, hg_Rl_Now, hg_Rl_Mind, hg_Rl_Image, hg_Rl_Im, hg_Rl_S, hg_Rl_L, hg_Rl_Ro, hg_Rl_Rl, hg_Rl_Re, hg_Re_Now, hg_Re_Mind, hg_Re_Image, hg_Re_Im, hg_Re_S, hg_Re_L, hg_Re_Ro, hg_Re_Rl, hg_Re_Re, he_Now, ho_Now, he_Mind, ho_Mind, he_Image, ho_Image, he_Im, ho_Im, he_S, ho_S, he_L, ho_L, he_Ro, ho_Ro, he_Rl, ho_Rl, he_Re, ho_Re]
def r_restore (S : HS) : Int32 × HS := if hIm S = 0 then (-3, hRef S (-3)) else (tYr (hImage S), hsNow S (tCopy (hNow S) (hImage S)))
def F_X3_restore (g : Nat → Nat) : CF HS := cf_R (g 0) (fun _ => True) (fun S => some (.int (r_restore S).1)) (fun S => (r_restore S).2)
theorem inw_X3_restore_X2 : ∀ w ∈ u_ws RX2 TX2 8, w ∈ wsX3_restore := by decide +kernel
theorem inw_X3_restore_X3 : ∀ w ∈ u_ws RX3 TX3 9, w ∈ wsX3_restore := by decide +kernel
def bk_X3_restore_0 (g : Nat → Nat) (Post : Option Value → HS → Prop)  (L : Lc) (st : List Value) (s : HS) : Prop :=
  (wAload 0 <| wGet (g 0) (fun s => .int (hIm s)) <| wIf1 (fun x => x = 0) (wAload 0 <| wK (.int (-3)) <| wCallR 2 (F_X3_refuse g) id (fun _ u => u) <| wRetI Post) (wAload 0 <| wGet (g 0) (fun _ => .ref (g 1)) <| wAload 0 <| wGet (g 0) (fun _ => .ref (g 11)) <| wCallR 2 (F_X2_copyFrom g 1 11) hDNowImage hsDNowImage <| wAload 0 <| wGet (g 0) (fun _ => .ref (g 1)) <| wGet (g 1) (fun s => .int (hNowYr s)) <| wRetI Post)) L st s
set_option maxRecDepth 20000 in
theorem s_X3_restore_0 {X : Cx} (B : Bx) (g : Nat → Nat) {Post : Option Value → HS → Prop} (C : OkX X (gx B) cX3_restore 1 wsX3_restore RX3 (rmD 2)) (R : RtX X (gx B) (some .int) (encH B g) Post)  : Snd X (gx B) 1 (encH B g) 0 (bk_X3_restore_0 g Post ) := by
  unfold bk_X3_restore_0
  refine s_aload_n C rfl dX3_restore_0 ?_
  refine s_get C inw_X3_restore_X3 rfl (k := 3) (by decide) (by decide +kernel) (heH_0 B g) (fun _ => rfl) dX3_restore_1 ?_
  refine s_if_ne C (tgt := 14) (by decide) dX3_restore_4 ?_ ?_
  · refine s_aload_n C rfl dX3_restore_14 ?_
    refine s_get C inw_X3_restore_X3 rfl (k := 0) (by decide) (by decide +kernel) (heH_0 B g) (fun _ => rfl) dX3_restore_15 ?_
    refine s_aload_n C rfl dX3_restore_18 ?_
    refine s_get C inw_X3_restore_X3 rfl (k := 2) (by decide) (by decide +kernel) (heH_0 B g) (fun _ => rfl) dX3_restore_19 ?_
    refine s_callV C (fr_H_D1_11 B g) (k_X2_copyFrom B g 1 11) gX3_restore_X2_copyFrom rfl (by decide +kernel) ⟨rfl, rfl⟩ (by decide) rfl (fun s => ⟨_, heH_1 B g s⟩) (cf_RR_r _ _ _ _ _) dX3_restore_22 ?_
    refine s_aload_n C rfl dX3_restore_25 ?_
    refine s_get C inw_X3_restore_X3 rfl (k := 0) (by decide) (by decide +kernel) (heH_0 B g) (fun _ => rfl) dX3_restore_26 ?_
    refine s_get C inw_X3_restore_X2 rfl (k := 7) (by decide) (by decide +kernel) (heH_1 B g) (fun _ => rfl) dX3_restore_29 ?_
    exact s_iret C R dX3_restore_32
  · refine s_aload_n C rfl dX3_restore_7 ?_
    refine s_bipush C (by decide) dX3_restore_8 ?_
    refine s_callV C (fr_H_H B g) (k_X3_refuse B g) gX3_restore_X3_refuse rfl (by decide +kernel) ⟨rfl, rfl⟩ (by decide) rfl (fun s => ⟨_, heH_0 B g s⟩) (cf_RI_r _ _ _ _) dX3_restore_10 ?_
    exact s_iret C R dX3_restore_13
theorem hD_7 (S : HS) : dA (hDNowImage S) = hNow S := rfl
theorem hD_8 (S : HS) : dO (hDNowImage S) = hImage S := rfl
theorem hD_9 (S : HS) (T : TS) : hsDNowImage S (T, hImage S) = hsNow S T := rfl
theorem k_X3_restore (B : Bx) (g : Nat → Nat) : MtF (gx B) yX3_restore wsX3_restore (rmD 2) (encH B g) (F_X3_restore g) := by
  refine cf_R_i (fun l S _ => Mt.of (by decide) rfl (Nat.le_of_ble_eq_true rfl) rfl (fun X C R => s_X3_restore_0 B g C R) ?_)
  simp only [wIload, wAload, wLload, wK, wB, wDv, wU, wLB, wLU, wLS, wL2i, wLcmp, wIf1, wIf2, wKeep, wInc, wIst, wAst, wLst, wDup, wPop, wDup2, wGet, wPut, wPutZ, wIald, wLald, wIast, wLast, wLen, wRetI, wRetZ, wRetL, wRetA, wRetV, wM1, wM2, wCpy, wTab, tabW, nth, stL, stL2, dropL, keepL, mkL, padL, restOK, restOKn, tl_some, tl_none, id_eq, eq_self, true_and, and_true, bk_X3_restore_0, F_X2_copyFrom, F_X3_refuse, cf_RI_e, cf_RR_e, hD_7, hD_8, hD_9, hNowYr, true_or, or_true, tCopy_yr, hg_Now_Now, hg_Now_Mind, hg_Now_Image, hg_Now_Im, hg_Now_S, hg_Now_L, hg_Now_Ro, hg_Now_Rl, hg_Now_Re, hg_Mind_Now, hg_Mind_Mind, hg_Mind_Image, hg_Mind_Im, hg_Mind_S, hg_Mind_L, hg_Mind_Ro, hg_Mind_Rl, hg_Mind_Re, hg_Image_Now, hg_Image_Mind, hg_Image_Image, hg_Image_Im, hg_Image_S, hg_Image_L, hg_Image_Ro, hg_Image_Rl, hg_Image_Re, hg_Im_Now, hg_Im_Mind, hg_Im_Image, hg_Im_Im, hg_Im_S, hg_Im_L, hg_Im_Ro, hg_Im_Rl, hg_Im_Re, hg_S_Now, hg_S_Mind, hg_S_Image, hg_S_Im, hg_S_S, hg_S_L, hg_S_Ro, hg_S_Rl, hg_S_Re, hg_L_Now, hg_L_Mind, hg_L_Image, hg_L_Im, hg_L_S, hg_L_L, hg_L_Ro, hg_L_Rl, hg_L_Re, hg_Ro_Now, hg_Ro_Mind, hg_Ro_Image, hg_Ro_Im, hg_Ro_S, hg_Ro_L, hg_Ro_Ro, hg_Ro_Rl, hg_Ro_Re, hg_Rl_Now, hg_Rl_Mind, hg_Rl_Image, hg_Rl_Im, hg_Rl_S, hg_Rl_L, hg_Rl_Ro, hg_Rl_Rl, hg_Rl_Re, hg_Re_Now, hg_Re_Mind, hg_Re_Image, hg_Re_Im, hg_Re_S, hg_Re_L, hg_Re_Ro, hg_Re_Rl, hg_Re_Re, he_Now, ho_Now, he_Mind, ho_Mind, he_Image, ho_Image, he_Im, ho_Im, he_S, ho_S, he_L, ho_L, he_Ro, ho_Ro, he_Rl, ho_Rl, he_Re, ho_Re]
  repeat' first | refine And.intro ?_ ?_ | intro _
  all_goals grind [r_restore]
end
