noncomputable section
def r_feed (S : HS) (v : Int32) : Int32 × HS := if v < 0 then (-4, hRef S (-4)) else if 255 < v ∨ lFull (hL S) = true then (-6, hRef S (-6)) else (lLn (lTake (hL S) v), hsL S (lTake (hL S) v))
def F_X3_feed (g : Nat → Nat) : CF HS := cf_RI (g 0) (fun _ _ => True) (fun S p => some (.int (r_feed S p).1)) (fun S p => (r_feed S p).2)
theorem inw_X3_feed_X3 : ∀ w ∈ u_ws RX3 TX3 9, w ∈ wsX3_feed := by decide +kernel
def bk_X3_feed_28 (g : Nat → Nat) (Post : Option Value → HS → Prop)  (L : Lc) (st : List Value) (s : HS) : Prop :=
  (wAload 0 <| wK (.int (-6)) <| wCallR 2 (F_X3_refuse g) id (fun _ u => u) <| wRetI Post) L st s
set_option maxRecDepth 20000 in
theorem s_X3_feed_28 {X : Cx} (B : Bx) (g : Nat → Nat) {Post : Option Value → HS → Prop} (C : OkX X (gx B) cX3_feed 2 wsX3_feed RX3 (rmD 1)) (R : RtX X (gx B) (some .int) (encH B g) Post)  : Snd X (gx B) 2 (encH B g) 28 (bk_X3_feed_28 g Post ) := by
  unfold bk_X3_feed_28
  refine s_aload_n C rfl dX3_feed_28 ?_
  refine s_bipush C (by decide) dX3_feed_29 ?_
  refine s_callV C (fr_H_H B g) (k_X3_refuse B g) gX3_feed_X3_refuse rfl (by decide +kernel) ⟨rfl, rfl⟩ (by decide) rfl (fun s => ⟨_, heH_0 B g s⟩) (cf_RI_r _ _ _ _) dX3_feed_31 ?_
  exact s_iret C R dX3_feed_34
def bk_X3_feed_0 (g : Nat → Nat) (Post : Option Value → HS → Prop)  (L : Lc) (st : List Value) (s : HS) : Prop :=
  (wIload 1 <| wIf1 (fun x => 0 ≤ x) (wIload 1 <| wK (.int 255) <| wIf2 (fun x y => y < x) (bk_X3_feed_28 g Post ) (wAload 0 <| wGet (g 0) (fun _ => .ref (g 22)) <| wCallR 1 (F_X0_isFull g) hL hsL <| wIf1 (fun x => x = 0) (wAload 0 <| wGet (g 0) (fun _ => .ref (g 22)) <| wIload 1 <| wCallR 2 (F_X0_take g) hL hsL <| wRetI Post) (bk_X3_feed_28 g Post ))) (wAload 0 <| wK (.int (-4)) <| wCallR 2 (F_X3_refuse g) id (fun _ u => u) <| wRetI Post)) L st s
set_option maxRecDepth 20000 in
theorem s_X3_feed_0 {X : Cx} (B : Bx) (g : Nat → Nat) {Post : Option Value → HS → Prop} (C : OkX X (gx B) cX3_feed 2 wsX3_feed RX3 (rmD 1)) (R : RtX X (gx B) (some .int) (encH B g) Post)  : Snd X (gx B) 2 (encH B g) 0 (bk_X3_feed_0 g Post ) := by
  unfold bk_X3_feed_0
  refine s_iload_n C rfl dX3_feed_0 ?_
  refine s_if_ge C (tgt := 11) (by decide) dX3_feed_1 ?_ ?_
  · refine s_iload_n C rfl dX3_feed_11 ?_
    refine s_sipush C (by decide) dX3_feed_12 ?_
    refine s_icmp_gt C (tgt := 28) (by decide) dX3_feed_15 ?_ ?_
    · exact s_X3_feed_28 B g C R 
    · refine s_aload_n C rfl dX3_feed_18 ?_
      refine s_get C inw_X3_feed_X3 rfl (k := 5) (by decide) (by decide +kernel) (heH_0 B g) (fun _ => rfl) dX3_feed_19 ?_
      refine s_callV C (fr_H_L B g) (k_X0_isFull B g) gX3_feed_X0_isFull rfl (by decide +kernel) ⟨rfl, rfl⟩ (by decide) rfl (fun s => ⟨_, heH_22 B g s⟩) (cf_R_r _ _ _ _) dX3_feed_22 ?_
      refine s_if_eq C (tgt := 35) (by decide) dX3_feed_25 ?_ ?_
      · refine s_aload_n C rfl dX3_feed_35 ?_
        refine s_get C inw_X3_feed_X3 rfl (k := 5) (by decide) (by decide +kernel) (heH_0 B g) (fun _ => rfl) dX3_feed_36 ?_
        refine s_iload_n C rfl dX3_feed_39 ?_
        refine s_callV C (fr_H_L B g) (k_X0_take B g) gX3_feed_X0_take rfl (by decide +kernel) ⟨rfl, rfl⟩ (by decide) rfl (fun s => ⟨_, heH_22 B g s⟩) (cf_RI_r _ _ _ _) dX3_feed_40 ?_
        exact s_iret C R dX3_feed_43
      · exact s_X3_feed_28 B g C R 
  · refine s_aload_n C rfl dX3_feed_4 ?_
    refine s_bipush C (by decide) dX3_feed_5 ?_
    refine s_callV C (fr_H_H B g) (k_X3_refuse B g) gX3_feed_X3_refuse rfl (by decide +kernel) ⟨rfl, rfl⟩ (by decide) rfl (fun s => ⟨_, heH_0 B g s⟩) (cf_RI_r _ _ _ _) dX3_feed_7 ?_
    exact s_iret C R dX3_feed_10
theorem k_X3_feed (B : Bx) (g : Nat → Nat) : MtF (gx B) yX3_feed wsX3_feed (rmD 1) (encH B g) (F_X3_feed g) := by
  refine cf_RI_i (fun l S v _ => Mt.of (by decide) rfl (Nat.le_of_ble_eq_true rfl) rfl (fun X C R => s_X3_feed_0 B g C R) ?_)
  simp only [wIload, wAload, wLload, wK, wB, wDv, wU, wLB, wLU, wLS, wL2i, wLcmp, wIf1, wIf2, wKeep, wInc, wIst, wAst, wLst, wDup, wPop, wDup2, wGet, wPut, wPutZ, wIald, wLald, wIast, wLast, wLen, wRetI, wRetZ, wRetL, wRetA, wRetV, wM1, wM2, wCpy, wTab, tabW, nth, stL, stL2, dropL, keepL, mkL, padL, restOK, restOKn, tl_some, tl_none, id_eq, eq_self, true_and, and_true, bk_X3_feed_28, bk_X3_feed_0, F_X0_isFull, F_X0_take, F_X3_refuse, cf_RI_e, cf_R_e, b2i_eq0, true_or, or_true, hg_Now_Now, hg_Now_Mind, hg_Now_Image, hg_Now_Im, hg_Now_S, hg_Now_L, hg_Now_Ro, hg_Now_Rl, hg_Now_Re, hg_Mind_Now, hg_Mind_Mind, hg_Mind_Image, hg_Mind_Im, hg_Mind_S, hg_Mind_L, hg_Mind_Ro, hg_Mind_Rl, hg_Mind_Re, hg_Image_Now, hg_Image_Mind, hg_Image_Image, hg_Image_Im, hg_Image_S, hg_Image_L, hg_Image_Ro, hg_Image_Rl, hg_Image_Re, hg_Im_Now, hg_Im_Mind, hg_Im_Image, hg_Im_Im, hg_Im_S, hg_Im_L, hg_Im_Ro, hg_Im_Rl, hg_Im_Re, hg_S_Now, hg_S_Mind, hg_S_Image, hg_S_Im, hg_S_S, hg_S_L, hg_S_Ro, hg_S_Rl, hg_S_Re, hg_L_Now, hg_L_Mind, hg_L_Image, hg_L_Im, hg_L_S, hg_L_L, hg_L_Ro, hg_L_Rl, hg_L_Re, hg_Ro_Now, hg_Ro_Mind, hg_Ro_Image, hg_Ro_Im, hg_Ro_S, hg_Ro_L, hg_Ro_Ro, hg_Ro_Rl, hg_Ro_Re, hg_Rl_Now, hg_Rl_Mind, hg_Rl_Image, hg_Rl_Im, hg_Rl_S, hg_Rl_L, hg_Rl_Ro, hg_Rl_Rl, hg_Rl_Re, hg_Re_Now, hg_Re_Mind, hg_Re_Image, hg_Re_Im, hg_Re_S, hg_Re_L, hg_Re_Ro, hg_Re_Rl, hg_Re_Re, he_Now, ho_Now, he_Mind, ho_Mind, he_Image, ho_Image, he_Im, ho_Im, he_S, ho_S, he_L, ho_L, he_Ro, ho_Ro, he_Rl, ho_Rl, he_Re, ho_Re]
  repeat' first | refine And.intro ?_ ?_ | intro _
  all_goals grind [r_feed]
def r_town (S : HS) : Int32 × HS := if lFl (hL S) 64 0 = 0 then (if (lTell (hL S) (tCopy (hMind S) (hNow S))).1 < 0 then ((lTell (hL S) (tCopy (hMind S) (hNow S))).1, hsL (hsMind S (lTell (hL S) (tCopy (hMind S) (hNow S))).2) (lsLn (hL S) 0)) else ((lTell (hL S) (tCopy (hMind S) (hNow S))).1, hsNow (hsL (hsMind S (lTell (hL S) (tCopy (hMind S) (hNow S))).2) (lsLn (hL S) 0)) (tCopy (hNow S) (lTell (hL S) (tCopy (hMind S) (hNow S))).2)))
  else (if lFl (hL S) 64 0 < 0 then (lFl (hL S) 64 0, hsL S (lsLn (hL S) 0)) else (lFl (hL S) 64 0, hsNow (hsL S (lsLn (hL S) 0)) (tCopy (hNow S) (hMind S))))
def F_X3_town (g : Nat → Nat) : CF HS := cf_R (g 0) (fun S => ∃ k, k ≤ 64 ∧ lLn (hL S) = nI k) (fun S => some (.int (r_town S).1)) (fun S => (r_town S).2)
theorem inw_X3_town_X3 : ∀ w ∈ u_ws RX3 TX3 9, w ∈ wsX3_town := by decide +kernel
def bk_X3_town_35 (g : Nat → Nat) (Post : Option Value → HS → Prop)  (L : Lc) (st : List Value) (s : HS) : Prop :=
  (wAload 0 <| wGet (g 0) (fun _ => .ref (g 22)) <| wCallR 1 (F_X0_forget g) hL hsL <| wIload 1 <| wIf1 (fun x => 0 ≤ x) (wAload 0 <| wGet (g 0) (fun _ => .ref (g 1)) <| wAload 0 <| wGet (g 0) (fun _ => .ref (g 6)) <| wCallR 2 (F_X2_copyFrom g 1 6) hDNowMind hsDNowMind <| wIload 1 <| wRetI Post) (wIload 1 <| wRetI Post)) L st s
set_option maxRecDepth 20000 in
theorem s_X3_town_35 {X : Cx} (B : Bx) (g : Nat → Nat) {Post : Option Value → HS → Prop} (C : OkX X (gx B) cX3_town 2 wsX3_town RX3 (rmD 6)) (R : RtX X (gx B) (some .int) (encH B g) Post)  : Snd X (gx B) 2 (encH B g) 35 (bk_X3_town_35 g Post ) := by
  unfold bk_X3_town_35
  refine s_aload_n C rfl dX3_town_35 ?_
  refine s_get C inw_X3_town_X3 rfl (k := 5) (by decide) (by decide +kernel) (heH_0 B g) (fun _ => rfl) dX3_town_36 ?_
  refine s_callV C (fr_H_L B g) (k_X0_forget B g) gX3_town_X0_forget rfl (by decide +kernel) ⟨rfl, rfl⟩ (by decide) rfl (fun s => ⟨_, heH_22 B g s⟩) (cf_R_r _ _ _ _) dX3_town_39 ?_
  refine s_iload_n C rfl dX3_town_42 ?_
  refine s_if_ge C (tgt := 48) (by decide) dX3_town_43 ?_ ?_
  · refine s_aload_n C rfl dX3_town_48 ?_
    refine s_get C inw_X3_town_X3 rfl (k := 0) (by decide) (by decide +kernel) (heH_0 B g) (fun _ => rfl) dX3_town_49 ?_
    refine s_aload_n C rfl dX3_town_52 ?_
    refine s_get C inw_X3_town_X3 rfl (k := 1) (by decide) (by decide +kernel) (heH_0 B g) (fun _ => rfl) dX3_town_53 ?_
    refine s_callV C (fr_H_D1_6 B g) (k_X2_copyFrom B g 1 6) gX3_town_X2_copyFrom rfl (by decide +kernel) ⟨rfl, rfl⟩ (by decide) rfl (fun s => ⟨_, heH_1 B g s⟩) (cf_RR_r _ _ _ _ _) dX3_town_56 ?_
    refine s_iload_n C rfl dX3_town_59 ?_
    exact s_iret C R dX3_town_60
  · refine s_iload_n C rfl dX3_town_46 ?_
    exact s_iret C R dX3_town_47
def bk_X3_town_0 (g : Nat → Nat) (Post : Option Value → HS → Prop)  (L : Lc) (st : List Value) (s : HS) : Prop :=
  (wAload 0 <| wGet (g 0) (fun _ => .ref (g 22)) <| wCallR 1 (F_X0_fault g) hL hsL <| wIst 1 <| wIload 1 <| wIf1 (fun x => x = 0) (wAload 0 <| wGet (g 0) (fun _ => .ref (g 6)) <| wAload 0 <| wGet (g 0) (fun _ => .ref (g 1)) <| wCallR 2 (F_X2_copyFrom g 6 1) hDMindNow hsDMindNow <| wAload 0 <| wGet (g 0) (fun _ => .ref (g 22)) <| wAload 0 <| wGet (g 0) (fun _ => .ref (g 6)) <| wCallR 2 (F_X0_tell g 6) hMMind hsMMind <| wIst 1 <| bk_X3_town_35 g Post ) (bk_X3_town_35 g Post )) L st s
set_option maxRecDepth 20000 in
theorem s_X3_town_0 {X : Cx} (B : Bx) (g : Nat → Nat) {Post : Option Value → HS → Prop} (C : OkX X (gx B) cX3_town 2 wsX3_town RX3 (rmD 6)) (R : RtX X (gx B) (some .int) (encH B g) Post)  : Snd X (gx B) 2 (encH B g) 0 (bk_X3_town_0 g Post ) := by
  unfold bk_X3_town_0
  refine s_aload_n C rfl dX3_town_0 ?_
  refine s_get C inw_X3_town_X3 rfl (k := 5) (by decide) (by decide +kernel) (heH_0 B g) (fun _ => rfl) dX3_town_1 ?_
  refine s_callV C (fr_H_L B g) (k_X0_fault B g) gX3_town_X0_fault rfl (by decide +kernel) ⟨rfl, rfl⟩ (by decide) rfl (fun s => ⟨_, heH_22 B g s⟩) (cf_R_r _ _ _ _) dX3_town_4 ?_
  refine s_istore_n C rfl (by decide) dX3_town_7 ?_
  refine s_iload_n C rfl dX3_town_8 ?_
  refine s_if_ne C (tgt := 35) (by decide) dX3_town_9 ?_ ?_
  · exact s_X3_town_35 B g C R 
  · refine s_aload_n C rfl dX3_town_12 ?_
    refine s_get C inw_X3_town_X3 rfl (k := 1) (by decide) (by decide +kernel) (heH_0 B g) (fun _ => rfl) dX3_town_13 ?_
    refine s_aload_n C rfl dX3_town_16 ?_
    refine s_get C inw_X3_town_X3 rfl (k := 0) (by decide) (by decide +kernel) (heH_0 B g) (fun _ => rfl) dX3_town_17 ?_
    refine s_callV C (fr_H_D6_1 B g) (k_X2_copyFrom B g 6 1) gX3_town_X2_copyFrom rfl (by decide +kernel) ⟨rfl, rfl⟩ (by decide) rfl (fun s => ⟨_, heH_6 B g s⟩) (cf_RR_r _ _ _ _ _) dX3_town_20 ?_
    refine s_aload_n C rfl dX3_town_23 ?_
    refine s_get C inw_X3_town_X3 rfl (k := 5) (by decide) (by decide +kernel) (heH_0 B g) (fun _ => rfl) dX3_town_24 ?_
    refine s_aload_n C rfl dX3_town_27 ?_
    refine s_get C inw_X3_town_X3 rfl (k := 1) (by decide) (by decide +kernel) (heH_0 B g) (fun _ => rfl) dX3_town_28 ?_
    refine s_callV C (fr_H_LT6 B g) (k_X0_tell B g 6) gX3_town_X0_tell rfl (by decide +kernel) ⟨rfl, rfl⟩ (by decide) rfl (fun s => ⟨_, heH_22 B g s⟩) (cf_RR_r _ _ _ _ _) dX3_town_31 ?_
    refine s_istore_n C rfl (by decide) dX3_town_34 ?_
    exact s_X3_town_35 B g C R 
theorem hM_1 (S : HS) : mL (hMMind S) = hL S := rfl
theorem hM_2 (S : HS) : mT (hMMind S) = hMind S := rfl
theorem hM_3 (S : HS) (T : TS) : hsMMind S (msT (hMMind S) T) = hsMind S T := rfl
theorem hD_n1 (S : HS) : dA (hDNowMind S) = hNow S := rfl
theorem hD_n2 (S : HS) : dO (hDNowMind S) = hMind S := rfl
theorem hD_n3 (S : HS) (T : TS) : hsDNowMind S (T, hMind S) = hsNow S T := rfl
theorem hD_n4 (S : HS) (M T : TS) (L : LtS) : hsDNowMind (hsL (hsMind S M) L) (T, M) = hsNow (hsL (hsMind S M) L) T := rfl
theorem hD_n5 (S : HS) (T : TS) (L : LtS) : hsDNowMind (hsL S L) (T, hMind S) = hsNow (hsL S L) T := rfl
theorem k_X3_town (B : Bx) (g : Nat → Nat) : MtF (gx B) yX3_town wsX3_town (rmD 6) (encH B g) (F_X3_town g) := by
  refine cf_R_i (fun l S hN => Mt.of (by decide) rfl (Nat.le_of_ble_eq_true rfl) rfl (fun X C R => s_X3_town_0 B g C R) ?_)
  simp only [wIload, wAload, wLload, wK, wB, wDv, wU, wLB, wLU, wLS, wL2i, wLcmp, wIf1, wIf2, wKeep, wInc, wIst, wAst, wLst, wDup, wPop, wDup2, wGet, wPut, wPutZ, wIald, wLald, wIast, wLast, wLen, wRetI, wRetZ, wRetL, wRetA, wRetV, wM1, wM2, wCpy, wTab, tabW, nth, stL, stL2, dropL, keepL, mkL, padL, restOK, restOKn, tl_some, tl_none, id_eq, eq_self, true_and, and_true, bk_X3_town_35, bk_X3_town_0, F_X0_fault, F_X0_forget, F_X0_tell, F_X2_copyFrom, cf_RR_e, cf_R_e, hM_1, hM_2, hM_3, hD_1, hD_2, hD_3, hD_n1, hD_n2, hD_n4, hD_n5, hg_Now_Now, hg_Now_Mind, hg_Now_Image, hg_Now_Im, hg_Now_S, hg_Now_L, hg_Now_Ro, hg_Now_Rl, hg_Now_Re, hg_Mind_Now, hg_Mind_Mind, hg_Mind_Image, hg_Mind_Im, hg_Mind_S, hg_Mind_L, hg_Mind_Ro, hg_Mind_Rl, hg_Mind_Re, hg_Image_Now, hg_Image_Mind, hg_Image_Image, hg_Image_Im, hg_Image_S, hg_Image_L, hg_Image_Ro, hg_Image_Rl, hg_Image_Re, hg_Im_Now, hg_Im_Mind, hg_Im_Image, hg_Im_Im, hg_Im_S, hg_Im_L, hg_Im_Ro, hg_Im_Rl, hg_Im_Re, hg_S_Now, hg_S_Mind, hg_S_Image, hg_S_Im, hg_S_S, hg_S_L, hg_S_Ro, hg_S_Rl, hg_S_Re, hg_L_Now, hg_L_Mind, hg_L_Image, hg_L_Im, hg_L_S, hg_L_L, hg_L_Ro, hg_L_Rl, hg_L_Re, hg_Ro_Now, hg_Ro_Mind, hg_Ro_Image, hg_Ro_Im, hg_Ro_S, hg_Ro_L, hg_Ro_Ro, hg_Ro_Rl, hg_Ro_Re, hg_Rl_Now, hg_Rl_Mind, hg_Rl_Image, hg_Rl_Im, hg_Rl_S, hg_Rl_L, hg_Rl_Ro, hg_Rl_Rl, hg_Rl_Re, hg_Re_Now, hg_Re_Mind, hg_Re_Image, hg_Re_Im, hg_Re_S, hg_Re_L, hg_Re_Ro, hg_Re_Rl, hg_Re_Re, he_Now, ho_Now, he_Mind, ho_Mind, he_Image, ho_Image, he_Im, ho_Im, he_S, ho_S, he_L, ho_L, he_Ro, ho_Ro, he_Rl, ho_Rl, he_Re, ho_Re]
  refine ⟨fun h0 => ⟨hN, ?_⟩, fun h0 => ?_⟩
  · generalize hq : lTell (hL S) (tCopy (hMind S) (hNow S)) = q
    by_cases h1 : q.1 < 0
    · have e : r_town S = (q.1, hsL (hsMind S q.2) (lsLn (hL S) 0)) := by unfold r_town; rw [if_pos h0, hq, if_pos h1]
      have h2 : ¬ 0 ≤ q.1 := Int32.not_le.mpr h1
      rw [e]
      simp only [h1, h2, false_implies, true_implies, not_true_eq_false, not_false_eq_true, true_and, and_true, implies_true, eq_self, ne_eq, true_or, or_true, false_or, or_false, and_self]
    · have e : r_town S = (q.1, hsNow (hsL (hsMind S q.2) (lsLn (hL S) 0)) (tCopy (hNow S) q.2)) := by unfold r_town; rw [if_pos h0, hq, if_neg h1]
      have h2 : 0 ≤ q.1 := Int32.not_lt.mp h1
      rw [e]
      simp only [h1, h2, false_implies, true_implies, not_true_eq_false, not_false_eq_true, true_and, and_true, implies_true, eq_self, ne_eq, true_or, or_true, false_or, or_false, and_self]
  · by_cases h1 : lFl (hL S) 64 0 < 0
    · have e : r_town S = (lFl (hL S) 64 0, hsL S (lsLn (hL S) 0)) := by unfold r_town; rw [if_neg h0, if_pos h1]
      have h2 : ¬ 0 ≤ lFl (hL S) 64 0 := Int32.not_le.mpr h1
      rw [e]
      simp only [h1, h2, false_implies, true_implies, not_true_eq_false, not_false_eq_true, true_and, and_true, implies_true, eq_self, ne_eq, true_or, or_true, false_or, or_false, and_self]
    · have e : r_town S = (lFl (hL S) 64 0, hsNow (hsL S (lsLn (hL S) 0)) (tCopy (hNow S) (hMind S))) := by unfold r_town; rw [if_neg h0, if_neg h1]
      have h2 : 0 ≤ lFl (hL S) 64 0 := Int32.not_lt.mp h1
      rw [e]
      simp only [h1, h2, false_implies, true_implies, not_true_eq_false, not_false_eq_true, true_and, and_true, implies_true, eq_self, ne_eq, true_or, or_true, false_or, or_false, and_self]
end
