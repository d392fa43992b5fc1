noncomputable section
def hMo (S : HS) : Int32 × HS := ((sMost (hEMind S)).1, hsEMind S (sMost (hEMind S)).2)
def hWith (S : HS) (p q : Int32) : HS := hsMind S (tWrite (tCopy (hMind S) (hNow S)) p q 9 (-1))
theorem hE_n1 (S : HS) : fT (hENow S) = hNow S := rfl
theorem hE_n2 (S : HS) : hsENow S (hENow S) = S := rfl
theorem hE_m1 (S : HS) : fT (hEMind S) = hMind S := rfl
theorem hMo_1 (S : HS) : (sMost (hEMind S)).1 = (hMo S).1 := rfl
theorem hMo_2 (S : HS) : hsEMind S (sMost (hEMind S)).2 = (hMo S).2 := rfl
theorem hsE_now (S : HS) (u : ET) : hNow (hsEMind S u) = hNow S := rfl
theorem hsE_ro (S : HS) (u : ET) : hRo (hsEMind S u) = hRo S := rfl
theorem hsE_rl (S : HS) (u : ET) : hRl (hsEMind S u) = hRl S := rfl
theorem hMo_now (S : HS) : hNow (hMo S).2 = hNow S := hsE_now S _
theorem hMo_row (S : HS) : hRo (hMo S).2 = hRo S := hsE_ro S _
theorem hMo_rl (S : HS) : hRl (hMo S).2 = hRl S := hsE_rl S _
theorem hWith_e (S : HS) (p q : Int32) : hsMind S (tWrite (tCopy (hMind S) (hNow S)) p q 9 (-1)) = hWith S p q := rfl
theorem hWith_m (S : HS) (p q : Int32) : hMind (hWith S p q) = tWrite (tCopy (hMind S) (hNow S)) p q 9 (-1) := rfl
theorem hWith_now (S : HS) (p q : Int32) : hNow (hWith S p q) = hNow S := rfl
theorem tYr_write (T : TS) (a b c d : Int32) : tYr (tWrite T a b c d) = tYr T := by unfold tWrite; split <;> rfl
def r_most (S : HS) : Int32 × HS := if sFits (hNow S) = true then hMo (hCopy S) else (-6, hRef S (-6))
def F_X3_most (g : Nat → Nat) : CF HS := cf_R (g 0) (fun S => hYr S) (fun S => some (.int (r_most S).1)) (fun S => (r_most S).2)
theorem inw_X3_most_X3 : ∀ w ∈ u_ws RX3 TX3 9, w ∈ wsX3_most := by decide +kernel
def bk_X3_most_0 (g : Nat → Nat) (Post : Option Value → HS → Prop)  (L : Lc) (st : List Value) (s : HS) : Prop :=
  (wAload 0 <| wGet (g 0) (fun _ => .ref (g 16)) <| wAload 0 <| wGet (g 0) (fun _ => .ref (g 1)) <| wCallR 2 (F_X1_fits g 1) hENow hsENow <| wIf1 (fun x => x = 0) (wAload 0 <| wK (.int (-6)) <| wCallR 2 (F_X3_refuse g) id (fun _ u => u) <| wRetI Post) (wAload 0 <| wGet (g 0) (fun _ => .ref (g 16)) <| wAload 0 <| wCallR 1 (F_X3_mindOfNow g) id (fun _ u => u) <| wCallR 2 (F_X1_mostOf g 6) hEMind hsEMind <| wRetI Post)) L st s
set_option maxRecDepth 20000 in
theorem s_X3_most_0 {X : Cx} (B : Bx) (g : Nat → Nat) {Post : Option Value → HS → Prop} (C : OkX X (gx B) cX3_most 1 wsX3_most RX3 (rmD 21)) (R : RtX X (gx B) (some .int) (encH B g) Post)  : Snd X (gx B) 1 (encH B g) 0 (bk_X3_most_0 g Post ) := by
  unfold bk_X3_most_0
  refine s_aload_n C rfl dX3_most_0 ?_
  refine s_get C inw_X3_most_X3 rfl (k := 4) (by decide) (by decide +kernel) (heH_0 B g) (fun _ => rfl) dX3_most_1 ?_
  refine s_aload_n C rfl dX3_most_4 ?_
  refine s_get C inw_X3_most_X3 rfl (k := 0) (by decide) (by decide +kernel) (heH_0 B g) (fun _ => rfl) dX3_most_5 ?_
  refine s_callV C (fr_H_ST1 B g) (k_X1_fits B g 1) gX3_most_X1_fits rfl (by decide +kernel) ⟨rfl, rfl⟩ (by decide) rfl (fun s => ⟨_, heH_16 B g s⟩) (cf_RR_r _ _ _ _ _) dX3_most_8 ?_
  refine s_if_ne C (tgt := 21) (by decide) dX3_most_11 ?_ ?_
  · refine s_aload_n C rfl dX3_most_21 ?_
    refine s_get C inw_X3_most_X3 rfl (k := 4) (by decide) (by decide +kernel) (heH_0 B g) (fun _ => rfl) dX3_most_22 ?_
    refine s_aload_n C rfl dX3_most_25 ?_
    refine s_callV C (fr_H_H B g) (k_X3_mindOfNow B g) gX3_most_X3_mindOfNow rfl (by decide +kernel) ⟨rfl, rfl⟩ (by decide) rfl (fun s => ⟨_, heH_0 B g s⟩) (cf_R_r _ _ _ _) dX3_most_26 ?_
    refine s_callV C (fr_H_ST6 B g) (k_X1_mostOf B g 6) gX3_most_X1_mostOf rfl (by decide +kernel) ⟨rfl, rfl⟩ (by decide) rfl (fun s => ⟨_, heH_16 B g s⟩) (cf_RR_r _ _ _ _ _) dX3_most_29 ?_
    exact s_iret C R dX3_most_32
  · refine s_aload_n C rfl dX3_most_14 ?_
    refine s_bipush C (by decide) dX3_most_15 ?_
    refine s_callV C (fr_H_H B g) (k_X3_refuse B g) gX3_most_X3_refuse rfl (by decide +kernel) ⟨rfl, rfl⟩ (by decide) rfl (fun s => ⟨_, heH_0 B g s⟩) (cf_RI_r _ _ _ _) dX3_most_17 ?_
    exact s_iret C R dX3_most_20
theorem k_X3_most (B : Bx) (g : Nat → Nat) : MtF (gx B) yX3_most wsX3_most (rmD 21) (encH B g) (F_X3_most g) := by
  refine cf_R_i (fun l S hy => Mt.of (by decide) rfl (Nat.le_of_ble_eq_true rfl) rfl (fun X C R => s_X3_most_0 B g C R) ?_)
  have hy' : yOk (tCopy (hMind S) (hNow S)) := hy
  simp only [wIload, wAload, wLload, wK, wB, wDv, wU, wLB, wLU, wLS, wL2i, wLcmp, wIf1, wIf2, wKeep, wInc, wIst, wAst, wLst, wDup, wPop, wDup2, wGet, wPut, wPutZ, wIald, wLald, wIast, wLast, wLen, wRetI, wRetZ, wRetL, wRetA, wRetV, wM1, wM2, wCpy, wTab, tabW, nth, stL, stL2, dropL, keepL, mkL, padL, restOK, restOKn, tl_some, tl_none, id_eq, eq_self, true_and, and_true, bk_X3_most_0, F_X1_fits, F_X1_mostOf, F_X3_mindOfNow, F_X3_refuse, cf_RI_e, cf_RR_e, cf_R_e, b2i_eq0, true_or, or_true, hE_n1, hE_n2, hE_m1, hMo_1, hMo_2, hCp3, hCp4]
  cases h : sFits (hNow S)
  · have e : r_most S = (-6, hRef S (-6)) := by unfold r_most; rw [h]; rfl
    rw [e]
    simp only [h, hy', false_implies, true_implies, not_true_eq_false, not_false_eq_true, true_and, and_true, implies_true, eq_self, ne_eq, true_or, or_true, false_or, or_false, and_self]
  · have e : r_most S = hMo (hCopy S) := by unfold r_most; rw [h]; rfl
    rw [e]
    simp only [h, hy', Bool.true_eq_false, false_implies, true_implies, not_true_eq_false, not_false_eq_true, true_and, and_true, implies_true, eq_self, ne_eq, true_or, or_true, false_or, or_false, and_self]
def r_first (S : HS) : Int32 × HS := if sFits (hNow S) = true then (eFi (hS (hMo (hCopy S)).2), (hMo (hCopy S)).2) else (-6, hRef S (-6))
def F_X3_first (g : Nat → Nat) : CF HS := cf_R (g 0) (fun S => hYr S) (fun S => some (.int (r_first S).1)) (fun S => (r_first S).2)
theorem inw_X3_first_X1 : ∀ w ∈ u_ws RX1 TX1 7, w ∈ wsX3_first := by decide +kernel
theorem inw_X3_first_X3 : ∀ w ∈ u_ws RX3 TX3 9, w ∈ wsX3_first := by decide +kernel
def bk_X3_first_0 (g : Nat → Nat) (Post : Option Value → HS → Prop)  (L : Lc) (st : List Value) (s : HS) : Prop :=
  (wAload 0 <| wGet (g 0) (fun _ => .ref (g 16)) <| wAload 0 <| wGet (g 0) (fun _ => .ref (g 1)) <| wCallR 2 (F_X1_fits g 1) hENow hsENow <| wIf1 (fun x => x = 0) (wAload 0 <| wK (.int (-6)) <| wCallR 2 (F_X3_refuse g) id (fun _ u => u) <| wRetI Post) (wAload 0 <| wGet (g 0) (fun _ => .ref (g 16)) <| wAload 0 <| wCallR 1 (F_X3_mindOfNow g) id (fun _ u => u) <| wCallR 2 (F_X1_mostOf g 6) hEMind hsEMind <| wPop <| wAload 0 <| wGet (g 0) (fun _ => .ref (g 16)) <| wGet (g 16) (fun s => .int (hSFi s)) <| wRetI Post)) L st s
set_option maxRecDepth 20000 in
theorem s_X3_first_0 {X : Cx} (B : Bx) (g : Nat → Nat) {Post : Option Value → HS → Prop} (C : OkX X (gx B) cX3_first 1 wsX3_first RX3 (rmD 21)) (R : RtX X (gx B) (some .int) (encH B g) Post)  : Snd X (gx B) 1 (encH B g) 0 (bk_X3_first_0 g Post ) := by
  unfold bk_X3_first_0
  refine s_aload_n C rfl dX3_first_0 ?_
  refine s_get C inw_X3_first_X3 rfl (k := 4) (by decide) (by decide +kernel) (heH_0 B g) (fun _ => rfl) dX3_first_1 ?_
  refine s_aload_n C rfl dX3_first_4 ?_
  refine s_get C inw_X3_first_X3 rfl (k := 0) (by decide) (by decide +kernel) (heH_0 B g) (fun _ => rfl) dX3_first_5 ?_
  refine s_callV C (fr_H_ST1 B g) (k_X1_fits B g 1) gX3_first_X1_fits rfl (by decide +kernel) ⟨rfl, rfl⟩ (by decide) rfl (fun s => ⟨_, heH_16 B g s⟩) (cf_RR_r _ _ _ _ _) dX3_first_8 ?_
  refine s_if_ne C (tgt := 21) (by decide) dX3_first_11 ?_ ?_
  · refine s_aload_n C rfl dX3_first_21 ?_
    refine s_get C inw_X3_first_X3 rfl (k := 4) (by decide) (by decide +kernel) (heH_0 B g) (fun _ => rfl) dX3_first_22 ?_
    refine s_aload_n C rfl dX3_first_25 ?_
    refine s_callV C (fr_H_H B g) (k_X3_mindOfNow B g) gX3_first_X3_mindOfNow rfl (by decide +kernel) ⟨rfl, rfl⟩ (by decide) rfl (fun s => ⟨_, heH_0 B g s⟩) (cf_R_r _ _ _ _) dX3_first_26 ?_
    refine s_callV C (fr_H_ST6 B g) (k_X1_mostOf B g 6) gX3_first_X1_mostOf rfl (by decide +kernel) ⟨rfl, rfl⟩ (by decide) rfl (fun s => ⟨_, heH_16 B g s⟩) (cf_RR_r _ _ _ _ _) dX3_first_29 ?_
    refine s_pop C dX3_first_32 ?_
    refine s_aload_n C rfl dX3_first_33 ?_
    refine s_get C inw_X3_first_X3 rfl (k := 4) (by decide) (by decide +kernel) (heH_0 B g) (fun _ => rfl) dX3_first_34 ?_
    refine s_get C inw_X3_first_X1 rfl (k := 6) (by decide) (by decide +kernel) (heH_16 B g) (fun _ => rfl) dX3_first_37 ?_
    exact s_iret C R dX3_first_40
  · refine s_aload_n C rfl dX3_first_14 ?_
    refine s_bipush C (by decide) dX3_first_15 ?_
    refine s_callV C (fr_H_H B g) (k_X3_refuse B g) gX3_first_X3_refuse rfl (by decide +kernel) ⟨rfl, rfl⟩ (by decide) rfl (fun s => ⟨_, heH_0 B g s⟩) (cf_RI_r _ _ _ _) dX3_first_17 ?_
    exact s_iret C R dX3_first_20
theorem k_X3_first (B : Bx) (g : Nat → Nat) : MtF (gx B) yX3_first wsX3_first (rmD 21) (encH B g) (F_X3_first g) := by
  refine cf_R_i (fun l S hy => Mt.of (by decide) rfl (Nat.le_of_ble_eq_true rfl) rfl (fun X C R => s_X3_first_0 B g C R) ?_)
  have hy' : yOk (tCopy (hMind S) (hNow S)) := hy
  simp only [wIload, wAload, wLload, wK, wB, wDv, wU, wLB, wLU, wLS, wL2i, wLcmp, wIf1, wIf2, wKeep, wInc, wIst, wAst, wLst, wDup, wPop, wDup2, wGet, wPut, wPutZ, wIald, wLald, wIast, wLast, wLen, wRetI, wRetZ, wRetL, wRetA, wRetV, wM1, wM2, wCpy, wTab, tabW, nth, stL, stL2, dropL, keepL, mkL, padL, restOK, restOKn, tl_some, tl_none, id_eq, eq_self, true_and, and_true, bk_X3_first_0, F_X1_fits, F_X1_mostOf, F_X3_mindOfNow, F_X3_refuse, cf_RI_e, cf_RR_e, cf_R_e, b2i_eq0, true_or, or_true, hE_n1, hE_n2, hE_m1, hMo_1, hMo_2, hCp3, hCp4, hSFi]
  cases h : sFits (hNow S)
  · have e : r_first S = (-6, hRef S (-6)) := by unfold r_first; rw [h]; rfl
    rw [e]
    simp only [h, hy', false_implies, true_implies, not_true_eq_false, not_false_eq_true, true_and, and_true, implies_true, eq_self, ne_eq, true_or, or_true, false_or, or_false, and_self]
  · have e : r_first S = (eFi (hS (hMo (hCopy S)).2), (hMo (hCopy S)).2) := by unfold r_first; rw [h]; rfl
    rw [e]
    simp only [h, hy', Bool.true_eq_false, false_implies, true_implies, not_true_eq_false, not_false_eq_true, true_and, and_true, implies_true, eq_self, ne_eq, true_or, or_true, false_or, or_false, and_self]
def r_gap (S : HS) (r : Int32) : Int32 × HS := if 0 ≤ r ∧ r ≤ 5 then (if sFits (hNow S) = true then ((hMo (hCopy S)).1 - (hRun (hMo (hCopy S)).2 r 0).1, hsMind (hMo (hCopy S)).2 (hRun (hMo (hCopy S)).2 r 0).2.2) else (1000000000 - -6, hRef S (-6))) else (1000000000 - -2, hRef S (-2))
def F_X3_gap (g : Nat → Nat) : CF HS := cf_RI (g 0) (fun S _ => hYr S) (fun S r => some (.int (r_gap S r).1)) (fun S r => (r_gap S r).2)
theorem inw_X3_gap_X2 : ∀ w ∈ u_ws RX2 TX2 8, w ∈ wsX3_gap := by decide +kernel
theorem inw_X3_gap_X3 : ∀ w ∈ u_ws RX3 TX3 9, w ∈ wsX3_gap := by decide +kernel
def bk_X3_gap_0 (g : Nat → Nat) (Post : Option Value → HS → Prop)  (L : Lc) (st : List Value) (s : HS) : Prop :=
  (wIload 1 <| wCallR 1 (F_X3_isRule) (fun _ => ()) (fun s _ => s) <| wIf1 (fun x => x = 0) (wAload 0 <| wK (.int (-2)) <| wCallR 2 (F_X3_refuseFarOff g) id (fun _ u => u) <| wRetI Post) (wAload 0 <| wGet (g 0) (fun _ => .ref (g 16)) <| wAload 0 <| wGet (g 0) (fun _ => .ref (g 1)) <| wCallR 2 (F_X1_fits g 1) hENow hsENow <| wIf1 (fun x => x = 0) (wAload 0 <| wK (.int (-6)) <| wCallR 2 (F_X3_refuseFarOff g) id (fun _ u => u) <| wRetI Post) (wAload 0 <| wGet (g 0) (fun _ => .ref (g 16)) <| wAload 0 <| wCallR 1 (F_X3_mindOfNow g) id (fun _ u => u) <| wCallR 2 (F_X1_mostOf g 6) hEMind hsEMind <| wIst 2 <| wIload 2 <| wAload 0 <| wAload 0 <| wCallR 1 (F_X3_mindOfNow g) id (fun _ u => u) <| wIload 1 <| wK (.int 0) <| wCallR 4 (F_X3_runSum g 6) hCMind hsCMind <| wB (fun x y => x - y) <| wRetI Post))) L st s
set_option maxRecDepth 20000 in
theorem s_X3_gap_0 {X : Cx} (B : Bx) (g : Nat → Nat) {Post : Option Value → HS → Prop} (C : OkX X (gx B) cX3_gap 3 wsX3_gap RX3 (rmD 21)) (R : RtX X (gx B) (some .int) (encH B g) Post)  : Snd X (gx B) 3 (encH B g) 0 (bk_X3_gap_0 g Post ) := by
  unfold bk_X3_gap_0
  refine s_iload_n C rfl dX3_gap_0 ?_
  refine s_callS C (fr_H_E B g) (k_X3_isRule B) gX3_gap_X3_isRule rfl (by decide +kernel) ⟨rfl, rfl⟩ (by decide) (cf_I_r _ _ _) dX3_gap_1 ?_
  refine s_if_ne C (tgt := 14) (by decide) dX3_gap_4 ?_ ?_
  · refine s_aload_n C rfl dX3_gap_14 ?_
    refine s_get C inw_X3_gap_X3 rfl (k := 4) (by decide) (by decide +kernel) (heH_0 B g) (fun _ => rfl) dX3_gap_15 ?_
    refine s_aload_n C rfl dX3_gap_18 ?_
    refine s_get C inw_X3_gap_X3 rfl (k := 0) (by decide) (by decide +kernel) (heH_0 B g) (fun _ => rfl) dX3_gap_19 ?_
    refine s_callV C (fr_H_ST1 B g) (k_X1_fits B g 1) gX3_gap_X1_fits rfl (by decide +kernel) ⟨rfl, rfl⟩ (by decide) rfl (fun s => ⟨_, heH_16 B g s⟩) (cf_RR_r _ _ _ _ _) dX3_gap_22 ?_
    refine s_if_ne C (tgt := 35) (by decide) dX3_gap_25 ?_ ?_
    · refine s_aload_n C rfl dX3_gap_35 ?_
      refine s_get C inw_X3_gap_X3 rfl (k := 4) (by decide) (by decide +kernel) (heH_0 B g) (fun _ => rfl) dX3_gap_36 ?_
      refine s_aload_n C rfl dX3_gap_39 ?_
      refine s_callV C (fr_H_H B g) (k_X3_mindOfNow B g) gX3_gap_X3_mindOfNow rfl (by decide +kernel) ⟨rfl, rfl⟩ (by decide) rfl (fun s => ⟨_, heH_0 B g s⟩) (cf_R_r _ _ _ _) dX3_gap_40 ?_
      refine s_callV C (fr_H_ST6 B g) (k_X1_mostOf B g 6) gX3_gap_X1_mostOf rfl (by decide +kernel) ⟨rfl, rfl⟩ (by decide) rfl (fun s => ⟨_, heH_16 B g s⟩) (cf_RR_r _ _ _ _ _) dX3_gap_43 ?_
      refine s_istore_n C rfl (by decide) dX3_gap_46 ?_
      refine s_iload_n C rfl dX3_gap_47 ?_
      refine s_aload_n C rfl dX3_gap_48 ?_
      refine s_aload_n C rfl dX3_gap_49 ?_
      refine s_callV C (fr_H_H B g) (k_X3_mindOfNow B g) gX3_gap_X3_mindOfNow rfl (by decide +kernel) ⟨rfl, rfl⟩ (by decide) rfl (fun s => ⟨_, heH_0 B g s⟩) (cf_R_r _ _ _ _) dX3_gap_50 ?_
      refine s_iload_n C rfl dX3_gap_53 ?_
      refine s_iconst C (by decide) dX3_gap_54 ?_
      refine s_callV C (fr_H_C6 B g) (k_X3_runSum B g 6) gX3_gap_X3_runSum rfl (by decide +kernel) ⟨rfl, rfl⟩ (by decide) rfl (fun s => ⟨_, heH_0 B g s⟩) (cf_RRII_r _ _ _ _ _) dX3_gap_55 ?_
      refine s_isub C dX3_gap_58 ?_
      exact s_iret C R dX3_gap_59
    · refine s_aload_n C rfl dX3_gap_28 ?_
      refine s_bipush C (by decide) dX3_gap_29 ?_
      refine s_callV C (fr_H_H B g) (k_X3_refuseFarOff B g) gX3_gap_X3_refuseFarOff rfl (by decide +kernel) ⟨rfl, rfl⟩ (by decide) rfl (fun s => ⟨_, heH_0 B g s⟩) (cf_RI_r _ _ _ _) dX3_gap_31 ?_
      exact s_iret C R dX3_gap_34
  · refine s_aload_n C rfl dX3_gap_7 ?_
    refine s_bipush C (by decide) dX3_gap_8 ?_
    refine s_callV C (fr_H_H B g) (k_X3_refuseFarOff B g) gX3_gap_X3_refuseFarOff rfl (by decide +kernel) ⟨rfl, rfl⟩ (by decide) rfl (fun s => ⟨_, heH_0 B g s⟩) (cf_RI_r _ _ _ _) dX3_gap_10 ?_
    exact s_iret C R dX3_gap_13
theorem hRun_e (S : HS) (r x : Int32) : runF (hRo S) (rowN (hRl S)) r x (tCopy (hMind S) (hNow S)) = hRun S r x := rfl
theorem k_X3_gap (B : Bx) (g : Nat → Nat) : MtF (gx B) yX3_gap wsX3_gap (rmD 21) (encH B g) (F_X3_gap g) := by
  refine cf_RI_i (fun l S r hy => Mt.of (by decide) rfl (Nat.le_of_ble_eq_true rfl) rfl (fun X C R => s_X3_gap_0 B g C R) ?_)
  have hy' : yOk (tCopy (hMind S) (hNow S)) := hy
  have hy2 : ∃ a, a < 1000 ∧ tYr (hNow S) = nI a := hy
  simp only [wIload, wAload, wLload, wK, wB, wDv, wU, wLB, wLU, wLS, wL2i, wLcmp, wIf1, wIf2, wKeep, wInc, wIst, wAst, wLst, wDup, wPop, wDup2, wGet, wPut, wPutZ, wIald, wLald, wIast, wLast, wLen, wRetI, wRetZ, wRetL, wRetA, wRetV, wM1, wM2, wCpy, wTab, tabW, nth, stL, stL2, dropL, keepL, mkL, padL, restOK, restOKn, tl_some, tl_none, id_eq, eq_self, true_and, and_true, bk_X3_gap_0, F_X1_fits, F_X1_mostOf, F_X3_isRule, F_X3_mindOfNow, F_X3_refuseFarOff, F_X3_runSum, cf_I_e, cf_RI_e, cf_RRII_e, cf_RR_e, cf_R_e, b2i_eq0, true_or, or_true, hE_n1, hE_n2, hE_m1, hMo_1, hMo_2, hC_mind1, hC_mind2, hC_mind3, hC_mind4, hC_mind6, hCp1, hCp2, hCp3, hCp4, hCp5, tCopy_yr, decide_eq_false_iff_not]
  generalize hm : hMo (hCopy S) = m
  have hn : hNow m.2 = hNow S := by rw [← hm, hMo_now, hCp4]
  simp only [hRun_e]
  simp only [hn]
  by_cases hr : 0 ≤ r ∧ r ≤ 5
  · cases h : sFits (hNow S)
    · have e : r_gap S r = (1000000000 - -6, hRef S (-6)) := by unfold r_gap; rw [if_pos hr, h]; rfl
      rw [e]
      simp only [hr, h, hy', hy2, false_implies, true_implies, not_true_eq_false, not_false_eq_true, true_and, and_true, implies_true, eq_self, ne_eq, true_or, or_true, false_or, or_false, and_self]
    · have e : r_gap S r = (m.1 - (hRun m.2 r 0).1, hsMind m.2 (hRun m.2 r 0).2.2) := by unfold r_gap; rw [if_pos hr, h, hm]; rfl
      rw [e]
      simp only [hr, h, hy', hy2, Bool.true_eq_false, false_implies, true_implies, not_true_eq_false, not_false_eq_true, true_and, and_true, implies_true, eq_self, ne_eq, true_or, or_true, false_or, or_false, and_self]
  · have e : r_gap S r = (1000000000 - -2, hRef S (-2)) := by unfold r_gap; rw [if_neg hr]
    rw [e]
    simp only [hr, false_implies, true_implies, not_true_eq_false, not_false_eq_true, true_and, and_true, implies_true, eq_self, ne_eq, true_or, or_true, false_or, or_false, and_self]
def r_worth (S : HS) (p q : Int32) : Int32 × HS := if hPair S p q = true then (if sFits (hNow S) = true ∧ tFull (hNow S) = false then ((hMo (hCopy S)).1 - (hMo (hWith (hMo (hCopy S)).2 p q)).1, (hMo (hWith (hMo (hCopy S)).2 p q)).2) else (1000000000 - -6, hRef S (-6))) else (1000000000 - -1, hRef S (-1))
def F_X3_worth (g : Nat → Nat) : CF HS := cf_RII (g 0) (fun S _ _ => hYr S) (fun S p q => some (.int (r_worth S p q).1)) (fun S p q => (r_worth S p q).2)
theorem inw_X3_worth_X3 : ∀ w ∈ u_ws RX3 TX3 9, w ∈ wsX3_worth := by decide +kernel
def bk_X3_worth_39 (g : Nat → Nat) (Post : Option Value → HS → Prop)  (L : Lc) (st : List Value) (s : HS) : Prop :=
  (wAload 0 <| wK (.int (-6)) <| wCallR 2 (F_X3_refuseFarOff g) id (fun _ u => u) <| wRetI Post) L st s
set_option maxRecDepth 20000 in
theorem s_X3_worth_39 {X : Cx} (B : Bx) (g : Nat → Nat) {Post : Option Value → HS → Prop} (C : OkX X (gx B) cX3_worth 4 wsX3_worth RX3 (rmD 21)) (R : RtX X (gx B) (some .int) (encH B g) Post)  : Snd X (gx B) 4 (encH B g) 39 (bk_X3_worth_39 g Post ) := by
  unfold bk_X3_worth_39
  refine s_aload_n C rfl dX3_worth_39 ?_
  refine s_bipush C (by decide) dX3_worth_40 ?_
  refine s_callV C (fr_H_H B g) (k_X3_refuseFarOff B g) gX3_worth_X3_refuseFarOff rfl (by decide +kernel) ⟨rfl, rfl⟩ (by decide) rfl (fun s => ⟨_, heH_0 B g s⟩) (cf_RI_r _ _ _ _) dX3_worth_42 ?_
  exact s_iret C R dX3_worth_45
def bk_X3_worth_0 (g : Nat → Nat) (Post : Option Value → HS → Prop)  (L : Lc) (st : List Value) (s : HS) : Prop :=
  (wAload 0 <| wIload 1 <| wIload 2 <| wCallR 3 (F_X3_isPair g) id (fun _ u => u) <| wIf1 (fun x => x = 0) (wAload 0 <| wK (.int (-1)) <| wCallR 2 (F_X3_refuseFarOff g) id (fun _ u => u) <| wRetI Post) (wAload 0 <| wGet (g 0) (fun _ => .ref (g 16)) <| wAload 0 <| wGet (g 0) (fun _ => .ref (g 1)) <| wCallR 2 (F_X1_fits g 1) hENow hsENow <| wIf1 (fun x => x = 0) (bk_X3_worth_39 g Post ) (wAload 0 <| wGet (g 0) (fun _ => .ref (g 1)) <| wCallR 1 (F_X2_bookIsFull g 1) hNow hsNow <| wIf1 (fun x => x = 0) (wAload 0 <| wGet (g 0) (fun _ => .ref (g 16)) <| wAload 0 <| wCallR 1 (F_X3_mindOfNow g) id (fun _ u => u) <| wCallR 2 (F_X1_mostOf g 6) hEMind hsEMind <| wIst 3 <| wIload 3 <| wAload 0 <| wGet (g 0) (fun _ => .ref (g 16)) <| wAload 0 <| wIload 1 <| wIload 2 <| wCallR 3 (F_X3_mindWithHelp g) id (fun _ u => u) <| wCallR 2 (F_X1_mostOf g 6) hEMind hsEMind <| wB (fun x y => x - y) <| wRetI Post) (bk_X3_worth_39 g Post )))) L st s
set_option maxRecDepth 20000 in
theorem s_X3_worth_0 {X : Cx} (B : Bx) (g : Nat → Nat) {Post : Option Value → HS → Prop} (C : OkX X (gx B) cX3_worth 4 wsX3_worth RX3 (rmD 21)) (R : RtX X (gx B) (some .int) (encH B g) Post)  : Snd X (gx B) 4 (encH B g) 0 (bk_X3_worth_0 g Post ) := by
  unfold bk_X3_worth_0
  refine s_aload_n C rfl dX3_worth_0 ?_
  refine s_iload_n C rfl dX3_worth_1 ?_
  refine s_iload_n C rfl dX3_worth_2 ?_
  refine s_callV C (fr_H_H B g) (k_X3_isPair B g) gX3_worth_X3_isPair rfl (by decide +kernel) ⟨rfl, rfl⟩ (by decide) rfl (fun s => ⟨_, heH_0 B g s⟩) (cf_RII_r _ _ _ _) dX3_worth_3 ?_
  refine s_if_ne C (tgt := 15) (by decide) dX3_worth_6 ?_ ?_
  · refine s_aload_n C rfl dX3_worth_15 ?_
    refine s_get C inw_X3_worth_X3 rfl (k := 4) (by decide) (by decide +kernel) (heH_0 B g) (fun _ => rfl) dX3_worth_16 ?_
    refine s_aload_n C rfl dX3_worth_19 ?_
    refine s_get C inw_X3_worth_X3 rfl (k := 0) (by decide) (by decide +kernel) (heH_0 B g) (fun _ => rfl) dX3_worth_20 ?_
    refine s_callV C (fr_H_ST1 B g) (k_X1_fits B g 1) gX3_worth_X1_fits rfl (by decide +kernel) ⟨rfl, rfl⟩ (by decide) rfl (fun s => ⟨_, heH_16 B g s⟩) (cf_RR_r _ _ _ _ _) dX3_worth_23 ?_
    refine s_if_eq C (tgt := 39) (by decide) dX3_worth_26 ?_ ?_
    · exact s_X3_worth_39 B g C R 
    · refine s_aload_n C rfl dX3_worth_29 ?_
      refine s_get C inw_X3_worth_X3 rfl (k := 0) (by decide) (by decide +kernel) (heH_0 B g) (fun _ => rfl) dX3_worth_30 ?_
      refine s_callV C (fr_H_T1 B g) (k_X2_bookIsFull B g 1) gX3_worth_X2_bookIsFull rfl (by decide +kernel) ⟨rfl, rfl⟩ (by decide) rfl (fun s => ⟨_, heH_1 B g s⟩) (cf_R_r _ _ _ _) dX3_worth_33 ?_
      refine s_if_eq C (tgt := 46) (by decide) dX3_worth_36 ?_ ?_
      · refine s_aload_n C rfl dX3_worth_46 ?_
        refine s_get C inw_X3_worth_X3 rfl (k := 4) (by decide) (by decide +kernel) (heH_0 B g) (fun _ => rfl) dX3_worth_47 ?_
        refine s_aload_n C rfl dX3_worth_50 ?_
        refine s_callV C (fr_H_H B g) (k_X3_mindOfNow B g) gX3_worth_X3_mindOfNow rfl (by decide +kernel) ⟨rfl, rfl⟩ (by decide) rfl (fun s => ⟨_, heH_0 B g s⟩) (cf_R_r _ _ _ _) dX3_worth_51 ?_
        refine s_callV C (fr_H_ST6 B g) (k_X1_mostOf B g 6) gX3_worth_X1_mostOf rfl (by decide +kernel) ⟨rfl, rfl⟩ (by decide) rfl (fun s => ⟨_, heH_16 B g s⟩) (cf_RR_r _ _ _ _ _) dX3_worth_54 ?_
        refine s_istore_n C rfl (by decide) dX3_worth_57 ?_
        refine s_iload_n C rfl dX3_worth_58 ?_
        refine s_aload_n C rfl dX3_worth_59 ?_
        refine s_get C inw_X3_worth_X3 rfl (k := 4) (by decide) (by decide +kernel) (heH_0 B g) (fun _ => rfl) dX3_worth_60 ?_
        refine s_aload_n C rfl dX3_worth_63 ?_
        refine s_iload_n C rfl dX3_worth_64 ?_
        refine s_iload_n C rfl dX3_worth_65 ?_
        refine s_callV C (fr_H_H B g) (k_X3_mindWithHelp B g) gX3_worth_X3_mindWithHelp rfl (by decide +kernel) ⟨rfl, rfl⟩ (by decide) rfl (fun s => ⟨_, heH_0 B g s⟩) (cf_RII_r _ _ _ _) dX3_worth_66 ?_
        refine s_callV C (fr_H_ST6 B g) (k_X1_mostOf B g 6) gX3_worth_X1_mostOf rfl (by decide +kernel) ⟨rfl, rfl⟩ (by decide) rfl (fun s => ⟨_, heH_16 B g s⟩) (cf_RR_r _ _ _ _ _) dX3_worth_69 ?_
        refine s_isub C dX3_worth_72 ?_
        exact s_iret C R dX3_worth_73
      · exact s_X3_worth_39 B g C R 
  · refine s_aload_n C rfl dX3_worth_9 ?_
    refine s_iconst C (by decide) dX3_worth_10 ?_
    refine s_callV C (fr_H_H B g) (k_X3_refuseFarOff B g) gX3_worth_X3_refuseFarOff rfl (by decide +kernel) ⟨rfl, rfl⟩ (by decide) rfl (fun s => ⟨_, heH_0 B g s⟩) (cf_RI_r _ _ _ _) dX3_worth_11 ?_
    exact s_iret C R dX3_worth_14
theorem k_X3_worth (B : Bx) (g : Nat → Nat) : MtF (gx B) yX3_worth wsX3_worth (rmD 21) (encH B g) (F_X3_worth g) := by
  refine cf_RII_i (fun l S p q hy => Mt.of (by decide) rfl (Nat.le_of_ble_eq_true rfl) rfl (fun X C R => s_X3_worth_0 B g C R) ?_)
  have hy' : yOk (tCopy (hMind S) (hNow S)) := hy
  simp only [wIload, wAload, wLload, wK, wB, wDv, wU, wLB, wLU, wLS, wL2i, wLcmp, wIf1, wIf2, wKeep, wInc, wIst, wAst, wLst, wDup, wPop, wDup2, wGet, wPut, wPutZ, wIald, wLald, wIast, wLast, wLen, wRetI, wRetZ, wRetL, wRetA, wRetV, wM1, wM2, wCpy, wTab, tabW, nth, stL, stL2, dropL, keepL, mkL, padL, restOK, restOKn, tl_some, tl_none, id_eq, eq_self, true_and, and_true, bk_X3_worth_39, bk_X3_worth_0, F_X1_fits, F_X1_mostOf, F_X2_bookIsFull, F_X3_isPair, F_X3_mindOfNow, F_X3_mindWithHelp, F_X3_refuseFarOff, cf_RII_e, cf_RI_e, cf_RR_e, cf_R_e, b2i_eq0, true_or, or_true, hE_n1, hE_n2, hE_m1, hMo_1, hMo_2, hCp3, hCp4, hWith_e, hWith_m, hg_Now_Now, hg_Now_Mind, hg_Now_Image, hg_Now_Im, hg_Now_S, hg_Now_L, hg_Now_Ro, hg_Now_Rl, hg_Now_Re, hg_Mind_Now, hg_Mind_Mind, hg_Mind_Image, hg_Mind_Im, hg_Mind_S, hg_Mind_L, hg_Mind_Ro, hg_Mind_Rl, hg_Mind_Re, hg_Image_Now, hg_Image_Mind, hg_Image_Image, hg_Image_Im, hg_Image_S, hg_Image_L, hg_Image_Ro, hg_Image_Rl, hg_Image_Re, hg_Im_Now, hg_Im_Mind, hg_Im_Image, hg_Im_Im, hg_Im_S, hg_Im_L, hg_Im_Ro, hg_Im_Rl, hg_Im_Re, hg_S_Now, hg_S_Mind, hg_S_Image, hg_S_Im, hg_S_S, hg_S_L, hg_S_Ro, hg_S_Rl, hg_S_Re, hg_L_Now, hg_L_Mind, hg_L_Image, hg_L_Im, hg_L_S, hg_L_L, hg_L_Ro, hg_L_Rl, hg_L_Re, hg_Ro_Now, hg_Ro_Mind, hg_Ro_Image, hg_Ro_Im, hg_Ro_S, hg_Ro_L, hg_Ro_Ro, hg_Ro_Rl, hg_Ro_Re, hg_Rl_Now, hg_Rl_Mind, hg_Rl_Image, hg_Rl_Im, hg_Rl_S, hg_Rl_L, hg_Rl_Ro, hg_Rl_Rl, hg_Rl_Re, hg_Re_Now, hg_Re_Mind, hg_Re_Image, hg_Re_Im, hg_Re_S, hg_Re_L, hg_Re_Ro, hg_Re_Rl, hg_Re_Re, he_Now, ho_Now, he_Mind, ho_Mind, he_Image, ho_Image, he_Im, ho_Im, he_S, ho_S, he_L, ho_L, he_Ro, ho_Ro, he_Rl, ho_Rl, he_Re, ho_Re]
  generalize hm : hMo (hCopy S) = m
  have hn : hNow m.2 = hNow S := by rw [← hm, hMo_now, hCp4]
  have hy3 : yOk (tWrite (tCopy (hMind m.2) (hNow S)) p q 9 (-1)) := by unfold yOk; rw [tYr_write]; exact hy
  simp only [hn]
  cases h0 : hPair S p q
  · have e : r_worth S p q = (1000000000 - -1, hRef S (-1)) := by unfold r_worth; rw [h0]; rfl
    rw [e]
    simp only [h0, false_implies, true_implies, not_true_eq_false, not_false_eq_true, true_and, and_true, implies_true, eq_self, ne_eq, true_or, or_true, false_or, or_false, and_self]
  · cases h : sFits (hNow S)
    · have e : r_worth S p q = (1000000000 - -6, hRef S (-6)) := by unfold r_worth; rw [h0, if_pos rfl, if_neg (fun z => by rw [h] at z; exact Bool.noConfusion z.1)]
      rw [e]
      simp only [h0, h, hy', hy3, Bool.true_eq_false, false_implies, true_implies, not_true_eq_false, not_false_eq_true, true_and, and_true, implies_true, eq_self, ne_eq, true_or, or_true, false_or, or_false, and_self]
    · cases h2 : tFull (hNow S)
      · have e : r_worth S p q = (m.1 - (hMo (hWith m.2 p q)).1, (hMo (hWith m.2 p q)).2) := by unfold r_worth; rw [h0, if_pos rfl, if_pos ⟨h, h2⟩, hm]
        rw [e]
        simp only [h0, h, h2, hy', hy3, Bool.true_eq_false, false_implies, true_implies, not_true_eq_false, not_false_eq_true, true_and, and_true, implies_true, eq_self, ne_eq, true_or, or_true, false_or, or_false, and_self]
      · have e : r_worth S p q = (1000000000 - -6, hRef S (-6)) := by unfold r_worth; rw [h0, if_pos rfl, if_neg (fun z => by rw [h2] at z; exact Bool.noConfusion z.2)]
        rw [e]
        simp only [h0, h, h2, hy', hy3, Bool.true_eq_false, false_implies, true_implies, not_true_eq_false, not_false_eq_true, true_and, and_true, implies_true, eq_self, ne_eq, true_or, or_true, false_or, or_false, and_self]
/-- kept, least, the object behind -/
def keF (q : Int32) : Nat → Nat → Int32 → Int32 → HS → Int32 × HS
  | _, 0, kept, _, S => (kept, S)
  | k, n + 1, kept, least, S => if nI k = q then keF q (k + 1) n kept least S else if (hMo (hWith S (nI k) q)).1 < least then keF q (k + 1) n (nI k) (hMo (hWith S (nI k) q)).1 (hMo (hWith S (nI k) q)).2 else keF q (k + 1) n kept least (hMo (hWith S (nI k) q)).2
theorem keF_s (q : Int32) (k n : Nat) (kept least : Int32) (S : HS) : keF q k (n + 1) kept least S = if nI k = q then keF q (k + 1) n kept least S else if (hMo (hWith S (nI k) q)).1 < least then keF q (k + 1) n (nI k) (hMo (hWith S (nI k) q)).1 (hMo (hWith S (nI k) q)).2 else keF q (k + 1) n kept least (hMo (hWith S (nI k) q)).2 := rfl
def hKe (S : HS) (q : Int32) : Int32 × HS := keF q 0 (tPeople (hNow S)) (-9) (hMo (hCopy S)).1 (hMo (hCopy S)).2
def r_keeps (S : HS) (q : Int32) : Int32 × HS := if tHasP (hNow S) q = true then (if sFits (hNow S) = true ∧ tFull (hNow S) = false then hKe S q else (-6, hRef S (-6))) else (-1, hRef S (-1))
def F_X3_keeps (g : Nat → Nat) : CF HS := cf_RI (g 0) (fun S _ => hYr S) (fun S q => some (.int (r_keeps S q).1)) (fun S q => (r_keeps S q).2)
theorem inw_X3_keeps_X2 : ∀ w ∈ u_ws RX2 TX2 8, w ∈ wsX3_keeps := by decide +kernel
theorem inw_X3_keeps_X3 : ∀ w ∈ u_ws RX3 TX3 9, w ∈ wsX3_keeps := by decide +kernel
def bk_X3_keeps_41 (g : Nat → Nat) (Post : Option Value → HS → Prop)  (L : Lc) (st : List Value) (s : HS) : Prop :=
  (wAload 0 <| wK (.int (-6)) <| wCallR 2 (F_X3_refuse g) id (fun _ u => u) <| wRetI Post) L st s
set_option maxRecDepth 20000 in
theorem s_X3_keeps_41 {X : Cx} (B : Bx) (g : Nat → Nat) {Post : Option Value → HS → Prop} (C : OkX X (gx B) cX3_keeps 6 wsX3_keeps RX3 (rmD 21)) (R : RtX X (gx B) (some .int) (encH B g) Post)  : Snd X (gx B) 6 (encH B g) 41 (bk_X3_keeps_41 g Post ) := by
  unfold bk_X3_keeps_41
  refine s_aload_n C rfl dX3_keeps_41 ?_
  refine s_bipush C (by decide) dX3_keeps_42 ?_
  refine s_callV C (fr_H_H B g) (k_X3_refuse B g) gX3_keeps_X3_refuse rfl (by decide +kernel) ⟨rfl, rfl⟩ (by decide) rfl (fun s => ⟨_, heH_0 B g s⟩) (cf_RI_r _ _ _ _) dX3_keeps_44 ?_
  exact s_iret C R dX3_keeps_47
def bk_X3_keeps_0 (g : Nat → Nat) (Post : Option Value → HS → Prop) (K66 : PT HS) (L : Lc) (st : List Value) (s : HS) : Prop :=
  (wAload 0 <| wGet (g 0) (fun _ => .ref (g 1)) <| wIload 1 <| wCallR 2 (F_X2_hasPerson g 1) hNow hsNow <| wIf1 (fun x => x = 0) (wAload 0 <| wK (.int (-1)) <| wCallR 2 (F_X3_refuse g) id (fun _ u => u) <| wRetI Post) (wAload 0 <| wGet (g 0) (fun _ => .ref (g 16)) <| wAload 0 <| wGet (g 0) (fun _ => .ref (g 1)) <| wCallR 2 (F_X1_fits g 1) hENow hsENow <| wIf1 (fun x => x = 0) (bk_X3_keeps_41 g Post ) (wAload 0 <| wGet (g 0) (fun _ => .ref (g 1)) <| wCallR 1 (F_X2_bookIsFull g 1) hNow hsNow <| wIf1 (fun x => x = 0) (wK (.int (-9)) <| wIst 2 <| wAload 0 <| wGet (g 0) (fun _ => .ref (g 16)) <| wAload 0 <| wCallR 1 (F_X3_mindOfNow g) id (fun _ u => u) <| wCallR 2 (F_X1_mostOf g 6) hEMind hsEMind <| wIst 3 <| wK (.int 0) <| wIst 4 <| wKeep [true, true, true, true, true, false] K66) (bk_X3_keeps_41 g Post )))) L st s
set_option maxRecDepth 20000 in
theorem s_X3_keeps_0 {X : Cx} (B : Bx) (g : Nat → Nat) {Post : Option Value → HS → Prop} (C : OkX X (gx B) cX3_keeps 6 wsX3_keeps RX3 (rmD 21)) (R : RtX X (gx B) (some .int) (encH B g) Post) {K66 : PT HS} (hK66 : Snd X (gx B) 6 (encH B g) 66 K66) : Snd X (gx B) 6 (encH B g) 0 (bk_X3_keeps_0 g Post K66) := by
  unfold bk_X3_keeps_0
  refine s_aload_n C rfl dX3_keeps_0 ?_
  refine s_get C inw_X3_keeps_X3 rfl (k := 0) (by decide) (by decide +kernel) (heH_0 B g) (fun _ => rfl) dX3_keeps_1 ?_
  refine s_iload_n C rfl dX3_keeps_4 ?_
  refine s_callV C (fr_H_T1 B g) (k_X2_hasPerson B g 1) gX3_keeps_X2_hasPerson rfl (by decide +kernel) ⟨rfl, rfl⟩ (by decide) rfl (fun s => ⟨_, heH_1 B g s⟩) (cf_RI_r _ _ _ _) dX3_keeps_5 ?_
  refine s_if_ne C (tgt := 17) (by decide) dX3_keeps_8 ?_ ?_
  · refine s_aload_n C rfl dX3_keeps_17 ?_
    refine s_get C inw_X3_keeps_X3 rfl (k := 4) (by decide) (by decide +kernel) (heH_0 B g) (fun _ => rfl) dX3_keeps_18 ?_
    refine s_aload_n C rfl dX3_keeps_21 ?_
    refine s_get C inw_X3_keeps_X3 rfl (k := 0) (by decide) (by decide +kernel) (heH_0 B g) (fun _ => rfl) dX3_keeps_22 ?_
    refine s_callV C (fr_H_ST1 B g) (k_X1_fits B g 1) gX3_keeps_X1_fits rfl (by decide +kernel) ⟨rfl, rfl⟩ (by decide) rfl (fun s => ⟨_, heH_16 B g s⟩) (cf_RR_r _ _ _ _ _) dX3_keeps_25 ?_
    refine s_if_eq C (tgt := 41) (by decide) dX3_keeps_28 ?_ ?_
    · exact s_X3_keeps_41 B g C R 
    · refine s_aload_n C rfl dX3_keeps_31 ?_
      refine s_get C inw_X3_keeps_X3 rfl (k := 0) (by decide) (by decide +kernel) (heH_0 B g) (fun _ => rfl) dX3_keeps_32 ?_
      refine s_callV C (fr_H_T1 B g) (k_X2_bookIsFull B g 1) gX3_keeps_X2_bookIsFull rfl (by decide +kernel) ⟨rfl, rfl⟩ (by decide) rfl (fun s => ⟨_, heH_1 B g s⟩) (cf_R_r _ _ _ _) dX3_keeps_35 ?_
      refine s_if_eq C (tgt := 48) (by decide) dX3_keeps_38 ?_ ?_
      · refine s_bipush C (by decide) dX3_keeps_48 ?_
        refine s_istore_n C rfl (by decide) dX3_keeps_50 ?_
        refine s_aload_n C rfl dX3_keeps_51 ?_
        refine s_get C inw_X3_keeps_X3 rfl (k := 4) (by decide) (by decide +kernel) (heH_0 B g) (fun _ => rfl) dX3_keeps_52 ?_
        refine s_aload_n C rfl dX3_keeps_55 ?_
        refine s_callV C (fr_H_H B g) (k_X3_mindOfNow B g) gX3_keeps_X3_mindOfNow rfl (by decide +kernel) ⟨rfl, rfl⟩ (by decide) rfl (fun s => ⟨_, heH_0 B g s⟩) (cf_R_r _ _ _ _) dX3_keeps_56 ?_
        refine s_callV C (fr_H_ST6 B g) (k_X1_mostOf B g 6) gX3_keeps_X1_mostOf rfl (by decide +kernel) ⟨rfl, rfl⟩ (by decide) rfl (fun s => ⟨_, heH_16 B g s⟩) (cf_RR_r _ _ _ _ _) dX3_keeps_59 ?_
        refine s_istore_n C rfl (by decide) dX3_keeps_62 ?_
        refine s_iconst C (by decide) dX3_keeps_63 ?_
        refine s_istore C (by decide) dX3_keeps_64 ?_
        exact s_keep _ hK66
      · exact s_X3_keeps_41 B g C R 
  · refine s_aload_n C rfl dX3_keeps_11 ?_
    refine s_iconst C (by decide) dX3_keeps_12 ?_
    refine s_callV C (fr_H_H B g) (k_X3_refuse B g) gX3_keeps_X3_refuse rfl (by decide +kernel) ⟨rfl, rfl⟩ (by decide) rfl (fun s => ⟨_, heH_0 B g s⟩) (cf_RI_r _ _ _ _) dX3_keeps_13 ?_
    exact s_iret C R dX3_keeps_16
def bk_X3_keeps_116 (g : Nat → Nat) (Post : Option Value → HS → Prop) (K66 : PT HS) (L : Lc) (st : List Value) (s : HS) : Prop :=
  (wInc 4 1 <| wKeep [true, true, true, true, true, false] K66) L st s
set_option maxRecDepth 20000 in
theorem s_X3_keeps_116 {X : Cx} (B : Bx) (g : Nat → Nat) {Post : Option Value → HS → Prop} (C : OkX X (gx B) cX3_keeps 6 wsX3_keeps RX3 (rmD 21)) (R : RtX X (gx B) (some .int) (encH B g) Post) {K66 : PT HS} (hK66 : Snd X (gx B) 6 (encH B g) 66 K66) : Snd X (gx B) 6 (encH B g) 116 (bk_X3_keeps_116 g Post K66) := by
  unfold bk_X3_keeps_116
  refine s_iinc C (by decide) (by decide) dX3_keeps_116 ?_
  refine s_goto C (tgt := 66) (by decide) dX3_keeps_119 ?_
  exact s_keep _ hK66
def bk_X3_keeps_102 (g : Nat → Nat) (Post : Option Value → HS → Prop) (K66 : PT HS) (L : Lc) (st : List Value) (s : HS) : Prop :=
  (wIst 5 <| wIload 5 <| wIload 3 <| wIf2 (fun x y => y ≤ x) (bk_X3_keeps_116 g Post K66) (wIload 5 <| wIst 3 <| wIload 4 <| wIst 2 <| bk_X3_keeps_116 g Post K66)) L st s
set_option maxRecDepth 20000 in
theorem s_X3_keeps_102 {X : Cx} (B : Bx) (g : Nat → Nat) {Post : Option Value → HS → Prop} (C : OkX X (gx B) cX3_keeps 6 wsX3_keeps RX3 (rmD 21)) (R : RtX X (gx B) (some .int) (encH B g) Post) {K66 : PT HS} (hK66 : Snd X (gx B) 6 (encH B g) 66 K66) : Snd X (gx B) 6 (encH B g) 102 (bk_X3_keeps_102 g Post K66) := by
  unfold bk_X3_keeps_102
  refine s_istore C (by decide) dX3_keeps_102 ?_
  refine s_iload C dX3_keeps_104 ?_
  refine s_iload_n C rfl dX3_keeps_106 ?_
  refine s_icmp_ge C (tgt := 116) (by decide) dX3_keeps_107 ?_ ?_
  · exact s_X3_keeps_116 B g C R hK66
  · refine s_iload C dX3_keeps_110 ?_
    refine s_istore_n C rfl (by decide) dX3_keeps_112 ?_
    refine s_iload C dX3_keeps_113 ?_
    refine s_istore_n C rfl (by decide) dX3_keeps_115 ?_
    exact s_X3_keeps_116 B g C R hK66
def bk_X3_keeps_66 (g : Nat → Nat) (Post : Option Value → HS → Prop) (K66 : PT HS) (L : Lc) (st : List Value) (s : HS) : Prop :=
  (wIload 4 <| wAload 0 <| wGet (g 0) (fun _ => .ref (g 1)) <| wGet (g 1) (fun s => .int (hNowPp s)) <| wIf2 (fun x y => y ≤ x) (wIload 2 <| wRetI Post) (wIload 4 <| wIload 1 <| wIf2 (fun x y => x = y) (wIload 3 <| bk_X3_keeps_102 g Post K66) (wAload 0 <| wGet (g 0) (fun _ => .ref (g 16)) <| wAload 0 <| wIload 4 <| wIload 1 <| wCallR 3 (F_X3_mindWithHelp g) id (fun _ u => u) <| wCallR 2 (F_X1_mostOf g 6) hEMind hsEMind <| bk_X3_keeps_102 g Post K66))) L st s
set_option maxRecDepth 20000 in
theorem s_X3_keeps_66 {X : Cx} (B : Bx) (g : Nat → Nat) {Post : Option Value → HS → Prop} (C : OkX X (gx B) cX3_keeps 6 wsX3_keeps RX3 (rmD 21)) (R : RtX X (gx B) (some .int) (encH B g) Post) {K66 : PT HS} (hK66 : Snd X (gx B) 6 (encH B g) 66 K66) : Snd X (gx B) 6 (encH B g) 66 (bk_X3_keeps_66 g Post K66) := by
  unfold bk_X3_keeps_66
  refine s_iload C dX3_keeps_66 ?_
  refine s_aload_n C rfl dX3_keeps_68 ?_
  refine s_get C inw_X3_keeps_X3 rfl (k := 0) (by decide) (by decide +kernel) (heH_0 B g) (fun _ => rfl) dX3_keeps_69 ?_
  refine s_get C inw_X3_keeps_X2 rfl (k := 1) (by decide) (by decide +kernel) (heH_1 B g) (fun _ => rfl) dX3_keeps_72 ?_
  refine s_icmp_ge C (tgt := 122) (by decide) dX3_keeps_75 ?_ ?_
  · refine s_iload_n C rfl dX3_keeps_122 ?_
    exact s_iret C R dX3_keeps_123
  · refine s_iload C dX3_keeps_78 ?_
    refine s_iload_n C rfl dX3_keeps_80 ?_
    refine s_icmp_ne C (tgt := 88) (by decide) dX3_keeps_81 ?_ ?_
    · refine s_aload_n C rfl dX3_keeps_88 ?_
      refine s_get C inw_X3_keeps_X3 rfl (k := 4) (by decide) (by decide +kernel) (heH_0 B g) (fun _ => rfl) dX3_keeps_89 ?_
      refine s_aload_n C rfl dX3_keeps_92 ?_
      refine s_iload C dX3_keeps_93 ?_
      refine s_iload_n C rfl dX3_keeps_95 ?_
      refine s_callV C (fr_H_H B g) (k_X3_mindWithHelp B g) gX3_keeps_X3_mindWithHelp rfl (by decide +kernel) ⟨rfl, rfl⟩ (by decide) rfl (fun s => ⟨_, heH_0 B g s⟩) (cf_RII_r _ _ _ _) dX3_keeps_96 ?_
      refine s_callV C (fr_H_ST6 B g) (k_X1_mostOf B g 6) gX3_keeps_X1_mostOf rfl (by decide +kernel) ⟨rfl, rfl⟩ (by decide) rfl (fun s => ⟨_, heH_16 B g s⟩) (cf_RR_r _ _ _ _ _) dX3_keeps_99 ?_
      exact s_X3_keeps_102 B g C R hK66
    · refine s_iload_n C rfl dX3_keeps_84 ?_
      refine s_goto C (tgt := 102) (by decide) dX3_keeps_85 ?_
      exact s_X3_keeps_102 B g C R hK66
def I_ke (g : Nat → Nat) (W : TS) (q : Int32) (fin : Int32 × HS) (n : Nat) (L : Lc) (st : List Value) (s : HS) : Prop := ∃ (k : Nat) (kept least : Int32), n + k = tPeople W ∧ hNow s = W ∧ st = [] ∧ L = [some (.ref (g 0)), some (.int q), some (.int kept), some (.int least), some (.int (nI k)), none] ∧ keF q k n kept least s = fin
theorem k_X3_keeps (B : Bx) (g : Nat → Nat) : MtF (gx B) yX3_keeps wsX3_keeps (rmD 21) (encH B g) (F_X3_keeps g) := by
  refine cf_RI_i (fun l S q hy => ?_)
  refine Mt.of (P := bk_X3_keeps_0 g (fun o u => o = some (.int (r_keeps S q).1) ∧ u = (r_keeps S q).2) (fun L st s => (tHasP (hNow S) q = true ∧ sFits (hNow S) = true ∧ tFull (hNow S) = false) ∧ ∃ n, I_ke g (hNow S) q (hKe S q) n L st s)) (by decide) rfl (Nat.le_of_ble_eq_true rfl) rfl (fun X C R => s_X3_keeps_0 B g C R (Snd.imp (fun hc => snd_loop _ (I_ke g (hNow S) q (hKe S q)) (fun K hK => s_X3_keeps_66 B g C R hK) ?_))) ?_
  · rintro K n L st s ⟨k, kept, least, hn, hW, rfl, rfl, hf⟩ hK
    have er : r_keeps S q = hKe S q := by
      unfold r_keeps
      rw [if_pos hc.1, if_pos hc.2]
    simp only [wIload, wAload, wLload, wK, wB, wDv, wU, wLB, wLU, wLS, wL2i, wLcmp, wIf1, wIf2, wKeep, wInc, wIst, wAst, wLst, wDup, wPop, wDup2, wGet, wPut, wPutZ, wIald, wLald, wIast, wLast, wLen, wRetI, wRetZ, wRetL, wRetA, wRetV, wM1, wM2, wCpy, wTab, tabW, nth, stL, stL2, dropL, keepL, mkL, padL, restOK, restOKn, tl_some, tl_none, id_eq, eq_self, true_and, and_true, bk_X3_keeps_41, bk_X3_keeps_0, bk_X3_keeps_116, bk_X3_keeps_102, bk_X3_keeps_66, F_X1_fits, F_X1_mostOf, F_X2_bookIsFull, F_X2_hasPerson, F_X3_mindOfNow, F_X3_mindWithHelp, F_X3_refuse, cf_RII_e, cf_RI_e, cf_RR_e, cf_R_e, b2i_eq0, hE_n1, hE_n2, hE_m1, hMo_1, hMo_2, hWith_e, hWith_m, hNowPp, hg_Now_Now, hg_Now_Mind, hg_Now_Image, hg_Now_Im, hg_Now_S, hg_Now_L, hg_Now_Ro, hg_Now_Rl, hg_Now_Re, hg_Mind_Now, hg_Mind_Mind, hg_Mind_Image, hg_Mind_Im, hg_Mind_S, hg_Mind_L, hg_Mind_Ro, hg_Mind_Rl, hg_Mind_Re, hg_Image_Now, hg_Image_Mind, hg_Image_Image, hg_Image_Im, hg_Image_S, hg_Image_L, hg_Image_Ro, hg_Image_Rl, hg_Image_Re, hg_Im_Now, hg_Im_Mind, hg_Im_Image, hg_Im_Im, hg_Im_S, hg_Im_L, hg_Im_Ro, hg_Im_Rl, hg_Im_Re, hg_S_Now, hg_S_Mind, hg_S_Image, hg_S_Im, hg_S_S, hg_S_L, hg_S_Ro, hg_S_Rl, hg_S_Re, hg_L_Now, hg_L_Mind, hg_L_Image, hg_L_Im, hg_L_S, hg_L_L, hg_L_Ro, hg_L_Rl, hg_L_Re, hg_Ro_Now, hg_Ro_Mind, hg_Ro_Image, hg_Ro_Im, hg_Ro_S, hg_Ro_L, hg_Ro_Ro, hg_Ro_Rl, hg_Ro_Re, hg_Rl_Now, hg_Rl_Mind, hg_Rl_Image, hg_Rl_Im, hg_Rl_S, hg_Rl_L, hg_Rl_Ro, hg_Rl_Rl, hg_Rl_Re, hg_Re_Now, hg_Re_Mind, hg_Re_Image, hg_Re_Im, hg_Re_S, hg_Re_L, hg_Re_Ro, hg_Re_Rl, hg_Re_Re, he_Now, ho_Now, he_Mind, ho_Mind, he_Image, ho_Image, he_Im, ho_Im, he_S, ho_S, he_L, ho_L, he_Ro, ho_Ro, he_Rl, ho_Rl, he_Re, ho_Re]
    rw [er, hW]
    have hb := clamp_lt (tPp (hNow S))
    have hn2 := hn
    unfold tPeople at hn2
    rcases Nat.lt_or_ge k (tPeople (hNow S)) with hlt | hge
    · have h1 : ¬ tPp (hNow S) ≤ nI k := by unfold tPeople at hlt; rw [le_nI (by omega)]; omega
      obtain ⟨n, rfl⟩ : ∃ m, n = m + 1 := ⟨n - 1, by omega⟩
      rw [keF_s] at hf
      have hy3 : yOk (tWrite (tCopy (hMind s) (hNow S)) (nI k) q 9 (-1)) := by unfold yOk; rw [tYr_write]; exact hy
      by_cases hq : nI k = q
      · rw [if_pos hq] at hf
        have hc := hK n _ _ _ (by omega) ⟨k + 1, _, _, by omega, hW, rfl, rfl, hf⟩
        rw [← nI_1] at hc
        have hl : least ≤ least := Int32.le_refl _
        subst hq
        simp only [h1, hl, false_implies, true_implies, not_true_eq_false, not_false_eq_true, true_and, and_true, implies_true, eq_self, ne_eq, true_or, or_true, false_or, or_false, and_self]
        exact hc
      · rw [if_neg hq] at hf
        have hw : hNow (hMo (hWith s (nI k) q)).2 = hNow S := by rw [hMo_now, hWith_now]; exact hW
        generalize hMo (hWith s (nI k) q) = w at hf hw ⊢
        by_cases h2 : w.1 < least
        · rw [if_pos h2] at hf
          have h3 : ¬ least ≤ w.1 := Int32.not_le.mpr h2
          have hc := hK n _ _ _ (by omega) ⟨k + 1, _, _, by omega, hw, rfl, rfl, hf⟩
          rw [← nI_1] at hc
          simp only [h1, hq, h3, hy3, false_implies, true_implies, not_true_eq_false, not_false_eq_true, true_and, and_true, implies_true, eq_self, ne_eq, true_or, or_true, false_or, or_false, and_self]
          exact hc
        · rw [if_neg h2] at hf
          have h3 : least ≤ w.1 := Int32.not_lt.mp h2
          have hc := hK n _ _ _ (by omega) ⟨k + 1, _, _, by omega, hw, rfl, rfl, hf⟩
          rw [← nI_1] at hc
          simp only [h1, hq, h3, hy3, false_implies, true_implies, not_true_eq_false, not_false_eq_true, true_and, and_true, implies_true, eq_self, ne_eq, true_or, or_true, false_or, or_false, and_self]
          exact hc
    · have h1 : tPp (hNow S) ≤ nI k := by unfold tPeople at hge; exact (le_nI (by omega)).mpr hge
      have h0 : n = 0 := by omega
      subst h0
      have hf : (kept, s) = hKe S q := hf
      rw [← hf]
      simp only [h1, false_implies, true_implies, not_true_eq_false, not_false_eq_true, true_and, and_true, implies_true, eq_self, ne_eq, true_or, or_true, false_or, or_false, and_self]
  · have hy' : yOk (tCopy (hMind S) (hNow S)) := hy
    simp only [wIload, wAload, wLload, wK, wB, wDv, wU, wLB, wLU, wLS, wL2i, wLcmp, wIf1, wIf2, wKeep, wInc, wIst, wAst, wLst, wDup, wPop, wDup2, wGet, wPut, wPutZ, wIald, wLald, wIast, wLast, wLen, wRetI, wRetZ, wRetL, wRetA, wRetV, wM1, wM2, wCpy, wTab, tabW, nth, stL, stL2, dropL, keepL, mkL, padL, restOK, restOKn, tl_some, tl_none, id_eq, eq_self, true_and, and_true, bk_X3_keeps_41, bk_X3_keeps_0, bk_X3_keeps_116, bk_X3_keeps_102, bk_X3_keeps_66, F_X1_fits, F_X1_mostOf, F_X2_bookIsFull, F_X2_hasPerson, F_X3_mindOfNow, F_X3_mindWithHelp, F_X3_refuse, cf_RII_e, cf_RI_e, cf_RR_e, cf_R_e, b2i_eq0, true_or, or_true, hE_n1, hE_n2, hE_m1, hMo_1, hMo_2, hCp3, hCp4, hg_Now_Now, hg_Now_Mind, hg_Now_Image, hg_Now_Im, hg_Now_S, hg_Now_L, hg_Now_Ro, hg_Now_Rl, hg_Now_Re, hg_Mind_Now, hg_Mind_Mind, hg_Mind_Image, hg_Mind_Im, hg_Mind_S, hg_Mind_L, hg_Mind_Ro, hg_Mind_Rl, hg_Mind_Re, hg_Image_Now, hg_Image_Mind, hg_Image_Image, hg_Image_Im, hg_Image_S, hg_Image_L, hg_Image_Ro, hg_Image_Rl, hg_Image_Re, hg_Im_Now, hg_Im_Mind, hg_Im_Image, hg_Im_Im, hg_Im_S, hg_Im_L, hg_Im_Ro, hg_Im_Rl, hg_Im_Re, hg_S_Now, hg_S_Mind, hg_S_Image, hg_S_Im, hg_S_S, hg_S_L, hg_S_Ro, hg_S_Rl, hg_S_Re, hg_L_Now, hg_L_Mind, hg_L_Image, hg_L_Im, hg_L_S, hg_L_L, hg_L_Ro, hg_L_Rl, hg_L_Re, hg_Ro_Now, hg_Ro_Mind, hg_Ro_Image, hg_Ro_Im, hg_Ro_S, hg_Ro_L, hg_Ro_Ro, hg_Ro_Rl, hg_Ro_Re, hg_Rl_Now, hg_Rl_Mind, hg_Rl_Image, hg_Rl_Im, hg_Rl_S, hg_Rl_L, hg_Rl_Ro, hg_Rl_Rl, hg_Rl_Re, hg_Re_Now, hg_Re_Mind, hg_Re_Image, hg_Re_Im, hg_Re_S, hg_Re_L, hg_Re_Ro, hg_Re_Rl, hg_Re_Re, he_Now, ho_Now, he_Mind, ho_Mind, he_Image, ho_Image, he_Im, ho_Im, he_S, ho_S, he_L, ho_L, he_Ro, ho_Ro, he_Rl, ho_Rl, he_Re, ho_Re]
    cases h0 : tHasP (hNow S) q
    · have e : r_keeps S q = (-1, hRef S (-1)) := by unfold r_keeps; rw [h0]; rfl
      rw [e]
      simp only [h0, false_implies, true_implies, not_true_eq_false, not_false_eq_true, true_and, and_true, implies_true, eq_self, ne_eq, true_or, or_true, false_or, or_false, and_self]
    · cases h : sFits (hNow S)
      · have e : r_keeps S q = (-6, hRef S (-6)) := by unfold r_keeps; rw [h0, if_pos rfl, if_neg (fun z => by rw [h] at z; exact Bool.noConfusion z.1)]
        rw [e]
        simp only [h0, h, hy', Bool.true_eq_false, false_implies, true_implies, not_true_eq_false, not_false_eq_true, true_and, and_true, implies_true, eq_self, ne_eq, true_or, or_true, false_or, or_false, and_self]
      · cases h2 : tFull (hNow S)
        · simp only [h0, h, h2, hy', Bool.true_eq_false, false_implies, true_implies, not_true_eq_false, not_false_eq_true, true_and, and_true, implies_true, eq_self, ne_eq, true_or, or_true, false_or, or_false, and_self]
          exact ⟨tPeople (hNow S), 0, (-9), (hMo (hCopy S)).1, Nat.add_zero _, by rw [hMo_now, hCp4], rfl, rfl, by unfold hKe; with_reducible rfl⟩
        · have e : r_keeps S q = (-6, hRef S (-6)) := by unfold r_keeps; rw [h0, if_pos rfl, if_neg (fun z => by rw [h2] at z; exact Bool.noConfusion z.2)]
          rw [e]
          simp only [h0, h, h2, hy', Bool.true_eq_false, false_implies, true_implies, not_true_eq_false, not_false_eq_true, true_and, and_true, implies_true, eq_self, ne_eq, true_or, or_true, false_or, or_false, and_self]
end
