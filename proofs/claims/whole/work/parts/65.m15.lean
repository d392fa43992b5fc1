noncomputable section
def fmP (M : MS) : Prop := fhPre M ∧ ((uFH M).1 = true → fmPre (uFH M).2)
def v_most (M : MS) : Int32 × MS := if (uFH M).1 = true then uFM (uFH M).2 else (-6, uNo (uFH M).2 (-6))
def F_X4_most (g : Nat → Nat) : CF MS := cf_R (g 30) (fun M => fmP M) (fun M => some (.int (v_most M).1)) (fun M => (v_most M).2)
theorem inw_X4_most_X4 : ∀ w ∈ u_ws RX4 TX4 45, w ∈ wsX4_most := by decide +kernel
def bk_X4_most_20 (g : Nat → Nat) (Post : Option Value → MS → Prop)  (L : Lc) (st : List Value) (s : MS) : Prop :=
  (wRetI Post) L st s
set_option maxRecDepth 20000 in
theorem s_X4_most_20 {X : Cx} (B : Bx) (g : Nat → Nat) {Post : Option Value → MS → Prop} (C : OkX X (gx B) cX4_most 1 wsX4_most RX4 (rmD 5)) (R : RtX X (gx B) (some .int) (encM B g) Post)  : Snd X (gx B) 1 (encM B g) 20 (bk_X4_most_20 g Post ) := by
  unfold bk_X4_most_20
  exact s_iret C R dX4_most_20
def bk_X4_most_0 (g : Nat → Nat) (Post : Option Value → MS → Prop)  (L : Lc) (st : List Value) (s : MS) : Prop :=
  (wAload 0 <| wCallR 1 (F_X4_findHands g) id (fun _ u => u) <| wIf1 (fun x => x = 0) (wAload 0 <| wK (.int (-6)) <| wCallR 2 (F_X4_no g) id (fun _ u => u) <| bk_X4_most_20 g Post ) (wAload 0 <| wCallR 1 (F_X4_findMost g) id (fun _ u => u) <| bk_X4_most_20 g Post )) L st s
set_option maxRecDepth 20000 in
theorem s_X4_most_0 {X : Cx} (B : Bx) (g : Nat → Nat) {Post : Option Value → MS → Prop} (C : OkX X (gx B) cX4_most 1 wsX4_most RX4 (rmD 5)) (R : RtX X (gx B) (some .int) (encM B g) Post)  : Snd X (gx B) 1 (encM B g) 0 (bk_X4_most_0 g Post ) := by
  unfold bk_X4_most_0
  refine s_aload_n C rfl dX4_most_0 ?_
  refine s_callV C (fr_M_M B g) (k_X4_findHands B g) gX4_most_X4_findHands rfl (by decide +kernel) ⟨rfl, rfl⟩ (by decide) rfl (fun s => ⟨_, heM_0 B g s⟩) (cf_R_r _ _ _ _) dX4_most_1 ?_
  refine s_if_eq C (tgt := 14) (by decide) dX4_most_4 ?_ ?_
  · refine s_aload_n C rfl dX4_most_14 ?_
    refine s_bipush C (by decide) dX4_most_15 ?_
    refine s_callV C (fr_M_M B g) (k_X4_no B g) gX4_most_X4_no rfl (by decide +kernel) ⟨rfl, rfl⟩ (by decide) rfl (fun s => ⟨_, heM_0 B g s⟩) (cf_RI_r _ _ _ _) dX4_most_17 ?_
    exact s_X4_most_20 B g C R 
  · refine s_aload_n C rfl dX4_most_7 ?_
    refine s_callV C (fr_M_M B g) (k_X4_findMost B g) gX4_most_X4_findMost rfl (by decide +kernel) ⟨rfl, rfl⟩ (by decide) rfl (fun s => ⟨_, heM_0 B g s⟩) (cf_R_r _ _ _ _) dX4_most_8 ?_
    refine s_goto C (tgt := 20) (by decide) dX4_most_11 ?_
    exact s_X4_most_20 B g C R 
theorem k_X4_most (B : Bx) (g : Nat → Nat) : MtF (gx B) yX4_most wsX4_most (rmD 5) (encM B g) (F_X4_most g) := by
  refine cf_R_i (fun l M h => Mt.of (by decide) rfl (Nat.le_of_ble_eq_true rfl) rfl (fun X C R => s_X4_most_0 B g C R) ?_)
  obtain ⟨h1, h2⟩ := h
  simp only [wIload, wAload, wLload, wK, wB, wDv, wU, wLB, wLU, wLS, wL2i, wLcmp, wIf1, wIf2, wKeep, wInc, wIst, wAst, wLst, wDup, wPop, wDup2, wGet, wPut, wPutZ, wIald, wLald, wIast, wLast, wLen, wRetI, wRetZ, wRetL, wRetA, wRetV, wM1, wM2, wCpy, wTab, tabW, nth, stL, stL2, dropL, keepL, mkL, padL, restOK, restOKn, tl_some, tl_none, id_eq, eq_self, true_and, and_true, bk_X4_most_20, bk_X4_most_0, F_X4_findHands, F_X4_findMost, F_X4_no, cf_RI_e, cf_R_e, b2i_eq0, refI6, h1]
  unfold v_most
  generalize uFH M = z at h2 ⊢
  obtain ⟨b, N⟩ := z
  cases b
  · simp only [false_implies, true_implies, not_true_eq_false, not_false_eq_true, true_and, and_true, implies_true, eq_self, ne_eq, true_or, or_true, false_or, or_false, and_self]
    all_goals first | done | exact ⟨rfl, rfl⟩ | exact rfl | exact b2i_01 _ | exact ⟨b2i_01 _, rfl, rfl⟩ | exact ⟨b2i_01 _, rfl⟩ | exact ⟨rfl, rfl, rfl⟩ | exact trivial | exact Or.inl trivial
  · have h3 := h2 rfl
    simp only [h3, Bool.true_eq_false, false_implies, true_implies, not_true_eq_false, not_false_eq_true, true_and, and_true, implies_true, eq_self, ne_eq, true_or, or_true, false_or, or_false, and_self]
    all_goals first | done | exact ⟨rfl, rfl⟩ | exact rfl | exact b2i_01 _ | exact ⟨b2i_01 _, rfl, rfl⟩ | exact ⟨b2i_01 _, rfl⟩ | exact ⟨rfl, rfl, rfl⟩ | exact trivial | exact Or.inl trivial
def v_first (M : MS) : Int32 × MS := if (uFH M).1 = true then (mS 43 (uFM (uFH M).2).2, (uFM (uFH M).2).2) else (-6, uNo (uFH M).2 (-6))
def F_X4_first (g : Nat → Nat) : CF MS := cf_R (g 30) (fun M => fmP M) (fun M => some (.int (v_first M).1)) (fun M => (v_first M).2)
theorem inw_X4_first_X4 : ∀ w ∈ u_ws RX4 TX4 45, w ∈ wsX4_first := by decide +kernel
def bk_X4_first_0 (g : Nat → Nat) (Post : Option Value → MS → Prop)  (L : Lc) (st : List Value) (s : MS) : Prop :=
  (wAload 0 <| wCallR 1 (F_X4_findHands g) id (fun _ u => u) <| wIf1 (fun x => x = 0) (wAload 0 <| wK (.int (-6)) <| wCallR 2 (F_X4_no g) id (fun _ u => u) <| wRetI Post) (wAload 0 <| wCallR 1 (F_X4_findMost g) id (fun _ u => u) <| wPop <| wAload 0 <| wGet (g 30) (fun s => .int (mS 43 s)) <| wRetI Post)) L st s
set_option maxRecDepth 20000 in
theorem s_X4_first_0 {X : Cx} (B : Bx) (g : Nat → Nat) {Post : Option Value → MS → Prop} (C : OkX X (gx B) cX4_first 1 wsX4_first RX4 (rmD 5)) (R : RtX X (gx B) (some .int) (encM B g) Post)  : Snd X (gx B) 1 (encM B g) 0 (bk_X4_first_0 g Post ) := by
  unfold bk_X4_first_0
  refine s_aload_n C rfl dX4_first_0 ?_
  refine s_callV C (fr_M_M B g) (k_X4_findHands B g) gX4_first_X4_findHands rfl (by decide +kernel) ⟨rfl, rfl⟩ (by decide) rfl (fun s => ⟨_, heM_0 B g s⟩) (cf_R_r _ _ _ _) dX4_first_1 ?_
  refine s_if_ne C (tgt := 14) (by decide) dX4_first_4 ?_ ?_
  · refine s_aload_n C rfl dX4_first_14 ?_
    refine s_callV C (fr_M_M B g) (k_X4_findMost B g) gX4_first_X4_findMost rfl (by decide +kernel) ⟨rfl, rfl⟩ (by decide) rfl (fun s => ⟨_, heM_0 B g s⟩) (cf_R_r _ _ _ _) dX4_first_15 ?_
    refine s_pop C dX4_first_18 ?_
    refine s_aload_n C rfl dX4_first_19 ?_
    refine s_get C inw_X4_first_X4 rfl (k := 43) (by decide) (by decide +kernel) (heM_0 B g) (fun _ => rfl) dX4_first_20 ?_
    exact s_iret C R dX4_first_23
  · refine s_aload_n C rfl dX4_first_7 ?_
    refine s_bipush C (by decide) dX4_first_8 ?_
    refine s_callV C (fr_M_M B g) (k_X4_no B g) gX4_first_X4_no rfl (by decide +kernel) ⟨rfl, rfl⟩ (by decide) rfl (fun s => ⟨_, heM_0 B g s⟩) (cf_RI_r _ _ _ _) dX4_first_10 ?_
    exact s_iret C R dX4_first_13
theorem k_X4_first (B : Bx) (g : Nat → Nat) : MtF (gx B) yX4_first wsX4_first (rmD 5) (encM B g) (F_X4_first g) := by
  refine cf_R_i (fun l M h => Mt.of (by decide) rfl (Nat.le_of_ble_eq_true rfl) rfl (fun X C R => s_X4_first_0 B g C R) ?_)
  obtain ⟨h1, h2⟩ := h
  simp only [wIload, wAload, wLload, wK, wB, wDv, wU, wLB, wLU, wLS, wL2i, wLcmp, wIf1, wIf2, wKeep, wInc, wIst, wAst, wLst, wDup, wPop, wDup2, wGet, wPut, wPutZ, wIald, wLald, wIast, wLast, wLen, wRetI, wRetZ, wRetL, wRetA, wRetV, wM1, wM2, wCpy, wTab, tabW, nth, stL, stL2, dropL, keepL, mkL, padL, restOK, restOKn, tl_some, tl_none, id_eq, eq_self, true_and, and_true, bk_X4_first_0, F_X4_findHands, F_X4_findMost, F_X4_no, cf_RI_e, cf_R_e, b2i_eq0, refI6, h1]
  unfold v_first
  generalize uFH M = z at h2 ⊢
  obtain ⟨b, N⟩ := z
  cases b
  · simp only [false_implies, true_implies, not_true_eq_false, not_false_eq_true, true_and, and_true, implies_true, eq_self, ne_eq, true_or, or_true, false_or, or_false, and_self]
    all_goals first | done | exact ⟨rfl, rfl⟩ | exact rfl | exact b2i_01 _ | exact ⟨b2i_01 _, rfl, rfl⟩ | exact ⟨b2i_01 _, rfl⟩ | exact ⟨rfl, rfl, rfl⟩ | exact trivial | exact Or.inl trivial
  · have h3 := h2 rfl
    simp only [h3, Bool.true_eq_false, false_implies, true_implies, not_true_eq_false, not_false_eq_true, true_and, and_true, implies_true, eq_self, ne_eq, true_or, or_true, false_or, or_false, and_self]
    all_goals first | done | exact ⟨rfl, rfl⟩ | exact rfl | exact b2i_01 _ | exact ⟨b2i_01 _, rfl, rfl⟩ | exact ⟨b2i_01 _, rfl⟩ | exact ⟨rfl, rfl, rfl⟩ | exact trivial | exact Or.inl trivial
def v_gap (M : MS) (r : Int32) : Int32 × MS := if 0 ≤ r ∧ r < 6 then (if (uFH M).1 = true then ((uFM (uFH M).2).1 - (uRun (uFM (uFH M).2).2 r 0).1, (uRun (uFM (uFH M).2).2 r 0).2) else (1000000006, uNo (uFH M).2 (-6))) else (1000000002, uNo M (-2))
def F_X4_gap (g : Nat → Nat) : CF MS := cf_RI (g 30) (fun M _ => fmP M ∧ ((uFH M).1 = true → rnPre (uFM (uFH M).2).2)) (fun M r => some (.int (v_gap M r).1)) (fun M r => (v_gap M r).2)
theorem inw_X4_gap_X4 : ∀ w ∈ u_ws RX4 TX4 45, w ∈ wsX4_gap := by decide +kernel
def bk_X4_gap_0 (g : Nat → Nat) (Post : Option Value → MS → Prop)  (L : Lc) (st : List Value) (s : MS) : Prop :=
  (wIload 1 <| wCallR 1 (F_X4_isRule) (fun _ => ()) (fun s _ => s) <| wIf1 (fun x => x = 0) (wAload 0 <| wK (.int (-2)) <| wCallR 2 (F_X4_lower g) id (fun _ u => u) <| wRetI Post) (wAload 0 <| wCallR 1 (F_X4_findHands g) id (fun _ u => u) <| wIf1 (fun x => x = 0) (wAload 0 <| wK (.int (-6)) <| wCallR 2 (F_X4_lower g) id (fun _ u => u) <| wRetI Post) (wAload 0 <| wCallR 1 (F_X4_findMost g) id (fun _ u => u) <| wAload 0 <| wIload 1 <| wK (.int 0) <| wCallR 3 (F_X4_runOf g) id (fun _ u => u) <| wB (fun x y => x - y) <| wRetI Post))) L st s
set_option maxRecDepth 20000 in
theorem s_X4_gap_0 {X : Cx} (B : Bx) (g : Nat → Nat) {Post : Option Value → MS → Prop} (C : OkX X (gx B) cX4_gap 2 wsX4_gap RX4 (rmD 8)) (R : RtX X (gx B) (some .int) (encM B g) Post)  : Snd X (gx B) 2 (encM B g) 0 (bk_X4_gap_0 g Post ) := by
  unfold bk_X4_gap_0
  refine s_iload_n C rfl dX4_gap_0 ?_
  refine s_callS C (fr_M_E B g) (k_X4_isRule B) gX4_gap_X4_isRule rfl (by decide +kernel) ⟨rfl, rfl⟩ (by decide) (cf_I_r _ _ _) dX4_gap_1 ?_
  refine s_if_ne C (tgt := 14) (by decide) dX4_gap_4 ?_ ?_
  · refine s_aload_n C rfl dX4_gap_14 ?_
    refine s_callV C (fr_M_M B g) (k_X4_findHands B g) gX4_gap_X4_findHands rfl (by decide +kernel) ⟨rfl, rfl⟩ (by decide) rfl (fun s => ⟨_, heM_0 B g s⟩) (cf_R_r _ _ _ _) dX4_gap_15 ?_
    refine s_if_ne C (tgt := 28) (by decide) dX4_gap_18 ?_ ?_
    · refine s_aload_n C rfl dX4_gap_28 ?_
      refine s_callV C (fr_M_M B g) (k_X4_findMost B g) gX4_gap_X4_findMost rfl (by decide +kernel) ⟨rfl, rfl⟩ (by decide) rfl (fun s => ⟨_, heM_0 B g s⟩) (cf_R_r _ _ _ _) dX4_gap_29 ?_
      refine s_aload_n C rfl dX4_gap_32 ?_
      refine s_iload_n C rfl dX4_gap_33 ?_
      refine s_iconst C (by decide) dX4_gap_34 ?_
      refine s_callV C (fr_M_M B g) (k_X4_runOf B g) gX4_gap_X4_runOf rfl (by decide +kernel) ⟨rfl, rfl⟩ (by decide) rfl (fun s => ⟨_, heM_0 B g s⟩) (cf_RII_r _ _ _ _) dX4_gap_35 ?_
      refine s_isub C dX4_gap_38 ?_
      exact s_iret C R dX4_gap_39
    · refine s_aload_n C rfl dX4_gap_21 ?_
      refine s_bipush C (by decide) dX4_gap_22 ?_
      refine s_callV C (fr_M_M B g) (k_X4_lower B g) gX4_gap_X4_lower rfl (by decide +kernel) ⟨rfl, rfl⟩ (by decide) rfl (fun s => ⟨_, heM_0 B g s⟩) (cf_RI_r _ _ _ _) dX4_gap_24 ?_
      exact s_iret C R dX4_gap_27
  · refine s_aload_n C rfl dX4_gap_7 ?_
    refine s_bipush C (by decide) dX4_gap_8 ?_
    refine s_callV C (fr_M_M B g) (k_X4_lower B g) gX4_gap_X4_lower rfl (by decide +kernel) ⟨rfl, rfl⟩ (by decide) rfl (fun s => ⟨_, heM_0 B g s⟩) (cf_RI_r _ _ _ _) dX4_gap_10 ?_
    exact s_iret C R dX4_gap_13
theorem k_X4_gap (B : Bx) (g : Nat → Nat) : MtF (gx B) yX4_gap wsX4_gap (rmD 8) (encM B g) (F_X4_gap g) := by
  refine cf_RI_i (fun l M r h => Mt.of (by decide) rfl (Nat.le_of_ble_eq_true rfl) rfl (fun X C R => s_X4_gap_0 B g C R) ?_)
  obtain ⟨⟨h1, h2⟩, h4⟩ := h
  have c1 : (1000000000 : Int32) - -2 = 1000000002 := by decide
  have c2 : (1000000000 : Int32) - -6 = 1000000006 := by decide
  simp only [wIload, wAload, wLload, wK, wB, wDv, wU, wLB, wLU, wLS, wL2i, wLcmp, wIf1, wIf2, wKeep, wInc, wIst, wAst, wLst, wDup, wPop, wDup2, wGet, wPut, wPutZ, wIald, wLald, wIast, wLast, wLen, wRetI, wRetZ, wRetL, wRetA, wRetV, wM1, wM2, wCpy, wTab, tabW, nth, stL, stL2, dropL, keepL, mkL, padL, restOK, restOKn, tl_some, tl_none, id_eq, eq_self, true_and, and_true, bk_X4_gap_0, F_X4_findHands, F_X4_findMost, F_X4_isRule, F_X4_lower, F_X4_runOf, cf_I_e, cf_RII_e, cf_RI_e, cf_R_e, b2i_eq0, refI6, refI2, h1, c1, c2, decide_eq_false_iff_not]
  unfold v_gap
  generalize uFH M = z at h2 h4 ⊢
  obtain ⟨b, N⟩ := z
  by_cases hr : 0 ≤ r ∧ r < 6
  · cases b
    · simp only [hr, false_implies, true_implies, not_true_eq_false, not_false_eq_true, true_and, and_true, implies_true, eq_self, ne_eq, true_or, or_true, false_or, or_false, and_self]
      all_goals first | done | exact ⟨rfl, rfl⟩ | exact rfl | exact b2i_01 _ | exact ⟨b2i_01 _, rfl, rfl⟩ | exact ⟨b2i_01 _, rfl⟩ | exact ⟨rfl, rfl, rfl⟩ | exact trivial | exact Or.inl trivial
    · have h3 := h2 rfl
      have h5 := h4 rfl
      simp only [hr, h3, h5, Bool.true_eq_false, false_implies, true_implies, not_true_eq_false, not_false_eq_true, true_and, and_true, implies_true, eq_self, ne_eq, true_or, or_true, false_or, or_false, and_self]
      all_goals first | done | exact ⟨rfl, rfl⟩ | exact rfl | exact b2i_01 _ | exact ⟨b2i_01 _, rfl, rfl⟩ | exact ⟨b2i_01 _, rfl⟩ | exact ⟨rfl, rfl, rfl⟩ | exact trivial | exact Or.inl trivial
  · simp only [hr, false_implies, true_implies, not_true_eq_false, not_false_eq_true, true_and, and_true, implies_true, eq_self, ne_eq, true_or, or_true, false_or, or_false, and_self]
    all_goals first | done | exact ⟨rfl, rfl⟩ | exact rfl | exact b2i_01 _ | exact ⟨b2i_01 _, rfl, rfl⟩ | exact ⟨b2i_01 _, rfl⟩ | exact ⟨rfl, rfl, rfl⟩ | exact trivial | exact Or.inl trivial
def v_wo (M : MS) (a b m : Int32) : Int32 × MS := (m - (uFM (uW M a b 9 (-1))).1, uBack (uFM (uW M a b 9 (-1))).2)
def woPre (M : MS) (a b : Int32) : Prop := hpB 399 M ∧ fmPre (uW M a b 9 (-1)) ∧ bkB (uFM (uW M a b 9 (-1))).2
def F_X4_worthOf (g : Nat → Nat) : CF MS := cf_RIII (g 30) (fun M a b _ => woPre M a b) (fun M a b m => some (.int (v_wo M a b m).1)) (fun M a b m => (v_wo M a b m).2)
theorem inw_X4_worthOf_X4 : ∀ w ∈ u_ws RX4 TX4 45, w ∈ wsX4_worthOf := by decide +kernel
def bk_X4_worthOf_0 (g : Nat → Nat) (Post : Option Value → MS → Prop)  (L : Lc) (st : List Value) (s : MS) : Prop :=
  (wAload 0 <| wIload 1 <| wIload 2 <| wK (.int 9) <| wK (.int (-1)) <| wCallR 5 (F_X4_writes g) id (fun _ u => u) <| wIload 3 <| wAload 0 <| wCallR 1 (F_X4_findMost g) id (fun _ u => u) <| wB (fun x y => x - y) <| wIst 4 <| wAload 0 <| wCallR 1 (F_X4_takesBack g) id (fun _ u => u) <| wIload 4 <| wRetI Post) L st s
set_option maxRecDepth 20000 in
theorem s_X4_worthOf_0 {X : Cx} (B : Bx) (g : Nat → Nat) {Post : Option Value → MS → Prop} (C : OkX X (gx B) cX4_worthOf 5 wsX4_worthOf RX4 (rmD 5)) (R : RtX X (gx B) (some .int) (encM B g) Post)  : Snd X (gx B) 5 (encM B g) 0 (bk_X4_worthOf_0 g Post ) := by
  unfold bk_X4_worthOf_0
  refine s_aload_n C rfl dX4_worthOf_0 ?_
  refine s_iload_n C rfl dX4_worthOf_1 ?_
  refine s_iload_n C rfl dX4_worthOf_2 ?_
  refine s_bipush C (by decide) dX4_worthOf_3 ?_
  refine s_iconst C (by decide) dX4_worthOf_5 ?_
  refine s_callV C (fr_M_M B g) (k_X4_writes B g) gX4_worthOf_X4_writes rfl (by decide +kernel) ⟨rfl, rfl⟩ (by decide) rfl (fun s => ⟨_, heM_0 B g s⟩) (cf_RIIII_r _ _ _ _) dX4_worthOf_6 ?_
  refine s_iload_n C rfl dX4_worthOf_9 ?_
  refine s_aload_n C rfl dX4_worthOf_10 ?_
  refine s_callV C (fr_M_M B g) (k_X4_findMost B g) gX4_worthOf_X4_findMost rfl (by decide +kernel) ⟨rfl, rfl⟩ (by decide) rfl (fun s => ⟨_, heM_0 B g s⟩) (cf_R_r _ _ _ _) dX4_worthOf_11 ?_
  refine s_isub C dX4_worthOf_14 ?_
  refine s_istore C (by decide) dX4_worthOf_15 ?_
  refine s_aload_n C rfl dX4_worthOf_17 ?_
  refine s_callV C (fr_M_M B g) (k_X4_takesBack B g) gX4_worthOf_X4_takesBack rfl (by decide +kernel) ⟨rfl, rfl⟩ (by decide) rfl (fun s => ⟨_, heM_0 B g s⟩) (cf_R_r _ _ _ _) dX4_worthOf_18 ?_
  refine s_iload C dX4_worthOf_21 ?_
  exact s_iret C R dX4_worthOf_23
theorem k_X4_worthOf (B : Bx) (g : Nat → Nat) : MtF (gx B) yX4_worthOf wsX4_worthOf (rmD 5) (encM B g) (F_X4_worthOf g) := by
  refine cf_RIII_i (fun l M a b m h => Mt.of (by decide) rfl (Nat.le_of_ble_eq_true rfl) rfl (fun X C R => s_X4_worthOf_0 B g C R) ?_)
  obtain ⟨h1, h2, h3⟩ := h
  unfold bkB at h3
  have n1 : (-1 : Int32) < 0 := by decide
  unfold v_wo
  simp only [wIload, wAload, wLload, wK, wB, wDv, wU, wLB, wLU, wLS, wL2i, wLcmp, wIf1, wIf2, wKeep, wInc, wIst, wAst, wLst, wDup, wPop, wDup2, wGet, wPut, wPutZ, wIald, wLald, wIast, wLast, wLen, wRetI, wRetZ, wRetL, wRetA, wRetV, wM1, wM2, wCpy, wTab, tabW, nth, stL, stL2, dropL, keepL, mkL, padL, restOK, restOKn, tl_some, tl_none, id_eq, eq_self, true_and, and_true, bk_X4_worthOf_0, F_X4_findMost, F_X4_takesBack, F_X4_writes, cf_RIIII_e, cf_R_e, h1, h2, h3, n1]
  all_goals first | done | exact ⟨rfl, rfl⟩ | exact rfl | exact b2i_01 _ | exact ⟨b2i_01 _, rfl, rfl⟩ | exact ⟨b2i_01 _, rfl⟩ | exact ⟨rfl, rfl, rfl⟩ | exact trivial | exact Or.inl trivial
def v_worth (M : MS) (a b : Int32) : Int32 × MS := if uOne M a = true ∧ uOne M b = true ∧ ¬ a = b then (if (uFH M).1 = true ∧ mS 17 (uFH M).2 < 60 then v_wo (uFM (uFH M).2).2 a b (uFM (uFH M).2).1 else (1000000006, uNo (uFH M).2 (-6))) else (1000000001, uNo M (-1))
def F_X4_worth (g : Nat → Nat) : CF MS := cf_RII (g 30) (fun M a b => fmP M ∧ ((uFH M).1 = true → mS 17 (uFH M).2 < 60 → uOne M a = true → uOne M b = true → ¬ a = b → woPre (uFM (uFH M).2).2 a b)) (fun M a b => some (.int (v_worth M a b).1)) (fun M a b => (v_worth M a b).2)
theorem inw_X4_worth_X4 : ∀ w ∈ u_ws RX4 TX4 45, w ∈ wsX4_worth := by decide +kernel
def bk_X4_worth_21 (g : Nat → Nat) (Post : Option Value → MS → Prop)  (L : Lc) (st : List Value) (s : MS) : Prop :=
  (wAload 0 <| wK (.int (-1)) <| wCallR 2 (F_X4_lower g) id (fun _ u => u) <| wRetI Post) L st s
set_option maxRecDepth 20000 in
theorem s_X4_worth_21 {X : Cx} (B : Bx) (g : Nat → Nat) {Post : Option Value → MS → Prop} (C : OkX X (gx B) cX4_worth 3 wsX4_worth RX4 (rmD 6)) (R : RtX X (gx B) (some .int) (encM B g) Post)  : Snd X (gx B) 3 (encM B g) 21 (bk_X4_worth_21 g Post ) := by
  unfold bk_X4_worth_21
  refine s_aload_n C rfl dX4_worth_21 ?_
  refine s_iconst C (by decide) dX4_worth_22 ?_
  refine s_callV C (fr_M_M B g) (k_X4_lower B g) gX4_worth_X4_lower rfl (by decide +kernel) ⟨rfl, rfl⟩ (by decide) rfl (fun s => ⟨_, heM_0 B g s⟩) (cf_RI_r _ _ _ _) dX4_worth_23 ?_
  exact s_iret C R dX4_worth_26
def bk_X4_worth_43 (g : Nat → Nat) (Post : Option Value → MS → Prop)  (L : Lc) (st : List Value) (s : MS) : Prop :=
  (wAload 0 <| wK (.int (-6)) <| wCallR 2 (F_X4_lower g) id (fun _ u => u) <| wRetI Post) L st s
set_option maxRecDepth 20000 in
theorem s_X4_worth_43 {X : Cx} (B : Bx) (g : Nat → Nat) {Post : Option Value → MS → Prop} (C : OkX X (gx B) cX4_worth 3 wsX4_worth RX4 (rmD 6)) (R : RtX X (gx B) (some .int) (encM B g) Post)  : Snd X (gx B) 3 (encM B g) 43 (bk_X4_worth_43 g Post ) := by
  unfold bk_X4_worth_43
  refine s_aload_n C rfl dX4_worth_43 ?_
  refine s_bipush C (by decide) dX4_worth_44 ?_
  refine s_callV C (fr_M_M B g) (k_X4_lower B g) gX4_worth_X4_lower rfl (by decide +kernel) ⟨rfl, rfl⟩ (by decide) rfl (fun s => ⟨_, heM_0 B g s⟩) (cf_RI_r _ _ _ _) dX4_worth_46 ?_
  exact s_iret C R dX4_worth_49
def bk_X4_worth_0 (g : Nat → Nat) (Post : Option Value → MS → Prop)  (L : Lc) (st : List Value) (s : MS) : Prop :=
  (wAload 0 <| wIload 1 <| wCallR 2 (F_X4_isOne g) id (fun _ u => u) <| wIf1 (fun x => x = 0) (bk_X4_worth_21 g Post ) (wAload 0 <| wIload 2 <| wCallR 2 (F_X4_isOne g) id (fun _ u => u) <| wIf1 (fun x => x = 0) (bk_X4_worth_21 g Post ) (wIload 1 <| wIload 2 <| wIf2 (fun x y => x = y) (bk_X4_worth_21 g Post ) (wAload 0 <| wCallR 1 (F_X4_findHands g) id (fun _ u => u) <| wIf1 (fun x => x = 0) (bk_X4_worth_43 g Post ) (wAload 0 <| wGet (g 30) (fun s => .int (mS 17 s)) <| wK (.int 60) <| wIf2 (fun x y => x < y) (wAload 0 <| wIload 1 <| wIload 2 <| wAload 0 <| wCallR 1 (F_X4_findMost g) id (fun _ u => u) <| wCallR 4 (F_X4_worthOf g) id (fun _ u => u) <| wRetI Post) (bk_X4_worth_43 g Post )))))) L st s
set_option maxRecDepth 20000 in
theorem s_X4_worth_0 {X : Cx} (B : Bx) (g : Nat → Nat) {Post : Option Value → MS → Prop} (C : OkX X (gx B) cX4_worth 3 wsX4_worth RX4 (rmD 6)) (R : RtX X (gx B) (some .int) (encM B g) Post)  : Snd X (gx B) 3 (encM B g) 0 (bk_X4_worth_0 g Post ) := by
  unfold bk_X4_worth_0
  refine s_aload_n C rfl dX4_worth_0 ?_
  refine s_iload_n C rfl dX4_worth_1 ?_
  refine s_callV C (fr_M_M B g) (k_X4_isOne B g) gX4_worth_X4_isOne rfl (by decide +kernel) ⟨rfl, rfl⟩ (by decide) rfl (fun s => ⟨_, heM_0 B g s⟩) (cf_RI_r _ _ _ _) dX4_worth_2 ?_
  refine s_if_eq C (tgt := 21) (by decide) dX4_worth_5 ?_ ?_
  · exact s_X4_worth_21 B g C R 
  · refine s_aload_n C rfl dX4_worth_8 ?_
    refine s_iload_n C rfl dX4_worth_9 ?_
    refine s_callV C (fr_M_M B g) (k_X4_isOne B g) gX4_worth_X4_isOne rfl (by decide +kernel) ⟨rfl, rfl⟩ (by decide) rfl (fun s => ⟨_, heM_0 B g s⟩) (cf_RI_r _ _ _ _) dX4_worth_10 ?_
    refine s_if_eq C (tgt := 21) (by decide) dX4_worth_13 ?_ ?_
    · exact s_X4_worth_21 B g C R 
    · refine s_iload_n C rfl dX4_worth_16 ?_
      refine s_iload_n C rfl dX4_worth_17 ?_
      refine s_icmp_ne C (tgt := 27) (by decide) dX4_worth_18 ?_ ?_
      · refine s_aload_n C rfl dX4_worth_27 ?_
        refine s_callV C (fr_M_M B g) (k_X4_findHands B g) gX4_worth_X4_findHands rfl (by decide +kernel) ⟨rfl, rfl⟩ (by decide) rfl (fun s => ⟨_, heM_0 B g s⟩) (cf_R_r _ _ _ _) dX4_worth_28 ?_
        refine s_if_eq C (tgt := 43) (by decide) dX4_worth_31 ?_ ?_
        · exact s_X4_worth_43 B g C R 
        · refine s_aload_n C rfl dX4_worth_34 ?_
          refine s_get C inw_X4_worth_X4 rfl (k := 17) (by decide) (by decide +kernel) (heM_0 B g) (fun _ => rfl) dX4_worth_35 ?_
          refine s_bipush C (by decide) dX4_worth_38 ?_
          refine s_icmp_lt C (tgt := 50) (by decide) dX4_worth_40 ?_ ?_
          · refine s_aload_n C rfl dX4_worth_50 ?_
            refine s_iload_n C rfl dX4_worth_51 ?_
            refine s_iload_n C rfl dX4_worth_52 ?_
            refine s_aload_n C rfl dX4_worth_53 ?_
            refine s_callV C (fr_M_M B g) (k_X4_findMost B g) gX4_worth_X4_findMost rfl (by decide +kernel) ⟨rfl, rfl⟩ (by decide) rfl (fun s => ⟨_, heM_0 B g s⟩) (cf_R_r _ _ _ _) dX4_worth_54 ?_
            refine s_callV C (fr_M_M B g) (k_X4_worthOf B g) gX4_worth_X4_worthOf rfl (by decide +kernel) ⟨rfl, rfl⟩ (by decide) rfl (fun s => ⟨_, heM_0 B g s⟩) (cf_RIII_r _ _ _ _) dX4_worth_57 ?_
            exact s_iret C R dX4_worth_60
          · exact s_X4_worth_43 B g C R 
      · exact s_X4_worth_21 B g C R 
theorem k_X4_worth (B : Bx) (g : Nat → Nat) : MtF (gx B) yX4_worth wsX4_worth (rmD 6) (encM B g) (F_X4_worth g) := by
  refine cf_RII_i (fun l M a b h => Mt.of (by decide) rfl (Nat.le_of_ble_eq_true rfl) rfl (fun X C R => s_X4_worth_0 B g C R) ?_)
  obtain ⟨⟨h1, h2⟩, h4⟩ := h
  have c1 : (1000000000 : Int32) - -1 = 1000000001 := by decide
  have c2 : (1000000000 : Int32) - -6 = 1000000006 := by decide
  simp only [wIload, wAload, wLload, wK, wB, wDv, wU, wLB, wLU, wLS, wL2i, wLcmp, wIf1, wIf2, wKeep, wInc, wIst, wAst, wLst, wDup, wPop, wDup2, wGet, wPut, wPutZ, wIald, wLald, wIast, wLast, wLen, wRetI, wRetZ, wRetL, wRetA, wRetV, wM1, wM2, wCpy, wTab, tabW, nth, stL, stL2, dropL, keepL, mkL, padL, restOK, restOKn, tl_some, tl_none, id_eq, eq_self, true_and, and_true, bk_X4_worth_21, bk_X4_worth_43, bk_X4_worth_0, F_X4_findHands, F_X4_findMost, F_X4_isOne, F_X4_lower, F_X4_worthOf, cf_RIII_e, cf_RI_e, cf_R_e, b2i_eq0, refI6, refI1, h1, c1, c2]
  unfold v_worth
  generalize uFH M = z at h2 h4 ⊢
  obtain ⟨zb, N⟩ := z
  cases ha : uOne M a
  · simp only [ha, Bool.false_eq_true, if_false, false_implies, true_implies, not_true_eq_false, not_false_eq_true, true_and, and_true, implies_true, eq_self, ne_eq, true_or, or_true, false_or, or_false, and_self]
    all_goals first | done | exact ⟨rfl, rfl⟩ | exact rfl | exact b2i_01 _ | exact ⟨b2i_01 _, rfl, rfl⟩ | exact ⟨b2i_01 _, rfl⟩ | exact ⟨rfl, rfl, rfl⟩ | exact trivial | exact Or.inl trivial
  · cases hb : uOne M b
    · simp only [ha, hb, Bool.false_eq_true, Bool.true_eq_false, if_false, false_implies, true_implies, not_true_eq_false, not_false_eq_true, true_and, and_true, implies_true, eq_self, ne_eq, true_or, or_true, false_or, or_false, and_self]
      all_goals first | done | exact ⟨rfl, rfl⟩ | exact rfl | exact b2i_01 _ | exact ⟨b2i_01 _, rfl, rfl⟩ | exact ⟨b2i_01 _, rfl⟩ | exact ⟨rfl, rfl, rfl⟩ | exact trivial | exact Or.inl trivial
    · by_cases hab : a = b
      · simp only [ha, hb, hab, Bool.true_eq_false, if_false, false_implies, true_implies, not_true_eq_false, not_false_eq_true, true_and, and_true, implies_true, eq_self, ne_eq, true_or, or_true, false_or, or_false, and_self]
        all_goals first | done | exact ⟨rfl, rfl⟩ | exact rfl | exact b2i_01 _ | exact ⟨b2i_01 _, rfl, rfl⟩ | exact ⟨b2i_01 _, rfl⟩ | exact ⟨rfl, rfl, rfl⟩ | exact trivial | exact Or.inl trivial
      · cases zb
        · simp only [ha, hb, hab, Bool.true_eq_false, Bool.false_eq_true, if_false, if_true, false_implies, true_implies, not_true_eq_false, not_false_eq_true, true_and, and_true, implies_true, eq_self, ne_eq, true_or, or_true, false_or, or_false, and_self]
          all_goals first | done | exact ⟨rfl, rfl⟩ | exact rfl | exact b2i_01 _ | exact ⟨b2i_01 _, rfl, rfl⟩ | exact ⟨b2i_01 _, rfl⟩ | exact ⟨rfl, rfl, rfl⟩ | exact trivial | exact Or.inl trivial
        · by_cases h60 : mS 17 N < 60
          · have h3 := h2 rfl
            have h5 := h4 rfl h60 ha hb hab
            simp only [ha, hb, hab, h60, h3, h5, Bool.true_eq_false, Bool.false_eq_true, if_false, if_true, false_implies, true_implies, not_true_eq_false, not_false_eq_true, true_and, and_true, implies_true, eq_self, ne_eq, true_or, or_true, false_or, or_false, and_self]
            all_goals first | done | exact ⟨rfl, rfl⟩ | exact rfl | exact b2i_01 _ | exact ⟨b2i_01 _, rfl, rfl⟩ | exact ⟨b2i_01 _, rfl⟩ | exact ⟨rfl, rfl, rfl⟩ | exact trivial | exact Or.inl trivial
          · simp only [ha, hb, hab, h60, Bool.true_eq_false, Bool.false_eq_true, if_false, if_true, false_implies, true_implies, not_true_eq_false, not_false_eq_true, true_and, and_true, implies_true, eq_self, ne_eq, true_or, or_true, false_or, or_false, and_self]
            all_goals first | done | exact ⟨rfl, rfl⟩ | exact rfl | exact b2i_01 _ | exact ⟨b2i_01 _, rfl, rfl⟩ | exact ⟨b2i_01 _, rfl⟩ | exact ⟨rfl, rfl, rfl⟩ | exact trivial | exact Or.inl trivial
def kpF (q all : Int32) : Nat → Nat → Int32 → Int32 → MS → Int32 × MS
  | _, 0, b, _, M => (b, M)
  | k, n + 1, b, m, M => if nI k = q then kpF q all (k + 1) n b m M else if m < (v_wo M (nI k) q all).1 then kpF q all (k + 1) n (nI k) (v_wo M (nI k) q all).1 (v_wo M (nI k) q all).2 else kpF q all (k + 1) n b m (v_wo M (nI k) q all).2
theorem kpF_s (q all : Int32) (k n : Nat) (b m : Int32) (M : MS) : kpF q all k (n + 1) b m M = if nI k = q then kpF q all (k + 1) n b m M else if m < (v_wo M (nI k) q all).1 then kpF q all (k + 1) n (nI k) (v_wo M (nI k) q all).1 (v_wo M (nI k) q all).2 else kpF q all (k + 1) n b m (v_wo M (nI k) q all).2 := rfl
def kpI (P : Nat) (q : Int32) (I : MS → Prop) : Prop := ∀ N, I N → mS 15 N = nI P ∧ ∀ k, k < P → ¬ nI k = q → woPre N (nI k) q ∧ ∀ m, I (v_wo N (nI k) q m).2
def kpPre (M : MS) (q : Int32) : Prop := ∃ (P : Nat) (I : MS → Prop), P ≤ 7 ∧ I M ∧ kpI P q I
def v_keeps (M : MS) (q : Int32) : Int32 × MS := if uOne M q = true then (if (uFH M).1 = true ∧ mS 17 (uFH M).2 < 60 then kpF q (uFM (uFH M).2).1 0 (uPeople (uFM (uFH M).2).2) (-9) 0 (uFM (uFH M).2).2 else (-6, uNo (uFH M).2 (-6))) else (-1, uNo M (-1))
def F_X4_keeps (g : Nat → Nat) : CF MS := cf_RI (g 30) (fun M q => fmP M ∧ ((uFH M).1 = true → mS 17 (uFH M).2 < 60 → kpPre (uFM (uFH M).2).2 q)) (fun M q => some (.int (v_keeps M q).1)) (fun M q => (v_keeps M q).2)
theorem inw_X4_keeps_X4 : ∀ w ∈ u_ws RX4 TX4 45, w ∈ wsX4_keeps := by decide +kernel
def bk_X4_keeps_30 (g : Nat → Nat) (Post : Option Value → MS → Prop)  (L : Lc) (st : List Value) (s : MS) : Prop :=
  (wAload 0 <| wK (.int (-6)) <| wCallR 2 (F_X4_no g) id (fun _ u => u) <| wRetI Post) L st s
set_option maxRecDepth 20000 in
theorem s_X4_keeps_30 {X : Cx} (B : Bx) (g : Nat → Nat) {Post : Option Value → MS → Prop} (C : OkX X (gx B) cX4_keeps 7 wsX4_keeps RX4 (rmD 6)) (R : RtX X (gx B) (some .int) (encM B g) Post)  : Snd X (gx B) 7 (encM B g) 30 (bk_X4_keeps_30 g Post ) := by
  unfold bk_X4_keeps_30
  refine s_aload_n C rfl dX4_keeps_30 ?_
  refine s_bipush C (by decide) dX4_keeps_31 ?_
  refine s_callV C (fr_M_M B g) (k_X4_no B g) gX4_keeps_X4_no rfl (by decide +kernel) ⟨rfl, rfl⟩ (by decide) rfl (fun s => ⟨_, heM_0 B g s⟩) (cf_RI_r _ _ _ _) dX4_keeps_33 ?_
  exact s_iret C R dX4_keeps_36
def bk_X4_keeps_0 (g : Nat → Nat) (Post : Option Value → MS → Prop) (K51 : PT MS) (L : Lc) (st : List Value) (s : MS) : Prop :=
  (wAload 0 <| wIload 1 <| wCallR 2 (F_X4_isOne g) id (fun _ u => u) <| wIf1 (fun x => x = 0) (wAload 0 <| wK (.int (-1)) <| wCallR 2 (F_X4_no g) id (fun _ u => u) <| wRetI Post) (wAload 0 <| wCallR 1 (F_X4_findHands g) id (fun _ u => u) <| wIf1 (fun x => x = 0) (bk_X4_keeps_30 g Post ) (wAload 0 <| wGet (g 30) (fun s => .int (mS 17 s)) <| wK (.int 60) <| wIf2 (fun x y => x < y) (wAload 0 <| wCallR 1 (F_X4_findMost g) id (fun _ u => u) <| wIst 2 <| wK (.int (-9)) <| wIst 3 <| wK (.int 0) <| wIst 4 <| wK (.int 0) <| wIst 5 <| wKeep [true, true, true, true, true, true, false] K51) (bk_X4_keeps_30 g Post )))) L st s
set_option maxRecDepth 20000 in
theorem s_X4_keeps_0 {X : Cx} (B : Bx) (g : Nat → Nat) {Post : Option Value → MS → Prop} (C : OkX X (gx B) cX4_keeps 7 wsX4_keeps RX4 (rmD 6)) (R : RtX X (gx B) (some .int) (encM B g) Post) {K51 : PT MS} (hK51 : Snd X (gx B) 7 (encM B g) 51 K51) : Snd X (gx B) 7 (encM B g) 0 (bk_X4_keeps_0 g Post K51) := by
  unfold bk_X4_keeps_0
  refine s_aload_n C rfl dX4_keeps_0 ?_
  refine s_iload_n C rfl dX4_keeps_1 ?_
  refine s_callV C (fr_M_M B g) (k_X4_isOne B g) gX4_keeps_X4_isOne rfl (by decide +kernel) ⟨rfl, rfl⟩ (by decide) rfl (fun s => ⟨_, heM_0 B g s⟩) (cf_RI_r _ _ _ _) dX4_keeps_2 ?_
  refine s_if_ne C (tgt := 14) (by decide) dX4_keeps_5 ?_ ?_
  · refine s_aload_n C rfl dX4_keeps_14 ?_
    refine s_callV C (fr_M_M B g) (k_X4_findHands B g) gX4_keeps_X4_findHands rfl (by decide +kernel) ⟨rfl, rfl⟩ (by decide) rfl (fun s => ⟨_, heM_0 B g s⟩) (cf_R_r _ _ _ _) dX4_keeps_15 ?_
    refine s_if_eq C (tgt := 30) (by decide) dX4_keeps_18 ?_ ?_
    · exact s_X4_keeps_30 B g C R 
    · refine s_aload_n C rfl dX4_keeps_21 ?_
      refine s_get C inw_X4_keeps_X4 rfl (k := 17) (by decide) (by decide +kernel) (heM_0 B g) (fun _ => rfl) dX4_keeps_22 ?_
      refine s_bipush C (by decide) dX4_keeps_25 ?_
      refine s_icmp_lt C (tgt := 37) (by decide) dX4_keeps_27 ?_ ?_
      · refine s_aload_n C rfl dX4_keeps_37 ?_
        refine s_callV C (fr_M_M B g) (k_X4_findMost B g) gX4_keeps_X4_findMost rfl (by decide +kernel) ⟨rfl, rfl⟩ (by decide) rfl (fun s => ⟨_, heM_0 B g s⟩) (cf_R_r _ _ _ _) dX4_keeps_38 ?_
        refine s_istore_n C rfl (by decide) dX4_keeps_41 ?_
        refine s_bipush C (by decide) dX4_keeps_42 ?_
        refine s_istore_n C rfl (by decide) dX4_keeps_44 ?_
        refine s_iconst C (by decide) dX4_keeps_45 ?_
        refine s_istore C (by decide) dX4_keeps_46 ?_
        refine s_iconst C (by decide) dX4_keeps_48 ?_
        refine s_istore C (by decide) dX4_keeps_49 ?_
        exact s_keep _ hK51
      · exact s_X4_keeps_30 B g C R 
  · refine s_aload_n C rfl dX4_keeps_8 ?_
    refine s_iconst C (by decide) dX4_keeps_9 ?_
    refine s_callV C (fr_M_M B g) (k_X4_no B g) gX4_keeps_X4_no rfl (by decide +kernel) ⟨rfl, rfl⟩ (by decide) rfl (fun s => ⟨_, heM_0 B g s⟩) (cf_RI_r _ _ _ _) dX4_keeps_10 ?_
    exact s_iret C R dX4_keeps_13
def bk_X4_keeps_96 (g : Nat → Nat) (Post : Option Value → MS → Prop) (K51 : PT MS) (L : Lc) (st : List Value) (s : MS) : Prop :=
  (wInc 5 1 <| wKeep [true, true, true, true, true, true, false] K51) L st s
set_option maxRecDepth 20000 in
theorem s_X4_keeps_96 {X : Cx} (B : Bx) (g : Nat → Nat) {Post : Option Value → MS → Prop} (C : OkX X (gx B) cX4_keeps 7 wsX4_keeps RX4 (rmD 6)) (R : RtX X (gx B) (some .int) (encM B g) Post) {K51 : PT MS} (hK51 : Snd X (gx B) 7 (encM B g) 51 K51) : Snd X (gx B) 7 (encM B g) 96 (bk_X4_keeps_96 g Post K51) := by
  unfold bk_X4_keeps_96
  refine s_iinc C (by decide) (by decide) dX4_keeps_96 ?_
  refine s_goto C (tgt := 51) (by decide) dX4_keeps_99 ?_
  exact s_keep _ hK51
def bk_X4_keeps_51 (g : Nat → Nat) (Post : Option Value → MS → Prop) (K51 : PT MS) (L : Lc) (st : List Value) (s : MS) : Prop :=
  (wIload 5 <| wAload 0 <| wGet (g 30) (fun s => .int (mS 15 s)) <| wIf2 (fun x y => y ≤ x) (wIload 3 <| wRetI Post) (wIload 5 <| wIload 1 <| wIf2 (fun x y => x = y) (bk_X4_keeps_96 g Post K51) (wAload 0 <| wIload 5 <| wIload 1 <| wIload 2 <| wCallR 4 (F_X4_worthOf g) id (fun _ u => u) <| wIst 6 <| wIload 6 <| wIload 4 <| wIf2 (fun x y => y < x) (wIload 5 <| wIst 3 <| wIload 6 <| wIst 4 <| bk_X4_keeps_96 g Post K51) (bk_X4_keeps_96 g Post K51)))) L st s
set_option maxRecDepth 20000 in
theorem s_X4_keeps_51 {X : Cx} (B : Bx) (g : Nat → Nat) {Post : Option Value → MS → Prop} (C : OkX X (gx B) cX4_keeps 7 wsX4_keeps RX4 (rmD 6)) (R : RtX X (gx B) (some .int) (encM B g) Post) {K51 : PT MS} (hK51 : Snd X (gx B) 7 (encM B g) 51 K51) : Snd X (gx B) 7 (encM B g) 51 (bk_X4_keeps_51 g Post K51) := by
  unfold bk_X4_keeps_51
  refine s_iload C dX4_keeps_51 ?_
  refine s_aload_n C rfl dX4_keeps_53 ?_
  refine s_get C inw_X4_keeps_X4 rfl (k := 15) (by decide) (by decide +kernel) (heM_0 B g) (fun _ => rfl) dX4_keeps_54 ?_
  refine s_icmp_ge C (tgt := 102) (by decide) dX4_keeps_57 ?_ ?_
  · refine s_iload_n C rfl dX4_keeps_102 ?_
    exact s_iret C R dX4_keeps_103
  · refine s_iload C dX4_keeps_60 ?_
    refine s_iload_n C rfl dX4_keeps_62 ?_
    refine s_icmp_ne C (tgt := 69) (by decide) dX4_keeps_63 ?_ ?_
    · refine s_aload_n C rfl dX4_keeps_69 ?_
      refine s_iload C dX4_keeps_70 ?_
      refine s_iload_n C rfl dX4_keeps_72 ?_
      refine s_iload_n C rfl dX4_keeps_73 ?_
      refine s_callV C (fr_M_M B g) (k_X4_worthOf B g) gX4_keeps_X4_worthOf rfl (by decide +kernel) ⟨rfl, rfl⟩ (by decide) rfl (fun s => ⟨_, heM_0 B g s⟩) (cf_RIII_r _ _ _ _) dX4_keeps_74 ?_
      refine s_istore C (by decide) dX4_keeps_77 ?_
      refine s_iload C dX4_keeps_79 ?_
      refine s_iload C dX4_keeps_81 ?_
      refine s_icmp_gt C (tgt := 89) (by decide) dX4_keeps_83 ?_ ?_
      · refine s_iload C dX4_keeps_89 ?_
        refine s_istore_n C rfl (by decide) dX4_keeps_91 ?_
        refine s_iload C dX4_keeps_92 ?_
        refine s_istore C (by decide) dX4_keeps_94 ?_
        exact s_X4_keeps_96 B g C R hK51
      · refine s_goto C (tgt := 96) (by decide) dX4_keeps_86 ?_
        exact s_X4_keeps_96 B g C R hK51
    · refine s_goto C (tgt := 96) (by decide) dX4_keeps_66 ?_
      exact s_X4_keeps_96 B g C R hK51
def I_kp (g : Nat → Nat) (q : Int32) (P : Nat) (I : MS → Prop) (all : Int32) (fin : Int32 × MS) (n : Nat) (L : Lc) (st : List Value) (s : MS) : Prop := ∃ (k : Nat) (b m : Int32), n + k = P ∧ I s ∧ st = [] ∧ L = [some (.ref (g 30)), some (.int q), some (.int all), some (.int b), some (.int m), some (.int (nI k)), none] ∧ kpF q all k n b m s = fin
theorem k_X4_keeps (B : Bx) (g : Nat → Nat) : MtF (gx B) yX4_keeps wsX4_keeps (rmD 6) (encM B g) (F_X4_keeps g) := by
  refine cf_RI_i (fun l M q h => ?_)
  obtain ⟨⟨h1, h2⟩, h4⟩ := h
  generalize hr : v_keeps M q = r
  unfold v_keeps at hr
  refine Mt.of (P := bk_X4_keeps_0 g (fun o u => o = some (.int r.1) ∧ u = r.2) (fun L st s => ∃ P I all, (P ≤ 7 ∧ kpI P q I) ∧ ∃ n, I_kp g q P I all r n L st s)) (by decide) rfl (Nat.le_of_ble_eq_true rfl) rfl (fun X C R => s_X4_keeps_0 B g C R (Snd.ex fun P => Snd.ex fun I => Snd.ex fun all => Snd.imp (fun hc => snd_loop _ (I_kp g q P I all r) (fun K hK => s_X4_keeps_51 B g C R hK) ?_))) ?_
  · rintro K n L st s ⟨k, b, m, hn, hI, rfl, rfl, hf⟩ hK
    obtain ⟨hp, hw⟩ := hc.2 s hI
    have hP7 := hc.1
    simp only [wIload, wAload, wLload, wK, wB, wDv, wU, wLB, wLU, wLS, wL2i, wLcmp, wIf1, wIf2, wKeep, wInc, wIst, wAst, wLst, wDup, wPop, wDup2, wGet, wPut, wPutZ, wIald, wLald, wIast, wLast, wLen, wRetI, wRetZ, wRetL, wRetA, wRetV, wM1, wM2, wCpy, wTab, tabW, nth, stL, stL2, dropL, keepL, mkL, padL, restOK, restOKn, tl_some, tl_none, id_eq, eq_self, true_and, and_true, bk_X4_keeps_30, bk_X4_keeps_0, bk_X4_keeps_96, bk_X4_keeps_51, F_X4_findHands, F_X4_findMost, F_X4_isOne, F_X4_no, F_X4_worthOf, cf_RIII_e, cf_RI_e, cf_R_e]
    rw [hp]
    rcases Nat.lt_or_ge k P with hlt | hge
    · have h2 : ¬ nI P ≤ nI k := nI_ge (a := k) (b := P) hlt (by omega)
      obtain ⟨n, rfl⟩ : ∃ m, n = m + 1 := ⟨n - 1, by omega⟩
      rw [kpF_s] at hf
      by_cases hq : nI k = q
      · rw [if_pos hq] at hf
        have h2q : ¬ nI P ≤ q := hq ▸ h2
        simp only [hq, h2q, false_implies, true_implies, not_true_eq_false, not_false_eq_true, true_and, and_true, implies_true, eq_self, ne_eq, true_or, or_true, false_or, or_false, and_self]
        rw [← hq, nI_1]
        rw [← hq] at hf hK
        exact hK n _ _ _ (by omega) ⟨k + 1, _, _, by omega, hI, rfl, rfl, hf⟩
      · rw [if_neg hq] at hf
        obtain ⟨w1, w2⟩ := hw k hlt hq
        have w3 := w2 all
        simp only [h2, hq, w1, false_implies, true_implies, not_true_eq_false, not_false_eq_true, true_and, and_true, implies_true, eq_self, ne_eq, true_or, or_true, false_or, or_false, and_self]
        generalize v_wo s (nI k) q all = y at hf w3 ⊢
        by_cases h5 : m < y.1
        · rw [if_pos h5] at hf
          simp only [h5, false_implies, true_implies, not_true_eq_false, not_false_eq_true, true_and, and_true, implies_true, eq_self, ne_eq, true_or, or_true, false_or, or_false, and_self]
          rw [nI_1]
          exact hK n _ _ _ (by omega) ⟨k + 1, _, _, by omega, w3, rfl, rfl, hf⟩
        · rw [if_neg h5] at hf
          simp only [h5, false_implies, true_implies, not_true_eq_false, not_false_eq_true, true_and, and_true, implies_true, eq_self, ne_eq, true_or, or_true, false_or, or_false, and_self]
          rw [nI_1]
          exact hK n _ _ _ (by omega) ⟨k + 1, _, _, by omega, w3, rfl, rfl, hf⟩
    · have h2 : nI P ≤ nI k := nI_le hge (by omega)
      have h0 : n = 0 := by omega
      subst h0
      have hf : (b, s) = r := hf
      subst hf
      simp only [h2, false_implies, true_implies, not_true_eq_false, not_false_eq_true, true_and, and_true, implies_true, eq_self, ne_eq, true_or, or_true, false_or, or_false, and_self]
  · simp only [wIload, wAload, wLload, wK, wB, wDv, wU, wLB, wLU, wLS, wL2i, wLcmp, wIf1, wIf2, wKeep, wInc, wIst, wAst, wLst, wDup, wPop, wDup2, wGet, wPut, wPutZ, wIald, wLald, wIast, wLast, wLen, wRetI, wRetZ, wRetL, wRetA, wRetV, wM1, wM2, wCpy, wTab, tabW, nth, stL, stL2, dropL, keepL, mkL, padL, restOK, restOKn, tl_some, tl_none, id_eq, eq_self, true_and, and_true, bk_X4_keeps_30, bk_X4_keeps_0, bk_X4_keeps_96, bk_X4_keeps_51, F_X4_findHands, F_X4_findMost, F_X4_isOne, F_X4_no, F_X4_worthOf, cf_RIII_e, cf_RI_e, cf_R_e, b2i_eq0, refI1, refI6, h1]
    generalize uFH M = z at h2 h4 hr ⊢
    obtain ⟨zb, N⟩ := z
    cases ha : uOne M q
    · rw [if_neg (by rw [ha]; decide)] at hr
      subst hr
      simp only [ha, false_implies, true_implies, not_true_eq_false, not_false_eq_true, true_and, and_true, implies_true, eq_self, ne_eq, true_or, or_true, false_or, or_false, and_self]
      all_goals first | done | exact ⟨rfl, rfl⟩ | exact rfl | exact b2i_01 _ | exact ⟨b2i_01 _, rfl, rfl⟩ | exact ⟨b2i_01 _, rfl⟩ | exact ⟨rfl, rfl, rfl⟩ | exact trivial | exact Or.inl trivial
    · rw [if_pos ha] at hr
      cases zb
      · simp only [Bool.false_eq_true, false_and, reduceIte] at hr
        subst hr
        simp only [ha, Bool.true_eq_false, false_implies, true_implies, not_true_eq_false, not_false_eq_true, true_and, and_true, implies_true, eq_self, ne_eq, true_or, or_true, false_or, or_false, and_self]
        all_goals first | done | exact ⟨rfl, rfl⟩ | exact rfl | exact b2i_01 _ | exact ⟨b2i_01 _, rfl, rfl⟩ | exact ⟨b2i_01 _, rfl⟩ | exact ⟨rfl, rfl, rfl⟩ | exact trivial | exact Or.inl trivial
      · by_cases h60 : mS 17 N < 60
        · rw [if_pos ⟨rfl, h60⟩] at hr
          have h3 := h2 rfl
          obtain ⟨P, I, i1, i2, i3⟩ := h4 rfl h60
          have hp := (i3 _ i2).1
          have ep : uPeople (uFM N).2 = P := by unfold uPeople; rw [hp, nI_clamp (by omega)]
          rw [ep] at hr
          simp only [ha, h60, h3, Bool.true_eq_false, false_implies, true_implies, not_true_eq_false, not_false_eq_true, true_and, and_true, implies_true, eq_self, ne_eq, true_or, or_true, false_or, or_false, and_self]
          exact ⟨P, I, _, ⟨i1, i3⟩, P, 0, -9, 0, rfl, i2, rfl, rfl, hr⟩
        · rw [if_neg (fun z => h60 z.2)] at hr
          subst hr
          simp only [ha, h60, Bool.true_eq_false, false_implies, true_implies, not_true_eq_false, not_false_eq_true, true_and, and_true, implies_true, eq_self, ne_eq, true_or, or_true, false_or, or_false, and_self]
          all_goals first | done | exact ⟨rfl, rfl⟩ | exact rfl | exact b2i_01 _ | exact ⟨b2i_01 _, rfl, rfl⟩ | exact ⟨b2i_01 _, rfl⟩ | exact ⟨rfl, rfl, rfl⟩ | exact trivial | exact Or.inl trivial
end
