noncomputable section
def uW0 (M : MS) (b to gr n : Int32) : MS := msS 17 (maA 14 (maA 13 (maA 12 (maA 11 (maA 10 M (uHelps M) b) (uHelps M) to) (uHelps M) (mS 22 M)) (uHelps M) gr) (uHelps M) (if n = 12 then -1 else n)) (mS 17 M + 1)
def uW (M : MS) (b to gr n : Int32) : MS := if n < 0 then uW0 M b to gr n else maA 9 (uW0 M b to gr n) n.toNatClampNeg (mA 9 M n.toNatClampNeg + 1)
def F_X4_writes (g : Nat → Nat) : CF MS := cf_RIIII (g 30) (fun M _ _ _ n => hpB 399 M ∧ (n < 0 ∨ ixB 13 n)) (fun _ _ _ _ _ => none) (fun M a b c d => uW M a b c d)
theorem inw_X4_writes_X4 : ∀ w ∈ u_ws RX4 TX4 45, w ∈ wsX4_writes := by decide +kernel
def bk_X4_writes_91 (g : Nat → Nat) (Post : Option Value → MS → Prop)  (L : Lc) (st : List Value) (s : MS) : Prop :=
  (wRetV Post) L st s
set_option maxRecDepth 20000 in
theorem s_X4_writes_91 {X : Cx} (B : Bx) (g : Nat → Nat) {Post : Option Value → MS → Prop} (C : OkX X (gx B) cX4_writes 5 wsX4_writes RX4 (rmD 0)) (R : RtX X (gx B) none (encM B g) Post)  : Snd X (gx B) 5 (encM B g) 91 (bk_X4_writes_91 g Post ) := by
  unfold bk_X4_writes_91
  exact s_vret C R dX4_writes_91
def bk_X4_writes_64 (g : Nat → Nat) (Post : Option Value → MS → Prop)  (L : Lc) (st : List Value) (s : MS) : Prop :=
  (wIast (g 45) 400 (maA 14) <| wAload 0 <| wDup <| wGet (g 30) (fun s => .int (mS 17 s)) <| wK (.int 1) <| wB (fun x y => x + y) <| wPut (g 30) (msS 17) <| wIload 4 <| wIf1 (fun x => x < 0) (bk_X4_writes_91 g Post ) (wAload 0 <| wGet (g 30) (fun _ => .ref (g 40)) <| wIload 4 <| wDup2 <| wIald (g 40) 13 (mA 9) <| wK (.int 1) <| wB (fun x y => x + y) <| wIast (g 40) 13 (maA 9) <| bk_X4_writes_91 g Post )) L st s
set_option maxRecDepth 20000 in
theorem s_X4_writes_64 {X : Cx} (B : Bx) (g : Nat → Nat) {Post : Option Value → MS → Prop} (C : OkX X (gx B) cX4_writes 5 wsX4_writes RX4 (rmD 0)) (R : RtX X (gx B) none (encM B g) Post)  : Snd X (gx B) 5 (encM B g) 64 (bk_X4_writes_64 g Post ) := by
  unfold bk_X4_writes_64
  refine s_iast C (heM_15 B g) (fun _ _ _ => rfl) dX4_writes_64 ?_
  refine s_aload_n C rfl dX4_writes_65 ?_
  refine s_dup C dX4_writes_66 ?_
  refine s_get C inw_X4_writes_X4 rfl (k := 17) (by decide) (by decide +kernel) (heM_0 B g) (fun _ => rfl) dX4_writes_67 ?_
  refine s_iconst C (by decide) dX4_writes_70 ?_
  refine s_iadd C dX4_writes_71 ?_
  refine s_put C inw_X4_writes_X4 rfl (k := 17) (by decide) (by decide +kernel) tyX4_ok nmX4 (by decide +kernel) (by decide +kernel) (heM_0 B g) (fun _ => Nat.le_of_ble_eq_true rfl) (fun _ _ => rfl) dX4_writes_72 ?_
  refine s_iload C dX4_writes_75 ?_
  refine s_if_lt C (tgt := 91) (by decide) dX4_writes_77 ?_ ?_
  · exact s_X4_writes_91 B g C R 
  · refine s_aload_n C rfl dX4_writes_80 ?_
    refine s_get C inw_X4_writes_X4 rfl (k := 9) (by decide) (by decide +kernel) (heM_0 B g) (fun _ => rfl) dX4_writes_81 ?_
    refine s_iload C dX4_writes_84 ?_
    refine s_dup2 C dX4_writes_86 ?_
    refine s_iald C (heM_10 B g) dX4_writes_87 ?_
    refine s_iconst C (by decide) dX4_writes_88 ?_
    refine s_iadd C dX4_writes_89 ?_
    refine s_iast C (heM_10 B g) (fun _ _ _ => rfl) dX4_writes_90 ?_
    exact s_X4_writes_91 B g C R 
def bk_X4_writes_0 (g : Nat → Nat) (Post : Option Value → MS → Prop)  (L : Lc) (st : List Value) (s : MS) : Prop :=
  (wAload 0 <| wGet (g 30) (fun _ => .ref (g 41)) <| wAload 0 <| wGet (g 30) (fun s => .int (mS 17 s)) <| wIload 1 <| wIast (g 41) 400 (maA 10) <| wAload 0 <| wGet (g 30) (fun _ => .ref (g 42)) <| wAload 0 <| wGet (g 30) (fun s => .int (mS 17 s)) <| wIload 2 <| wIast (g 42) 400 (maA 11) <| wAload 0 <| wGet (g 30) (fun _ => .ref (g 43)) <| wAload 0 <| wGet (g 30) (fun s => .int (mS 17 s)) <| wAload 0 <| wGet (g 30) (fun s => .int (mS 22 s)) <| wIast (g 43) 400 (maA 12) <| wAload 0 <| wGet (g 30) (fun _ => .ref (g 44)) <| wAload 0 <| wGet (g 30) (fun s => .int (mS 17 s)) <| wIload 3 <| wIast (g 44) 400 (maA 13) <| wAload 0 <| wGet (g 30) (fun _ => .ref (g 45)) <| wAload 0 <| wGet (g 30) (fun s => .int (mS 17 s)) <| wIload 4 <| wK (.int 12) <| wIf2 (fun x y => x = y) (wK (.int (-1)) <| bk_X4_writes_64 g Post ) (wIload 4 <| bk_X4_writes_64 g Post )) L st s
set_option maxRecDepth 20000 in
theorem s_X4_writes_0 {X : Cx} (B : Bx) (g : Nat → Nat) {Post : Option Value → MS → Prop} (C : OkX X (gx B) cX4_writes 5 wsX4_writes RX4 (rmD 0)) (R : RtX X (gx B) none (encM B g) Post)  : Snd X (gx B) 5 (encM B g) 0 (bk_X4_writes_0 g Post ) := by
  unfold bk_X4_writes_0
  refine s_aload_n C rfl dX4_writes_0 ?_
  refine s_get C inw_X4_writes_X4 rfl (k := 10) (by decide) (by decide +kernel) (heM_0 B g) (fun _ => rfl) dX4_writes_1 ?_
  refine s_aload_n C rfl dX4_writes_4 ?_
  refine s_get C inw_X4_writes_X4 rfl (k := 17) (by decide) (by decide +kernel) (heM_0 B g) (fun _ => rfl) dX4_writes_5 ?_
  refine s_iload_n C rfl dX4_writes_8 ?_
  refine s_iast C (heM_11 B g) (fun _ _ _ => rfl) dX4_writes_9 ?_
  refine s_aload_n C rfl dX4_writes_10 ?_
  refine s_get C inw_X4_writes_X4 rfl (k := 11) (by decide) (by decide +kernel) (heM_0 B g) (fun _ => rfl) dX4_writes_11 ?_
  refine s_aload_n C rfl dX4_writes_14 ?_
  refine s_get C inw_X4_writes_X4 rfl (k := 17) (by decide) (by decide +kernel) (heM_0 B g) (fun _ => rfl) dX4_writes_15 ?_
  refine s_iload_n C rfl dX4_writes_18 ?_
  refine s_iast C (heM_12 B g) (fun _ _ _ => rfl) dX4_writes_19 ?_
  refine s_aload_n C rfl dX4_writes_20 ?_
  refine s_get C inw_X4_writes_X4 rfl (k := 12) (by decide) (by decide +kernel) (heM_0 B g) (fun _ => rfl) dX4_writes_21 ?_
  refine s_aload_n C rfl dX4_writes_24 ?_
  refine s_get C inw_X4_writes_X4 rfl (k := 17) (by decide) (by decide +kernel) (heM_0 B g) (fun _ => rfl) dX4_writes_25 ?_
  refine s_aload_n C rfl dX4_writes_28 ?_
  refine s_get C inw_X4_writes_X4 rfl (k := 22) (by decide) (by decide +kernel) (heM_0 B g) (fun _ => rfl) dX4_writes_29 ?_
  refine s_iast C (heM_13 B g) (fun _ _ _ => rfl) dX4_writes_32 ?_
  refine s_aload_n C rfl dX4_writes_33 ?_
  refine s_get C inw_X4_writes_X4 rfl (k := 13) (by decide) (by decide +kernel) (heM_0 B g) (fun _ => rfl) dX4_writes_34 ?_
  refine s_aload_n C rfl dX4_writes_37 ?_
  refine s_get C inw_X4_writes_X4 rfl (k := 17) (by decide) (by decide +kernel) (heM_0 B g) (fun _ => rfl) dX4_writes_38 ?_
  refine s_iload_n C rfl dX4_writes_41 ?_
  refine s_iast C (heM_14 B g) (fun _ _ _ => rfl) dX4_writes_42 ?_
  refine s_aload_n C rfl dX4_writes_43 ?_
  refine s_get C inw_X4_writes_X4 rfl (k := 14) (by decide) (by decide +kernel) (heM_0 B g) (fun _ => rfl) dX4_writes_44 ?_
  refine s_aload_n C rfl dX4_writes_47 ?_
  refine s_get C inw_X4_writes_X4 rfl (k := 17) (by decide) (by decide +kernel) (heM_0 B g) (fun _ => rfl) dX4_writes_48 ?_
  refine s_iload C dX4_writes_51 ?_
  refine s_bipush C (by decide) dX4_writes_53 ?_
  refine s_icmp_ne C (tgt := 62) (by decide) dX4_writes_55 ?_ ?_
  · refine s_iload C dX4_writes_62 ?_
    exact s_X4_writes_64 B g C R 
  · refine s_iconst C (by decide) dX4_writes_58 ?_
    refine s_goto C (tgt := 64) (by decide) dX4_writes_59 ?_
    exact s_X4_writes_64 B g C R 
theorem k_X4_writes (B : Bx) (g : Nat → Nat) : MtF (gx B) yX4_writes wsX4_writes (rmD 0) (encM B g) (F_X4_writes g) := by
  refine cf_RIIII_i (fun l M a b c n h => Mt.of (by decide) rfl (Nat.le_of_ble_eq_true rfl) rfl (fun X C R => s_X4_writes_0 B g C R) ?_)
  obtain ⟨i1, i2⟩ := h
  obtain ⟨e1, e2⟩ := hpB_c i1 (by decide)
  have hh : (mS 17 M).toNatClampNeg = uHelps M := rfl
  have w0 : vp_in (mS 17 M) 400 := by rw [e1]; exact vp_in_nI (by omega) (by decide)
  simp only [wIload, wAload, wLload, wK, wB, wDv, wU, wLB, wLU, wLS, wL2i, wLcmp, wIf1, wIf2, wKeep, wInc, wIst, wAst, wLst, wDup, wPop, wDup2, wGet, wPut, wPutZ, wIald, wLald, wIast, wLast, wLen, wRetI, wRetZ, wRetL, wRetA, wRetV, wM1, wM2, wCpy, wTab, tabW, nth, stL, stL2, dropL, keepL, mkL, padL, restOK, restOKn, tl_some, tl_none, id_eq, eq_self, true_and, and_true, bk_X4_writes_91, bk_X4_writes_64, bk_X4_writes_0, mS_S, mA_A, mS_A, mA_S, mS_a, mA_a, Nat.reduceEqDiff, reduceIte, hh, w0]
  unfold uW
  have w1 : ¬ n < 0 → vp_in n 13 := fun z => ixB_v (i2.resolve_left z) (by decide)
  by_cases h12 : n = 12
  · have hn : ¬ n < 0 := by rw [h12]; decide
    have w2 := w1 hn
    have e3 : uW0 M a b c n = msS 17 (maA 14 (maA 13 (maA 12 (maA 11 (maA 10 M (uHelps M) a) (uHelps M) b) (uHelps M) (mS 22 M)) (uHelps M) c) (uHelps M) (-1)) (mS 17 M + 1) := by unfold uW0; rw [if_pos h12]
    rw [if_neg hn, e3]
    have w12 : vp_in 12 13 := vp_lit 12 (by decide) (by decide)
    have d12 : ¬ (12 : Int32) < 0 := by decide
    simp only [h12, hn, w2, w12, d12, false_implies, true_implies, not_true_eq_false, not_false_eq_true, true_and, and_true, implies_true, eq_self, ne_eq, true_or, or_true, false_or, or_false, and_self]
    all_goals first | done | exact rfl
  · have e3 : uW0 M a b c n = msS 17 (maA 14 (maA 13 (maA 12 (maA 11 (maA 10 M (uHelps M) a) (uHelps M) b) (uHelps M) (mS 22 M)) (uHelps M) c) (uHelps M) n) (mS 17 M + 1) := by unfold uW0; rw [if_neg h12]
    rw [e3]
    by_cases hn : n < 0
    · simp only [h12, hn, if_true, false_implies, true_implies, not_true_eq_false, not_false_eq_true, true_and, and_true, implies_true, eq_self, ne_eq, true_or, or_true, false_or, or_false, and_self]
    · have w2 := w1 hn
      simp only [h12, hn, w2, if_false, false_implies, true_implies, not_true_eq_false, not_false_eq_true, true_and, and_true, implies_true, eq_self, ne_eq, true_or, or_true, false_or, or_false, and_self]
def uBack (M : MS) : MS := if mA 14 M (mS 17 M - 1).toNatClampNeg < 0 then msS 17 M (mS 17 M - 1) else maA 9 (msS 17 M (mS 17 M - 1)) (mA 14 M (mS 17 M - 1).toNatClampNeg).toNatClampNeg (mA 9 M (mA 14 M (mS 17 M - 1).toNatClampNeg).toNatClampNeg - 1)
def F_X4_takesBack (g : Nat → Nat) : CF MS := cf_R (g 30) (fun M => ixB 400 (mS 17 M - 1) ∧ (mA 14 M (mS 17 M - 1).toNatClampNeg < 0 ∨ ixB 13 (mA 14 M (mS 17 M - 1).toNatClampNeg))) (fun _ => none) (fun M => uBack M)
theorem inw_X4_takesBack_X4 : ∀ w ∈ u_ws RX4 TX4 45, w ∈ wsX4_takesBack := by decide +kernel
def bk_X4_takesBack_40 (g : Nat → Nat) (Post : Option Value → MS → Prop)  (L : Lc) (st : List Value) (s : MS) : Prop :=
  (wRetV Post) L st s
set_option maxRecDepth 20000 in
theorem s_X4_takesBack_40 {X : Cx} (B : Bx) (g : Nat → Nat) {Post : Option Value → MS → Prop} (C : OkX X (gx B) cX4_takesBack 1 wsX4_takesBack RX4 (rmD 0)) (R : RtX X (gx B) none (encM B g) Post)  : Snd X (gx B) 1 (encM B g) 40 (bk_X4_takesBack_40 g Post ) := by
  unfold bk_X4_takesBack_40
  exact s_vret C R dX4_takesBack_40
def bk_X4_takesBack_0 (g : Nat → Nat) (Post : Option Value → MS → Prop)  (L : Lc) (st : List Value) (s : MS) : Prop :=
  (wAload 0 <| wDup <| wGet (g 30) (fun s => .int (mS 17 s)) <| wK (.int 1) <| wB (fun x y => x - y) <| wPut (g 30) (msS 17) <| wAload 0 <| wGet (g 30) (fun _ => .ref (g 45)) <| wAload 0 <| wGet (g 30) (fun s => .int (mS 17 s)) <| wIald (g 45) 400 (mA 14) <| wIf1 (fun x => x < 0) (bk_X4_takesBack_40 g Post ) (wAload 0 <| wGet (g 30) (fun _ => .ref (g 40)) <| wAload 0 <| wGet (g 30) (fun _ => .ref (g 45)) <| wAload 0 <| wGet (g 30) (fun s => .int (mS 17 s)) <| wIald (g 45) 400 (mA 14) <| wDup2 <| wIald (g 40) 13 (mA 9) <| wK (.int 1) <| wB (fun x y => x - y) <| wIast (g 40) 13 (maA 9) <| bk_X4_takesBack_40 g Post )) L st s
set_option maxRecDepth 20000 in
theorem s_X4_takesBack_0 {X : Cx} (B : Bx) (g : Nat → Nat) {Post : Option Value → MS → Prop} (C : OkX X (gx B) cX4_takesBack 1 wsX4_takesBack RX4 (rmD 0)) (R : RtX X (gx B) none (encM B g) Post)  : Snd X (gx B) 1 (encM B g) 0 (bk_X4_takesBack_0 g Post ) := by
  unfold bk_X4_takesBack_0
  refine s_aload_n C rfl dX4_takesBack_0 ?_
  refine s_dup C dX4_takesBack_1 ?_
  refine s_get C inw_X4_takesBack_X4 rfl (k := 17) (by decide) (by decide +kernel) (heM_0 B g) (fun _ => rfl) dX4_takesBack_2 ?_
  refine s_iconst C (by decide) dX4_takesBack_5 ?_
  refine s_isub C dX4_takesBack_6 ?_
  refine s_put C inw_X4_takesBack_X4 rfl (k := 17) (by decide) (by decide +kernel) tyX4_ok nmX4 (by decide +kernel) (by decide +kernel) (heM_0 B g) (fun _ => Nat.le_of_ble_eq_true rfl) (fun _ _ => rfl) dX4_takesBack_7 ?_
  refine s_aload_n C rfl dX4_takesBack_10 ?_
  refine s_get C inw_X4_takesBack_X4 rfl (k := 14) (by decide) (by decide +kernel) (heM_0 B g) (fun _ => rfl) dX4_takesBack_11 ?_
  refine s_aload_n C rfl dX4_takesBack_14 ?_
  refine s_get C inw_X4_takesBack_X4 rfl (k := 17) (by decide) (by decide +kernel) (heM_0 B g) (fun _ => rfl) dX4_takesBack_15 ?_
  refine s_iald C (heM_15 B g) dX4_takesBack_18 ?_
  refine s_if_lt C (tgt := 40) (by decide) dX4_takesBack_19 ?_ ?_
  · exact s_X4_takesBack_40 B g C R 
  · refine s_aload_n C rfl dX4_takesBack_22 ?_
    refine s_get C inw_X4_takesBack_X4 rfl (k := 9) (by decide) (by decide +kernel) (heM_0 B g) (fun _ => rfl) dX4_takesBack_23 ?_
    refine s_aload_n C rfl dX4_takesBack_26 ?_
    refine s_get C inw_X4_takesBack_X4 rfl (k := 14) (by decide) (by decide +kernel) (heM_0 B g) (fun _ => rfl) dX4_takesBack_27 ?_
    refine s_aload_n C rfl dX4_takesBack_30 ?_
    refine s_get C inw_X4_takesBack_X4 rfl (k := 17) (by decide) (by decide +kernel) (heM_0 B g) (fun _ => rfl) dX4_takesBack_31 ?_
    refine s_iald C (heM_15 B g) dX4_takesBack_34 ?_
    refine s_dup2 C dX4_takesBack_35 ?_
    refine s_iald C (heM_10 B g) dX4_takesBack_36 ?_
    refine s_iconst C (by decide) dX4_takesBack_37 ?_
    refine s_isub C dX4_takesBack_38 ?_
    refine s_iast C (heM_10 B g) (fun _ _ _ => rfl) dX4_takesBack_39 ?_
    exact s_X4_takesBack_40 B g C R 
theorem k_X4_takesBack (B : Bx) (g : Nat → Nat) : MtF (gx B) yX4_takesBack wsX4_takesBack (rmD 0) (encM B g) (F_X4_takesBack g) := by
  refine cf_R_i (fun l M h => Mt.of (by decide) rfl (Nat.le_of_ble_eq_true rfl) rfl (fun X C R => s_X4_takesBack_0 B g C R) ?_)
  obtain ⟨i1, i2⟩ := h
  have w0 := ixB_v i1 (by decide)
  simp only [wIload, wAload, wLload, wK, wB, wDv, wU, wLB, wLU, wLS, wL2i, wLcmp, wIf1, wIf2, wKeep, wInc, wIst, wAst, wLst, wDup, wPop, wDup2, wGet, wPut, wPutZ, wIald, wLald, wIast, wLast, wLen, wRetI, wRetZ, wRetL, wRetA, wRetV, wM1, wM2, wCpy, wTab, tabW, nth, stL, stL2, dropL, keepL, mkL, padL, restOK, restOKn, tl_some, tl_none, id_eq, eq_self, true_and, and_true, bk_X4_takesBack_40, bk_X4_takesBack_0, mS_S, mA_A, mS_A, mA_S, mS_a, mA_a, Nat.reduceEqDiff, reduceIte, w0]
  by_cases hn : mA 14 M (mS 17 M - 1).toNatClampNeg < 0
  · have e : uBack M = msS 17 M (mS 17 M - 1) := by unfold uBack; rw [if_pos hn]
    simp only [hn, e, false_implies, true_implies, not_true_eq_false, not_false_eq_true, true_and, and_true, implies_true, eq_self, ne_eq, true_or, or_true, false_or, or_false, and_self]
  · have e : uBack M = maA 9 (msS 17 M (mS 17 M - 1)) (mA 14 M (mS 17 M - 1).toNatClampNeg).toNatClampNeg (mA 9 M (mA 14 M (mS 17 M - 1).toNatClampNeg).toNatClampNeg - 1) := by unfold uBack; rw [if_neg hn]
    have w2 := ixB_v (i2.resolve_left hn) (by decide)
    simp only [hn, e, w2, false_implies, true_implies, not_true_eq_false, not_false_eq_true, true_and, and_true, implies_true, eq_self, ne_eq, true_or, or_true, false_or, or_false, and_self]
def uNeeds (M : MS) : Nat := (mS 16 M).toNatClampNeg
def uPeople (M : MS) : Nat := (mS 15 M).toNatClampNeg
def nnB (M : MS) : Prop := ∃ N, N ≤ 12 ∧ mS 16 M = nI N
theorem nnB_c {M : MS} (h : nnB M) : mS 16 M = nI (uNeeds M) ∧ uNeeds M ≤ 12 := by
  obtain ⟨H, h1, h2⟩ := h
  unfold uNeeds
  rw [h2, nI_clamp (by omega)]
  exact ⟨rfl, h1⟩
def ppB (M : MS) : Prop := ∃ N, N ≤ 7 ∧ mS 15 M = nI N
theorem ppB_c {M : MS} (h : ppB M) : mS 15 M = nI (uPeople M) ∧ uPeople M ≤ 7 := by
  obtain ⟨H, h1, h2⟩ := h
  unfold uPeople
  rw [h2, nI_clamp (by omega)]
  exact ⟨rfl, h1⟩
theorem uOne_ix {M : MS} {p : Int32} (h : ppB M) (hp : uOne M p = true) : ixB 7 p := by
  obtain ⟨e, h1⟩ := ppB_c h
  unfold uOne at hp
  have hp := of_decide_eq_true hp
  rw [e] at hp
  obtain ⟨j, hj, rfl⟩ := nI_of hp.1
  refine ⟨j, ?_, rfl⟩
  have := (nI_lt_x hj).mp hp.2
  rw [nI_clamp (by omega)] at this
  omega
def uLs (M : MS) (p n : Nat) : Nat → Int32
  | 0 => 0
  | j + 1 => if n < j ∧ mA 4 M j = mA 4 M n then imax (uLs M p n j) (uGood M p j) else uLs M p n j
theorem uLs_0 (M : MS) (p n : Nat) : ∀ j, j ≤ n + 1 → uLs M p n j = 0 := by
  intro j
  induction j with
  | zero => intro _; rfl
  | succ j ih =>
    intro h
    simp only [uLs]
    rw [if_neg (by omega)]
    exact ih (by omega)
def uLoss (M : MS) (p n : Nat) : Int32 := uLs M p n (uNeeds M)
def F_X4_lossOf (g : Nat → Nat) : CF MS := cf_RII (g 30) (fun M x y => ixB 7 x ∧ ixB 13 y ∧ nwB M ∧ nnB M) (fun M p q => some (.int (uLoss M p.toNatClampNeg q.toNatClampNeg))) (fun M _ _ => M)
theorem inw_X4_lossOf_X4 : ∀ w ∈ u_ws RX4 TX4 45, w ∈ wsX4_lossOf := by decide +kernel
def bk_X4_lossOf_0 (g : Nat → Nat) (Post : Option Value → MS → Prop) (K7 : PT MS) (L : Lc) (st : List Value) (s : MS) : Prop :=
  (wK (.int 0) <| wIst 3 <| wIload 2 <| wK (.int 1) <| wB (fun x y => x + y) <| wIst 4 <| wKeep [true, true, true, true, true] K7) L st s
set_option maxRecDepth 20000 in
theorem s_X4_lossOf_0 {X : Cx} (B : Bx) (g : Nat → Nat) {Post : Option Value → MS → Prop} (C : OkX X (gx B) cX4_lossOf 5 wsX4_lossOf RX4 (rmD 2)) (R : RtX X (gx B) (some .int) (encM B g) Post) {K7 : PT MS} (hK7 : Snd X (gx B) 5 (encM B g) 7 K7) : Snd X (gx B) 5 (encM B g) 0 (bk_X4_lossOf_0 g Post K7) := by
  unfold bk_X4_lossOf_0
  refine s_iconst C (by decide) dX4_lossOf_0 ?_
  refine s_istore_n C rfl (by decide) dX4_lossOf_1 ?_
  refine s_iload_n C rfl dX4_lossOf_2 ?_
  refine s_iconst C (by decide) dX4_lossOf_3 ?_
  refine s_iadd C dX4_lossOf_4 ?_
  refine s_istore C (by decide) dX4_lossOf_5 ?_
  exact s_keep _ hK7
def bk_X4_lossOf_57 (g : Nat → Nat) (Post : Option Value → MS → Prop) (K7 : PT MS) (L : Lc) (st : List Value) (s : MS) : Prop :=
  (wInc 4 1 <| wKeep [true, true, true, true, true] K7) L st s
set_option maxRecDepth 20000 in
theorem s_X4_lossOf_57 {X : Cx} (B : Bx) (g : Nat → Nat) {Post : Option Value → MS → Prop} (C : OkX X (gx B) cX4_lossOf 5 wsX4_lossOf RX4 (rmD 2)) (R : RtX X (gx B) (some .int) (encM B g) Post) {K7 : PT MS} (hK7 : Snd X (gx B) 5 (encM B g) 7 K7) : Snd X (gx B) 5 (encM B g) 57 (bk_X4_lossOf_57 g Post K7) := by
  unfold bk_X4_lossOf_57
  refine s_iinc C (by decide) (by decide) dX4_lossOf_57 ?_
  refine s_goto C (tgt := 7) (by decide) dX4_lossOf_60 ?_
  exact s_keep _ hK7
def bk_X4_lossOf_63 (g : Nat → Nat) (Post : Option Value → MS → Prop)  (L : Lc) (st : List Value) (s : MS) : Prop :=
  (wIload 3 <| wRetI Post) L st s
set_option maxRecDepth 20000 in
theorem s_X4_lossOf_63 {X : Cx} (B : Bx) (g : Nat → Nat) {Post : Option Value → MS → Prop} (C : OkX X (gx B) cX4_lossOf 5 wsX4_lossOf RX4 (rmD 2)) (R : RtX X (gx B) (some .int) (encM B g) Post)  : Snd X (gx B) 5 (encM B g) 63 (bk_X4_lossOf_63 g Post ) := by
  unfold bk_X4_lossOf_63
  refine s_iload_n C rfl dX4_lossOf_63 ?_
  exact s_iret C R dX4_lossOf_64
def bk_X4_lossOf_7 (g : Nat → Nat) (Post : Option Value → MS → Prop) (K7 : PT MS) (L : Lc) (st : List Value) (s : MS) : Prop :=
  (wIload 4 <| wAload 0 <| wGet (g 30) (fun s => .int (mS 16 s)) <| wIf2 (fun x y => y ≤ x) (bk_X4_lossOf_63 g Post ) (wIload 2 <| wK (.int 12) <| wIf2 (fun x y => x = y) (bk_X4_lossOf_63 g Post ) (wAload 0 <| wGet (g 30) (fun _ => .ref (g 35)) <| wIload 4 <| wIald (g 35) 13 (mA 4) <| wAload 0 <| wGet (g 30) (fun _ => .ref (g 35)) <| wIload 2 <| wIald (g 35) 13 (mA 4) <| wIf2 (fun x y => x = y) (wAload 0 <| wIload 1 <| wIload 4 <| wCallR 3 (F_X4_goodOf g) id (fun _ u => u) <| wIload 3 <| wIf2 (fun x y => x ≤ y) (bk_X4_lossOf_57 g Post K7) (wAload 0 <| wIload 1 <| wIload 4 <| wCallR 3 (F_X4_goodOf g) id (fun _ u => u) <| wIst 3 <| bk_X4_lossOf_57 g Post K7)) (bk_X4_lossOf_57 g Post K7)))) L st s
set_option maxRecDepth 20000 in
theorem s_X4_lossOf_7 {X : Cx} (B : Bx) (g : Nat → Nat) {Post : Option Value → MS → Prop} (C : OkX X (gx B) cX4_lossOf 5 wsX4_lossOf RX4 (rmD 2)) (R : RtX X (gx B) (some .int) (encM B g) Post) {K7 : PT MS} (hK7 : Snd X (gx B) 5 (encM B g) 7 K7) : Snd X (gx B) 5 (encM B g) 7 (bk_X4_lossOf_7 g Post K7) := by
  unfold bk_X4_lossOf_7
  refine s_iload C dX4_lossOf_7 ?_
  refine s_aload_n C rfl dX4_lossOf_9 ?_
  refine s_get C inw_X4_lossOf_X4 rfl (k := 16) (by decide) (by decide +kernel) (heM_0 B g) (fun _ => rfl) dX4_lossOf_10 ?_
  refine s_icmp_ge C (tgt := 63) (by decide) dX4_lossOf_13 ?_ ?_
  · exact s_X4_lossOf_63 B g C R 
  · refine s_iload_n C rfl dX4_lossOf_16 ?_
    refine s_bipush C (by decide) dX4_lossOf_17 ?_
    refine s_icmp_eq C (tgt := 63) (by decide) dX4_lossOf_19 ?_ ?_
    · exact s_X4_lossOf_63 B g C R 
    · refine s_aload_n C rfl dX4_lossOf_22 ?_
      refine s_get C inw_X4_lossOf_X4 rfl (k := 4) (by decide) (by decide +kernel) (heM_0 B g) (fun _ => rfl) dX4_lossOf_23 ?_
      refine s_iload C dX4_lossOf_26 ?_
      refine s_iald C (heM_5 B g) dX4_lossOf_28 ?_
      refine s_aload_n C rfl dX4_lossOf_29 ?_
      refine s_get C inw_X4_lossOf_X4 rfl (k := 4) (by decide) (by decide +kernel) (heM_0 B g) (fun _ => rfl) dX4_lossOf_30 ?_
      refine s_iload_n C rfl dX4_lossOf_33 ?_
      refine s_iald C (heM_5 B g) dX4_lossOf_34 ?_
      refine s_icmp_ne C (tgt := 57) (by decide) dX4_lossOf_35 ?_ ?_
      · exact s_X4_lossOf_57 B g C R hK7
      · refine s_aload_n C rfl dX4_lossOf_38 ?_
        refine s_iload_n C rfl dX4_lossOf_39 ?_
        refine s_iload C dX4_lossOf_40 ?_
        refine s_callV C (fr_M_M B g) (k_X4_goodOf B g) gX4_lossOf_X4_goodOf rfl (by decide +kernel) ⟨rfl, rfl⟩ (by decide) rfl (fun s => ⟨_, heM_0 B g s⟩) (cf_RII_r _ _ _ _) dX4_lossOf_42 ?_
        refine s_iload_n C rfl dX4_lossOf_45 ?_
        refine s_icmp_le C (tgt := 57) (by decide) dX4_lossOf_46 ?_ ?_
        · exact s_X4_lossOf_57 B g C R hK7
        · refine s_aload_n C rfl dX4_lossOf_49 ?_
          refine s_iload_n C rfl dX4_lossOf_50 ?_
          refine s_iload C dX4_lossOf_51 ?_
          refine s_callV C (fr_M_M B g) (k_X4_goodOf B g) gX4_lossOf_X4_goodOf rfl (by decide +kernel) ⟨rfl, rfl⟩ (by decide) rfl (fun s => ⟨_, heM_0 B g s⟩) (cf_RII_r _ _ _ _) dX4_lossOf_53 ?_
          refine s_istore_n C rfl (by decide) dX4_lossOf_56 ?_
          exact s_X4_lossOf_57 B g C R hK7
def I_mLoss (g : Nat → Nat) (M : MS) (p q : Nat) (n : Nat) (L : Lc) (st : List Value) (s : MS) : Prop := ∃ k, q + 1 ≤ k ∧ k ≤ 14 ∧ (k ≤ uNeeds M ∨ k = q + 1) ∧ n = uNeeds M - k ∧ st = [] ∧ s = M ∧ L = [some (.ref (g 30)), some (.int (nI p)), some (.int (nI q)), some (.int (uLs M p q k)), some (.int (nI k))]
theorem k_X4_lossOf (B : Bx) (g : Nat → Nat) : MtF (gx B) yX4_lossOf wsX4_lossOf (rmD 2) (encM B g) (F_X4_lossOf g) := by
  refine cf_RII_i (fun l M x y h => ?_)
  obtain ⟨⟨p, hp, rfl⟩, ⟨q, hq, rfl⟩, i3, i4⟩ := h
  have cp : (nI p).toNatClampNeg = p := nI_clamp (by omega)
  have cq : (nI q).toNatClampNeg = q := nI_clamp (by omega)
  rw [cp, cq]
  refine Mt.of (P := bk_X4_lossOf_0 g (fun o u => o = some (.int (uLoss M p q)) ∧ u = M) (fun L st s => ∃ n, I_mLoss g M p q n L st s)) (by decide) rfl (Nat.le_of_ble_eq_true rfl) rfl (fun X C R => s_X4_lossOf_0 B g C R (snd_loop _ (I_mLoss g M p q) (fun K hK => s_X4_lossOf_7 B g C R hK) ?_)) ?_
  · rintro K n L st M' ⟨k, hk, hk1, hk2, hk3, rfl, rfl, rfl⟩ hK
    obtain ⟨e1, e2⟩ := nnB_c i4
    simp only [wIload, wAload, wLload, wK, wB, wDv, wU, wLB, wLU, wLS, wL2i, wLcmp, wIf1, wIf2, wKeep, wInc, wIst, wAst, wLst, wDup, wPop, wDup2, wGet, wPut, wPutZ, wIald, wLald, wIast, wLast, wLen, wRetI, wRetZ, wRetL, wRetA, wRetV, wM1, wM2, wCpy, wTab, tabW, nth, stL, stL2, dropL, keepL, mkL, padL, restOK, restOKn, tl_some, tl_none, id_eq, eq_self, true_and, and_true, bk_X4_lossOf_0, bk_X4_lossOf_57, bk_X4_lossOf_63, bk_X4_lossOf_7, F_X4_goodOf, cf_RII_e, mS_S, mA_A, mS_A, mA_S, mS_a, mA_a, Nat.reduceEqDiff, reduceIte]
    rw [e1]
    rcases Nat.lt_or_ge k (uNeeds M') with hlt | hge
    · have h1 : ¬ nI (uNeeds M') ≤ nI k := nI_ge (a := k) (b := uNeeds M') hlt (by omega)
      have h2 : ¬ nI q = 12 := fun z => by have := congrArg Int32.toNatClampNeg z; rw [cq] at this; have : q = 12 := this; omega
      have ck : (nI k).toNatClampNeg = k := nI_clamp (by omega)
      have wk : vp_in (nI k) 13 := vp_in_nI (by omega) (by decide)
      have wq : vp_in (nI q) 13 := vp_in_nI (by omega) (by decide)
      have pg : ixB 7 (nI p) ∧ ixB 13 (nI k) ∧ nwB M' := ⟨⟨p, hp, rfl⟩, ⟨k, by omega, rfl⟩, i3⟩
      have hc := hK (n - 1) _ _ _ (by omega) ⟨k + 1, by omega, by omega, by omega, by omega, rfl, rfl, rfl⟩
      rw [← nI_1] at hc
      simp only [uLs, imax] at hc
      simp only [h1, h2, cq, ck, cp, wk, wq, pg, false_implies, true_implies, not_true_eq_false, not_false_eq_true, true_and, and_true, implies_true, eq_self, ne_eq, true_or, or_true, false_or, or_false, and_self]
      by_cases ho : mA 4 M' k = mA 4 M' q
      · rw [if_pos ⟨by omega, ho⟩] at hc
        by_cases h3 : uLs M' p q k < uGood M' p k
        · have h4 : ¬ uGood M' p k ≤ uLs M' p q k := Int32.not_le.mpr h3
          rw [if_pos h3] at hc
          simp only [ho, h4, false_implies, true_implies, not_true_eq_false, not_false_eq_true, true_and, and_true, implies_true, eq_self, ne_eq, true_or, or_true, false_or, or_false, and_self]
          exact hc
        · have h4 : uGood M' p k ≤ uLs M' p q k := Int32.not_lt.mp h3
          rw [if_neg h3] at hc
          simp only [ho, h4, false_implies, true_implies, not_true_eq_false, not_false_eq_true, true_and, and_true, implies_true, eq_self, ne_eq, true_or, or_true, false_or, or_false, and_self]
          exact hc
      · rw [if_neg (fun z => ho z.2)] at hc
        simp only [ho, false_implies, true_implies, not_true_eq_false, not_false_eq_true, true_and, and_true, implies_true, eq_self, ne_eq, true_or, or_true, false_or, or_false, and_self]
        exact hc
    · have h1 : nI (uNeeds M') ≤ nI k := nI_le hge (by omega)
      simp only [h1, false_implies, true_implies, not_true_eq_false, not_false_eq_true, true_and, and_true, implies_true, eq_self, ne_eq, true_or, or_true, false_or, or_false, and_self]
      unfold uLoss
      rcases hk2 with h | h
      · rw [show uNeeds M' = k by omega]
      · rw [uLs_0 M' p q k (by omega), uLs_0 M' p q (uNeeds M') (by omega)]
  · simp only [wIload, wAload, wLload, wK, wB, wDv, wU, wLB, wLU, wLS, wL2i, wLcmp, wIf1, wIf2, wKeep, wInc, wIst, wAst, wLst, wDup, wPop, wDup2, wGet, wPut, wPutZ, wIald, wLald, wIast, wLast, wLen, wRetI, wRetZ, wRetL, wRetA, wRetV, wM1, wM2, wCpy, wTab, tabW, nth, stL, stL2, dropL, keepL, mkL, padL, restOK, restOKn, tl_some, tl_none, id_eq, eq_self, true_and, and_true, bk_X4_lossOf_0, bk_X4_lossOf_57, bk_X4_lossOf_63, bk_X4_lossOf_7, F_X4_goodOf, cf_RII_e]
    exact ⟨_, q + 1, by omega, by omega, Or.inr rfl, rfl, rfl, rfl, by rw [uLs_0 M p q (q + 1) (by omega), nI_1]⟩
def uRow (M : MS) : Nat := (mS 35 M).toNatClampNeg
def rwB (M : MS) : Prop := ∃ N, N ≤ 10 ∧ mS 35 M = nI N
theorem rwB_c {M : MS} (h : rwB M) : mS 35 M = nI (uRow M) ∧ uRow M ≤ 10 := by
  obtain ⟨H, h1, h2⟩ := h
  unfold uRow
  rw [h2, nI_clamp (by omega)]
  exact ⟨rfl, h1⟩
/-- all of a town in the model is within its bounds -/
def mOK (b : Nat) (M : MS) : Prop := hpB b M ∧ nwB M ∧ nnB M ∧ ppB M ∧ rwB M
def uTok (M : MS) (n : Int32) (k : Nat) : Bool := uOne M (mA 34 M k) && uMayW M (mA 34 M k) n
def uTold (M : MS) (n : Int32) : Int32 := if firstIdx (uTok M n) (uRow M) < uRow M then mA 34 M (firstIdx (uTok M n) (uRow M)) else -9
def F_X4_toldOne (g : Nat → Nat) : CF MS := cf_RI (g 30) (fun M x => ixB 13 x ∧ mOK 400 M) (fun M n => some (.int (uTold M n))) (fun M _ => M)
theorem inw_X4_toldOne_X4 : ∀ w ∈ u_ws RX4 TX4 45, w ∈ wsX4_toldOne := by decide +kernel
def bk_X4_toldOne_0 (g : Nat → Nat) (Post : Option Value → MS → Prop) (K2 : PT MS) (L : Lc) (st : List Value) (s : MS) : Prop :=
  (wK (.int 0) <| wIst 2 <| wKeep [true, true, true] K2) L st s
set_option maxRecDepth 20000 in
theorem s_X4_toldOne_0 {X : Cx} (B : Bx) (g : Nat → Nat) {Post : Option Value → MS → Prop} (C : OkX X (gx B) cX4_toldOne 3 wsX4_toldOne RX4 (rmD 4)) (R : RtX X (gx B) (some .int) (encM B g) Post) {K2 : PT MS} (hK2 : Snd X (gx B) 3 (encM B g) 2 K2) : Snd X (gx B) 3 (encM B g) 0 (bk_X4_toldOne_0 g Post K2) := by
  unfold bk_X4_toldOne_0
  refine s_iconst C (by decide) dX4_toldOne_0 ?_
  refine s_istore_n C rfl (by decide) dX4_toldOne_1 ?_
  exact s_keep _ hK2
def bk_X4_toldOne_44 (g : Nat → Nat) (Post : Option Value → MS → Prop) (K2 : PT MS) (L : Lc) (st : List Value) (s : MS) : Prop :=
  (wInc 2 1 <| wKeep [true, true, true] K2) L st s
set_option maxRecDepth 20000 in
theorem s_X4_toldOne_44 {X : Cx} (B : Bx) (g : Nat → Nat) {Post : Option Value → MS → Prop} (C : OkX X (gx B) cX4_toldOne 3 wsX4_toldOne RX4 (rmD 4)) (R : RtX X (gx B) (some .int) (encM B g) Post) {K2 : PT MS} (hK2 : Snd X (gx B) 3 (encM B g) 2 K2) : Snd X (gx B) 3 (encM B g) 44 (bk_X4_toldOne_44 g Post K2) := by
  unfold bk_X4_toldOne_44
  refine s_iinc C (by decide) (by decide) dX4_toldOne_44 ?_
  refine s_goto C (tgt := 2) (by decide) dX4_toldOne_47 ?_
  exact s_keep _ hK2
def bk_X4_toldOne_2 (g : Nat → Nat) (Post : Option Value → MS → Prop) (K2 : PT MS) (L : Lc) (st : List Value) (s : MS) : Prop :=
  (wIload 2 <| wAload 0 <| wGet (g 30) (fun s => .int (mS 35 s)) <| wIf2 (fun x y => y ≤ x) (wK (.int (-9)) <| wRetI Post) (wAload 0 <| wAload 0 <| wGet (g 30) (fun _ => .ref (g 65)) <| wIload 2 <| wIald (g 65) 10 (mA 34) <| wCallR 2 (F_X4_isOne g) id (fun _ u => u) <| wIf1 (fun x => x = 0) (bk_X4_toldOne_44 g Post K2) (wAload 0 <| wAload 0 <| wGet (g 30) (fun _ => .ref (g 65)) <| wIload 2 <| wIald (g 65) 10 (mA 34) <| wIload 1 <| wCallR 3 (F_X4_mayWith g) id (fun _ u => u) <| wIf1 (fun x => x = 0) (bk_X4_toldOne_44 g Post K2) (wAload 0 <| wGet (g 30) (fun _ => .ref (g 65)) <| wIload 2 <| wIald (g 65) 10 (mA 34) <| wRetI Post)))) L st s
set_option maxRecDepth 20000 in
theorem s_X4_toldOne_2 {X : Cx} (B : Bx) (g : Nat → Nat) {Post : Option Value → MS → Prop} (C : OkX X (gx B) cX4_toldOne 3 wsX4_toldOne RX4 (rmD 4)) (R : RtX X (gx B) (some .int) (encM B g) Post) {K2 : PT MS} (hK2 : Snd X (gx B) 3 (encM B g) 2 K2) : Snd X (gx B) 3 (encM B g) 2 (bk_X4_toldOne_2 g Post K2) := by
  unfold bk_X4_toldOne_2
  refine s_iload_n C rfl dX4_toldOne_2 ?_
  refine s_aload_n C rfl dX4_toldOne_3 ?_
  refine s_get C inw_X4_toldOne_X4 rfl (k := 35) (by decide) (by decide +kernel) (heM_0 B g) (fun _ => rfl) dX4_toldOne_4 ?_
  refine s_icmp_ge C (tgt := 50) (by decide) dX4_toldOne_7 ?_ ?_
  · refine s_bipush C (by decide) dX4_toldOne_50 ?_
    exact s_iret C R dX4_toldOne_52
  · refine s_aload_n C rfl dX4_toldOne_10 ?_
    refine s_aload_n C rfl dX4_toldOne_11 ?_
    refine s_get C inw_X4_toldOne_X4 rfl (k := 34) (by decide) (by decide +kernel) (heM_0 B g) (fun _ => rfl) dX4_toldOne_12 ?_
    refine s_iload_n C rfl dX4_toldOne_15 ?_
    refine s_iald C (heM_21 B g) dX4_toldOne_16 ?_
    refine s_callV C (fr_M_M B g) (k_X4_isOne B g) gX4_toldOne_X4_isOne rfl (by decide +kernel) ⟨rfl, rfl⟩ (by decide) rfl (fun s => ⟨_, heM_0 B g s⟩) (cf_RI_r _ _ _ _) dX4_toldOne_17 ?_
    refine s_if_eq C (tgt := 44) (by decide) dX4_toldOne_20 ?_ ?_
    · exact s_X4_toldOne_44 B g C R hK2
    · refine s_aload_n C rfl dX4_toldOne_23 ?_
      refine s_aload_n C rfl dX4_toldOne_24 ?_
      refine s_get C inw_X4_toldOne_X4 rfl (k := 34) (by decide) (by decide +kernel) (heM_0 B g) (fun _ => rfl) dX4_toldOne_25 ?_
      refine s_iload_n C rfl dX4_toldOne_28 ?_
      refine s_iald C (heM_21 B g) dX4_toldOne_29 ?_
      refine s_iload_n C rfl dX4_toldOne_30 ?_
      refine s_callV C (fr_M_M B g) (k_X4_mayWith B g) gX4_toldOne_X4_mayWith rfl (by decide +kernel) ⟨rfl, rfl⟩ (by decide) rfl (fun s => ⟨_, heM_0 B g s⟩) (cf_RII_r _ _ _ _) dX4_toldOne_31 ?_
      refine s_if_eq C (tgt := 44) (by decide) dX4_toldOne_34 ?_ ?_
      · exact s_X4_toldOne_44 B g C R hK2
      · refine s_aload_n C rfl dX4_toldOne_37 ?_
        refine s_get C inw_X4_toldOne_X4 rfl (k := 34) (by decide) (by decide +kernel) (heM_0 B g) (fun _ => rfl) dX4_toldOne_38 ?_
        refine s_iload_n C rfl dX4_toldOne_41 ?_
        refine s_iald C (heM_21 B g) dX4_toldOne_42 ?_
        exact s_iret C R dX4_toldOne_43
def I_mTold (g : Nat → Nat) (M : MS) (q : Int32) (n : Nat) (L : Lc) (st : List Value) (s : MS) : Prop := ∃ k, n + k = uRow M ∧ st = [] ∧ s = M ∧ L = [some (.ref (g 30)), some (.int q), some (.int (nI k))] ∧ ∀ j, j < k → uTok M q j = false
theorem k_X4_toldOne (B : Bx) (g : Nat → Nat) : MtF (gx B) yX4_toldOne wsX4_toldOne (rmD 4) (encM B g) (F_X4_toldOne g) := by
  refine cf_RI_i (fun l M q h => Mt.of (P := bk_X4_toldOne_0 g (fun o u => o = some (.int (uTold M q)) ∧ u = M) (fun L st s => ∃ n, I_mTold g M q n L st s)) (by decide) rfl (Nat.le_of_ble_eq_true rfl) rfl (fun X C R => s_X4_toldOne_0 B g C R (snd_loop _ (I_mTold g M q) (fun K hK => s_X4_toldOne_2 B g C R hK) ?_)) ?_)
  · rintro K n L st M' ⟨k, hk, rfl, rfl, rfl, hh⟩ hK
    obtain ⟨i1, i2, i3, i4, i5, i6⟩ := h
    obtain ⟨e1, e2⟩ := rwB_c i6
    simp only [wIload, wAload, wLload, wK, wB, wDv, wU, wLB, wLU, wLS, wL2i, wLcmp, wIf1, wIf2, wKeep, wInc, wIst, wAst, wLst, wDup, wPop, wDup2, wGet, wPut, wPutZ, wIald, wLald, wIast, wLast, wLen, wRetI, wRetZ, wRetL, wRetA, wRetV, wM1, wM2, wCpy, wTab, tabW, nth, stL, stL2, dropL, keepL, mkL, padL, restOK, restOKn, tl_some, tl_none, id_eq, eq_self, true_and, and_true, bk_X4_toldOne_0, bk_X4_toldOne_44, bk_X4_toldOne_2, F_X4_isOne, F_X4_mayWith, cf_RII_e, cf_RI_e, b2i_eq0]
    rw [e1]
    rcases Nat.lt_or_ge k (uRow M') with hlt | hge
    · have h1 : ¬ nI (uRow M') ≤ nI k := nI_ge (a := k) (b := uRow M') hlt (by omega)
      have ck : (nI k).toNatClampNeg = k := nI_clamp (by omega)
      have wk : vp_in (nI k) 10 := vp_in_nI (by omega) (by decide)
      have hc : uTok M' q k = false → K [some (.ref (g 30)), some (.int q), some (.int (nI k + 1))] [] M' := fun ho => hK (n - 1) _ _ _ (by omega) ⟨k + 1, by omega, rfl, rfl, by rw [nI_1], fun j hj => by rcases Nat.lt_succ_iff_lt_or_eq.mp hj with h' | rfl; exact hh j h'; exact ho⟩
      simp only [h1, ck, wk, false_implies, true_implies, not_true_eq_false, not_false_eq_true, true_and, and_true, implies_true, eq_self, ne_eq, true_or, or_true, false_or, or_false, and_self]
      cases h2 : uOne M' (mA 34 M' k)
      · simp only [h2, false_implies, true_implies, not_true_eq_false, not_false_eq_true, true_and, and_true, implies_true, eq_self, ne_eq, true_or, or_true, false_or, or_false, and_self]
        exact hc (by unfold uTok; rw [h2]; rfl)
      · have pg := uOne_ix i5 h2
        simp only [h2, pg, i1, i2, i3, Bool.true_eq_false, false_implies, true_implies, not_true_eq_false, not_false_eq_true, true_and, and_true, implies_true, eq_self, ne_eq, true_or, or_true, false_or, or_false, and_self]
        cases h3 : uMayW M' (mA 34 M' k) q
        · simp only [h3, false_implies, true_implies, not_true_eq_false, not_false_eq_true, true_and, and_true, implies_true, eq_self, ne_eq, true_or, or_true, false_or, or_false, and_self]
          exact hc (by unfold uTok; rw [h3, Bool.and_false])
        · have e : firstIdx (uTok M' q) (uRow M') = k := firstIdx_at hh (by unfold uTok; rw [h2, h3]; rfl) _ hlt
          simp only [h3, Bool.true_eq_false, false_implies, true_implies, not_true_eq_false, not_false_eq_true, true_and, and_true, implies_true, eq_self, ne_eq, true_or, or_true, false_or, or_false, and_self]
          unfold uTold
          rw [e, if_pos hlt]
    · have h1 : nI (uRow M') ≤ nI k := nI_le hge (by omega)
      have e : firstIdx (uTok M' q) (uRow M') = uRow M' := firstIdx_no _ (fun j hj => hh j (by omega))
      simp only [h1, false_implies, true_implies, not_true_eq_false, not_false_eq_true, true_and, and_true, implies_true, eq_self, ne_eq, true_or, or_true, false_or, or_false, and_self]
      unfold uTold
      rw [e, if_neg (Nat.lt_irrefl _)]
  · simp only [wIload, wAload, wLload, wK, wB, wDv, wU, wLB, wLU, wLS, wL2i, wLcmp, wIf1, wIf2, wKeep, wInc, wIst, wAst, wLst, wDup, wPop, wDup2, wGet, wPut, wPutZ, wIald, wLald, wIast, wLast, wLen, wRetI, wRetZ, wRetL, wRetA, wRetV, wM1, wM2, wCpy, wTab, tabW, nth, stL, stL2, dropL, keepL, mkL, padL, restOK, restOKn, tl_some, tl_none, id_eq, eq_self, true_and, and_true, bk_X4_toldOne_0, bk_X4_toldOne_44, bk_X4_toldOne_2, F_X4_isOne, F_X4_mayWith, cf_RII_e, cf_RI_e]
    exact ⟨uRow M, 0, by omega, rfl, rfl, rfl, fun j hj => absurd hj (Nat.not_lt_zero j)⟩
def uAg (M : MS) (r : Int32) (p n : Nat) : Int32 := if r = 1 then - uGood M p n else if r = 0 then uMin M p (mA 4 M n).toNatClampNeg else if r = 4 then uMin M p (mA 4 M n).toNatClampNeg else uLoss M p n
def F_X4_against (g : Nat → Nat) : CF MS := cf_RIII (g 30) (fun M _ x y => ixB 7 x ∧ ixB 13 y ∧ nwB M ∧ nnB M) (fun M r p q => some (.int (uAg M r p.toNatClampNeg q.toNatClampNeg))) (fun M _ _ _ => M)
theorem inw_X4_against_X4 : ∀ w ∈ u_ws RX4 TX4 45, w ∈ wsX4_against := by decide +kernel
def bk_X4_against_42 (g : Nat → Nat) (Post : Option Value → MS → Prop)  (L : Lc) (st : List Value) (s : MS) : Prop :=
  (wRetI Post) L st s
set_option maxRecDepth 20000 in
theorem s_X4_against_42 {X : Cx} (B : Bx) (g : Nat → Nat) {Post : Option Value → MS → Prop} (C : OkX X (gx B) cX4_against 4 wsX4_against RX4 (rmD 3)) (R : RtX X (gx B) (some .int) (encM B g) Post)  : Snd X (gx B) 4 (encM B g) 42 (bk_X4_against_42 g Post ) := by
  unfold bk_X4_against_42
  exact s_iret C R dX4_against_42
def bk_X4_against_22 (g : Nat → Nat) (Post : Option Value → MS → Prop)  (L : Lc) (st : List Value) (s : MS) : Prop :=
  (wAload 0 <| wIload 2 <| wAload 0 <| wGet (g 30) (fun _ => .ref (g 35)) <| wIload 3 <| wIald (g 35) 13 (mA 4) <| wCallR 3 (F_X4_minutesOf g) id (fun _ u => u) <| bk_X4_against_42 g Post ) L st s
set_option maxRecDepth 20000 in
theorem s_X4_against_22 {X : Cx} (B : Bx) (g : Nat → Nat) {Post : Option Value → MS → Prop} (C : OkX X (gx B) cX4_against 4 wsX4_against RX4 (rmD 3)) (R : RtX X (gx B) (some .int) (encM B g) Post)  : Snd X (gx B) 4 (encM B g) 22 (bk_X4_against_22 g Post ) := by
  unfold bk_X4_against_22
  refine s_aload_n C rfl dX4_against_22 ?_
  refine s_iload_n C rfl dX4_against_23 ?_
  refine s_aload_n C rfl dX4_against_24 ?_
  refine s_get C inw_X4_against_X4 rfl (k := 4) (by decide) (by decide +kernel) (heM_0 B g) (fun _ => rfl) dX4_against_25 ?_
  refine s_iload_n C rfl dX4_against_28 ?_
  refine s_iald C (heM_5 B g) dX4_against_29 ?_
  refine s_callV C (fr_M_M B g) (k_X4_minutesOf B g) gX4_against_X4_minutesOf rfl (by decide +kernel) ⟨rfl, rfl⟩ (by decide) rfl (fun s => ⟨_, heM_0 B g s⟩) (cf_RII_r _ _ _ _) dX4_against_30 ?_
  refine s_goto C (tgt := 42) (by decide) dX4_against_33 ?_
  exact s_X4_against_42 B g C R 
def bk_X4_against_0 (g : Nat → Nat) (Post : Option Value → MS → Prop)  (L : Lc) (st : List Value) (s : MS) : Prop :=
  (wIload 1 <| wK (.int 1) <| wIf2 (fun x y => x = y) (wAload 0 <| wIload 2 <| wIload 3 <| wCallR 3 (F_X4_goodOf g) id (fun _ u => u) <| wU (fun x => -x) <| wRetI Post) (wIload 1 <| wIf1 (fun x => x = 0) (bk_X4_against_22 g Post ) (wIload 1 <| wK (.int 4) <| wIf2 (fun x y => x = y) (bk_X4_against_22 g Post ) (wAload 0 <| wIload 2 <| wIload 3 <| wCallR 3 (F_X4_lossOf g) id (fun _ u => u) <| bk_X4_against_42 g Post )))) L st s
set_option maxRecDepth 20000 in
theorem s_X4_against_0 {X : Cx} (B : Bx) (g : Nat → Nat) {Post : Option Value → MS → Prop} (C : OkX X (gx B) cX4_against 4 wsX4_against RX4 (rmD 3)) (R : RtX X (gx B) (some .int) (encM B g) Post)  : Snd X (gx B) 4 (encM B g) 0 (bk_X4_against_0 g Post ) := by
  unfold bk_X4_against_0
  refine s_iload_n C rfl dX4_against_0 ?_
  refine s_iconst C (by decide) dX4_against_1 ?_
  refine s_icmp_ne C (tgt := 13) (by decide) dX4_against_2 ?_ ?_
  · refine s_iload_n C rfl dX4_against_13 ?_
    refine s_if_eq C (tgt := 22) (by decide) dX4_against_14 ?_ ?_
    · exact s_X4_against_22 B g C R 
    · refine s_iload_n C rfl dX4_against_17 ?_
      refine s_iconst C (by decide) dX4_against_18 ?_
      refine s_icmp_ne C (tgt := 36) (by decide) dX4_against_19 ?_ ?_
      · refine s_aload_n C rfl dX4_against_36 ?_
        refine s_iload_n C rfl dX4_against_37 ?_
        refine s_iload_n C rfl dX4_against_38 ?_
        refine s_callV C (fr_M_M B g) (k_X4_lossOf B g) gX4_against_X4_lossOf rfl (by decide +kernel) ⟨rfl, rfl⟩ (by decide) rfl (fun s => ⟨_, heM_0 B g s⟩) (cf_RII_r _ _ _ _) dX4_against_39 ?_
        exact s_X4_against_42 B g C R 
      · exact s_X4_against_22 B g C R 
  · refine s_aload_n C rfl dX4_against_5 ?_
    refine s_iload_n C rfl dX4_against_6 ?_
    refine s_iload_n C rfl dX4_against_7 ?_
    refine s_callV C (fr_M_M B g) (k_X4_goodOf B g) gX4_against_X4_goodOf rfl (by decide +kernel) ⟨rfl, rfl⟩ (by decide) rfl (fun s => ⟨_, heM_0 B g s⟩) (cf_RII_r _ _ _ _) dX4_against_8 ?_
    refine s_ineg C dX4_against_11 ?_
    exact s_iret C R dX4_against_12
theorem k_X4_against (B : Bx) (g : Nat → Nat) : MtF (gx B) yX4_against wsX4_against (rmD 3) (encM B g) (F_X4_against g) := by
  refine cf_RIII_i (fun l M r x y h => Mt.of (by decide) rfl (Nat.le_of_ble_eq_true rfl) rfl (fun X C R => s_X4_against_0 B g C R) ?_)
  obtain ⟨i1, i2, i3, i4⟩ := h
  have hv := ixB_v i2 (by decide)
  have i5 := (i3 _ (ixB_c i2 (by decide)).2).1
  simp only [wIload, wAload, wLload, wK, wB, wDv, wU, wLB, wLU, wLS, wL2i, wLcmp, wIf1, wIf2, wKeep, wInc, wIst, wAst, wLst, wDup, wPop, wDup2, wGet, wPut, wPutZ, wIald, wLald, wIast, wLast, wLen, wRetI, wRetZ, wRetL, wRetA, wRetV, wM1, wM2, wCpy, wTab, tabW, nth, stL, stL2, dropL, keepL, mkL, padL, restOK, restOKn, tl_some, tl_none, id_eq, eq_self, true_and, and_true, bk_X4_against_42, bk_X4_against_22, bk_X4_against_0, F_X4_goodOf, F_X4_lossOf, F_X4_minutesOf, cf_RII_e, hv, i1, i2, i3, i4, i5]
  repeat' first | refine And.intro ?_ ?_ | intro _
  all_goals grind [uAg]
def uLeft (M : MS) (r : Int32) (p : Int32) (n : Nat) : Bool := (decide (r = 3) && decide (uGood M p.toNatClampNeg n ≤ uLoss M p.toNatClampNeg n)) || (decide (r = 4) && (decide (p - mA 4 M n = 1) || decide (p - mA 4 M n = -1)))
def F_X4_isLeftOut (g : Nat → Nat) : CF MS := cf_RIII (g 30) (fun M _ x y => ixB 7 x ∧ ixB 13 y ∧ nwB M ∧ nnB M) (fun M r p q => some (.int (b2i (uLeft M r p q.toNatClampNeg)))) (fun M _ _ _ => M)
theorem inw_X4_isLeftOut_X4 : ∀ w ∈ u_ws RX4 TX4 45, w ∈ wsX4_isLeftOut := by decide +kernel
def bk_X4_isLeftOut_52 (g : Nat → Nat) (Post : Option Value → MS → Prop)  (L : Lc) (st : List Value) (s : MS) : Prop :=
  (wRetZ Post) L st s
set_option maxRecDepth 20000 in
theorem s_X4_isLeftOut_52 {X : Cx} (B : Bx) (g : Nat → Nat) {Post : Option Value → MS → Prop} (C : OkX X (gx B) cX4_isLeftOut 5 wsX4_isLeftOut RX4 (rmD 3)) (R : RtX X (gx B) (some .boolean) (encM B g) Post)  : Snd X (gx B) 5 (encM B g) 52 (bk_X4_isLeftOut_52 g Post ) := by
  unfold bk_X4_isLeftOut_52
  exact s_zret C R dX4_isLeftOut_52
def bk_X4_isLeftOut_47 (g : Nat → Nat) (Post : Option Value → MS → Prop)  (L : Lc) (st : List Value) (s : MS) : Prop :=
  (wK (.int 1) <| bk_X4_isLeftOut_52 g Post ) L st s
set_option maxRecDepth 20000 in
theorem s_X4_isLeftOut_47 {X : Cx} (B : Bx) (g : Nat → Nat) {Post : Option Value → MS → Prop} (C : OkX X (gx B) cX4_isLeftOut 5 wsX4_isLeftOut RX4 (rmD 3)) (R : RtX X (gx B) (some .boolean) (encM B g) Post)  : Snd X (gx B) 5 (encM B g) 47 (bk_X4_isLeftOut_47 g Post ) := by
  unfold bk_X4_isLeftOut_47
  refine s_iconst C (by decide) dX4_isLeftOut_47 ?_
  refine s_goto C (tgt := 52) (by decide) dX4_isLeftOut_48 ?_
  exact s_X4_isLeftOut_52 B g C R 
def bk_X4_isLeftOut_51 (g : Nat → Nat) (Post : Option Value → MS → Prop)  (L : Lc) (st : List Value) (s : MS) : Prop :=
  (wK (.int 0) <| bk_X4_isLeftOut_52 g Post ) L st s
set_option maxRecDepth 20000 in
theorem s_X4_isLeftOut_51 {X : Cx} (B : Bx) (g : Nat → Nat) {Post : Option Value → MS → Prop} (C : OkX X (gx B) cX4_isLeftOut 5 wsX4_isLeftOut RX4 (rmD 3)) (R : RtX X (gx B) (some .boolean) (encM B g) Post)  : Snd X (gx B) 5 (encM B g) 51 (bk_X4_isLeftOut_51 g Post ) := by
  unfold bk_X4_isLeftOut_51
  refine s_iconst C (by decide) dX4_isLeftOut_51 ?_
  exact s_X4_isLeftOut_52 B g C R 
def bk_X4_isLeftOut_30 (g : Nat → Nat) (Post : Option Value → MS → Prop)  (L : Lc) (st : List Value) (s : MS) : Prop :=
  (wIload 1 <| wK (.int 4) <| wIf2 (fun x y => x = y) (wIload 4 <| wK (.int 1) <| wIf2 (fun x y => x = y) (bk_X4_isLeftOut_47 g Post ) (wIload 4 <| wK (.int (-1)) <| wIf2 (fun x y => x = y) (bk_X4_isLeftOut_47 g Post ) (bk_X4_isLeftOut_51 g Post ))) (bk_X4_isLeftOut_51 g Post )) L st s
set_option maxRecDepth 20000 in
theorem s_X4_isLeftOut_30 {X : Cx} (B : Bx) (g : Nat → Nat) {Post : Option Value → MS → Prop} (C : OkX X (gx B) cX4_isLeftOut 5 wsX4_isLeftOut RX4 (rmD 3)) (R : RtX X (gx B) (some .boolean) (encM B g) Post)  : Snd X (gx B) 5 (encM B g) 30 (bk_X4_isLeftOut_30 g Post ) := by
  unfold bk_X4_isLeftOut_30
  refine s_iload_n C rfl dX4_isLeftOut_30 ?_
  refine s_iconst C (by decide) dX4_isLeftOut_31 ?_
  refine s_icmp_ne C (tgt := 51) (by decide) dX4_isLeftOut_32 ?_ ?_
  · exact s_X4_isLeftOut_51 B g C R 
  · refine s_iload C dX4_isLeftOut_35 ?_
    refine s_iconst C (by decide) dX4_isLeftOut_37 ?_
    refine s_icmp_eq C (tgt := 47) (by decide) dX4_isLeftOut_38 ?_ ?_
    · exact s_X4_isLeftOut_47 B g C R 
    · refine s_iload C dX4_isLeftOut_41 ?_
      refine s_iconst C (by decide) dX4_isLeftOut_43 ?_
      refine s_icmp_ne C (tgt := 51) (by decide) dX4_isLeftOut_44 ?_ ?_
      · exact s_X4_isLeftOut_51 B g C R 
      · exact s_X4_isLeftOut_47 B g C R 
def bk_X4_isLeftOut_0 (g : Nat → Nat) (Post : Option Value → MS → Prop)  (L : Lc) (st : List Value) (s : MS) : Prop :=
  (wIload 2 <| wAload 0 <| wGet (g 30) (fun _ => .ref (g 35)) <| wIload 3 <| wIald (g 35) 13 (mA 4) <| wB (fun x y => x - y) <| wIst 4 <| wIload 1 <| wK (.int 3) <| wIf2 (fun x y => x = y) (wAload 0 <| wIload 2 <| wIload 3 <| wCallR 3 (F_X4_lossOf g) id (fun _ u => u) <| wAload 0 <| wIload 2 <| wIload 3 <| wCallR 3 (F_X4_goodOf g) id (fun _ u => u) <| wIf2 (fun x y => y ≤ x) (bk_X4_isLeftOut_47 g Post ) (bk_X4_isLeftOut_30 g Post )) (bk_X4_isLeftOut_30 g Post )) L st s
set_option maxRecDepth 20000 in
theorem s_X4_isLeftOut_0 {X : Cx} (B : Bx) (g : Nat → Nat) {Post : Option Value → MS → Prop} (C : OkX X (gx B) cX4_isLeftOut 5 wsX4_isLeftOut RX4 (rmD 3)) (R : RtX X (gx B) (some .boolean) (encM B g) Post)  : Snd X (gx B) 5 (encM B g) 0 (bk_X4_isLeftOut_0 g Post ) := by
  unfold bk_X4_isLeftOut_0
  refine s_iload_n C rfl dX4_isLeftOut_0 ?_
  refine s_aload_n C rfl dX4_isLeftOut_1 ?_
  refine s_get C inw_X4_isLeftOut_X4 rfl (k := 4) (by decide) (by decide +kernel) (heM_0 B g) (fun _ => rfl) dX4_isLeftOut_2 ?_
  refine s_iload_n C rfl dX4_isLeftOut_5 ?_
  refine s_iald C (heM_5 B g) dX4_isLeftOut_6 ?_
  refine s_isub C dX4_isLeftOut_7 ?_
  refine s_istore C (by decide) dX4_isLeftOut_8 ?_
  refine s_iload_n C rfl dX4_isLeftOut_10 ?_
  refine s_iconst C (by decide) dX4_isLeftOut_11 ?_
  refine s_icmp_ne C (tgt := 30) (by decide) dX4_isLeftOut_12 ?_ ?_
  · exact s_X4_isLeftOut_30 B g C R 
  · refine s_aload_n C rfl dX4_isLeftOut_15 ?_
    refine s_iload_n C rfl dX4_isLeftOut_16 ?_
    refine s_iload_n C rfl dX4_isLeftOut_17 ?_
    refine s_callV C (fr_M_M B g) (k_X4_lossOf B g) gX4_isLeftOut_X4_lossOf rfl (by decide +kernel) ⟨rfl, rfl⟩ (by decide) rfl (fun s => ⟨_, heM_0 B g s⟩) (cf_RII_r _ _ _ _) dX4_isLeftOut_18 ?_
    refine s_aload_n C rfl dX4_isLeftOut_21 ?_
    refine s_iload_n C rfl dX4_isLeftOut_22 ?_
    refine s_iload_n C rfl dX4_isLeftOut_23 ?_
    refine s_callV C (fr_M_M B g) (k_X4_goodOf B g) gX4_isLeftOut_X4_goodOf rfl (by decide +kernel) ⟨rfl, rfl⟩ (by decide) rfl (fun s => ⟨_, heM_0 B g s⟩) (cf_RII_r _ _ _ _) dX4_isLeftOut_24 ?_
    refine s_icmp_ge C (tgt := 47) (by decide) dX4_isLeftOut_27 ?_ ?_
    · exact s_X4_isLeftOut_47 B g C R 
    · exact s_X4_isLeftOut_30 B g C R 
theorem k_X4_isLeftOut (B : Bx) (g : Nat → Nat) : MtF (gx B) yX4_isLeftOut wsX4_isLeftOut (rmD 3) (encM B g) (F_X4_isLeftOut g) := by
  refine cf_RIII_i (fun l M r x y h => Mt.of (by decide) rfl (Nat.le_of_ble_eq_true rfl) rfl (fun X C R => s_X4_isLeftOut_0 B g C R) ?_)
  obtain ⟨i1, i2, i3, i4⟩ := h
  have hv := ixB_v i2 (by decide)
  simp only [wIload, wAload, wLload, wK, wB, wDv, wU, wLB, wLU, wLS, wL2i, wLcmp, wIf1, wIf2, wKeep, wInc, wIst, wAst, wLst, wDup, wPop, wDup2, wGet, wPut, wPutZ, wIald, wLald, wIast, wLast, wLen, wRetI, wRetZ, wRetL, wRetA, wRetV, wM1, wM2, wCpy, wTab, tabW, nth, stL, stL2, dropL, keepL, mkL, padL, restOK, restOKn, tl_some, tl_none, id_eq, eq_self, true_and, and_true, bk_X4_isLeftOut_52, bk_X4_isLeftOut_47, bk_X4_isLeftOut_51, bk_X4_isLeftOut_30, bk_X4_isLeftOut_0, F_X4_goodOf, F_X4_lossOf, cf_RII_e, hv, i1, i2, i3, i4]
  repeat' first | refine And.intro ?_ ?_ | intro _
  all_goals grind [uLeft, b2i]
/-- the best of those below p, and its price -/
def uChF (M : MS) (r n : Int32) : Nat → Int32 × Int32
  | 0 => (-9, 0)
  | p + 1 => if uMayW M (nI p) n && !uLeft M r (nI p) n.toNatClampNeg then (if 0 ≤ (uChF M r n p).1 ∧ (uChF M r n p).2 ≤ uAg M r p n.toNatClampNeg then uChF M r n p else (nI p, uAg M r p n.toNatClampNeg)) else uChF M r n p
def uChose (M : MS) (r n : Int32) : Int32 := if r = 5 then uTold M n else (uChF M r n (uPeople M)).1
def F_X4_chooses (g : Nat → Nat) : CF MS := cf_RII (g 30) (fun M _ x => ixB 13 x ∧ mOK 400 M) (fun M r n => some (.int (uChose M r n))) (fun M _ _ => M)
theorem inw_X4_chooses_X4 : ∀ w ∈ u_ws RX4 TX4 45, w ∈ wsX4_chooses := by decide +kernel
def bk_X4_chooses_0 (g : Nat → Nat) (Post : Option Value → MS → Prop) (K20 : PT MS) (L : Lc) (st : List Value) (s : MS) : Prop :=
  (wIload 1 <| wK (.int 5) <| wIf2 (fun x y => x = y) (wAload 0 <| wIload 2 <| wCallR 2 (F_X4_toldOne g) id (fun _ u => u) <| wRetI Post) (wK (.int (-9)) <| wIst 3 <| wK (.int 0) <| wIst 4 <| wK (.int 0) <| wIst 5 <| wKeep [true, true, true, true, true, true, false] K20)) L st s
set_option maxRecDepth 20000 in
theorem s_X4_chooses_0 {X : Cx} (B : Bx) (g : Nat → Nat) {Post : Option Value → MS → Prop} (C : OkX X (gx B) cX4_chooses 7 wsX4_chooses RX4 (rmD 5)) (R : RtX X (gx B) (some .int) (encM B g) Post) {K20 : PT MS} (hK20 : Snd X (gx B) 7 (encM B g) 20 K20) : Snd X (gx B) 7 (encM B g) 0 (bk_X4_chooses_0 g Post K20) := by
  unfold bk_X4_chooses_0
  refine s_iload_n C rfl dX4_chooses_0 ?_
  refine s_iconst C (by decide) dX4_chooses_1 ?_
  refine s_icmp_ne C (tgt := 11) (by decide) dX4_chooses_2 ?_ ?_
  · refine s_bipush C (by decide) dX4_chooses_11 ?_
    refine s_istore_n C rfl (by decide) dX4_chooses_13 ?_
    refine s_iconst C (by decide) dX4_chooses_14 ?_
    refine s_istore C (by decide) dX4_chooses_15 ?_
    refine s_iconst C (by decide) dX4_chooses_17 ?_
    refine s_istore C (by decide) dX4_chooses_18 ?_
    exact s_keep _ hK20
  · refine s_aload_n C rfl dX4_chooses_5 ?_
    refine s_iload_n C rfl dX4_chooses_6 ?_
    refine s_callV C (fr_M_M B g) (k_X4_toldOne B g) gX4_chooses_X4_toldOne rfl (by decide +kernel) ⟨rfl, rfl⟩ (by decide) rfl (fun s => ⟨_, heM_0 B g s⟩) (cf_RI_r _ _ _ _) dX4_chooses_7 ?_
    exact s_iret C R dX4_chooses_10
def bk_X4_chooses_84 (g : Nat → Nat) (Post : Option Value → MS → Prop) (K20 : PT MS) (L : Lc) (st : List Value) (s : MS) : Prop :=
  (wInc 5 1 <| wKeep [true, true, true, true, true, true, false] K20) L st s
set_option maxRecDepth 20000 in
theorem s_X4_chooses_84 {X : Cx} (B : Bx) (g : Nat → Nat) {Post : Option Value → MS → Prop} (C : OkX X (gx B) cX4_chooses 7 wsX4_chooses RX4 (rmD 5)) (R : RtX X (gx B) (some .int) (encM B g) Post) {K20 : PT MS} (hK20 : Snd X (gx B) 7 (encM B g) 20 K20) : Snd X (gx B) 7 (encM B g) 84 (bk_X4_chooses_84 g Post K20) := by
  unfold bk_X4_chooses_84
  refine s_iinc C (by decide) (by decide) dX4_chooses_84 ?_
  refine s_goto C (tgt := 20) (by decide) dX4_chooses_87 ?_
  exact s_keep _ hK20
def bk_X4_chooses_77 (g : Nat → Nat) (Post : Option Value → MS → Prop) (K20 : PT MS) (L : Lc) (st : List Value) (s : MS) : Prop :=
  (wIload 5 <| wIst 3 <| wIload 6 <| wIst 4 <| bk_X4_chooses_84 g Post K20) L st s
set_option maxRecDepth 20000 in
theorem s_X4_chooses_77 {X : Cx} (B : Bx) (g : Nat → Nat) {Post : Option Value → MS → Prop} (C : OkX X (gx B) cX4_chooses 7 wsX4_chooses RX4 (rmD 5)) (R : RtX X (gx B) (some .int) (encM B g) Post) {K20 : PT MS} (hK20 : Snd X (gx B) 7 (encM B g) 20 K20) : Snd X (gx B) 7 (encM B g) 77 (bk_X4_chooses_77 g Post K20) := by
  unfold bk_X4_chooses_77
  refine s_iload C dX4_chooses_77 ?_
  refine s_istore_n C rfl (by decide) dX4_chooses_79 ?_
  refine s_iload C dX4_chooses_80 ?_
  refine s_istore C (by decide) dX4_chooses_82 ?_
  exact s_X4_chooses_84 B g C R hK20
def bk_X4_chooses_20 (g : Nat → Nat) (Post : Option Value → MS → Prop) (K20 : PT MS) (L : Lc) (st : List Value) (s : MS) : Prop :=
  (wIload 5 <| wAload 0 <| wGet (g 30) (fun s => .int (mS 15 s)) <| wIf2 (fun x y => y ≤ x) (wIload 3 <| wRetI Post) (wAload 0 <| wIload 5 <| wIload 2 <| wCallR 3 (F_X4_mayWith g) id (fun _ u => u) <| wIf1 (fun x => x = 0) (bk_X4_chooses_84 g Post K20) (wAload 0 <| wIload 1 <| wIload 5 <| wIload 2 <| wCallR 4 (F_X4_isLeftOut g) id (fun _ u => u) <| wIf1 (fun x => x = 0) (wAload 0 <| wIload 1 <| wIload 5 <| wIload 2 <| wCallR 4 (F_X4_against g) id (fun _ u => u) <| wIst 6 <| wIload 3 <| wIf1 (fun x => x < 0) (bk_X4_chooses_77 g Post K20) (wIload 6 <| wIload 4 <| wIf2 (fun x y => x < y) (bk_X4_chooses_77 g Post K20) (bk_X4_chooses_84 g Post K20))) (bk_X4_chooses_84 g Post K20)))) L st s
set_option maxRecDepth 20000 in
theorem s_X4_chooses_20 {X : Cx} (B : Bx) (g : Nat → Nat) {Post : Option Value → MS → Prop} (C : OkX X (gx B) cX4_chooses 7 wsX4_chooses RX4 (rmD 5)) (R : RtX X (gx B) (some .int) (encM B g) Post) {K20 : PT MS} (hK20 : Snd X (gx B) 7 (encM B g) 20 K20) : Snd X (gx B) 7 (encM B g) 20 (bk_X4_chooses_20 g Post K20) := by
  unfold bk_X4_chooses_20
  refine s_iload C dX4_chooses_20 ?_
  refine s_aload_n C rfl dX4_chooses_22 ?_
  refine s_get C inw_X4_chooses_X4 rfl (k := 15) (by decide) (by decide +kernel) (heM_0 B g) (fun _ => rfl) dX4_chooses_23 ?_
  refine s_icmp_ge C (tgt := 90) (by decide) dX4_chooses_26 ?_ ?_
  · refine s_iload_n C rfl dX4_chooses_90 ?_
    exact s_iret C R dX4_chooses_91
  · refine s_aload_n C rfl dX4_chooses_29 ?_
    refine s_iload C dX4_chooses_30 ?_
    refine s_iload_n C rfl dX4_chooses_32 ?_
    refine s_callV C (fr_M_M B g) (k_X4_mayWith B g) gX4_chooses_X4_mayWith rfl (by decide +kernel) ⟨rfl, rfl⟩ (by decide) rfl (fun s => ⟨_, heM_0 B g s⟩) (cf_RII_r _ _ _ _) dX4_chooses_33 ?_
    refine s_if_eq C (tgt := 84) (by decide) dX4_chooses_36 ?_ ?_
    · exact s_X4_chooses_84 B g C R hK20
    · refine s_aload_n C rfl dX4_chooses_39 ?_
      refine s_iload_n C rfl dX4_chooses_40 ?_
      refine s_iload C dX4_chooses_41 ?_
      refine s_iload_n C rfl dX4_chooses_43 ?_
      refine s_callV C (fr_M_M B g) (k_X4_isLeftOut B g) gX4_chooses_X4_isLeftOut rfl (by decide +kernel) ⟨rfl, rfl⟩ (by decide) rfl (fun s => ⟨_, heM_0 B g s⟩) (cf_RIII_r _ _ _ _) dX4_chooses_44 ?_
      refine s_if_eq C (tgt := 53) (by decide) dX4_chooses_47 ?_ ?_
      · refine s_aload_n C rfl dX4_chooses_53 ?_
        refine s_iload_n C rfl dX4_chooses_54 ?_
        refine s_iload C dX4_chooses_55 ?_
        refine s_iload_n C rfl dX4_chooses_57 ?_
        refine s_callV C (fr_M_M B g) (k_X4_against B g) gX4_chooses_X4_against rfl (by decide +kernel) ⟨rfl, rfl⟩ (by decide) rfl (fun s => ⟨_, heM_0 B g s⟩) (cf_RIII_r _ _ _ _) dX4_chooses_58 ?_
        refine s_istore C (by decide) dX4_chooses_61 ?_
        refine s_iload_n C rfl dX4_chooses_63 ?_
        refine s_if_lt C (tgt := 77) (by decide) dX4_chooses_64 ?_ ?_
        · exact s_X4_chooses_77 B g C R hK20
        · refine s_iload C dX4_chooses_67 ?_
          refine s_iload C dX4_chooses_69 ?_
          refine s_icmp_lt C (tgt := 77) (by decide) dX4_chooses_71 ?_ ?_
          · exact s_X4_chooses_77 B g C R hK20
          · refine s_goto C (tgt := 84) (by decide) dX4_chooses_74 ?_
            exact s_X4_chooses_84 B g C R hK20
      · refine s_goto C (tgt := 84) (by decide) dX4_chooses_50 ?_
        exact s_X4_chooses_84 B g C R hK20
def I_mCh (g : Nat → Nat) (M : MS) (r q : Int32) (n : Nat) (L : Lc) (st : List Value) (s : MS) : Prop := ∃ k, n + k = uPeople M ∧ st = [] ∧ s = M ∧ L = [some (.ref (g 30)), some (.int r), some (.int q), some (.int (uChF M r q k).1), some (.int (uChF M r q k).2), some (.int (nI k)), none]
theorem k_X4_chooses (B : Bx) (g : Nat → Nat) : MtF (gx B) yX4_chooses wsX4_chooses (rmD 5) (encM B g) (F_X4_chooses g) := by
  refine cf_RII_i (fun l M r q h => Mt.of (P := bk_X4_chooses_0 g (fun o u => o = some (.int (uChose M r q)) ∧ u = M) (fun L st s => ¬ r = 5 ∧ ∃ n, I_mCh g M r q n L st s)) (by decide) rfl (Nat.le_of_ble_eq_true rfl) rfl (fun X C R => s_X4_chooses_0 B g C R (Snd.imp (fun hr => snd_loop _ (I_mCh g M r q) (fun K hK => s_X4_chooses_20 B g C R hK) ?_))) ?_)
  · rintro K n L st M' ⟨k, hk, rfl, rfl, rfl⟩ hK
    obtain ⟨i1, i2, i3, i4, i5, i6⟩ := h
    obtain ⟨e1, e2⟩ := ppB_c i5
    simp only [wIload, wAload, wLload, wK, wB, wDv, wU, wLB, wLU, wLS, wL2i, wLcmp, wIf1, wIf2, wKeep, wInc, wIst, wAst, wLst, wDup, wPop, wDup2, wGet, wPut, wPutZ, wIald, wLald, wIast, wLast, wLen, wRetI, wRetZ, wRetL, wRetA, wRetV, wM1, wM2, wCpy, wTab, tabW, nth, stL, stL2, dropL, keepL, mkL, padL, restOK, restOKn, tl_some, tl_none, id_eq, eq_self, true_and, and_true, bk_X4_chooses_0, bk_X4_chooses_84, bk_X4_chooses_77, bk_X4_chooses_20, F_X4_against, F_X4_isLeftOut, F_X4_mayWith, F_X4_toldOne, cf_RIII_e, cf_RII_e, cf_RI_e, b2i_eq0]
    rw [e1]
    rcases Nat.lt_or_ge k (uPeople M') with hlt | hge
    · have h1 : ¬ nI (uPeople M') ≤ nI k := nI_ge (a := k) (b := uPeople M') hlt (by omega)
      have ck : (nI k).toNatClampNeg = k := nI_clamp (by omega)
      have pk : ixB 7 (nI k) := ⟨k, by omega, rfl⟩
      have hc := hK (n - 1) _ _ _ (by omega) ⟨k + 1, by omega, rfl, rfl, rfl⟩
      rw [← nI_1] at hc
      simp only [uChF] at hc
      cases ho : uMayW M' (nI k) q
      · simp only [h1, ho, pk, i1, i2, i3, i4, false_implies, true_implies, not_true_eq_false, not_false_eq_true, true_and, and_true, implies_true, eq_self, ne_eq, true_or, or_true, false_or, or_false, and_self]
        simpa [ho] using hc
      · cases hr2 : uLeft M' r (nI k) q.toNatClampNeg
        · by_cases h5 : 0 ≤ (uChF M' r q k).1
          · by_cases h6 : (uChF M' r q k).2 ≤ uAg M' r k q.toNatClampNeg
            · have h6' : ¬ uAg M' r k q.toNatClampNeg < (uChF M' r q k).2 := Int32.not_lt.mpr h6
              have h5' : ¬ (uChF M' r q k).1 < 0 := Int32.not_lt.mpr h5
              rw [if_pos (by simp [ho, hr2]), if_pos ⟨h5, h6⟩] at hc
              simp only [h1, ho, hr2, h5, h5', h6, h6', ck, pk, i1, i2, i3, i4, Bool.true_eq_false, false_implies, true_implies, not_true_eq_false, not_false_eq_true, true_and, and_true, implies_true, eq_self, ne_eq, true_or, or_true, false_or, or_false, and_self]
              exact hc
            · have h6' : uAg M' r k q.toNatClampNeg < (uChF M' r q k).2 := Int32.not_le.mp h6
              have h5' : ¬ (uChF M' r q k).1 < 0 := Int32.not_lt.mpr h5
              rw [if_pos (by simp [ho, hr2]), if_neg (fun z => h6 z.2)] at hc
              simp only [h1, ho, hr2, h5, h5', h6, h6', ck, pk, i1, i2, i3, i4, Bool.true_eq_false, false_implies, true_implies, not_true_eq_false, not_false_eq_true, true_and, and_true, implies_true, eq_self, ne_eq, true_or, or_true, false_or, or_false, and_self]
              exact hc
          · have h5' : (uChF M' r q k).1 < 0 := Int32.not_le.mp h5
            rw [if_pos (by simp [ho, hr2]), if_neg (fun z => h5 z.1)] at hc
            simp only [h1, ho, hr2, h5, h5', ck, pk, i1, i2, i3, i4, Bool.true_eq_false, false_implies, true_implies, not_true_eq_false, not_false_eq_true, true_and, and_true, implies_true, eq_self, ne_eq, true_or, or_true, false_or, or_false, and_self]
            exact hc
        · simp only [h1, ho, hr2, pk, i1, i2, i3, i4, Bool.true_eq_false, false_implies, true_implies, not_true_eq_false, not_false_eq_true, true_and, and_true, implies_true, eq_self, ne_eq, true_or, or_true, false_or, or_false, and_self]
          simpa [ho, hr2] using hc
    · have h1 : nI (uPeople M') ≤ nI k := nI_le hge (by omega)
      have h2 : k = uPeople M' := by omega
      simp only [h1, false_implies, true_implies, not_true_eq_false, not_false_eq_true, true_and, and_true, implies_true, eq_self, ne_eq, true_or, or_true, false_or, or_false, and_self]
      unfold uChose
      rw [if_neg hr, h2]
  · simp only [wIload, wAload, wLload, wK, wB, wDv, wU, wLB, wLU, wLS, wL2i, wLcmp, wIf1, wIf2, wKeep, wInc, wIst, wAst, wLst, wDup, wPop, wDup2, wGet, wPut, wPutZ, wIald, wLald, wIast, wLast, wLen, wRetI, wRetZ, wRetL, wRetA, wRetV, wM1, wM2, wCpy, wTab, tabW, nth, stL, stL2, dropL, keepL, mkL, padL, restOK, restOKn, tl_some, tl_none, id_eq, eq_self, true_and, and_true, bk_X4_chooses_0, bk_X4_chooses_84, bk_X4_chooses_77, bk_X4_chooses_20, F_X4_against, F_X4_isLeftOut, F_X4_mayWith, F_X4_toldOne, cf_RIII_e, cf_RII_e, cf_RI_e]
    refine ⟨fun h5 => ⟨h, by unfold uChose; rw [if_pos h5]⟩, fun h5 => ⟨h5, uPeople M, 0, by omega, rfl, rfl, rfl⟩⟩
end
