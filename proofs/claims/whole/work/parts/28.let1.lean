noncomputable section
theorem heL_0 (B : Bx) (g : Nat → Nat) : ∀ s : LtS, (encL B g s)[0]? = some (g 22, .inr (0, [.ref (g 23), .int (lLn s)])) := fun _ => rfl
theorem heL_1 (B : Bx) (g : Nat → Nat) : ∀ s : LtS, (encL B g s)[1]? = some (g 23, .inl (B.2.1, 64, .inl (lFd s))) := fun _ => rfl
theorem v64 {k : Int32} : ¬ k < 0 → k < 64 → vp_in k 64 := by
  intro h1 h2
  obtain ⟨a, ha, ea⟩ := ixN' (n := 64) rfl h1 h2
  exact vpN ea ha (by decide)
def lFull (S : LtS) : Bool := decide (64 ≤ lLn S)
def F_X0_isFull (g : Nat → Nat) : CF LtS := cf_R (g 22) (fun _ => True) (fun S => some (.int (b2i (lFull S)))) (fun S => S)
theorem inw_X0_isFull_X0 : ∀ w ∈ u_ws RX0 TX0 2, w ∈ wsX0_isFull := by decide +kernel
def bk_X0_isFull_17 (g : Nat → Nat) (Post : Option Value → LtS → Prop)  (L : Lc) (st : List Value) (s : LtS) : Prop :=
  (wRetZ Post) L st s
set_option maxRecDepth 20000 in
theorem s_X0_isFull_17 {X : Cx} (B : Bx) (g : Nat → Nat) {Post : Option Value → LtS → Prop} (C : OkX X (gx B) cX0_isFull 1 wsX0_isFull RX0 (rmD 0)) (R : RtX X (gx B) (some .boolean) (encL B g) Post)  : Snd X (gx B) 1 (encL B g) 17 (bk_X0_isFull_17 g Post ) := by
  unfold bk_X0_isFull_17
  exact s_zret C R dX0_isFull_17
def bk_X0_isFull_0 (g : Nat → Nat) (Post : Option Value → LtS → Prop)  (L : Lc) (st : List Value) (s : LtS) : Prop :=
  (wAload 0 <| wGet (g 22) (fun s => .int (lLn s)) <| wAload 0 <| wGet (g 22) (fun _ => .ref (g 23)) <| wLen (g 23) 64 <| wIf2 (fun x y => x < y) (wK (.int 0) <| bk_X0_isFull_17 g Post ) (wK (.int 1) <| bk_X0_isFull_17 g Post )) L st s
set_option maxRecDepth 20000 in
theorem s_X0_isFull_0 {X : Cx} (B : Bx) (g : Nat → Nat) {Post : Option Value → LtS → Prop} (C : OkX X (gx B) cX0_isFull 1 wsX0_isFull RX0 (rmD 0)) (R : RtX X (gx B) (some .boolean) (encL B g) Post)  : Snd X (gx B) 1 (encL B g) 0 (bk_X0_isFull_0 g Post ) := by
  unfold bk_X0_isFull_0
  refine s_aload_n C rfl dX0_isFull_0 ?_
  refine s_get C inw_X0_isFull_X0 rfl (k := 1) (by decide) (by decide +kernel) (heL_0 B g) (fun _ => rfl) dX0_isFull_1 ?_
  refine s_aload_n C rfl dX0_isFull_4 ?_
  refine s_get C inw_X0_isFull_X0 rfl (k := 0) (by decide) (by decide +kernel) (heL_0 B g) (fun _ => rfl) dX0_isFull_5 ?_
  refine s_alen C (t0 := 0) (heL_1 B g) rfl (fun _ => rfl) dX0_isFull_8 ?_
  refine s_icmp_lt C (tgt := 16) (by decide) dX0_isFull_9 ?_ ?_
  · refine s_iconst C (by decide) dX0_isFull_16 ?_
    exact s_X0_isFull_17 B g C R 
  · refine s_iconst C (by decide) dX0_isFull_12 ?_
    refine s_goto C (tgt := 17) (by decide) dX0_isFull_13 ?_
    exact s_X0_isFull_17 B g C R 
theorem k_X0_isFull (B : Bx) (g : Nat → Nat) : MtF (gx B) yX0_isFull wsX0_isFull (rmD 0) (encL B g) (F_X0_isFull g) := by
  refine cf_R_i (fun l S _ => Mt.of (by decide) rfl (Nat.le_of_ble_eq_true rfl) rfl (fun X C R => s_X0_isFull_0 B g C R) ?_)
  simp only [wIload, wAload, wLload, wK, wB, wDv, wU, wLB, wLU, wLS, wL2i, wLcmp, wIf1, wIf2, wKeep, wInc, wIst, wAst, wLst, wDup, wPop, wDup2, wGet, wPut, wPutZ, wIald, wLald, wIast, wLast, wLen, wRetI, wRetZ, wRetL, wRetA, wRetV, wM1, wM2, wCpy, wTab, tabW, nth, stL, stL2, dropL, keepL, mkL, padL, restOK, restOKn, tl_some, tl_none, id_eq, eq_self, true_and, and_true, bk_X0_isFull_17, bk_X0_isFull_0]
  grind [lFull, b2i]
def lTake (S : LtS) (v : Int32) : LtS := if ¬ lLn S < 0 ∧ lLn S < 64 then lsLn (laFd S (lLn S).toNatClampNeg v) (lLn S + 1) else S
def F_X0_take (g : Nat → Nat) : CF LtS := cf_RI (g 22) (fun _ _ => True) (fun S v => some (.int (lLn (lTake S v)))) (fun S v => lTake S v)
theorem inw_X0_take_X0 : ∀ w ∈ u_ws RX0 TX0 2, w ∈ wsX0_take := by decide +kernel
def bk_X0_take_39 (g : Nat → Nat) (Post : Option Value → LtS → Prop)  (L : Lc) (st : List Value) (s : LtS) : Prop :=
  (wAload 0 <| wGet (g 22) (fun s => .int (lLn s)) <| wRetI Post) L st s
set_option maxRecDepth 20000 in
theorem s_X0_take_39 {X : Cx} (B : Bx) (g : Nat → Nat) {Post : Option Value → LtS → Prop} (C : OkX X (gx B) cX0_take 2 wsX0_take RX0 (rmD 0)) (R : RtX X (gx B) (some .int) (encL B g) Post)  : Snd X (gx B) 2 (encL B g) 39 (bk_X0_take_39 g Post ) := by
  unfold bk_X0_take_39
  refine s_aload_n C rfl dX0_take_39 ?_
  refine s_get C inw_X0_take_X0 rfl (k := 1) (by decide) (by decide +kernel) (heL_0 B g) (fun _ => rfl) dX0_take_40 ?_
  exact s_iret C R dX0_take_43
def bk_X0_take_0 (g : Nat → Nat) (Post : Option Value → LtS → Prop)  (L : Lc) (st : List Value) (s : LtS) : Prop :=
  (wAload 0 <| wGet (g 22) (fun s => .int (lLn s)) <| wIf1 (fun x => x < 0) (bk_X0_take_39 g Post ) (wAload 0 <| wGet (g 22) (fun s => .int (lLn s)) <| wAload 0 <| wGet (g 22) (fun _ => .ref (g 23)) <| wLen (g 23) 64 <| wIf2 (fun x y => y ≤ x) (bk_X0_take_39 g Post ) (wAload 0 <| wGet (g 22) (fun _ => .ref (g 23)) <| wAload 0 <| wGet (g 22) (fun s => .int (lLn s)) <| wIload 1 <| wIast (g 23) 64 laFd <| wAload 0 <| wDup <| wGet (g 22) (fun s => .int (lLn s)) <| wK (.int 1) <| wB (fun x y => x + y) <| wPut (g 22) lsLn <| bk_X0_take_39 g Post ))) L st s
set_option maxRecDepth 20000 in
theorem s_X0_take_0 {X : Cx} (B : Bx) (g : Nat → Nat) {Post : Option Value → LtS → Prop} (C : OkX X (gx B) cX0_take 2 wsX0_take RX0 (rmD 0)) (R : RtX X (gx B) (some .int) (encL B g) Post)  : Snd X (gx B) 2 (encL B g) 0 (bk_X0_take_0 g Post ) := by
  unfold bk_X0_take_0
  refine s_aload_n C rfl dX0_take_0 ?_
  refine s_get C inw_X0_take_X0 rfl (k := 1) (by decide) (by decide +kernel) (heL_0 B g) (fun _ => rfl) dX0_take_1 ?_
  refine s_if_lt C (tgt := 39) (by decide) dX0_take_4 ?_ ?_
  · exact s_X0_take_39 B g C R 
  · refine s_aload_n C rfl dX0_take_7 ?_
    refine s_get C inw_X0_take_X0 rfl (k := 1) (by decide) (by decide +kernel) (heL_0 B g) (fun _ => rfl) dX0_take_8 ?_
    refine s_aload_n C rfl dX0_take_11 ?_
    refine s_get C inw_X0_take_X0 rfl (k := 0) (by decide) (by decide +kernel) (heL_0 B g) (fun _ => rfl) dX0_take_12 ?_
    refine s_alen C (t0 := 0) (heL_1 B g) rfl (fun _ => rfl) dX0_take_15 ?_
    refine s_icmp_ge C (tgt := 39) (by decide) dX0_take_16 ?_ ?_
    · exact s_X0_take_39 B g C R 
    · refine s_aload_n C rfl dX0_take_19 ?_
      refine s_get C inw_X0_take_X0 rfl (k := 0) (by decide) (by decide +kernel) (heL_0 B g) (fun _ => rfl) dX0_take_20 ?_
      refine s_aload_n C rfl dX0_take_23 ?_
      refine s_get C inw_X0_take_X0 rfl (k := 1) (by decide) (by decide +kernel) (heL_0 B g) (fun _ => rfl) dX0_take_24 ?_
      refine s_iload_n C rfl dX0_take_27 ?_
      refine s_iast C (heL_1 B g) (fun _ _ _ => rfl) dX0_take_28 ?_
      refine s_aload_n C rfl dX0_take_29 ?_
      refine s_dup C dX0_take_30 ?_
      refine s_get C inw_X0_take_X0 rfl (k := 1) (by decide) (by decide +kernel) (heL_0 B g) (fun _ => rfl) dX0_take_31 ?_
      refine s_iconst C (by decide) dX0_take_34 ?_
      refine s_iadd C dX0_take_35 ?_
      refine s_put C inw_X0_take_X0 rfl (k := 1) (by decide) (by decide +kernel) tyX0_ok nmX0 (by decide +kernel) (by decide +kernel) (heL_0 B g) (fun _ => Nat.le_of_ble_eq_true rfl) (fun _ _ => rfl) dX0_take_36 ?_
      exact s_X0_take_39 B g C R 
theorem lLn_aFd (S : LtS) (i : Nat) (v : Int32) : lLn (laFd S i v) = lLn S := rfl
theorem k_X0_take (B : Bx) (g : Nat → Nat) : MtF (gx B) yX0_take wsX0_take (rmD 0) (encL B g) (F_X0_take g) := by
  refine cf_RI_i (fun l S v _ => Mt.of (by decide) rfl (Nat.le_of_ble_eq_true rfl) rfl (fun X C R => s_X0_take_0 B g C R) ?_)
  simp only [wIload, wAload, wLload, wK, wB, wDv, wU, wLB, wLU, wLS, wL2i, wLcmp, wIf1, wIf2, wKeep, wInc, wIst, wAst, wLst, wDup, wPop, wDup2, wGet, wPut, wPutZ, wIald, wLald, wIast, wLast, wLen, wRetI, wRetZ, wRetL, wRetA, wRetV, wM1, wM2, wCpy, wTab, tabW, nth, stL, stL2, dropL, keepL, mkL, padL, restOK, restOKn, tl_some, tl_none, id_eq, eq_self, true_and, and_true, bk_X0_take_39, bk_X0_take_0, lLn_aFd, lg_Fd_Fd, lg_Fd_Ln, lg_Ln_Fd, lg_Ln_Ln, le_Fd, lo_Fd, le_Ln, lo_Ln]
  have h64 := @v64 (lLn S)
  unfold vp_in at h64
  have e1 : lLn (lsLn (laFd S (lLn S).toNatClampNeg v) (lLn S + 1)) = lLn S + 1 := rfl
  repeat' first | refine And.intro ?_ ?_ | intro _
  all_goals grind [lTake]
def F_X0_forget (g : Nat → Nat) : CF LtS := cf_R (g 22) (fun _ => True) (fun _ => none) (fun S => lsLn S 0)
theorem inw_X0_forget_X0 : ∀ w ∈ u_ws RX0 TX0 2, w ∈ wsX0_forget := by decide +kernel
def bk_X0_forget_0 (g : Nat → Nat) (Post : Option Value → LtS → Prop)  (L : Lc) (st : List Value) (s : LtS) : Prop :=
  (wAload 0 <| wK (.int 0) <| wPut (g 22) lsLn <| wRetV Post) L st s
set_option maxRecDepth 20000 in
theorem s_X0_forget_0 {X : Cx} (B : Bx) (g : Nat → Nat) {Post : Option Value → LtS → Prop} (C : OkX X (gx B) cX0_forget 1 wsX0_forget RX0 (rmD 0)) (R : RtX X (gx B) none (encL B g) Post)  : Snd X (gx B) 1 (encL B g) 0 (bk_X0_forget_0 g Post ) := by
  unfold bk_X0_forget_0
  refine s_aload_n C rfl dX0_forget_0 ?_
  refine s_iconst C (by decide) dX0_forget_1 ?_
  refine s_put C inw_X0_forget_X0 rfl (k := 1) (by decide) (by decide +kernel) tyX0_ok nmX0 (by decide +kernel) (by decide +kernel) (heL_0 B g) (fun _ => Nat.le_of_ble_eq_true rfl) (fun _ _ => rfl) dX0_forget_2 ?_
  exact s_vret C R dX0_forget_5
theorem k_X0_forget (B : Bx) (g : Nat → Nat) : MtF (gx B) yX0_forget wsX0_forget (rmD 0) (encL B g) (F_X0_forget g) := by
  refine cf_R_i (fun l S _ => Mt.of (by decide) rfl (Nat.le_of_ble_eq_true rfl) rfl (fun X C R => s_X0_forget_0 B g C R) ?_)
  simp only [wIload, wAload, wLload, wK, wB, wDv, wU, wLB, wLU, wLS, wL2i, wLcmp, wIf1, wIf2, wKeep, wInc, wIst, wAst, wLst, wDup, wPop, wDup2, wGet, wPut, wPutZ, wIald, wLald, wIast, wLast, wLen, wRetI, wRetZ, wRetL, wRetA, wRetV, wM1, wM2, wCpy, wTab, tabW, nth, stL, stL2, dropL, keepL, mkL, padL, restOK, restOKn, tl_some, tl_none, id_eq, eq_self, true_and, and_true, bk_X0_forget_0]
def lLet (S : LtS) (p : Int32) : Int32 := if p < 0 ∨ lLn S ≤ p ∨ 64 ≤ p then -1 else lFd S p.toNatClampNeg
def F_X0_letterAt (g : Nat → Nat) : CF LtS := cf_RI (g 22) (fun _ _ => True) (fun S p => some (.int (lLet S p))) (fun S _ => S)
theorem inw_X0_letterAt_X0 : ∀ w ∈ u_ws RX0 TX0 2, w ∈ wsX0_letterAt := by decide +kernel
def bk_X0_letterAt_31 (g : Nat → Nat) (Post : Option Value → LtS → Prop)  (L : Lc) (st : List Value) (s : LtS) : Prop :=
  (wRetI Post) L st s
set_option maxRecDepth 20000 in
theorem s_X0_letterAt_31 {X : Cx} (B : Bx) (g : Nat → Nat) {Post : Option Value → LtS → Prop} (C : OkX X (gx B) cX0_letterAt 2 wsX0_letterAt RX0 (rmD 0)) (R : RtX X (gx B) (some .int) (encL B g) Post)  : Snd X (gx B) 2 (encL B g) 31 (bk_X0_letterAt_31 g Post ) := by
  unfold bk_X0_letterAt_31
  exact s_iret C R dX0_letterAt_31
def bk_X0_letterAt_30 (g : Nat → Nat) (Post : Option Value → LtS → Prop)  (L : Lc) (st : List Value) (s : LtS) : Prop :=
  (wK (.int (-1)) <| bk_X0_letterAt_31 g Post ) L st s
set_option maxRecDepth 20000 in
theorem s_X0_letterAt_30 {X : Cx} (B : Bx) (g : Nat → Nat) {Post : Option Value → LtS → Prop} (C : OkX X (gx B) cX0_letterAt 2 wsX0_letterAt RX0 (rmD 0)) (R : RtX X (gx B) (some .int) (encL B g) Post)  : Snd X (gx B) 2 (encL B g) 30 (bk_X0_letterAt_30 g Post ) := by
  unfold bk_X0_letterAt_30
  refine s_iconst C (by decide) dX0_letterAt_30 ?_
  exact s_X0_letterAt_31 B g C R 
def bk_X0_letterAt_0 (g : Nat → Nat) (Post : Option Value → LtS → Prop)  (L : Lc) (st : List Value) (s : LtS) : Prop :=
  (wIload 1 <| wIf1 (fun x => x < 0) (bk_X0_letterAt_30 g Post ) (wIload 1 <| wAload 0 <| wGet (g 22) (fun s => .int (lLn s)) <| wIf2 (fun x y => y ≤ x) (bk_X0_letterAt_30 g Post ) (wIload 1 <| wAload 0 <| wGet (g 22) (fun _ => .ref (g 23)) <| wLen (g 23) 64 <| wIf2 (fun x y => y ≤ x) (bk_X0_letterAt_30 g Post ) (wAload 0 <| wGet (g 22) (fun _ => .ref (g 23)) <| wIload 1 <| wIald (g 23) 64 lFd <| bk_X0_letterAt_31 g Post )))) L st s
set_option maxRecDepth 20000 in
theorem s_X0_letterAt_0 {X : Cx} (B : Bx) (g : Nat → Nat) {Post : Option Value → LtS → Prop} (C : OkX X (gx B) cX0_letterAt 2 wsX0_letterAt RX0 (rmD 0)) (R : RtX X (gx B) (some .int) (encL B g) Post)  : Snd X (gx B) 2 (encL B g) 0 (bk_X0_letterAt_0 g Post ) := by
  unfold bk_X0_letterAt_0
  refine s_iload_n C rfl dX0_letterAt_0 ?_
  refine s_if_lt C (tgt := 30) (by decide) dX0_letterAt_1 ?_ ?_
  · exact s_X0_letterAt_30 B g C R 
  · refine s_iload_n C rfl dX0_letterAt_4 ?_
    refine s_aload_n C rfl dX0_letterAt_5 ?_
    refine s_get C inw_X0_letterAt_X0 rfl (k := 1) (by decide) (by decide +kernel) (heL_0 B g) (fun _ => rfl) dX0_letterAt_6 ?_
    refine s_icmp_ge C (tgt := 30) (by decide) dX0_letterAt_9 ?_ ?_
    · exact s_X0_letterAt_30 B g C R 
    · refine s_iload_n C rfl dX0_letterAt_12 ?_
      refine s_aload_n C rfl dX0_letterAt_13 ?_
      refine s_get C inw_X0_letterAt_X0 rfl (k := 0) (by decide) (by decide +kernel) (heL_0 B g) (fun _ => rfl) dX0_letterAt_14 ?_
      refine s_alen C (t0 := 0) (heL_1 B g) rfl (fun _ => rfl) dX0_letterAt_17 ?_
      refine s_icmp_ge C (tgt := 30) (by decide) dX0_letterAt_18 ?_ ?_
      · exact s_X0_letterAt_30 B g C R 
      · refine s_aload_n C rfl dX0_letterAt_21 ?_
        refine s_get C inw_X0_letterAt_X0 rfl (k := 0) (by decide) (by decide +kernel) (heL_0 B g) (fun _ => rfl) dX0_letterAt_22 ?_
        refine s_iload_n C rfl dX0_letterAt_25 ?_
        refine s_iald C (heL_1 B g) dX0_letterAt_26 ?_
        refine s_goto C (tgt := 31) (by decide) dX0_letterAt_27 ?_
        exact s_X0_letterAt_31 B g C R 
theorem k_X0_letterAt (B : Bx) (g : Nat → Nat) : MtF (gx B) yX0_letterAt wsX0_letterAt (rmD 0) (encL B g) (F_X0_letterAt g) := by
  refine cf_RI_i (fun l S p _ => Mt.of (by decide) rfl (Nat.le_of_ble_eq_true rfl) rfl (fun X C R => s_X0_letterAt_0 B g C R) ?_)
  simp only [wIload, wAload, wLload, wK, wB, wDv, wU, wLB, wLU, wLS, wL2i, wLcmp, wIf1, wIf2, wKeep, wInc, wIst, wAst, wLst, wDup, wPop, wDup2, wGet, wPut, wPutZ, wIald, wLald, wIast, wLast, wLen, wRetI, wRetZ, wRetL, wRetA, wRetV, wM1, wM2, wCpy, wTab, tabW, nth, stL, stL2, dropL, keepL, mkL, padL, restOK, restOKn, tl_some, tl_none, id_eq, eq_self, true_and, and_true, bk_X0_letterAt_31, bk_X0_letterAt_30, bk_X0_letterAt_0]
  have h64 := @v64 p
  unfold vp_in at h64
  repeat' first | refine And.intro ?_ ?_ | intro _
  all_goals grind [lLet]
def lDig (S : LtS) (p : Int32) : Bool := decide (48 ≤ lLet S p ∧ lLet S p ≤ 57)
def F_X0_isDigit (g : Nat → Nat) : CF LtS := cf_RI (g 22) (fun _ _ => True) (fun S p => some (.int (b2i (lDig S p)))) (fun S _ => S)
theorem inw_X0_isDigit_X0 : ∀ w ∈ u_ws RX0 TX0 2, w ∈ wsX0_isDigit := by decide +kernel
def bk_X0_isDigit_25 (g : Nat → Nat) (Post : Option Value → LtS → Prop)  (L : Lc) (st : List Value) (s : LtS) : Prop :=
  (wRetZ Post) L st s
set_option maxRecDepth 20000 in
theorem s_X0_isDigit_25 {X : Cx} (B : Bx) (g : Nat → Nat) {Post : Option Value → LtS → Prop} (C : OkX X (gx B) cX0_isDigit 2 wsX0_isDigit RX0 (rmD 1)) (R : RtX X (gx B) (some .boolean) (encL B g) Post)  : Snd X (gx B) 2 (encL B g) 25 (bk_X0_isDigit_25 g Post ) := by
  unfold bk_X0_isDigit_25
  exact s_zret C R dX0_isDigit_25
def bk_X0_isDigit_24 (g : Nat → Nat) (Post : Option Value → LtS → Prop)  (L : Lc) (st : List Value) (s : LtS) : Prop :=
  (wK (.int 0) <| bk_X0_isDigit_25 g Post ) L st s
set_option maxRecDepth 20000 in
theorem s_X0_isDigit_24 {X : Cx} (B : Bx) (g : Nat → Nat) {Post : Option Value → LtS → Prop} (C : OkX X (gx B) cX0_isDigit 2 wsX0_isDigit RX0 (rmD 1)) (R : RtX X (gx B) (some .boolean) (encL B g) Post)  : Snd X (gx B) 2 (encL B g) 24 (bk_X0_isDigit_24 g Post ) := by
  unfold bk_X0_isDigit_24
  refine s_iconst C (by decide) dX0_isDigit_24 ?_
  exact s_X0_isDigit_25 B g C R 
def bk_X0_isDigit_0 (g : Nat → Nat) (Post : Option Value → LtS → Prop)  (L : Lc) (st : List Value) (s : LtS) : Prop :=
  (wAload 0 <| wIload 1 <| wCallR 2 (F_X0_letterAt g) id (fun _ u => u) <| wK (.int 48) <| wIf2 (fun x y => x < y) (bk_X0_isDigit_24 g Post ) (wAload 0 <| wIload 1 <| wCallR 2 (F_X0_letterAt g) id (fun _ u => u) <| wK (.int 57) <| wIf2 (fun x y => y < x) (bk_X0_isDigit_24 g Post ) (wK (.int 1) <| bk_X0_isDigit_25 g Post ))) L st s
set_option maxRecDepth 20000 in
theorem s_X0_isDigit_0 {X : Cx} (B : Bx) (g : Nat → Nat) {Post : Option Value → LtS → Prop} (C : OkX X (gx B) cX0_isDigit 2 wsX0_isDigit RX0 (rmD 1)) (R : RtX X (gx B) (some .boolean) (encL B g) Post)  : Snd X (gx B) 2 (encL B g) 0 (bk_X0_isDigit_0 g Post ) := by
  unfold bk_X0_isDigit_0
  refine s_aload_n C rfl dX0_isDigit_0 ?_
  refine s_iload_n C rfl dX0_isDigit_1 ?_
  refine s_callV C (fr_L_L B g) (k_X0_letterAt B g) gX0_isDigit_X0_letterAt rfl (by decide +kernel) ⟨rfl, rfl⟩ (by decide) rfl (fun s => ⟨_, heL_0 B g s⟩) (cf_RI_r _ _ _ _) dX0_isDigit_2 ?_
  refine s_bipush C (by decide) dX0_isDigit_5 ?_
  refine s_icmp_lt C (tgt := 24) (by decide) dX0_isDigit_7 ?_ ?_
  · exact s_X0_isDigit_24 B g C R 
  · refine s_aload_n C rfl dX0_isDigit_10 ?_
    refine s_iload_n C rfl dX0_isDigit_11 ?_
    refine s_callV C (fr_L_L B g) (k_X0_letterAt B g) gX0_isDigit_X0_letterAt rfl (by decide +kernel) ⟨rfl, rfl⟩ (by decide) rfl (fun s => ⟨_, heL_0 B g s⟩) (cf_RI_r _ _ _ _) dX0_isDigit_12 ?_
    refine s_bipush C (by decide) dX0_isDigit_15 ?_
    refine s_icmp_gt C (tgt := 24) (by decide) dX0_isDigit_17 ?_ ?_
    · exact s_X0_isDigit_24 B g C R 
    · refine s_iconst C (by decide) dX0_isDigit_20 ?_
      refine s_goto C (tgt := 25) (by decide) dX0_isDigit_21 ?_
      exact s_X0_isDigit_25 B g C R 
theorem k_X0_isDigit (B : Bx) (g : Nat → Nat) : MtF (gx B) yX0_isDigit wsX0_isDigit (rmD 1) (encL B g) (F_X0_isDigit g) := by
  refine cf_RI_i (fun l S p _ => Mt.of (by decide) rfl (Nat.le_of_ble_eq_true rfl) rfl (fun X C R => s_X0_isDigit_0 B g C R) ?_)
  simp only [wIload, wAload, wLload, wK, wB, wDv, wU, wLB, wLU, wLS, wL2i, wLcmp, wIf1, wIf2, wKeep, wInc, wIst, wAst, wLst, wDup, wPop, wDup2, wGet, wPut, wPutZ, wIald, wLald, wIast, wLast, wLen, wRetI, wRetZ, wRetL, wRetA, wRetV, wM1, wM2, wCpy, wTab, tabW, nth, stL, stL2, dropL, keepL, mkL, padL, restOK, restOKn, tl_some, tl_none, id_eq, eq_self, true_and, and_true, bk_X0_isDigit_25, bk_X0_isDigit_24, bk_X0_isDigit_0, F_X0_letterAt, cf_RI_e]
  repeat' first | refine And.intro ?_ ?_ | intro _
  all_goals grind [lDig, b2i]
def lDg (S : LtS) (p : Int32) : Int32 := if lDig S p = true then lLet S p - 48 else 0
def F_X0_digit (g : Nat → Nat) : CF LtS := cf_RI (g 22) (fun _ _ => True) (fun S p => some (.int (lDg S p))) (fun S _ => S)
theorem inw_X0_digit_X0 : ∀ w ∈ u_ws RX0 TX0 2, w ∈ wsX0_digit := by decide +kernel
def bk_X0_digit_20 (g : Nat → Nat) (Post : Option Value → LtS → Prop)  (L : Lc) (st : List Value) (s : LtS) : Prop :=
  (wRetI Post) L st s
set_option maxRecDepth 20000 in
theorem s_X0_digit_20 {X : Cx} (B : Bx) (g : Nat → Nat) {Post : Option Value → LtS → Prop} (C : OkX X (gx B) cX0_digit 2 wsX0_digit RX0 (rmD 2)) (R : RtX X (gx B) (some .int) (encL B g) Post)  : Snd X (gx B) 2 (encL B g) 20 (bk_X0_digit_20 g Post ) := by
  unfold bk_X0_digit_20
  exact s_iret C R dX0_digit_20
def bk_X0_digit_0 (g : Nat → Nat) (Post : Option Value → LtS → Prop)  (L : Lc) (st : List Value) (s : LtS) : Prop :=
  (wAload 0 <| wIload 1 <| wCallR 2 (F_X0_isDigit g) id (fun _ u => u) <| wIf1 (fun x => x = 0) (wK (.int 0) <| bk_X0_digit_20 g Post ) (wAload 0 <| wIload 1 <| wCallR 2 (F_X0_letterAt g) id (fun _ u => u) <| wK (.int 48) <| wB (fun x y => x - y) <| bk_X0_digit_20 g Post )) L st s
set_option maxRecDepth 20000 in
theorem s_X0_digit_0 {X : Cx} (B : Bx) (g : Nat → Nat) {Post : Option Value → LtS → Prop} (C : OkX X (gx B) cX0_digit 2 wsX0_digit RX0 (rmD 2)) (R : RtX X (gx B) (some .int) (encL B g) Post)  : Snd X (gx B) 2 (encL B g) 0 (bk_X0_digit_0 g Post ) := by
  unfold bk_X0_digit_0
  refine s_aload_n C rfl dX0_digit_0 ?_
  refine s_iload_n C rfl dX0_digit_1 ?_
  refine s_callV C (fr_L_L B g) (k_X0_isDigit B g) gX0_digit_X0_isDigit rfl (by decide +kernel) ⟨rfl, rfl⟩ (by decide) rfl (fun s => ⟨_, heL_0 B g s⟩) (cf_RI_r _ _ _ _) dX0_digit_2 ?_
  refine s_if_eq C (tgt := 19) (by decide) dX0_digit_5 ?_ ?_
  · refine s_iconst C (by decide) dX0_digit_19 ?_
    exact s_X0_digit_20 B g C R 
  · refine s_aload_n C rfl dX0_digit_8 ?_
    refine s_iload_n C rfl dX0_digit_9 ?_
    refine s_callV C (fr_L_L B g) (k_X0_letterAt B g) gX0_digit_X0_letterAt rfl (by decide +kernel) ⟨rfl, rfl⟩ (by decide) rfl (fun s => ⟨_, heL_0 B g s⟩) (cf_RI_r _ _ _ _) dX0_digit_10 ?_
    refine s_bipush C (by decide) dX0_digit_13 ?_
    refine s_isub C dX0_digit_15 ?_
    refine s_goto C (tgt := 20) (by decide) dX0_digit_16 ?_
    exact s_X0_digit_20 B g C R 
theorem k_X0_digit (B : Bx) (g : Nat → Nat) : MtF (gx B) yX0_digit wsX0_digit (rmD 2) (encL B g) (F_X0_digit g) := by
  refine cf_RI_i (fun l S p _ => Mt.of (by decide) rfl (Nat.le_of_ble_eq_true rfl) rfl (fun X C R => s_X0_digit_0 B g C R) ?_)
  simp only [wIload, wAload, wLload, wK, wB, wDv, wU, wLB, wLU, wLS, wL2i, wLcmp, wIf1, wIf2, wKeep, wInc, wIst, wAst, wLst, wDup, wPop, wDup2, wGet, wPut, wPutZ, wIald, wLald, wIast, wLast, wLen, wRetI, wRetZ, wRetL, wRetA, wRetV, wM1, wM2, wCpy, wTab, tabW, nth, stL, stL2, dropL, keepL, mkL, padL, restOK, restOKn, tl_some, tl_none, id_eq, eq_self, true_and, and_true, bk_X0_digit_20, bk_X0_digit_0, F_X0_isDigit, F_X0_letterAt, cf_RI_e, b2i_eq0]
  repeat' first | refine And.intro ?_ ?_ | intro _
  all_goals grind [lDg]
/-- which of the forms is the rest of a statement that begins at p -/
def lRi (S : LtS) (p : Int32) : Nat := if lLet S p = 112 then (if lDig S (p + 3) = true then 0 else 1) else if lLet S p = 110 then 2 else if lLet S p = 108 then 3 else 4
def F_X0_restOf (B : Bx) (g : Nat → Nat) : CF LtS := cf_RI (g 22) (fun _ _ => True) (fun S p => some (.ref (aK B (lRi S p)))) (fun S _ => S)
theorem inw_X0_restOf_X0 : ∀ w ∈ u_ws RX0 TX0 2, w ∈ wsX0_restOf := by decide +kernel
def bk_X0_restOf_57 (B : Bx) (g : Nat → Nat) (Post : Option Value → LtS → Prop)  (L : Lc) (st : List Value) (s : LtS) : Prop :=
  (wRetA Post) L st s
set_option maxRecDepth 20000 in
theorem s_X0_restOf_57 {X : Cx} (B : Bx) (g : Nat → Nat) {Post : Option Value → LtS → Prop} (C : OkX X (gx B) cX0_restOf 2 wsX0_restOf RX0 (rmD 2)) (R : RtX X (gx B) (some (.object "java/lang/String")) (encL B g) Post)  : Snd X (gx B) 2 (encL B g) 57 (bk_X0_restOf_57 B g Post ) := by
  unfold bk_X0_restOf_57
  exact s_aret C R dX0_restOf_57
def bk_X0_restOf_0 (B : Bx) (g : Nat → Nat) (Post : Option Value → LtS → Prop)  (L : Lc) (st : List Value) (s : LtS) : Prop :=
  (wAload 0 <| wIload 1 <| wCallR 2 (F_X0_letterAt g) id (fun _ u => u) <| wTab [(108, wK (.ref (aK B 3)) <| wRetA Post), (109, wK (.ref (aK B 4)) <| wRetA Post), (110, wK (.ref (aK B 2)) <| wRetA Post), (111, wK (.ref (aK B 4)) <| wRetA Post), (112, wAload 0 <| wIload 1 <| wK (.int 3) <| wB (fun x y => x + y) <| wCallR 2 (F_X0_isDigit g) id (fun _ u => u) <| wIf1 (fun x => x = 0) (wK (.ref (aK B 1)) <| bk_X0_restOf_57 B g Post ) (wK (.ref (aK B 0)) <| bk_X0_restOf_57 B g Post ))] (wK (.ref (aK B 4)) <| wRetA Post)) L st s
set_option maxRecDepth 20000 in
theorem s_X0_restOf_0 {X : Cx} (B : Bx) (g : Nat → Nat) {Post : Option Value → LtS → Prop} (C : OkX X (gx B) cX0_restOf 2 wsX0_restOf RX0 (rmD 2)) (R : RtX X (gx B) (some (.object "java/lang/String")) (encL B g) Post)  : Snd X (gx B) 2 (encL B g) 0 (bk_X0_restOf_0 B g Post ) := by
  unfold bk_X0_restOf_0
  refine s_aload_n C rfl dX0_restOf_0 ?_
  refine s_iload_n C rfl dX0_restOf_1 ?_
  refine s_callV C (fr_L_L B g) (k_X0_letterAt B g) gX0_restOf_X0_letterAt rfl (by decide +kernel) ⟨rfl, rfl⟩ (by decide) rfl (fun s => ⟨_, heL_0 B g s⟩) (cf_RI_r _ _ _ _) dX0_restOf_2 ?_
  refine s_tab C 64 [61, 64, 58, 64, 40] dX0_restOf_5 (by decide) (by decide) rfl rfl rfl ?_ ?_
  · refine s_ldcS C (i := 4) rfl (by decide) dX0_restOf_64 ?_
    exact s_aret C R dX0_restOf_66
  · refine ⟨?_, ?_, ?_, ?_, ?_, trivial⟩
    · refine s_ldcS C (i := 3) rfl (by decide) dX0_restOf_61 ?_
      exact s_aret C R dX0_restOf_63
    · refine s_ldcS C (i := 4) rfl (by decide) dX0_restOf_64 ?_
      exact s_aret C R dX0_restOf_66
    · refine s_ldcS C (i := 2) rfl (by decide) dX0_restOf_58 ?_
      exact s_aret C R dX0_restOf_60
    · refine s_ldcS C (i := 4) rfl (by decide) dX0_restOf_64 ?_
      exact s_aret C R dX0_restOf_66
    · refine s_aload_n C rfl dX0_restOf_40 ?_
      refine s_iload_n C rfl dX0_restOf_41 ?_
      refine s_iconst C (by decide) dX0_restOf_42 ?_
      refine s_iadd C dX0_restOf_43 ?_
      refine s_callV C (fr_L_L B g) (k_X0_isDigit B g) gX0_restOf_X0_isDigit rfl (by decide +kernel) ⟨rfl, rfl⟩ (by decide) rfl (fun s => ⟨_, heL_0 B g s⟩) (cf_RI_r _ _ _ _) dX0_restOf_44 ?_
      refine s_if_eq C (tgt := 55) (by decide) dX0_restOf_47 ?_ ?_
      · refine s_ldcS C (i := 1) rfl (by decide) dX0_restOf_55 ?_
        exact s_X0_restOf_57 B g C R 
      · refine s_ldcS C (i := 0) rfl (by decide) dX0_restOf_50 ?_
        refine s_goto C (tgt := 57) (by decide) dX0_restOf_52 ?_
        exact s_X0_restOf_57 B g C R 
theorem k_X0_restOf (B : Bx) (g : Nat → Nat) : MtF (gx B) yX0_restOf wsX0_restOf (rmD 2) (encL B g) (F_X0_restOf B g) := by
  refine cf_RI_i (fun l S p _ => Mt.of (by decide) rfl (Nat.le_of_ble_eq_true rfl) rfl (fun X C R => s_X0_restOf_0 B g C R) ?_)
  simp only [wIload, wAload, wLload, wK, wB, wDv, wU, wLB, wLU, wLS, wL2i, wLcmp, wIf1, wIf2, wKeep, wInc, wIst, wAst, wLst, wDup, wPop, wDup2, wGet, wPut, wPutZ, wIald, wLald, wIast, wLast, wLen, wRetI, wRetZ, wRetL, wRetA, wRetV, wM1, wM2, wCpy, wTab, tabW, nth, stL, stL2, dropL, keepL, mkL, padL, restOK, restOKn, tl_some, tl_none, id_eq, eq_self, true_and, and_true, bk_X0_restOf_57, bk_X0_restOf_0, F_X0_isDigit, F_X0_letterAt, cf_RI_e, b2i_eq0]
  repeat' first | refine And.intro ?_ ?_ | intro _
  all_goals grind [lRi]
end
