noncomputable section
def ixB (n : Nat) (x : Int32) : Prop := ∃ a, a < n ∧ x = nI a
theorem ixB_c {n : Nat} {x : Int32} (h : ixB n x) (hn : n ≤ 2 ^ 31) : x = nI x.toNatClampNeg ∧ x.toNatClampNeg < n := by
  obtain ⟨a, ha, rfl⟩ := h
  rw [nI_clamp (by omega)]
  exact ⟨rfl, ha⟩
theorem ixB_v {n : Nat} {x : Int32} (h : ixB n x) (hn : n < 2 ^ 31) : vp_in x n := by
  obtain ⟨a, ha, rfl⟩ := h
  exact vp_in_nI ha hn
theorem ixB_le {n m : Nat} {x : Int32} (h : ixB n x) (hn : n ≤ m) : ixB m x := ⟨h.choose, Nat.lt_of_lt_of_le h.choose_spec.1 hn, h.choose_spec.2⟩
def uOne (M : MS) (p : Int32) : Bool := decide (¬ p < 0 ∧ p < mS 15 M)
def F_X4_isOne (g : Nat → Nat) : CF MS := cf_RI (g 30) (fun _ _ => True) (fun M p => some (.int (b2i (uOne M p)))) (fun M _ => M)
theorem inw_X4_isOne_X4 : ∀ w ∈ u_ws RX4 TX4 45, w ∈ wsX4_isOne := by decide +kernel
def bk_X4_isOne_17 (g : Nat → Nat) (Post : Option Value → MS → Prop)  (L : Lc) (st : List Value) (s : MS) : Prop :=
  (wRetZ Post) L st s
set_option maxRecDepth 20000 in
theorem s_X4_isOne_17 {X : Cx} (B : Bx) (g : Nat → Nat) {Post : Option Value → MS → Prop} (C : OkX X (gx B) cX4_isOne 2 wsX4_isOne RX4 (rmD 0)) (R : RtX X (gx B) (some .boolean) (encM B g) Post)  : Snd X (gx B) 2 (encM B g) 17 (bk_X4_isOne_17 g Post ) := by
  unfold bk_X4_isOne_17
  exact s_zret C R dX4_isOne_17
def bk_X4_isOne_16 (g : Nat → Nat) (Post : Option Value → MS → Prop)  (L : Lc) (st : List Value) (s : MS) : Prop :=
  (wK (.int 0) <| bk_X4_isOne_17 g Post ) L st s
set_option maxRecDepth 20000 in
theorem s_X4_isOne_16 {X : Cx} (B : Bx) (g : Nat → Nat) {Post : Option Value → MS → Prop} (C : OkX X (gx B) cX4_isOne 2 wsX4_isOne RX4 (rmD 0)) (R : RtX X (gx B) (some .boolean) (encM B g) Post)  : Snd X (gx B) 2 (encM B g) 16 (bk_X4_isOne_16 g Post ) := by
  unfold bk_X4_isOne_16
  refine s_iconst C (by decide) dX4_isOne_16 ?_
  exact s_X4_isOne_17 B g C R 
def bk_X4_isOne_0 (g : Nat → Nat) (Post : Option Value → MS → Prop)  (L : Lc) (st : List Value) (s : MS) : Prop :=
  (wIload 1 <| wIf1 (fun x => x < 0) (bk_X4_isOne_16 g Post ) (wIload 1 <| wAload 0 <| wGet (g 30) (fun s => .int (mS 15 s)) <| wIf2 (fun x y => y ≤ x) (bk_X4_isOne_16 g Post ) (wK (.int 1) <| bk_X4_isOne_17 g Post ))) L st s
set_option maxRecDepth 20000 in
theorem s_X4_isOne_0 {X : Cx} (B : Bx) (g : Nat → Nat) {Post : Option Value → MS → Prop} (C : OkX X (gx B) cX4_isOne 2 wsX4_isOne RX4 (rmD 0)) (R : RtX X (gx B) (some .boolean) (encM B g) Post)  : Snd X (gx B) 2 (encM B g) 0 (bk_X4_isOne_0 g Post ) := by
  unfold bk_X4_isOne_0
  refine s_iload_n C rfl dX4_isOne_0 ?_
  refine s_if_lt C (tgt := 16) (by decide) dX4_isOne_1 ?_ ?_
  · exact s_X4_isOne_16 B g C R 
  · refine s_iload_n C rfl dX4_isOne_4 ?_
    refine s_aload_n C rfl dX4_isOne_5 ?_
    refine s_get C inw_X4_isOne_X4 rfl (k := 15) (by decide) (by decide +kernel) (heM_0 B g) (fun _ => rfl) dX4_isOne_6 ?_
    refine s_icmp_ge C (tgt := 16) (by decide) dX4_isOne_9 ?_ ?_
    · exact s_X4_isOne_16 B g C R 
    · refine s_iconst C (by decide) dX4_isOne_12 ?_
      refine s_goto C (tgt := 17) (by decide) dX4_isOne_13 ?_
      exact s_X4_isOne_17 B g C R 
theorem k_X4_isOne (B : Bx) (g : Nat → Nat) : MtF (gx B) yX4_isOne wsX4_isOne (rmD 0) (encM B g) (F_X4_isOne g) := by
  refine cf_RI_i (fun l M p _ => Mt.of (by decide) rfl (Nat.le_of_ble_eq_true rfl) rfl (fun X C R => s_X4_isOne_0 B g C R) ?_)
  simp only [wIload, wAload, wLload, wK, wB, wDv, wU, wLB, wLU, wLS, wL2i, wLcmp, wIf1, wIf2, wKeep, wInc, wIst, wAst, wLst, wDup, wPop, wDup2, wGet, wPut, wPutZ, wIald, wLald, wIast, wLast, wLen, wRetI, wRetZ, wRetL, wRetA, wRetV, wM1, wM2, wCpy, wTab, tabW, nth, stL, stL2, dropL, keepL, mkL, padL, restOK, restOKn, tl_some, tl_none, id_eq, eq_self, true_and, and_true, bk_X4_isOne_17, bk_X4_isOne_16, bk_X4_isOne_0]
  grind [uOne, b2i]
def uNeed (M : MS) (p : Int32) : Bool := decide (¬ p < 0 ∧ p < mS 16 M)
def F_X4_isNeed (g : Nat → Nat) : CF MS := cf_RI (g 30) (fun _ _ => True) (fun M p => some (.int (b2i (uNeed M p)))) (fun M _ => M)
theorem inw_X4_isNeed_X4 : ∀ w ∈ u_ws RX4 TX4 45, w ∈ wsX4_isNeed := by decide +kernel
def bk_X4_isNeed_17 (g : Nat → Nat) (Post : Option Value → MS → Prop)  (L : Lc) (st : List Value) (s : MS) : Prop :=
  (wRetZ Post) L st s
set_option maxRecDepth 20000 in
theorem s_X4_isNeed_17 {X : Cx} (B : Bx) (g : Nat → Nat) {Post : Option Value → MS → Prop} (C : OkX X (gx B) cX4_isNeed 2 wsX4_isNeed RX4 (rmD 0)) (R : RtX X (gx B) (some .boolean) (encM B g) Post)  : Snd X (gx B) 2 (encM B g) 17 (bk_X4_isNeed_17 g Post ) := by
  unfold bk_X4_isNeed_17
  exact s_zret C R dX4_isNeed_17
def bk_X4_isNeed_16 (g : Nat → Nat) (Post : Option Value → MS → Prop)  (L : Lc) (st : List Value) (s : MS) : Prop :=
  (wK (.int 0) <| bk_X4_isNeed_17 g Post ) L st s
set_option maxRecDepth 20000 in
theorem s_X4_isNeed_16 {X : Cx} (B : Bx) (g : Nat → Nat) {Post : Option Value → MS → Prop} (C : OkX X (gx B) cX4_isNeed 2 wsX4_isNeed RX4 (rmD 0)) (R : RtX X (gx B) (some .boolean) (encM B g) Post)  : Snd X (gx B) 2 (encM B g) 16 (bk_X4_isNeed_16 g Post ) := by
  unfold bk_X4_isNeed_16
  refine s_iconst C (by decide) dX4_isNeed_16 ?_
  exact s_X4_isNeed_17 B g C R 
def bk_X4_isNeed_0 (g : Nat → Nat) (Post : Option Value → MS → Prop)  (L : Lc) (st : List Value) (s : MS) : Prop :=
  (wIload 1 <| wIf1 (fun x => x < 0) (bk_X4_isNeed_16 g Post ) (wIload 1 <| wAload 0 <| wGet (g 30) (fun s => .int (mS 16 s)) <| wIf2 (fun x y => y ≤ x) (bk_X4_isNeed_16 g Post ) (wK (.int 1) <| bk_X4_isNeed_17 g Post ))) L st s
set_option maxRecDepth 20000 in
theorem s_X4_isNeed_0 {X : Cx} (B : Bx) (g : Nat → Nat) {Post : Option Value → MS → Prop} (C : OkX X (gx B) cX4_isNeed 2 wsX4_isNeed RX4 (rmD 0)) (R : RtX X (gx B) (some .boolean) (encM B g) Post)  : Snd X (gx B) 2 (encM B g) 0 (bk_X4_isNeed_0 g Post ) := by
  unfold bk_X4_isNeed_0
  refine s_iload_n C rfl dX4_isNeed_0 ?_
  refine s_if_lt C (tgt := 16) (by decide) dX4_isNeed_1 ?_ ?_
  · exact s_X4_isNeed_16 B g C R 
  · refine s_iload_n C rfl dX4_isNeed_4 ?_
    refine s_aload_n C rfl dX4_isNeed_5 ?_
    refine s_get C inw_X4_isNeed_X4 rfl (k := 16) (by decide) (by decide +kernel) (heM_0 B g) (fun _ => rfl) dX4_isNeed_6 ?_
    refine s_icmp_ge C (tgt := 16) (by decide) dX4_isNeed_9 ?_ ?_
    · exact s_X4_isNeed_16 B g C R 
    · refine s_iconst C (by decide) dX4_isNeed_12 ?_
      refine s_goto C (tgt := 17) (by decide) dX4_isNeed_13 ?_
      exact s_X4_isNeed_17 B g C R 
theorem k_X4_isNeed (B : Bx) (g : Nat → Nat) : MtF (gx B) yX4_isNeed wsX4_isNeed (rmD 0) (encM B g) (F_X4_isNeed g) := by
  refine cf_RI_i (fun l M p _ => Mt.of (by decide) rfl (Nat.le_of_ble_eq_true rfl) rfl (fun X C R => s_X4_isNeed_0 B g C R) ?_)
  simp only [wIload, wAload, wLload, wK, wB, wDv, wU, wLB, wLU, wLS, wL2i, wLcmp, wIf1, wIf2, wKeep, wInc, wIst, wAst, wLst, wDup, wPop, wDup2, wGet, wPut, wPutZ, wIald, wLald, wIast, wLast, wLen, wRetI, wRetZ, wRetL, wRetA, wRetV, wM1, wM2, wCpy, wTab, tabW, nth, stL, stL2, dropL, keepL, mkL, padL, restOK, restOKn, tl_some, tl_none, id_eq, eq_self, true_and, and_true, bk_X4_isNeed_17, bk_X4_isNeed_16, bk_X4_isNeed_0]
  grind [uNeed, b2i]
def uIn (v a b : Int32) : Bool := decide (a ≤ v ∧ v ≤ b)
def F_X4_isIn : CF Unit := cf_III (fun _ _ _ _ => True) (fun _ v a b => some (.int (b2i (uIn v a b)))) (fun s _ _ _ => s)

def bk_X4_isIn_15  (Post : Option Value → Unit → Prop)  (L : Lc) (st : List Value) (s : Unit) : Prop :=
  (wRetZ Post) L st s
set_option maxRecDepth 20000 in
theorem s_X4_isIn_15 {X : Cx} (B : Bx)  {Post : Option Value → Unit → Prop} (C : OkX X (gx B) cX4_isIn 3 wsX4_isIn RX4 (rmD 0)) (R : RtX X (gx B) (some .boolean) (encE) Post)  : Snd X (gx B) 3 (encE) 15 (bk_X4_isIn_15  Post ) := by
  unfold bk_X4_isIn_15
  exact s_zret C R dX4_isIn_15
def bk_X4_isIn_14  (Post : Option Value → Unit → Prop)  (L : Lc) (st : List Value) (s : Unit) : Prop :=
  (wK (.int 0) <| bk_X4_isIn_15  Post ) L st s
set_option maxRecDepth 20000 in
theorem s_X4_isIn_14 {X : Cx} (B : Bx)  {Post : Option Value → Unit → Prop} (C : OkX X (gx B) cX4_isIn 3 wsX4_isIn RX4 (rmD 0)) (R : RtX X (gx B) (some .boolean) (encE) Post)  : Snd X (gx B) 3 (encE) 14 (bk_X4_isIn_14  Post ) := by
  unfold bk_X4_isIn_14
  refine s_iconst C (by decide) dX4_isIn_14 ?_
  exact s_X4_isIn_15 B  C R 
def bk_X4_isIn_0  (Post : Option Value → Unit → Prop)  (L : Lc) (st : List Value) (s : Unit) : Prop :=
  (wIload 0 <| wIload 1 <| wIf2 (fun x y => x < y) (bk_X4_isIn_14  Post ) (wIload 0 <| wIload 2 <| wIf2 (fun x y => y < x) (bk_X4_isIn_14  Post ) (wK (.int 1) <| bk_X4_isIn_15  Post ))) L st s
set_option maxRecDepth 20000 in
theorem s_X4_isIn_0 {X : Cx} (B : Bx)  {Post : Option Value → Unit → Prop} (C : OkX X (gx B) cX4_isIn 3 wsX4_isIn RX4 (rmD 0)) (R : RtX X (gx B) (some .boolean) (encE) Post)  : Snd X (gx B) 3 (encE) 0 (bk_X4_isIn_0  Post ) := by
  unfold bk_X4_isIn_0
  refine s_iload_n C rfl dX4_isIn_0 ?_
  refine s_iload_n C rfl dX4_isIn_1 ?_
  refine s_icmp_lt C (tgt := 14) (by decide) dX4_isIn_2 ?_ ?_
  · exact s_X4_isIn_14 B  C R 
  · refine s_iload_n C rfl dX4_isIn_5 ?_
    refine s_iload_n C rfl dX4_isIn_6 ?_
    refine s_icmp_gt C (tgt := 14) (by decide) dX4_isIn_7 ?_ ?_
    · exact s_X4_isIn_14 B  C R 
    · refine s_iconst C (by decide) dX4_isIn_10 ?_
      refine s_goto C (tgt := 15) (by decide) dX4_isIn_11 ?_
      exact s_X4_isIn_15 B  C R 
theorem k_X4_isIn (B : Bx) : MtF (gx B) yX4_isIn wsX4_isIn (rmD 0) encE F_X4_isIn := by
  refine cf_III_i (fun l s v a b _ => Mt.of (by decide) rfl (Nat.le_of_ble_eq_true rfl) rfl (fun X C R => s_X4_isIn_0 B C R) ?_)
  simp only [wIload, wAload, wLload, wK, wB, wDv, wU, wLB, wLU, wLS, wL2i, wLcmp, wIf1, wIf2, wKeep, wInc, wIst, wAst, wLst, wDup, wPop, wDup2, wGet, wPut, wPutZ, wIald, wLald, wIast, wLast, wLen, wRetI, wRetZ, wRetL, wRetA, wRetV, wM1, wM2, wCpy, wTab, tabW, nth, stL, stL2, dropL, keepL, mkL, padL, restOK, restOKn, tl_some, tl_none, id_eq, eq_self, true_and, and_true, bk_X4_isIn_15, bk_X4_isIn_14, bk_X4_isIn_0]
  grind [uIn, b2i]
def uBd (v a b : Int32) : Int32 := if v < a then -4 else if b < v then -6 else 0
def F_X4_bound : CF Unit := cf_III (fun _ _ _ _ => True) (fun _ v a b => some (.int (uBd v a b))) (fun s _ _ _ => s)

def bk_X4_bound_21  (Post : Option Value → Unit → Prop)  (L : Lc) (st : List Value) (s : Unit) : Prop :=
  (wRetI Post) L st s
set_option maxRecDepth 20000 in
theorem s_X4_bound_21 {X : Cx} (B : Bx)  {Post : Option Value → Unit → Prop} (C : OkX X (gx B) cX4_bound 3 wsX4_bound RX4 (rmD 0)) (R : RtX X (gx B) (some .int) (encE) Post)  : Snd X (gx B) 3 (encE) 21 (bk_X4_bound_21  Post ) := by
  unfold bk_X4_bound_21
  exact s_iret C R dX4_bound_21
def bk_X4_bound_0  (Post : Option Value → Unit → Prop)  (L : Lc) (st : List Value) (s : Unit) : Prop :=
  (wIload 0 <| wIload 1 <| wIf2 (fun x y => y ≤ x) (wIload 0 <| wIload 2 <| wIf2 (fun x y => x ≤ y) (wK (.int 0) <| bk_X4_bound_21  Post ) (wK (.int (-6)) <| bk_X4_bound_21  Post )) (wK (.int (-4)) <| bk_X4_bound_21  Post )) L st s
set_option maxRecDepth 20000 in
theorem s_X4_bound_0 {X : Cx} (B : Bx)  {Post : Option Value → Unit → Prop} (C : OkX X (gx B) cX4_bound 3 wsX4_bound RX4 (rmD 0)) (R : RtX X (gx B) (some .int) (encE) Post)  : Snd X (gx B) 3 (encE) 0 (bk_X4_bound_0  Post ) := by
  unfold bk_X4_bound_0
  refine s_iload_n C rfl dX4_bound_0 ?_
  refine s_iload_n C rfl dX4_bound_1 ?_
  refine s_icmp_ge C (tgt := 10) (by decide) dX4_bound_2 ?_ ?_
  · refine s_iload_n C rfl dX4_bound_10 ?_
    refine s_iload_n C rfl dX4_bound_11 ?_
    refine s_icmp_le C (tgt := 20) (by decide) dX4_bound_12 ?_ ?_
    · refine s_iconst C (by decide) dX4_bound_20 ?_
      exact s_X4_bound_21 B  C R 
    · refine s_bipush C (by decide) dX4_bound_15 ?_
      refine s_goto C (tgt := 21) (by decide) dX4_bound_17 ?_
      exact s_X4_bound_21 B  C R 
  · refine s_bipush C (by decide) dX4_bound_5 ?_
    refine s_goto C (tgt := 21) (by decide) dX4_bound_7 ?_
    exact s_X4_bound_21 B  C R 
theorem k_X4_bound (B : Bx) : MtF (gx B) yX4_bound wsX4_bound (rmD 0) encE F_X4_bound := by
  refine cf_III_i (fun l s v a b _ => Mt.of (by decide) rfl (Nat.le_of_ble_eq_true rfl) rfl (fun X C R => s_X4_bound_0 B C R) ?_)
  simp only [wIload, wAload, wLload, wK, wB, wDv, wU, wLB, wLU, wLS, wL2i, wLcmp, wIf1, wIf2, wKeep, wInc, wIst, wAst, wLst, wDup, wPop, wDup2, wGet, wPut, wPutZ, wIald, wLald, wIast, wLast, wLen, wRetI, wRetZ, wRetL, wRetA, wRetV, wM1, wM2, wCpy, wTab, tabW, nth, stL, stL2, dropL, keepL, mkL, padL, restOK, restOKn, tl_some, tl_none, id_eq, eq_self, true_and, and_true, bk_X4_bound_21, bk_X4_bound_0]
  grind [uBd]
def F_X4_above : CF Unit := cf_I (fun _ _ => True) (fun _ v => some (.int (if v < 0 then 0 else v))) (fun s _ => s)

def bk_X4_above_9  (Post : Option Value → Unit → Prop)  (L : Lc) (st : List Value) (s : Unit) : Prop :=
  (wRetI Post) L st s
set_option maxRecDepth 20000 in
theorem s_X4_above_9 {X : Cx} (B : Bx)  {Post : Option Value → Unit → Prop} (C : OkX X (gx B) cX4_above 1 wsX4_above RX4 (rmD 0)) (R : RtX X (gx B) (some .int) (encE) Post)  : Snd X (gx B) 1 (encE) 9 (bk_X4_above_9  Post ) := by
  unfold bk_X4_above_9
  exact s_iret C R dX4_above_9
def bk_X4_above_0  (Post : Option Value → Unit → Prop)  (L : Lc) (st : List Value) (s : Unit) : Prop :=
  (wIload 0 <| wIf1 (fun x => 0 ≤ x) (wIload 0 <| bk_X4_above_9  Post ) (wK (.int 0) <| bk_X4_above_9  Post )) L st s
set_option maxRecDepth 20000 in
theorem s_X4_above_0 {X : Cx} (B : Bx)  {Post : Option Value → Unit → Prop} (C : OkX X (gx B) cX4_above 1 wsX4_above RX4 (rmD 0)) (R : RtX X (gx B) (some .int) (encE) Post)  : Snd X (gx B) 1 (encE) 0 (bk_X4_above_0  Post ) := by
  unfold bk_X4_above_0
  refine s_iload_n C rfl dX4_above_0 ?_
  refine s_if_ge C (tgt := 8) (by decide) dX4_above_1 ?_ ?_
  · refine s_iload_n C rfl dX4_above_8 ?_
    exact s_X4_above_9 B  C R 
  · refine s_iconst C (by decide) dX4_above_4 ?_
    refine s_goto C (tgt := 9) (by decide) dX4_above_5 ?_
    exact s_X4_above_9 B  C R 
theorem k_X4_above (B : Bx) : MtF (gx B) yX4_above wsX4_above (rmD 0) encE F_X4_above := by
  refine cf_I_i (fun l s v _ => Mt.of (by decide) rfl (Nat.le_of_ble_eq_true rfl) rfl (fun X C R => s_X4_above_0 B C R) ?_)
  simp only [wIload, wAload, wLload, wK, wB, wDv, wU, wLB, wLU, wLS, wL2i, wLcmp, wIf1, wIf2, wKeep, wInc, wIst, wAst, wLst, wDup, wPop, wDup2, wGet, wPut, wPutZ, wIald, wLald, wIast, wLast, wLen, wRetI, wRetZ, wRetL, wRetA, wRetV, wM1, wM2, wCpy, wTab, tabW, nth, stL, stL2, dropL, keepL, mkL, padL, restOK, restOKn, tl_some, tl_none, id_eq, eq_self, true_and, and_true, bk_X4_above_9, bk_X4_above_0]
  grind
def F_X4_isRule : CF Unit := cf_I (fun _ _ => True) (fun _ v => some (.int (b2i (decide (0 ≤ v ∧ v < 6))))) (fun s _ => s)

def bk_X4_isRule_15  (Post : Option Value → Unit → Prop)  (L : Lc) (st : List Value) (s : Unit) : Prop :=
  (wRetZ Post) L st s
set_option maxRecDepth 20000 in
theorem s_X4_isRule_15 {X : Cx} (B : Bx)  {Post : Option Value → Unit → Prop} (C : OkX X (gx B) cX4_isRule 1 wsX4_isRule RX4 (rmD 0)) (R : RtX X (gx B) (some .boolean) (encE) Post)  : Snd X (gx B) 1 (encE) 15 (bk_X4_isRule_15  Post ) := by
  unfold bk_X4_isRule_15
  exact s_zret C R dX4_isRule_15
def bk_X4_isRule_14  (Post : Option Value → Unit → Prop)  (L : Lc) (st : List Value) (s : Unit) : Prop :=
  (wK (.int 0) <| bk_X4_isRule_15  Post ) L st s
set_option maxRecDepth 20000 in
theorem s_X4_isRule_14 {X : Cx} (B : Bx)  {Post : Option Value → Unit → Prop} (C : OkX X (gx B) cX4_isRule 1 wsX4_isRule RX4 (rmD 0)) (R : RtX X (gx B) (some .boolean) (encE) Post)  : Snd X (gx B) 1 (encE) 14 (bk_X4_isRule_14  Post ) := by
  unfold bk_X4_isRule_14
  refine s_iconst C (by decide) dX4_isRule_14 ?_
  exact s_X4_isRule_15 B  C R 
def bk_X4_isRule_0  (Post : Option Value → Unit → Prop)  (L : Lc) (st : List Value) (s : Unit) : Prop :=
  (wIload 0 <| wIf1 (fun x => x < 0) (bk_X4_isRule_14  Post ) (wIload 0 <| wK (.int 6) <| wIf2 (fun x y => y ≤ x) (bk_X4_isRule_14  Post ) (wK (.int 1) <| bk_X4_isRule_15  Post ))) L st s
set_option maxRecDepth 20000 in
theorem s_X4_isRule_0 {X : Cx} (B : Bx)  {Post : Option Value → Unit → Prop} (C : OkX X (gx B) cX4_isRule 1 wsX4_isRule RX4 (rmD 0)) (R : RtX X (gx B) (some .boolean) (encE) Post)  : Snd X (gx B) 1 (encE) 0 (bk_X4_isRule_0  Post ) := by
  unfold bk_X4_isRule_0
  refine s_iload_n C rfl dX4_isRule_0 ?_
  refine s_if_lt C (tgt := 14) (by decide) dX4_isRule_1 ?_ ?_
  · exact s_X4_isRule_14 B  C R 
  · refine s_iload_n C rfl dX4_isRule_4 ?_
    refine s_bipush C (by decide) dX4_isRule_5 ?_
    refine s_icmp_ge C (tgt := 14) (by decide) dX4_isRule_7 ?_ ?_
    · exact s_X4_isRule_14 B  C R 
    · refine s_iconst C (by decide) dX4_isRule_10 ?_
      refine s_goto C (tgt := 15) (by decide) dX4_isRule_11 ?_
      exact s_X4_isRule_15 B  C R 
theorem k_X4_isRule (B : Bx) : MtF (gx B) yX4_isRule wsX4_isRule (rmD 0) encE F_X4_isRule := by
  refine cf_I_i (fun l s v _ => Mt.of (by decide) rfl (Nat.le_of_ble_eq_true rfl) rfl (fun X C R => s_X4_isRule_0 B C R) ?_)
  simp only [wIload, wAload, wLload, wK, wB, wDv, wU, wLB, wLU, wLS, wL2i, wLcmp, wIf1, wIf2, wKeep, wInc, wIst, wAst, wLst, wDup, wPop, wDup2, wGet, wPut, wPutZ, wIald, wLald, wIast, wLast, wLen, wRetI, wRetZ, wRetL, wRetA, wRetV, wM1, wM2, wCpy, wTab, tabW, nth, stL, stL2, dropL, keepL, mkL, padL, restOK, restOKn, tl_some, tl_none, id_eq, eq_self, true_and, and_true, bk_X4_isRule_15, bk_X4_isRule_14, bk_X4_isRule_0]
  grind [b2i]
def refI (n : Int32) : Prop := n = -1 ∨ n = -2 ∨ n = -3 ∨ n = -4 ∨ n = -6
def uNo (M : MS) (n : Int32) : MS := maA 0 M (-n).toNatClampNeg (mA 0 M (-n).toNatClampNeg + 1)
def F_X4_no (g : Nat → Nat) : CF MS := cf_RI (g 30) (fun _ n => refI n) (fun _ n => some (.int n)) (fun M n => uNo M n)
theorem inw_X4_no_X4 : ∀ w ∈ u_ws RX4 TX4 45, w ∈ wsX4_no := by decide +kernel
def bk_X4_no_0 (g : Nat → Nat) (Post : Option Value → MS → Prop)  (L : Lc) (st : List Value) (s : MS) : Prop :=
  (wAload 0 <| wGet (g 30) (fun _ => .ref (g 31)) <| wIload 1 <| wU (fun x => -x) <| wDup2 <| wIald (g 31) 7 (mA 0) <| wK (.int 1) <| wB (fun x y => x + y) <| wIast (g 31) 7 (maA 0) <| wIload 1 <| wRetI Post) L st s
set_option maxRecDepth 20000 in
theorem s_X4_no_0 {X : Cx} (B : Bx) (g : Nat → Nat) {Post : Option Value → MS → Prop} (C : OkX X (gx B) cX4_no 2 wsX4_no RX4 (rmD 0)) (R : RtX X (gx B) (some .int) (encM B g) Post)  : Snd X (gx B) 2 (encM B g) 0 (bk_X4_no_0 g Post ) := by
  unfold bk_X4_no_0
  refine s_aload_n C rfl dX4_no_0 ?_
  refine s_get C inw_X4_no_X4 rfl (k := 0) (by decide) (by decide +kernel) (heM_0 B g) (fun _ => rfl) dX4_no_1 ?_
  refine s_iload_n C rfl dX4_no_4 ?_
  refine s_ineg C dX4_no_5 ?_
  refine s_dup2 C dX4_no_6 ?_
  refine s_iald C (heM_1 B g) dX4_no_7 ?_
  refine s_iconst C (by decide) dX4_no_8 ?_
  refine s_iadd C dX4_no_9 ?_
  refine s_iast C (heM_1 B g) (fun _ _ _ => rfl) dX4_no_10 ?_
  refine s_iload_n C rfl dX4_no_11 ?_
  exact s_iret C R dX4_no_12
theorem k_X4_no (B : Bx) (g : Nat → Nat) : MtF (gx B) yX4_no wsX4_no (rmD 0) (encM B g) (F_X4_no g) := by
  refine cf_RI_i (fun l M n hn => Mt.of (by decide) rfl (Nat.le_of_ble_eq_true rfl) rfl (fun X C R => s_X4_no_0 B g C R) ?_)
  have hv : vp_in (-n) 7 := by rcases hn with rfl | rfl | rfl | rfl | rfl <;> (unfold vp_in; decide)
  simp only [wIload, wAload, wLload, wK, wB, wDv, wU, wLB, wLU, wLS, wL2i, wLcmp, wIf1, wIf2, wKeep, wInc, wIst, wAst, wLst, wDup, wPop, wDup2, wGet, wPut, wPutZ, wIald, wLald, wIast, wLast, wLen, wRetI, wRetZ, wRetL, wRetA, wRetV, wM1, wM2, wCpy, wTab, tabW, nth, stL, stL2, dropL, keepL, mkL, padL, restOK, restOKn, tl_some, tl_none, id_eq, eq_self, true_and, and_true, bk_X4_no_0, hv]
  exact rfl
def F_X4_lower (g : Nat → Nat) : CF MS := cf_RI (g 30) (fun _ n => refI n) (fun _ n => some (.int (1000000000 - n))) (fun M n => uNo M n)
theorem inw_X4_lower_X4 : ∀ w ∈ u_ws RX4 TX4 45, w ∈ wsX4_lower := by decide +kernel
def bk_X4_lower_0 (g : Nat → Nat) (Post : Option Value → MS → Prop)  (L : Lc) (st : List Value) (s : MS) : Prop :=
  (wAload 0 <| wGet (g 30) (fun _ => .ref (g 31)) <| wIload 1 <| wU (fun x => -x) <| wDup2 <| wIald (g 31) 7 (mA 0) <| wK (.int 1) <| wB (fun x y => x + y) <| wIast (g 31) 7 (maA 0) <| wK (.int 1000000000) <| wIload 1 <| wB (fun x y => x - y) <| wRetI Post) L st s
set_option maxRecDepth 20000 in
theorem s_X4_lower_0 {X : Cx} (B : Bx) (g : Nat → Nat) {Post : Option Value → MS → Prop} (C : OkX X (gx B) cX4_lower 2 wsX4_lower RX4 (rmD 0)) (R : RtX X (gx B) (some .int) (encM B g) Post)  : Snd X (gx B) 2 (encM B g) 0 (bk_X4_lower_0 g Post ) := by
  unfold bk_X4_lower_0
  refine s_aload_n C rfl dX4_lower_0 ?_
  refine s_get C inw_X4_lower_X4 rfl (k := 0) (by decide) (by decide +kernel) (heM_0 B g) (fun _ => rfl) dX4_lower_1 ?_
  refine s_iload_n C rfl dX4_lower_4 ?_
  refine s_ineg C dX4_lower_5 ?_
  refine s_dup2 C dX4_lower_6 ?_
  refine s_iald C (heM_1 B g) dX4_lower_7 ?_
  refine s_iconst C (by decide) dX4_lower_8 ?_
  refine s_iadd C dX4_lower_9 ?_
  refine s_iast C (heM_1 B g) (fun _ _ _ => rfl) dX4_lower_10 ?_
  refine s_ldc C (by decide +kernel) dX4_lower_11 ?_
  refine s_iload_n C rfl dX4_lower_13 ?_
  refine s_isub C dX4_lower_14 ?_
  exact s_iret C R dX4_lower_15
theorem k_X4_lower (B : Bx) (g : Nat → Nat) : MtF (gx B) yX4_lower wsX4_lower (rmD 0) (encM B g) (F_X4_lower g) := by
  refine cf_RI_i (fun l M n hn => Mt.of (by decide) rfl (Nat.le_of_ble_eq_true rfl) rfl (fun X C R => s_X4_lower_0 B g C R) ?_)
  have hv : vp_in (-n) 7 := by rcases hn with rfl | rfl | rfl | rfl | rfl <;> (unfold vp_in; decide)
  simp only [wIload, wAload, wLload, wK, wB, wDv, wU, wLB, wLU, wLS, wL2i, wLcmp, wIf1, wIf2, wKeep, wInc, wIst, wAst, wLst, wDup, wPop, wDup2, wGet, wPut, wPutZ, wIald, wLald, wIast, wLast, wLen, wRetI, wRetZ, wRetL, wRetA, wRetV, wM1, wM2, wCpy, wTab, tabW, nth, stL, stL2, dropL, keepL, mkL, padL, restOK, restOKn, tl_some, tl_none, id_eq, eq_self, true_and, and_true, bk_X4_lower_0, hv]
  exact rfl
def uMin (M : MS) (a b : Nat) : Int32 := if mA 2 M a - mA 2 M b < 0 then -(mA 2 M a - mA 2 M b) else mA 2 M a - mA 2 M b
def F_X4_minutesOf (g : Nat → Nat) : CF MS := cf_RII (g 30) (fun _ x y => ixB 7 x ∧ ixB 7 y) (fun M x y => some (.int (uMin M x.toNatClampNeg y.toNatClampNeg))) (fun M _ _ => M)
theorem inw_X4_minutesOf_X4 : ∀ w ∈ u_ws RX4 TX4 45, w ∈ wsX4_minutesOf := by decide +kernel
def bk_X4_minutesOf_24 (g : Nat → Nat) (Post : Option Value → MS → Prop)  (L : Lc) (st : List Value) (s : MS) : Prop :=
  (wRetI Post) L st s
set_option maxRecDepth 20000 in
theorem s_X4_minutesOf_24 {X : Cx} (B : Bx) (g : Nat → Nat) {Post : Option Value → MS → Prop} (C : OkX X (gx B) cX4_minutesOf 4 wsX4_minutesOf RX4 (rmD 0)) (R : RtX X (gx B) (some .int) (encM B g) Post)  : Snd X (gx B) 4 (encM B g) 24 (bk_X4_minutesOf_24 g Post ) := by
  unfold bk_X4_minutesOf_24
  exact s_iret C R dX4_minutesOf_24
def bk_X4_minutesOf_0 (g : Nat → Nat) (Post : Option Value → MS → Prop)  (L : Lc) (st : List Value) (s : MS) : Prop :=
  (wAload 0 <| wGet (g 30) (fun _ => .ref (g 33)) <| wIload 1 <| wIald (g 33) 7 (mA 2) <| wAload 0 <| wGet (g 30) (fun _ => .ref (g 33)) <| wIload 2 <| wIald (g 33) 7 (mA 2) <| wB (fun x y => x - y) <| wIst 3 <| wIload 3 <| wIf1 (fun x => 0 ≤ x) (wIload 3 <| bk_X4_minutesOf_24 g Post ) (wIload 3 <| wU (fun x => -x) <| bk_X4_minutesOf_24 g Post )) L st s
set_option maxRecDepth 20000 in
theorem s_X4_minutesOf_0 {X : Cx} (B : Bx) (g : Nat → Nat) {Post : Option Value → MS → Prop} (C : OkX X (gx B) cX4_minutesOf 4 wsX4_minutesOf RX4 (rmD 0)) (R : RtX X (gx B) (some .int) (encM B g) Post)  : Snd X (gx B) 4 (encM B g) 0 (bk_X4_minutesOf_0 g Post ) := by
  unfold bk_X4_minutesOf_0
  refine s_aload_n C rfl dX4_minutesOf_0 ?_
  refine s_get C inw_X4_minutesOf_X4 rfl (k := 2) (by decide) (by decide +kernel) (heM_0 B g) (fun _ => rfl) dX4_minutesOf_1 ?_
  refine s_iload_n C rfl dX4_minutesOf_4 ?_
  refine s_iald C (heM_3 B g) dX4_minutesOf_5 ?_
  refine s_aload_n C rfl dX4_minutesOf_6 ?_
  refine s_get C inw_X4_minutesOf_X4 rfl (k := 2) (by decide) (by decide +kernel) (heM_0 B g) (fun _ => rfl) dX4_minutesOf_7 ?_
  refine s_iload_n C rfl dX4_minutesOf_10 ?_
  refine s_iald C (heM_3 B g) dX4_minutesOf_11 ?_
  refine s_isub C dX4_minutesOf_12 ?_
  refine s_istore_n C rfl (by decide) dX4_minutesOf_13 ?_
  refine s_iload_n C rfl dX4_minutesOf_14 ?_
  refine s_if_ge C (tgt := 23) (by decide) dX4_minutesOf_15 ?_ ?_
  · refine s_iload_n C rfl dX4_minutesOf_23 ?_
    exact s_X4_minutesOf_24 B g C R 
  · refine s_iload_n C rfl dX4_minutesOf_18 ?_
    refine s_ineg C dX4_minutesOf_19 ?_
    refine s_goto C (tgt := 24) (by decide) dX4_minutesOf_20 ?_
    exact s_X4_minutesOf_24 B g C R 
theorem k_X4_minutesOf (B : Bx) (g : Nat → Nat) : MtF (gx B) yX4_minutesOf wsX4_minutesOf (rmD 0) (encM B g) (F_X4_minutesOf g) := by
  refine cf_RII_i (fun l M x y h => Mt.of (by decide) rfl (Nat.le_of_ble_eq_true rfl) rfl (fun X C R => s_X4_minutesOf_0 B g C R) ?_)
  have h1 := ixB_v h.1 (by decide)
  have h2 := ixB_v h.2 (by decide)
  simp only [wIload, wAload, wLload, wK, wB, wDv, wU, wLB, wLU, wLS, wL2i, wLcmp, wIf1, wIf2, wKeep, wInc, wIst, wAst, wLst, wDup, wPop, wDup2, wGet, wPut, wPutZ, wIald, wLald, wIast, wLast, wLen, wRetI, wRetZ, wRetL, wRetA, wRetV, wM1, wM2, wCpy, wTab, tabW, nth, stL, stL2, dropL, keepL, mkL, padL, restOK, restOKn, tl_some, tl_none, id_eq, eq_self, true_and, and_true, bk_X4_minutesOf_24, bk_X4_minutesOf_0, h1, h2]
  grind [uMin]
def uCnt (M : MS) (k : Nat) : Bool := if mS 18 M = 2 then decide (mS 22 M - mA 12 M k < mS 19 M) else if mS 18 M = 3 then decide (mS 20 M ≤ mA 13 M k) else true
def F_X4_doesCount (g : Nat → Nat) : CF MS := cf_RI (g 30) (fun _ x => ixB 400 x) (fun M x => some (.int (b2i (uCnt M x.toNatClampNeg)))) (fun M _ => M)
theorem inw_X4_doesCount_X4 : ∀ w ∈ u_ws RX4 TX4 45, w ∈ wsX4_doesCount := by decide +kernel
def bk_X4_doesCount_60 (g : Nat → Nat) (Post : Option Value → MS → Prop)  (L : Lc) (st : List Value) (s : MS) : Prop :=
  (wRetZ Post) L st s
set_option maxRecDepth 20000 in
theorem s_X4_doesCount_60 {X : Cx} (B : Bx) (g : Nat → Nat) {Post : Option Value → MS → Prop} (C : OkX X (gx B) cX4_doesCount 2 wsX4_doesCount RX4 (rmD 0)) (R : RtX X (gx B) (some .boolean) (encM B g) Post)  : Snd X (gx B) 2 (encM B g) 60 (bk_X4_doesCount_60 g Post ) := by
  unfold bk_X4_doesCount_60
  exact s_zret C R dX4_doesCount_60
def bk_X4_doesCount_55 (g : Nat → Nat) (Post : Option Value → MS → Prop)  (L : Lc) (st : List Value) (s : MS) : Prop :=
  (wK (.int 1) <| bk_X4_doesCount_60 g Post ) L st s
set_option maxRecDepth 20000 in
theorem s_X4_doesCount_55 {X : Cx} (B : Bx) (g : Nat → Nat) {Post : Option Value → MS → Prop} (C : OkX X (gx B) cX4_doesCount 2 wsX4_doesCount RX4 (rmD 0)) (R : RtX X (gx B) (some .boolean) (encM B g) Post)  : Snd X (gx B) 2 (encM B g) 55 (bk_X4_doesCount_55 g Post ) := by
  unfold bk_X4_doesCount_55
  refine s_iconst C (by decide) dX4_doesCount_55 ?_
  refine s_goto C (tgt := 60) (by decide) dX4_doesCount_56 ?_
  exact s_X4_doesCount_60 B g C R 
def bk_X4_doesCount_0 (g : Nat → Nat) (Post : Option Value → MS → Prop)  (L : Lc) (st : List Value) (s : MS) : Prop :=
  (wAload 0 <| wGet (g 30) (fun s => .int (mS 18 s)) <| wK (.int 2) <| wIf2 (fun x y => x = y) (wAload 0 <| wGet (g 30) (fun s => .int (mS 22 s)) <| wAload 0 <| wGet (g 30) (fun _ => .ref (g 43)) <| wIload 1 <| wIald (g 43) 400 (mA 12) <| wB (fun x y => x - y) <| wAload 0 <| wGet (g 30) (fun s => .int (mS 19 s)) <| wIf2 (fun x y => y ≤ x) (wK (.int 0) <| bk_X4_doesCount_60 g Post ) (wK (.int 1) <| bk_X4_doesCount_60 g Post )) (wAload 0 <| wGet (g 30) (fun s => .int (mS 18 s)) <| wK (.int 3) <| wIf2 (fun x y => x = y) (wAload 0 <| wGet (g 30) (fun _ => .ref (g 44)) <| wIload 1 <| wIald (g 44) 400 (mA 13) <| wAload 0 <| wGet (g 30) (fun s => .int (mS 20 s)) <| wIf2 (fun x y => x < y) (wK (.int 0) <| bk_X4_doesCount_60 g Post ) (bk_X4_doesCount_55 g Post )) (bk_X4_doesCount_55 g Post ))) L st s
set_option maxRecDepth 20000 in
theorem s_X4_doesCount_0 {X : Cx} (B : Bx) (g : Nat → Nat) {Post : Option Value → MS → Prop} (C : OkX X (gx B) cX4_doesCount 2 wsX4_doesCount RX4 (rmD 0)) (R : RtX X (gx B) (some .boolean) (encM B g) Post)  : Snd X (gx B) 2 (encM B g) 0 (bk_X4_doesCount_0 g Post ) := by
  unfold bk_X4_doesCount_0
  refine s_aload_n C rfl dX4_doesCount_0 ?_
  refine s_get C inw_X4_doesCount_X4 rfl (k := 18) (by decide) (by decide +kernel) (heM_0 B g) (fun _ => rfl) dX4_doesCount_1 ?_
  refine s_iconst C (by decide) dX4_doesCount_4 ?_
  refine s_icmp_ne C (tgt := 34) (by decide) dX4_doesCount_5 ?_ ?_
  · refine s_aload_n C rfl dX4_doesCount_34 ?_
    refine s_get C inw_X4_doesCount_X4 rfl (k := 18) (by decide) (by decide +kernel) (heM_0 B g) (fun _ => rfl) dX4_doesCount_35 ?_
    refine s_iconst C (by decide) dX4_doesCount_38 ?_
    refine s_icmp_ne C (tgt := 55) (by decide) dX4_doesCount_39 ?_ ?_
    · exact s_X4_doesCount_55 B g C R 
    · refine s_aload_n C rfl dX4_doesCount_42 ?_
      refine s_get C inw_X4_doesCount_X4 rfl (k := 13) (by decide) (by decide +kernel) (heM_0 B g) (fun _ => rfl) dX4_doesCount_43 ?_
      refine s_iload_n C rfl dX4_doesCount_46 ?_
      refine s_iald C (heM_14 B g) dX4_doesCount_47 ?_
      refine s_aload_n C rfl dX4_doesCount_48 ?_
      refine s_get C inw_X4_doesCount_X4 rfl (k := 20) (by decide) (by decide +kernel) (heM_0 B g) (fun _ => rfl) dX4_doesCount_49 ?_
      refine s_icmp_lt C (tgt := 59) (by decide) dX4_doesCount_52 ?_ ?_
      · refine s_iconst C (by decide) dX4_doesCount_59 ?_
        exact s_X4_doesCount_60 B g C R 
      · exact s_X4_doesCount_55 B g C R 
  · refine s_aload_n C rfl dX4_doesCount_8 ?_
    refine s_get C inw_X4_doesCount_X4 rfl (k := 22) (by decide) (by decide +kernel) (heM_0 B g) (fun _ => rfl) dX4_doesCount_9 ?_
    refine s_aload_n C rfl dX4_doesCount_12 ?_
    refine s_get C inw_X4_doesCount_X4 rfl (k := 12) (by decide) (by decide +kernel) (heM_0 B g) (fun _ => rfl) dX4_doesCount_13 ?_
    refine s_iload_n C rfl dX4_doesCount_16 ?_
    refine s_iald C (heM_13 B g) dX4_doesCount_17 ?_
    refine s_isub C dX4_doesCount_18 ?_
    refine s_aload_n C rfl dX4_doesCount_19 ?_
    refine s_get C inw_X4_doesCount_X4 rfl (k := 19) (by decide) (by decide +kernel) (heM_0 B g) (fun _ => rfl) dX4_doesCount_20 ?_
    refine s_icmp_ge C (tgt := 30) (by decide) dX4_doesCount_23 ?_ ?_
    · refine s_iconst C (by decide) dX4_doesCount_30 ?_
      refine s_goto C (tgt := 60) (by decide) dX4_doesCount_31 ?_
      exact s_X4_doesCount_60 B g C R 
    · refine s_iconst C (by decide) dX4_doesCount_26 ?_
      refine s_goto C (tgt := 60) (by decide) dX4_doesCount_27 ?_
      exact s_X4_doesCount_60 B g C R 
theorem k_X4_doesCount (B : Bx) (g : Nat → Nat) : MtF (gx B) yX4_doesCount wsX4_doesCount (rmD 0) (encM B g) (F_X4_doesCount g) := by
  refine cf_RI_i (fun l M x h => Mt.of (by decide) rfl (Nat.le_of_ble_eq_true rfl) rfl (fun X C R => s_X4_doesCount_0 B g C R) ?_)
  have h1 := ixB_v h (by decide)
  simp only [wIload, wAload, wLload, wK, wB, wDv, wU, wLB, wLU, wLS, wL2i, wLcmp, wIf1, wIf2, wKeep, wInc, wIst, wAst, wLst, wDup, wPop, wDup2, wGet, wPut, wPutZ, wIald, wLald, wIast, wLast, wLen, wRetI, wRetZ, wRetL, wRetA, wRetV, wM1, wM2, wCpy, wTab, tabW, nth, stL, stL2, dropL, keepL, mkL, padL, restOK, restOKn, tl_some, tl_none, id_eq, eq_self, true_and, and_true, bk_X4_doesCount_60, bk_X4_doesCount_55, bk_X4_doesCount_0, h1]
  grind [uCnt, b2i]
def uOpen (M : MS) (n : Nat) : Bool := decide (mA 8 M n = mS 22 M) && decide (mA 9 M n < mA 7 M n)
def F_X4_isOpen (g : Nat → Nat) : CF MS := cf_RI (g 30) (fun _ x => ixB 13 x) (fun M x => some (.int (b2i (uOpen M x.toNatClampNeg)))) (fun M _ => M)
theorem inw_X4_isOpen_X4 : ∀ w ∈ u_ws RX4 TX4 45, w ∈ wsX4_isOpen := by decide +kernel
def bk_X4_isOpen_33 (g : Nat → Nat) (Post : Option Value → MS → Prop)  (L : Lc) (st : List Value) (s : MS) : Prop :=
  (wRetZ Post) L st s
set_option maxRecDepth 20000 in
theorem s_X4_isOpen_33 {X : Cx} (B : Bx) (g : Nat → Nat) {Post : Option Value → MS → Prop} (C : OkX X (gx B) cX4_isOpen 2 wsX4_isOpen RX4 (rmD 0)) (R : RtX X (gx B) (some .boolean) (encM B g) Post)  : Snd X (gx B) 2 (encM B g) 33 (bk_X4_isOpen_33 g Post ) := by
  unfold bk_X4_isOpen_33
  exact s_zret C R dX4_isOpen_33
def bk_X4_isOpen_32 (g : Nat → Nat) (Post : Option Value → MS → Prop)  (L : Lc) (st : List Value) (s : MS) : Prop :=
  (wK (.int 0) <| bk_X4_isOpen_33 g Post ) L st s
set_option maxRecDepth 20000 in
theorem s_X4_isOpen_32 {X : Cx} (B : Bx) (g : Nat → Nat) {Post : Option Value → MS → Prop} (C : OkX X (gx B) cX4_isOpen 2 wsX4_isOpen RX4 (rmD 0)) (R : RtX X (gx B) (some .boolean) (encM B g) Post)  : Snd X (gx B) 2 (encM B g) 32 (bk_X4_isOpen_32 g Post ) := by
  unfold bk_X4_isOpen_32
  refine s_iconst C (by decide) dX4_isOpen_32 ?_
  exact s_X4_isOpen_33 B g C R 
def bk_X4_isOpen_0 (g : Nat → Nat) (Post : Option Value → MS → Prop)  (L : Lc) (st : List Value) (s : MS) : Prop :=
  (wAload 0 <| wGet (g 30) (fun _ => .ref (g 39)) <| wIload 1 <| wIald (g 39) 13 (mA 8) <| wAload 0 <| wGet (g 30) (fun s => .int (mS 22 s)) <| wIf2 (fun x y => x = y) (wAload 0 <| wGet (g 30) (fun _ => .ref (g 40)) <| wIload 1 <| wIald (g 40) 13 (mA 9) <| wAload 0 <| wGet (g 30) (fun _ => .ref (g 38)) <| wIload 1 <| wIald (g 38) 13 (mA 7) <| wIf2 (fun x y => y ≤ x) (bk_X4_isOpen_32 g Post ) (wK (.int 1) <| bk_X4_isOpen_33 g Post )) (bk_X4_isOpen_32 g Post )) L st s
set_option maxRecDepth 20000 in
theorem s_X4_isOpen_0 {X : Cx} (B : Bx) (g : Nat → Nat) {Post : Option Value → MS → Prop} (C : OkX X (gx B) cX4_isOpen 2 wsX4_isOpen RX4 (rmD 0)) (R : RtX X (gx B) (some .boolean) (encM B g) Post)  : Snd X (gx B) 2 (encM B g) 0 (bk_X4_isOpen_0 g Post ) := by
  unfold bk_X4_isOpen_0
  refine s_aload_n C rfl dX4_isOpen_0 ?_
  refine s_get C inw_X4_isOpen_X4 rfl (k := 8) (by decide) (by decide +kernel) (heM_0 B g) (fun _ => rfl) dX4_isOpen_1 ?_
  refine s_iload_n C rfl dX4_isOpen_4 ?_
  refine s_iald C (heM_9 B g) dX4_isOpen_5 ?_
  refine s_aload_n C rfl dX4_isOpen_6 ?_
  refine s_get C inw_X4_isOpen_X4 rfl (k := 22) (by decide) (by decide +kernel) (heM_0 B g) (fun _ => rfl) dX4_isOpen_7 ?_
  refine s_icmp_ne C (tgt := 32) (by decide) dX4_isOpen_10 ?_ ?_
  · exact s_X4_isOpen_32 B g C R 
  · refine s_aload_n C rfl dX4_isOpen_13 ?_
    refine s_get C inw_X4_isOpen_X4 rfl (k := 9) (by decide) (by decide +kernel) (heM_0 B g) (fun _ => rfl) dX4_isOpen_14 ?_
    refine s_iload_n C rfl dX4_isOpen_17 ?_
    refine s_iald C (heM_10 B g) dX4_isOpen_18 ?_
    refine s_aload_n C rfl dX4_isOpen_19 ?_
    refine s_get C inw_X4_isOpen_X4 rfl (k := 7) (by decide) (by decide +kernel) (heM_0 B g) (fun _ => rfl) dX4_isOpen_20 ?_
    refine s_iload_n C rfl dX4_isOpen_23 ?_
    refine s_iald C (heM_8 B g) dX4_isOpen_24 ?_
    refine s_icmp_ge C (tgt := 32) (by decide) dX4_isOpen_25 ?_ ?_
    · exact s_X4_isOpen_32 B g C R 
    · refine s_iconst C (by decide) dX4_isOpen_28 ?_
      refine s_goto C (tgt := 33) (by decide) dX4_isOpen_29 ?_
      exact s_X4_isOpen_33 B g C R 
theorem k_X4_isOpen (B : Bx) (g : Nat → Nat) : MtF (gx B) yX4_isOpen wsX4_isOpen (rmD 0) (encM B g) (F_X4_isOpen g) := by
  refine cf_RI_i (fun l M x h => Mt.of (by decide) rfl (Nat.le_of_ble_eq_true rfl) rfl (fun X C R => s_X4_isOpen_0 B g C R) ?_)
  have h1 := ixB_v h (by decide)
  simp only [wIload, wAload, wLload, wK, wB, wDv, wU, wLB, wLU, wLS, wL2i, wLcmp, wIf1, wIf2, wKeep, wInc, wIst, wAst, wLst, wDup, wPop, wDup2, wGet, wPut, wPutZ, wIald, wLald, wIast, wLast, wLen, wRetI, wRetZ, wRetL, wRetA, wRetV, wM1, wM2, wCpy, wTab, tabW, nth, stL, stL2, dropL, keepL, mkL, padL, restOK, restOKn, tl_some, tl_none, id_eq, eq_self, true_and, and_true, bk_X4_isOpen_33, bk_X4_isOpen_32, bk_X4_isOpen_0, h1]
  grind [uOpen, b2i]
def uHelps (M : MS) : Nat := (mS 17 M).toNatClampNeg
def hpB (n : Nat) (M : MS) : Prop := ∃ H, H ≤ n ∧ mS 17 M = nI H
theorem hpB_c {n : Nat} {M : MS} (h : hpB n M) (hn : n < 2 ^ 31) : mS 17 M = nI (uHelps M) ∧ uHelps M ≤ n := by
  obtain ⟨H, h1, h2⟩ := h
  unfold uHelps
  rw [h2, nI_clamp (by omega)]
  exact ⟨rfl, h1⟩
def uHit (M : MS) (p q : Int32) (k : Nat) : Bool := ((decide (mA 10 M k = p) && decide (mA 11 M k = q)) || (decide (mA 10 M k = q) && (decide (mA 11 M k = p) && !decide (mS 18 M = 1)))) && uCnt M k
def uSpent (M : MS) (p q : Int32) : Bool := !decide (mA 1 M p.toNatClampNeg = 4) && (List.range (uHelps M)).any (fun k => uHit M p q k)
def F_X4_isSpent (g : Nat → Nat) : CF MS := cf_RII (g 30) (fun M x _ => ixB 7 x ∧ hpB 400 M) (fun M p q => some (.int (b2i (uSpent M p q)))) (fun M _ _ => M)
theorem inw_X4_isSpent_X4 : ∀ w ∈ u_ws RX4 TX4 45, w ∈ wsX4_isSpent := by decide +kernel
def bk_X4_isSpent_0 (g : Nat → Nat) (Post : Option Value → MS → Prop) (K14 : PT MS) (L : Lc) (st : List Value) (s : MS) : Prop :=
  (wAload 0 <| wGet (g 30) (fun _ => .ref (g 32)) <| wIload 1 <| wIald (g 32) 7 (mA 1) <| wK (.int 4) <| wIf2 (fun x y => x = y) (wK (.int 0) <| wRetZ Post) (wK (.int 0) <| wIst 3 <| wKeep [true, true, true, true, false, false] K14)) L st s
set_option maxRecDepth 20000 in
theorem s_X4_isSpent_0 {X : Cx} (B : Bx) (g : Nat → Nat) {Post : Option Value → MS → Prop} (C : OkX X (gx B) cX4_isSpent 6 wsX4_isSpent RX4 (rmD 1)) (R : RtX X (gx B) (some .boolean) (encM B g) Post) {K14 : PT MS} (hK14 : Snd X (gx B) 6 (encM B g) 14 K14) : Snd X (gx B) 6 (encM B g) 0 (bk_X4_isSpent_0 g Post K14) := by
  unfold bk_X4_isSpent_0
  refine s_aload_n C rfl dX4_isSpent_0 ?_
  refine s_get C inw_X4_isSpent_X4 rfl (k := 1) (by decide) (by decide +kernel) (heM_0 B g) (fun _ => rfl) dX4_isSpent_1 ?_
  refine s_iload_n C rfl dX4_isSpent_4 ?_
  refine s_iald C (heM_2 B g) dX4_isSpent_5 ?_
  refine s_iconst C (by decide) dX4_isSpent_6 ?_
  refine s_icmp_ne C (tgt := 12) (by decide) dX4_isSpent_7 ?_ ?_
  · refine s_iconst C (by decide) dX4_isSpent_12 ?_
    refine s_istore_n C rfl (by decide) dX4_isSpent_13 ?_
    exact s_keep _ hK14
  · refine s_iconst C (by decide) dX4_isSpent_10 ?_
    exact s_zret C R dX4_isSpent_11
def bk_X4_isSpent_104 (g : Nat → Nat) (Post : Option Value → MS → Prop) (K14 : PT MS) (L : Lc) (st : List Value) (s : MS) : Prop :=
  (wInc 3 1 <| wKeep [true, true, true, true, false, false] K14) L st s
set_option maxRecDepth 20000 in
theorem s_X4_isSpent_104 {X : Cx} (B : Bx) (g : Nat → Nat) {Post : Option Value → MS → Prop} (C : OkX X (gx B) cX4_isSpent 6 wsX4_isSpent RX4 (rmD 1)) (R : RtX X (gx B) (some .boolean) (encM B g) Post) {K14 : PT MS} (hK14 : Snd X (gx B) 6 (encM B g) 14 K14) : Snd X (gx B) 6 (encM B g) 104 (bk_X4_isSpent_104 g Post K14) := by
  unfold bk_X4_isSpent_104
  refine s_iinc C (by decide) (by decide) dX4_isSpent_104 ?_
  refine s_goto C (tgt := 14) (by decide) dX4_isSpent_107 ?_
  exact s_keep _ hK14
def bk_X4_isSpent_94 (g : Nat → Nat) (Post : Option Value → MS → Prop) (K14 : PT MS) (L : Lc) (st : List Value) (s : MS) : Prop :=
  (wAload 0 <| wIload 3 <| wCallR 2 (F_X4_doesCount g) id (fun _ u => u) <| wIf1 (fun x => x = 0) (bk_X4_isSpent_104 g Post K14) (wK (.int 1) <| wRetZ Post)) L st s
set_option maxRecDepth 20000 in
theorem s_X4_isSpent_94 {X : Cx} (B : Bx) (g : Nat → Nat) {Post : Option Value → MS → Prop} (C : OkX X (gx B) cX4_isSpent 6 wsX4_isSpent RX4 (rmD 1)) (R : RtX X (gx B) (some .boolean) (encM B g) Post) {K14 : PT MS} (hK14 : Snd X (gx B) 6 (encM B g) 14 K14) : Snd X (gx B) 6 (encM B g) 94 (bk_X4_isSpent_94 g Post K14) := by
  unfold bk_X4_isSpent_94
  refine s_aload_n C rfl dX4_isSpent_94 ?_
  refine s_iload_n C rfl dX4_isSpent_95 ?_
  refine s_callV C (fr_M_M B g) (k_X4_doesCount B g) gX4_isSpent_X4_doesCount rfl (by decide +kernel) ⟨rfl, rfl⟩ (by decide) rfl (fun s => ⟨_, heM_0 B g s⟩) (cf_RI_r _ _ _ _) dX4_isSpent_96 ?_
  refine s_if_eq C (tgt := 104) (by decide) dX4_isSpent_99 ?_ ?_
  · exact s_X4_isSpent_104 B g C R hK14
  · refine s_iconst C (by decide) dX4_isSpent_102 ?_
    exact s_zret C R dX4_isSpent_103
def bk_X4_isSpent_82 (g : Nat → Nat) (Post : Option Value → MS → Prop) (K14 : PT MS) (L : Lc) (st : List Value) (s : MS) : Prop :=
  (wIst 5 <| wIload 4 <| wIf1 (fun x => x = 0) (wIload 5 <| wIf1 (fun x => x = 0) (bk_X4_isSpent_104 g Post K14) (bk_X4_isSpent_94 g Post K14)) (bk_X4_isSpent_94 g Post K14)) L st s
set_option maxRecDepth 20000 in
theorem s_X4_isSpent_82 {X : Cx} (B : Bx) (g : Nat → Nat) {Post : Option Value → MS → Prop} (C : OkX X (gx B) cX4_isSpent 6 wsX4_isSpent RX4 (rmD 1)) (R : RtX X (gx B) (some .boolean) (encM B g) Post) {K14 : PT MS} (hK14 : Snd X (gx B) 6 (encM B g) 14 K14) : Snd X (gx B) 6 (encM B g) 82 (bk_X4_isSpent_82 g Post K14) := by
  unfold bk_X4_isSpent_82
  refine s_istore C (by decide) dX4_isSpent_82 ?_
  refine s_iload C dX4_isSpent_84 ?_
  refine s_if_ne C (tgt := 94) (by decide) dX4_isSpent_86 ?_ ?_
  · exact s_X4_isSpent_94 B g C R hK14
  · refine s_iload C dX4_isSpent_89 ?_
    refine s_if_eq C (tgt := 104) (by decide) dX4_isSpent_91 ?_ ?_
    · exact s_X4_isSpent_104 B g C R hK14
    · exact s_X4_isSpent_94 B g C R hK14
def bk_X4_isSpent_81 (g : Nat → Nat) (Post : Option Value → MS → Prop) (K14 : PT MS) (L : Lc) (st : List Value) (s : MS) : Prop :=
  (wK (.int 0) <| bk_X4_isSpent_82 g Post K14) L st s
set_option maxRecDepth 20000 in
theorem s_X4_isSpent_81 {X : Cx} (B : Bx) (g : Nat → Nat) {Post : Option Value → MS → Prop} (C : OkX X (gx B) cX4_isSpent 6 wsX4_isSpent RX4 (rmD 1)) (R : RtX X (gx B) (some .boolean) (encM B g) Post) {K14 : PT MS} (hK14 : Snd X (gx B) 6 (encM B g) 14 K14) : Snd X (gx B) 6 (encM B g) 81 (bk_X4_isSpent_81 g Post K14) := by
  unfold bk_X4_isSpent_81
  refine s_iconst C (by decide) dX4_isSpent_81 ?_
  exact s_X4_isSpent_82 B g C R hK14
def bk_X4_isSpent_47 (g : Nat → Nat) (Post : Option Value → MS → Prop) (K14 : PT MS) (L : Lc) (st : List Value) (s : MS) : Prop :=
  (wIst 4 <| wAload 0 <| wGet (g 30) (fun _ => .ref (g 41)) <| wIload 3 <| wIald (g 41) 400 (mA 10) <| wIload 2 <| wIf2 (fun x y => x = y) (wAload 0 <| wGet (g 30) (fun _ => .ref (g 42)) <| wIload 3 <| wIald (g 42) 400 (mA 11) <| wIload 1 <| wIf2 (fun x y => x = y) (wAload 0 <| wGet (g 30) (fun s => .int (mS 18 s)) <| wK (.int 1) <| wIf2 (fun x y => x = y) (bk_X4_isSpent_81 g Post K14) (wK (.int 1) <| bk_X4_isSpent_82 g Post K14)) (bk_X4_isSpent_81 g Post K14)) (bk_X4_isSpent_81 g Post K14)) L st s
set_option maxRecDepth 20000 in
theorem s_X4_isSpent_47 {X : Cx} (B : Bx) (g : Nat → Nat) {Post : Option Value → MS → Prop} (C : OkX X (gx B) cX4_isSpent 6 wsX4_isSpent RX4 (rmD 1)) (R : RtX X (gx B) (some .boolean) (encM B g) Post) {K14 : PT MS} (hK14 : Snd X (gx B) 6 (encM B g) 14 K14) : Snd X (gx B) 6 (encM B g) 47 (bk_X4_isSpent_47 g Post K14) := by
  unfold bk_X4_isSpent_47
  refine s_istore C (by decide) dX4_isSpent_47 ?_
  refine s_aload_n C rfl dX4_isSpent_49 ?_
  refine s_get C inw_X4_isSpent_X4 rfl (k := 10) (by decide) (by decide +kernel) (heM_0 B g) (fun _ => rfl) dX4_isSpent_50 ?_
  refine s_iload_n C rfl dX4_isSpent_53 ?_
  refine s_iald C (heM_11 B g) dX4_isSpent_54 ?_
  refine s_iload_n C rfl dX4_isSpent_55 ?_
  refine s_icmp_ne C (tgt := 81) (by decide) dX4_isSpent_56 ?_ ?_
  · exact s_X4_isSpent_81 B g C R hK14
  · refine s_aload_n C rfl dX4_isSpent_59 ?_
    refine s_get C inw_X4_isSpent_X4 rfl (k := 11) (by decide) (by decide +kernel) (heM_0 B g) (fun _ => rfl) dX4_isSpent_60 ?_
    refine s_iload_n C rfl dX4_isSpent_63 ?_
    refine s_iald C (heM_12 B g) dX4_isSpent_64 ?_
    refine s_iload_n C rfl dX4_isSpent_65 ?_
    refine s_icmp_ne C (tgt := 81) (by decide) dX4_isSpent_66 ?_ ?_
    · exact s_X4_isSpent_81 B g C R hK14
    · refine s_aload_n C rfl dX4_isSpent_69 ?_
      refine s_get C inw_X4_isSpent_X4 rfl (k := 18) (by decide) (by decide +kernel) (heM_0 B g) (fun _ => rfl) dX4_isSpent_70 ?_
      refine s_iconst C (by decide) dX4_isSpent_73 ?_
      refine s_icmp_eq C (tgt := 81) (by decide) dX4_isSpent_74 ?_ ?_
      · exact s_X4_isSpent_81 B g C R hK14
      · refine s_iconst C (by decide) dX4_isSpent_77 ?_
        refine s_goto C (tgt := 82) (by decide) dX4_isSpent_78 ?_
        exact s_X4_isSpent_82 B g C R hK14
def bk_X4_isSpent_46 (g : Nat → Nat) (Post : Option Value → MS → Prop) (K14 : PT MS) (L : Lc) (st : List Value) (s : MS) : Prop :=
  (wK (.int 0) <| bk_X4_isSpent_47 g Post K14) L st s
set_option maxRecDepth 20000 in
theorem s_X4_isSpent_46 {X : Cx} (B : Bx) (g : Nat → Nat) {Post : Option Value → MS → Prop} (C : OkX X (gx B) cX4_isSpent 6 wsX4_isSpent RX4 (rmD 1)) (R : RtX X (gx B) (some .boolean) (encM B g) Post) {K14 : PT MS} (hK14 : Snd X (gx B) 6 (encM B g) 14 K14) : Snd X (gx B) 6 (encM B g) 46 (bk_X4_isSpent_46 g Post K14) := by
  unfold bk_X4_isSpent_46
  refine s_iconst C (by decide) dX4_isSpent_46 ?_
  exact s_X4_isSpent_47 B g C R hK14
def bk_X4_isSpent_14 (g : Nat → Nat) (Post : Option Value → MS → Prop) (K14 : PT MS) (L : Lc) (st : List Value) (s : MS) : Prop :=
  (wIload 3 <| wAload 0 <| wGet (g 30) (fun s => .int (mS 17 s)) <| wIf2 (fun x y => y ≤ x) (wK (.int 0) <| wRetZ Post) (wAload 0 <| wGet (g 30) (fun _ => .ref (g 41)) <| wIload 3 <| wIald (g 41) 400 (mA 10) <| wIload 1 <| wIf2 (fun x y => x = y) (wAload 0 <| wGet (g 30) (fun _ => .ref (g 42)) <| wIload 3 <| wIald (g 42) 400 (mA 11) <| wIload 2 <| wIf2 (fun x y => x = y) (wK (.int 1) <| bk_X4_isSpent_47 g Post K14) (bk_X4_isSpent_46 g Post K14)) (bk_X4_isSpent_46 g Post K14))) L st s
set_option maxRecDepth 20000 in
theorem s_X4_isSpent_14 {X : Cx} (B : Bx) (g : Nat → Nat) {Post : Option Value → MS → Prop} (C : OkX X (gx B) cX4_isSpent 6 wsX4_isSpent RX4 (rmD 1)) (R : RtX X (gx B) (some .boolean) (encM B g) Post) {K14 : PT MS} (hK14 : Snd X (gx B) 6 (encM B g) 14 K14) : Snd X (gx B) 6 (encM B g) 14 (bk_X4_isSpent_14 g Post K14) := by
  unfold bk_X4_isSpent_14
  refine s_iload_n C rfl dX4_isSpent_14 ?_
  refine s_aload_n C rfl dX4_isSpent_15 ?_
  refine s_get C inw_X4_isSpent_X4 rfl (k := 17) (by decide) (by decide +kernel) (heM_0 B g) (fun _ => rfl) dX4_isSpent_16 ?_
  refine s_icmp_ge C (tgt := 110) (by decide) dX4_isSpent_19 ?_ ?_
  · refine s_iconst C (by decide) dX4_isSpent_110 ?_
    exact s_zret C R dX4_isSpent_111
  · refine s_aload_n C rfl dX4_isSpent_22 ?_
    refine s_get C inw_X4_isSpent_X4 rfl (k := 10) (by decide) (by decide +kernel) (heM_0 B g) (fun _ => rfl) dX4_isSpent_23 ?_
    refine s_iload_n C rfl dX4_isSpent_26 ?_
    refine s_iald C (heM_11 B g) dX4_isSpent_27 ?_
    refine s_iload_n C rfl dX4_isSpent_28 ?_
    refine s_icmp_ne C (tgt := 46) (by decide) dX4_isSpent_29 ?_ ?_
    · exact s_X4_isSpent_46 B g C R hK14
    · refine s_aload_n C rfl dX4_isSpent_32 ?_
      refine s_get C inw_X4_isSpent_X4 rfl (k := 11) (by decide) (by decide +kernel) (heM_0 B g) (fun _ => rfl) dX4_isSpent_33 ?_
      refine s_iload_n C rfl dX4_isSpent_36 ?_
      refine s_iald C (heM_12 B g) dX4_isSpent_37 ?_
      refine s_iload_n C rfl dX4_isSpent_38 ?_
      refine s_icmp_ne C (tgt := 46) (by decide) dX4_isSpent_39 ?_ ?_
      · exact s_X4_isSpent_46 B g C R hK14
      · refine s_iconst C (by decide) dX4_isSpent_42 ?_
        refine s_goto C (tgt := 47) (by decide) dX4_isSpent_43 ?_
        exact s_X4_isSpent_47 B g C R hK14
def I_mSpent (g : Nat → Nat) (M : MS) (p q : Int32) (n : Nat) (L : Lc) (st : List Value) (s : MS) : Prop := ∃ k, n + k = uHelps M ∧ st = [] ∧ s = M ∧ L = [some (.ref (g 30)), some (.int p), some (.int q), some (.int (nI k)), none, none] ∧ (¬ mA 1 M p.toNatClampNeg = 4) ∧ ∀ j, j < k → uHit M p q j = false
theorem k_X4_isSpent (B : Bx) (g : Nat → Nat) : MtF (gx B) yX4_isSpent wsX4_isSpent (rmD 1) (encM B g) (F_X4_isSpent g) := by
  refine cf_RII_i (fun l M p q h => Mt.of (P := bk_X4_isSpent_0 g (fun o u => o = some (.int (b2i (uSpent M p q))) ∧ u = M) (fun L st s => ∃ n, I_mSpent g M p q n L st s)) (by decide) rfl (Nat.le_of_ble_eq_true rfl) rfl (fun X C R => s_X4_isSpent_0 B g C R (snd_loop _ (I_mSpent g M p q) (fun K hK => s_X4_isSpent_14 B g C R hK) ?_)) ?_)
  · rintro K n L st M' ⟨k, hk, rfl, rfl, rfl, hG, hh⟩ hK
    obtain ⟨e1, e2⟩ := hpB_c h.2 (by decide)
    simp only [wIload, wAload, wLload, wK, wB, wDv, wU, wLB, wLU, wLS, wL2i, wLcmp, wIf1, wIf2, wKeep, wInc, wIst, wAst, wLst, wDup, wPop, wDup2, wGet, wPut, wPutZ, wIald, wLald, wIast, wLast, wLen, wRetI, wRetZ, wRetL, wRetA, wRetV, wM1, wM2, wCpy, wTab, tabW, nth, stL, stL2, dropL, keepL, mkL, padL, restOK, restOKn, tl_some, tl_none, id_eq, eq_self, true_and, and_true, bk_X4_isSpent_0, bk_X4_isSpent_104, bk_X4_isSpent_94, bk_X4_isSpent_82, bk_X4_isSpent_81, bk_X4_isSpent_47, bk_X4_isSpent_46, bk_X4_isSpent_14, F_X4_doesCount, cf_RI_e, mS_S, mA_A, mS_A, mA_S, mS_a, mA_a, Nat.reduceEqDiff, reduceIte]
    rw [e1]
    rcases Nat.lt_or_ge k (uHelps M') with hlt | hge
    · have h1 : ¬ nI (uHelps M') ≤ nI k := nI_ge (a := k) (b := uHelps M') hlt (by omega)
      have c0 : (nI k).toNatClampNeg = k := nI_clamp (by omega)
      have w0 : vp_in (nI k) 400 := vp_in_nI (by omega) (by decide)
      have w5 : ixB 400 (nI k) := ⟨k, by omega, rfl⟩
      have hc : uHit M' p q k = false → K [some (.ref (g 30)), some (.int p), some (.int q), some (.int (nI k + 1)), none, none] [] M' := fun h => hK (n - 1) _ _ _ (by omega) ⟨k + 1, by omega, rfl, rfl, by rw [nI_1], hG, fun j hj => by rcases Nat.lt_succ_iff_lt_or_eq.mp hj with h' | rfl; exact hh j h'; exact h⟩
      have ht : uHit M' p q k = true → uSpent M' p q = true := fun h => by
        unfold uSpent
        rw [Bool.and_eq_true, List.any_eq_true]
        exact ⟨by simpa using hG, k, List.mem_range.mpr hlt, h⟩
      simp only [h1, c0, w0, w5, b2i_eq0, false_implies, true_implies, not_true_eq_false, not_false_eq_true, true_and, and_true, implies_true, eq_self, ne_eq, true_or, or_true, false_or, or_false, and_self]
      unfold uHit at hc ht
      repeat' first | refine And.intro ?_ ?_ | intro _
      all_goals grind [b2i]
    · have hex : uSpent M' p q = false := by
        unfold uSpent
        rw [Bool.and_eq_false_iff]
        refine Or.inr ?_
        rw [List.any_eq_false]
        exact fun j hj => by simp [hh j (by have := List.mem_range.mp hj; omega)]
      have hx : nI (uHelps M') ≤ nI k := nI_le hge (by omega)
      simp only [hx, hex, false_implies, true_implies, not_true_eq_false, not_false_eq_true, true_and, and_true, implies_true, eq_self, ne_eq, true_or, or_true, false_or, or_false, and_self]
      exact rfl
  · have hv := ixB_v h.1 (by decide)
    simp only [wIload, wAload, wLload, wK, wB, wDv, wU, wLB, wLU, wLS, wL2i, wLcmp, wIf1, wIf2, wKeep, wInc, wIst, wAst, wLst, wDup, wPop, wDup2, wGet, wPut, wPutZ, wIald, wLald, wIast, wLast, wLen, wRetI, wRetZ, wRetL, wRetA, wRetV, wM1, wM2, wCpy, wTab, tabW, nth, stL, stL2, dropL, keepL, mkL, padL, restOK, restOKn, tl_some, tl_none, id_eq, eq_self, true_and, and_true, bk_X4_isSpent_0, bk_X4_isSpent_104, bk_X4_isSpent_94, bk_X4_isSpent_82, bk_X4_isSpent_81, bk_X4_isSpent_47, bk_X4_isSpent_46, bk_X4_isSpent_14, F_X4_doesCount, cf_RI_e, hv]
    have hx : mA 1 M p.toNatClampNeg = 4 → uSpent M p q = false := fun h => by simp [uSpent, h]
    have hi : ¬ mA 1 M p.toNatClampNeg = 4 → ∃ n, I_mSpent g M p q n [some (.ref (g 30)), some (.int p), some (.int q), some (.int 0), none, none] [] M := fun h => ⟨uHelps M, 0, by omega, rfl, rfl, rfl, h, fun j hj => absurd hj (Nat.not_lt_zero j)⟩
    grind [b2i]
def uMay (M : MS) (p q : Int32) : Bool := !decide (p = q) && ((!decide (mA 1 M p.toNatClampNeg = 6) || decide (uMin M p.toNatClampNeg q.toNatClampNeg ≤ 20)) && !uSpent M p q)
def F_X4_mayHelp (g : Nat → Nat) : CF MS := cf_RII (g 30) (fun M x y => ixB 7 x ∧ ixB 7 y ∧ hpB 400 M) (fun M p q => some (.int (b2i (uMay M p q)))) (fun M _ _ => M)
theorem inw_X4_mayHelp_X4 : ∀ w ∈ u_ws RX4 TX4 45, w ∈ wsX4_mayHelp := by decide +kernel
def bk_X4_mayHelp_41 (g : Nat → Nat) (Post : Option Value → MS → Prop)  (L : Lc) (st : List Value) (s : MS) : Prop :=
  (wRetZ Post) L st s
set_option maxRecDepth 20000 in
theorem s_X4_mayHelp_41 {X : Cx} (B : Bx) (g : Nat → Nat) {Post : Option Value → MS → Prop} (C : OkX X (gx B) cX4_mayHelp 3 wsX4_mayHelp RX4 (rmD 2)) (R : RtX X (gx B) (some .boolean) (encM B g) Post)  : Snd X (gx B) 3 (encM B g) 41 (bk_X4_mayHelp_41 g Post ) := by
  unfold bk_X4_mayHelp_41
  exact s_zret C R dX4_mayHelp_41
def bk_X4_mayHelp_40 (g : Nat → Nat) (Post : Option Value → MS → Prop)  (L : Lc) (st : List Value) (s : MS) : Prop :=
  (wK (.int 0) <| bk_X4_mayHelp_41 g Post ) L st s
set_option maxRecDepth 20000 in
theorem s_X4_mayHelp_40 {X : Cx} (B : Bx) (g : Nat → Nat) {Post : Option Value → MS → Prop} (C : OkX X (gx B) cX4_mayHelp 3 wsX4_mayHelp RX4 (rmD 2)) (R : RtX X (gx B) (some .boolean) (encM B g) Post)  : Snd X (gx B) 3 (encM B g) 40 (bk_X4_mayHelp_40 g Post ) := by
  unfold bk_X4_mayHelp_40
  refine s_iconst C (by decide) dX4_mayHelp_40 ?_
  exact s_X4_mayHelp_41 B g C R 
def bk_X4_mayHelp_27 (g : Nat → Nat) (Post : Option Value → MS → Prop)  (L : Lc) (st : List Value) (s : MS) : Prop :=
  (wAload 0 <| wIload 1 <| wIload 2 <| wCallR 3 (F_X4_isSpent g) id (fun _ u => u) <| wIf1 (fun x => x = 0) (wK (.int 1) <| bk_X4_mayHelp_41 g Post ) (bk_X4_mayHelp_40 g Post )) L st s
set_option maxRecDepth 20000 in
theorem s_X4_mayHelp_27 {X : Cx} (B : Bx) (g : Nat → Nat) {Post : Option Value → MS → Prop} (C : OkX X (gx B) cX4_mayHelp 3 wsX4_mayHelp RX4 (rmD 2)) (R : RtX X (gx B) (some .boolean) (encM B g) Post)  : Snd X (gx B) 3 (encM B g) 27 (bk_X4_mayHelp_27 g Post ) := by
  unfold bk_X4_mayHelp_27
  refine s_aload_n C rfl dX4_mayHelp_27 ?_
  refine s_iload_n C rfl dX4_mayHelp_28 ?_
  refine s_iload_n C rfl dX4_mayHelp_29 ?_
  refine s_callV C (fr_M_M B g) (k_X4_isSpent B g) gX4_mayHelp_X4_isSpent rfl (by decide +kernel) ⟨rfl, rfl⟩ (by decide) rfl (fun s => ⟨_, heM_0 B g s⟩) (cf_RII_r _ _ _ _) dX4_mayHelp_30 ?_
  refine s_if_ne C (tgt := 40) (by decide) dX4_mayHelp_33 ?_ ?_
  · exact s_X4_mayHelp_40 B g C R 
  · refine s_iconst C (by decide) dX4_mayHelp_36 ?_
    refine s_goto C (tgt := 41) (by decide) dX4_mayHelp_37 ?_
    exact s_X4_mayHelp_41 B g C R 
def bk_X4_mayHelp_0 (g : Nat → Nat) (Post : Option Value → MS → Prop)  (L : Lc) (st : List Value) (s : MS) : Prop :=
  (wIload 1 <| wIload 2 <| wIf2 (fun x y => x = y) (bk_X4_mayHelp_40 g Post ) (wAload 0 <| wGet (g 30) (fun _ => .ref (g 32)) <| wIload 1 <| wIald (g 32) 7 (mA 1) <| wK (.int 6) <| wIf2 (fun x y => x = y) (wAload 0 <| wIload 1 <| wIload 2 <| wCallR 3 (F_X4_minutesOf g) id (fun _ u => u) <| wK (.int 20) <| wIf2 (fun x y => y < x) (bk_X4_mayHelp_40 g Post ) (bk_X4_mayHelp_27 g Post )) (bk_X4_mayHelp_27 g Post ))) L st s
set_option maxRecDepth 20000 in
theorem s_X4_mayHelp_0 {X : Cx} (B : Bx) (g : Nat → Nat) {Post : Option Value → MS → Prop} (C : OkX X (gx B) cX4_mayHelp 3 wsX4_mayHelp RX4 (rmD 2)) (R : RtX X (gx B) (some .boolean) (encM B g) Post)  : Snd X (gx B) 3 (encM B g) 0 (bk_X4_mayHelp_0 g Post ) := by
  unfold bk_X4_mayHelp_0
  refine s_iload_n C rfl dX4_mayHelp_0 ?_
  refine s_iload_n C rfl dX4_mayHelp_1 ?_
  refine s_icmp_eq C (tgt := 40) (by decide) dX4_mayHelp_2 ?_ ?_
  · exact s_X4_mayHelp_40 B g C R 
  · refine s_aload_n C rfl dX4_mayHelp_5 ?_
    refine s_get C inw_X4_mayHelp_X4 rfl (k := 1) (by decide) (by decide +kernel) (heM_0 B g) (fun _ => rfl) dX4_mayHelp_6 ?_
    refine s_iload_n C rfl dX4_mayHelp_9 ?_
    refine s_iald C (heM_2 B g) dX4_mayHelp_10 ?_
    refine s_bipush C (by decide) dX4_mayHelp_11 ?_
    refine s_icmp_ne C (tgt := 27) (by decide) dX4_mayHelp_13 ?_ ?_
    · exact s_X4_mayHelp_27 B g C R 
    · refine s_aload_n C rfl dX4_mayHelp_16 ?_
      refine s_iload_n C rfl dX4_mayHelp_17 ?_
      refine s_iload_n C rfl dX4_mayHelp_18 ?_
      refine s_callV C (fr_M_M B g) (k_X4_minutesOf B g) gX4_mayHelp_X4_minutesOf rfl (by decide +kernel) ⟨rfl, rfl⟩ (by decide) rfl (fun s => ⟨_, heM_0 B g s⟩) (cf_RII_r _ _ _ _) dX4_mayHelp_19 ?_
      refine s_bipush C (by decide) dX4_mayHelp_22 ?_
      refine s_icmp_gt C (tgt := 40) (by decide) dX4_mayHelp_24 ?_ ?_
      · exact s_X4_mayHelp_40 B g C R 
      · exact s_X4_mayHelp_27 B g C R 
theorem k_X4_mayHelp (B : Bx) (g : Nat → Nat) : MtF (gx B) yX4_mayHelp wsX4_mayHelp (rmD 2) (encM B g) (F_X4_mayHelp g) := by
  refine cf_RII_i (fun l M p q h => Mt.of (by decide) rfl (Nat.le_of_ble_eq_true rfl) rfl (fun X C R => s_X4_mayHelp_0 B g C R) ?_)
  have hv := ixB_v h.1 (by decide)
  obtain ⟨i1, i2, i3⟩ := h
  simp only [wIload, wAload, wLload, wK, wB, wDv, wU, wLB, wLU, wLS, wL2i, wLcmp, wIf1, wIf2, wKeep, wInc, wIst, wAst, wLst, wDup, wPop, wDup2, wGet, wPut, wPutZ, wIald, wLald, wIast, wLast, wLen, wRetI, wRetZ, wRetL, wRetA, wRetV, wM1, wM2, wCpy, wTab, tabW, nth, stL, stL2, dropL, keepL, mkL, padL, restOK, restOKn, tl_some, tl_none, id_eq, eq_self, true_and, and_true, bk_X4_mayHelp_41, bk_X4_mayHelp_40, bk_X4_mayHelp_27, bk_X4_mayHelp_0, F_X4_isSpent, F_X4_minutesOf, cf_RII_e, b2i_eq0, hv, i1, i2, i3]
  repeat' first | refine And.intro ?_ ?_ | intro _
  all_goals grind [uMay, b2i]
def uHas (M : MS) (p n : Int32) : Bool := (List.range (uHelps M)).any (fun k => decide (mA 14 M k = n) && decide (mA 10 M k = p))
def F_X4_hasHelped (g : Nat → Nat) : CF MS := cf_RII (g 30) (fun M _ _ => hpB 400 M) (fun M p n => some (.int (b2i (uHas M p n)))) (fun M _ _ => M)
theorem inw_X4_hasHelped_X4 : ∀ w ∈ u_ws RX4 TX4 45, w ∈ wsX4_hasHelped := by decide +kernel
def bk_X4_hasHelped_0 (g : Nat → Nat) (Post : Option Value → MS → Prop) (K2 : PT MS) (L : Lc) (st : List Value) (s : MS) : Prop :=
  (wK (.int 0) <| wIst 3 <| wKeep [true, true, true, true] K2) L st s
set_option maxRecDepth 20000 in
theorem s_X4_hasHelped_0 {X : Cx} (B : Bx) (g : Nat → Nat) {Post : Option Value → MS → Prop} (C : OkX X (gx B) cX4_hasHelped 4 wsX4_hasHelped RX4 (rmD 0)) (R : RtX X (gx B) (some .boolean) (encM B g) Post) {K2 : PT MS} (hK2 : Snd X (gx B) 4 (encM B g) 2 K2) : Snd X (gx B) 4 (encM B g) 0 (bk_X4_hasHelped_0 g Post K2) := by
  unfold bk_X4_hasHelped_0
  refine s_iconst C (by decide) dX4_hasHelped_0 ?_
  refine s_istore_n C rfl (by decide) dX4_hasHelped_1 ?_
  exact s_keep _ hK2
def bk_X4_hasHelped_32 (g : Nat → Nat) (Post : Option Value → MS → Prop) (K2 : PT MS) (L : Lc) (st : List Value) (s : MS) : Prop :=
  (wInc 3 1 <| wKeep [true, true, true, true] K2) L st s
set_option maxRecDepth 20000 in
theorem s_X4_hasHelped_32 {X : Cx} (B : Bx) (g : Nat → Nat) {Post : Option Value → MS → Prop} (C : OkX X (gx B) cX4_hasHelped 4 wsX4_hasHelped RX4 (rmD 0)) (R : RtX X (gx B) (some .boolean) (encM B g) Post) {K2 : PT MS} (hK2 : Snd X (gx B) 4 (encM B g) 2 K2) : Snd X (gx B) 4 (encM B g) 32 (bk_X4_hasHelped_32 g Post K2) := by
  unfold bk_X4_hasHelped_32
  refine s_iinc C (by decide) (by decide) dX4_hasHelped_32 ?_
  refine s_goto C (tgt := 2) (by decide) dX4_hasHelped_35 ?_
  exact s_keep _ hK2
def bk_X4_hasHelped_2 (g : Nat → Nat) (Post : Option Value → MS → Prop) (K2 : PT MS) (L : Lc) (st : List Value) (s : MS) : Prop :=
  (wIload 3 <| wAload 0 <| wGet (g 30) (fun s => .int (mS 17 s)) <| wIf2 (fun x y => y ≤ x) (wK (.int 0) <| wRetZ Post) (wAload 0 <| wGet (g 30) (fun _ => .ref (g 45)) <| wIload 3 <| wIald (g 45) 400 (mA 14) <| wIload 2 <| wIf2 (fun x y => x = y) (wAload 0 <| wGet (g 30) (fun _ => .ref (g 41)) <| wIload 3 <| wIald (g 41) 400 (mA 10) <| wIload 1 <| wIf2 (fun x y => x = y) (wK (.int 1) <| wRetZ Post) (bk_X4_hasHelped_32 g Post K2)) (bk_X4_hasHelped_32 g Post K2))) L st s
set_option maxRecDepth 20000 in
theorem s_X4_hasHelped_2 {X : Cx} (B : Bx) (g : Nat → Nat) {Post : Option Value → MS → Prop} (C : OkX X (gx B) cX4_hasHelped 4 wsX4_hasHelped RX4 (rmD 0)) (R : RtX X (gx B) (some .boolean) (encM B g) Post) {K2 : PT MS} (hK2 : Snd X (gx B) 4 (encM B g) 2 K2) : Snd X (gx B) 4 (encM B g) 2 (bk_X4_hasHelped_2 g Post K2) := by
  unfold bk_X4_hasHelped_2
  refine s_iload_n C rfl dX4_hasHelped_2 ?_
  refine s_aload_n C rfl dX4_hasHelped_3 ?_
  refine s_get C inw_X4_hasHelped_X4 rfl (k := 17) (by decide) (by decide +kernel) (heM_0 B g) (fun _ => rfl) dX4_hasHelped_4 ?_
  refine s_icmp_ge C (tgt := 38) (by decide) dX4_hasHelped_7 ?_ ?_
  · refine s_iconst C (by decide) dX4_hasHelped_38 ?_
    exact s_zret C R dX4_hasHelped_39
  · refine s_aload_n C rfl dX4_hasHelped_10 ?_
    refine s_get C inw_X4_hasHelped_X4 rfl (k := 14) (by decide) (by decide +kernel) (heM_0 B g) (fun _ => rfl) dX4_hasHelped_11 ?_
    refine s_iload_n C rfl dX4_hasHelped_14 ?_
    refine s_iald C (heM_15 B g) dX4_hasHelped_15 ?_
    refine s_iload_n C rfl dX4_hasHelped_16 ?_
    refine s_icmp_ne C (tgt := 32) (by decide) dX4_hasHelped_17 ?_ ?_
    · exact s_X4_hasHelped_32 B g C R hK2
    · refine s_aload_n C rfl dX4_hasHelped_20 ?_
      refine s_get C inw_X4_hasHelped_X4 rfl (k := 10) (by decide) (by decide +kernel) (heM_0 B g) (fun _ => rfl) dX4_hasHelped_21 ?_
      refine s_iload_n C rfl dX4_hasHelped_24 ?_
      refine s_iald C (heM_11 B g) dX4_hasHelped_25 ?_
      refine s_iload_n C rfl dX4_hasHelped_26 ?_
      refine s_icmp_ne C (tgt := 32) (by decide) dX4_hasHelped_27 ?_ ?_
      · exact s_X4_hasHelped_32 B g C R hK2
      · refine s_iconst C (by decide) dX4_hasHelped_30 ?_
        exact s_zret C R dX4_hasHelped_31
def I_mHas (g : Nat → Nat) (M : MS) (p q : Int32) (n : Nat) (L : Lc) (st : List Value) (s : MS) : Prop := ∃ k, n + k = uHelps M ∧ st = [] ∧ s = M ∧ L = [some (.ref (g 30)), some (.int p), some (.int q), some (.int (nI k))] ∧ ∀ j, j < k → (decide (mA 14 M j = q) && decide (mA 10 M j = p)) = false
theorem k_X4_hasHelped (B : Bx) (g : Nat → Nat) : MtF (gx B) yX4_hasHelped wsX4_hasHelped (rmD 0) (encM B g) (F_X4_hasHelped g) := by
  refine cf_RII_i (fun l M p q h => Mt.of (P := bk_X4_hasHelped_0 g (fun o u => o = some (.int (b2i (uHas M p q))) ∧ u = M) (fun L st s => ∃ n, I_mHas g M p q n L st s)) (by decide) rfl (Nat.le_of_ble_eq_true rfl) rfl (fun X C R => s_X4_hasHelped_0 B g C R (snd_loop _ (I_mHas g M p q) (fun K hK => s_X4_hasHelped_2 B g C R hK) ?_)) ?_)
  · rintro K n L st M' ⟨k, hk, rfl, rfl, rfl, hh⟩ hK
    obtain ⟨e1, e2⟩ := hpB_c h (by decide)
    simp only [wIload, wAload, wLload, wK, wB, wDv, wU, wLB, wLU, wLS, wL2i, wLcmp, wIf1, wIf2, wKeep, wInc, wIst, wAst, wLst, wDup, wPop, wDup2, wGet, wPut, wPutZ, wIald, wLald, wIast, wLast, wLen, wRetI, wRetZ, wRetL, wRetA, wRetV, wM1, wM2, wCpy, wTab, tabW, nth, stL, stL2, dropL, keepL, mkL, padL, restOK, restOKn, tl_some, tl_none, id_eq, eq_self, true_and, and_true, bk_X4_hasHelped_0, bk_X4_hasHelped_32, bk_X4_hasHelped_2]
    rw [e1]
    rcases Nat.lt_or_ge k (uHelps M') with hlt | hge
    · have h1 : ¬ nI (uHelps M') ≤ nI k := nI_ge (a := k) (b := uHelps M') hlt (by omega)
      have c0 : (nI k).toNatClampNeg = k := nI_clamp (by omega)
      have w0 : vp_in (nI k) 400 := vp_in_nI (by omega) (by decide)
      have hc : (decide (mA 14 M' k = q) && decide (mA 10 M' k = p)) = false → K [some (.ref (g 30)), some (.int p), some (.int q), some (.int (nI k + 1))] [] M' := fun h => hK (n - 1) _ _ _ (by omega) ⟨k + 1, by omega, rfl, rfl, by rw [nI_1], fun j hj => by rcases Nat.lt_succ_iff_lt_or_eq.mp hj with h' | rfl; exact hh j h'; exact h⟩
      have ht : (decide (mA 14 M' k = q) && decide (mA 10 M' k = p)) = true → uHas M' p q = true := fun h => by
        unfold uHas
        rw [List.any_eq_true]
        exact ⟨k, List.mem_range.mpr hlt, h⟩
      simp only [h1, c0, w0, false_implies, true_implies, not_true_eq_false, not_false_eq_true, true_and, and_true, implies_true, eq_self, ne_eq, true_or, or_true, false_or, or_false, and_self]
      repeat' first | refine And.intro ?_ ?_ | intro _
      all_goals grind [b2i]
    · have hex : uHas M' p q = false := by
        unfold uHas
        rw [List.any_eq_false]
        exact fun j hj => by rw [hh j (by have := List.mem_range.mp hj; omega)]; exact Bool.false_ne_true
      have hx : nI (uHelps M') ≤ nI k := nI_le hge (by omega)
      simp only [hx, hex, false_implies, true_implies, not_true_eq_false, not_false_eq_true, true_and, and_true, implies_true, eq_self, ne_eq, true_or, or_true, false_or, or_false, and_self]
      exact rfl
  · simp only [wIload, wAload, wLload, wK, wB, wDv, wU, wLB, wLU, wLS, wL2i, wLcmp, wIf1, wIf2, wKeep, wInc, wIst, wAst, wLst, wDup, wPop, wDup2, wGet, wPut, wPutZ, wIald, wLald, wIast, wLast, wLen, wRetI, wRetZ, wRetL, wRetA, wRetV, wM1, wM2, wCpy, wTab, tabW, nth, stL, stL2, dropL, keepL, mkL, padL, restOK, restOKn, tl_some, tl_none, id_eq, eq_self, true_and, and_true, bk_X4_hasHelped_0, bk_X4_hasHelped_32, bk_X4_hasHelped_2]
    exact ⟨uHelps M, 0, by omega, rfl, rfl, rfl, fun j hj => absurd hj (Nat.not_lt_zero j)⟩
/-- all needs name people and helps that there can be -/
def nwB (M : MS) : Prop := ∀ n, n < 13 → ixB 7 (mA 4 M n) ∧ ixB 4 (mA 5 M n)
def uMayW (M : MS) (p n : Int32) : Bool := uOpen M n.toNatClampNeg && (uMay M p (mA 4 M n.toNatClampNeg) && (decide (n = 12) || !uHas M p n))
def F_X4_mayWith (g : Nat → Nat) : CF MS := cf_RII (g 30) (fun M x y => ixB 7 x ∧ ixB 13 y ∧ hpB 400 M ∧ nwB M) (fun M p q => some (.int (b2i (uMayW M p q)))) (fun M _ _ => M)
theorem inw_X4_mayWith_X4 : ∀ w ∈ u_ws RX4 TX4 45, w ∈ wsX4_mayWith := by decide +kernel
def bk_X4_mayWith_42 (g : Nat → Nat) (Post : Option Value → MS → Prop)  (L : Lc) (st : List Value) (s : MS) : Prop :=
  (wRetZ Post) L st s
set_option maxRecDepth 20000 in
theorem s_X4_mayWith_42 {X : Cx} (B : Bx) (g : Nat → Nat) {Post : Option Value → MS → Prop} (C : OkX X (gx B) cX4_mayWith 3 wsX4_mayWith RX4 (rmD 3)) (R : RtX X (gx B) (some .boolean) (encM B g) Post)  : Snd X (gx B) 3 (encM B g) 42 (bk_X4_mayWith_42 g Post ) := by
  unfold bk_X4_mayWith_42
  exact s_zret C R dX4_mayWith_42
def bk_X4_mayWith_37 (g : Nat → Nat) (Post : Option Value → MS → Prop)  (L : Lc) (st : List Value) (s : MS) : Prop :=
  (wK (.int 1) <| bk_X4_mayWith_42 g Post ) L st s
set_option maxRecDepth 20000 in
theorem s_X4_mayWith_37 {X : Cx} (B : Bx) (g : Nat → Nat) {Post : Option Value → MS → Prop} (C : OkX X (gx B) cX4_mayWith 3 wsX4_mayWith RX4 (rmD 3)) (R : RtX X (gx B) (some .boolean) (encM B g) Post)  : Snd X (gx B) 3 (encM B g) 37 (bk_X4_mayWith_37 g Post ) := by
  unfold bk_X4_mayWith_37
  refine s_iconst C (by decide) dX4_mayWith_37 ?_
  refine s_goto C (tgt := 42) (by decide) dX4_mayWith_38 ?_
  exact s_X4_mayWith_42 B g C R 
def bk_X4_mayWith_41 (g : Nat → Nat) (Post : Option Value → MS → Prop)  (L : Lc) (st : List Value) (s : MS) : Prop :=
  (wK (.int 0) <| bk_X4_mayWith_42 g Post ) L st s
set_option maxRecDepth 20000 in
theorem s_X4_mayWith_41 {X : Cx} (B : Bx) (g : Nat → Nat) {Post : Option Value → MS → Prop} (C : OkX X (gx B) cX4_mayWith 3 wsX4_mayWith RX4 (rmD 3)) (R : RtX X (gx B) (some .boolean) (encM B g) Post)  : Snd X (gx B) 3 (encM B g) 41 (bk_X4_mayWith_41 g Post ) := by
  unfold bk_X4_mayWith_41
  refine s_iconst C (by decide) dX4_mayWith_41 ?_
  exact s_X4_mayWith_42 B g C R 
def bk_X4_mayWith_0 (g : Nat → Nat) (Post : Option Value → MS → Prop)  (L : Lc) (st : List Value) (s : MS) : Prop :=
  (wAload 0 <| wIload 2 <| wCallR 2 (F_X4_isOpen g) id (fun _ u => u) <| wIf1 (fun x => x = 0) (bk_X4_mayWith_41 g Post ) (wAload 0 <| wIload 1 <| wAload 0 <| wGet (g 30) (fun _ => .ref (g 35)) <| wIload 2 <| wIald (g 35) 13 (mA 4) <| wCallR 3 (F_X4_mayHelp g) id (fun _ u => u) <| wIf1 (fun x => x = 0) (bk_X4_mayWith_41 g Post ) (wIload 2 <| wK (.int 12) <| wIf2 (fun x y => x = y) (bk_X4_mayWith_37 g Post ) (wAload 0 <| wIload 1 <| wIload 2 <| wCallR 3 (F_X4_hasHelped g) id (fun _ u => u) <| wIf1 (fun x => x = 0) (bk_X4_mayWith_37 g Post ) (bk_X4_mayWith_41 g Post ))))) L st s
set_option maxRecDepth 20000 in
theorem s_X4_mayWith_0 {X : Cx} (B : Bx) (g : Nat → Nat) {Post : Option Value → MS → Prop} (C : OkX X (gx B) cX4_mayWith 3 wsX4_mayWith RX4 (rmD 3)) (R : RtX X (gx B) (some .boolean) (encM B g) Post)  : Snd X (gx B) 3 (encM B g) 0 (bk_X4_mayWith_0 g Post ) := by
  unfold bk_X4_mayWith_0
  refine s_aload_n C rfl dX4_mayWith_0 ?_
  refine s_iload_n C rfl dX4_mayWith_1 ?_
  refine s_callV C (fr_M_M B g) (k_X4_isOpen B g) gX4_mayWith_X4_isOpen rfl (by decide +kernel) ⟨rfl, rfl⟩ (by decide) rfl (fun s => ⟨_, heM_0 B g s⟩) (cf_RI_r _ _ _ _) dX4_mayWith_2 ?_
  refine s_if_eq C (tgt := 41) (by decide) dX4_mayWith_5 ?_ ?_
  · exact s_X4_mayWith_41 B g C R 
  · refine s_aload_n C rfl dX4_mayWith_8 ?_
    refine s_iload_n C rfl dX4_mayWith_9 ?_
    refine s_aload_n C rfl dX4_mayWith_10 ?_
    refine s_get C inw_X4_mayWith_X4 rfl (k := 4) (by decide) (by decide +kernel) (heM_0 B g) (fun _ => rfl) dX4_mayWith_11 ?_
    refine s_iload_n C rfl dX4_mayWith_14 ?_
    refine s_iald C (heM_5 B g) dX4_mayWith_15 ?_
    refine s_callV C (fr_M_M B g) (k_X4_mayHelp B g) gX4_mayWith_X4_mayHelp rfl (by decide +kernel) ⟨rfl, rfl⟩ (by decide) rfl (fun s => ⟨_, heM_0 B g s⟩) (cf_RII_r _ _ _ _) dX4_mayWith_16 ?_
    refine s_if_eq C (tgt := 41) (by decide) dX4_mayWith_19 ?_ ?_
    · exact s_X4_mayWith_41 B g C R 
    · refine s_iload_n C rfl dX4_mayWith_22 ?_
      refine s_bipush C (by decide) dX4_mayWith_23 ?_
      refine s_icmp_eq C (tgt := 37) (by decide) dX4_mayWith_25 ?_ ?_
      · exact s_X4_mayWith_37 B g C R 
      · refine s_aload_n C rfl dX4_mayWith_28 ?_
        refine s_iload_n C rfl dX4_mayWith_29 ?_
        refine s_iload_n C rfl dX4_mayWith_30 ?_
        refine s_callV C (fr_M_M B g) (k_X4_hasHelped B g) gX4_mayWith_X4_hasHelped rfl (by decide +kernel) ⟨rfl, rfl⟩ (by decide) rfl (fun s => ⟨_, heM_0 B g s⟩) (cf_RII_r _ _ _ _) dX4_mayWith_31 ?_
        refine s_if_ne C (tgt := 41) (by decide) dX4_mayWith_34 ?_ ?_
        · exact s_X4_mayWith_41 B g C R 
        · exact s_X4_mayWith_37 B g C R 
theorem k_X4_mayWith (B : Bx) (g : Nat → Nat) : MtF (gx B) yX4_mayWith wsX4_mayWith (rmD 3) (encM B g) (F_X4_mayWith g) := by
  refine cf_RII_i (fun l M p q h => Mt.of (by decide) rfl (Nat.le_of_ble_eq_true rfl) rfl (fun X C R => s_X4_mayWith_0 B g C R) ?_)
  obtain ⟨i1, i2, i3, i4⟩ := h
  have hv := ixB_v i2 (by decide)
  have i5 := (i4 _ (ixB_c i2 (by decide)).2).1
  simp only [wIload, wAload, wLload, wK, wB, wDv, wU, wLB, wLU, wLS, wL2i, wLcmp, wIf1, wIf2, wKeep, wInc, wIst, wAst, wLst, wDup, wPop, wDup2, wGet, wPut, wPutZ, wIald, wLald, wIast, wLast, wLen, wRetI, wRetZ, wRetL, wRetA, wRetV, wM1, wM2, wCpy, wTab, tabW, nth, stL, stL2, dropL, keepL, mkL, padL, restOK, restOKn, tl_some, tl_none, id_eq, eq_self, true_and, and_true, bk_X4_mayWith_42, bk_X4_mayWith_37, bk_X4_mayWith_41, bk_X4_mayWith_0, F_X4_hasHelped, F_X4_isOpen, F_X4_mayHelp, cf_RII_e, cf_RI_e, b2i_eq0, hv, i1, i2, i3, i5]
  repeat' first | refine And.intro ?_ ?_ | intro _
  all_goals grind [uMayW, b2i]
def uGood (M : MS) (p n : Nat) : Int32 :=
  let whole := mA 3 M (4 * p + (mA 5 M n).toNatClampNeg) * mA 6 M n
  let mi := uMin M p (mA 4 M n).toNatClampNeg
  let plain := if whole - mi / 10 < 0 then 0 else whole - mi / 10
  let doc := if mA 5 M n = 0 then 2 * plain else plain
  if mA 1 M p = 1 then doc else if mA 1 M p = 2 then plain / 2 else if mA 1 M p = 3 then (if plain - 5 < 0 then 0 else plain - 5) else if mA 1 M p = 4 then whole else if mA 1 M p = 5 then doc + 3 else if mA 1 M p = 6 then (if mi ≤ 20 then plain / 2 else 0) else plain
def F_X4_goodOf (g : Nat → Nat) : CF MS := cf_RII (g 30) (fun M x y => ixB 7 x ∧ ixB 13 y ∧ nwB M) (fun M p q => some (.int (uGood M p.toNatClampNeg q.toNatClampNeg))) (fun M _ _ => M)
theorem inw_X4_goodOf_X4 : ∀ w ∈ u_ws RX4 TX4 45, w ∈ wsX4_goodOf := by decide +kernel
def bk_X4_goodOf_150 (g : Nat → Nat) (Post : Option Value → MS → Prop)  (L : Lc) (st : List Value) (s : MS) : Prop :=
  (wRetI Post) L st s
set_option maxRecDepth 20000 in
theorem s_X4_goodOf_150 {X : Cx} (B : Bx) (g : Nat → Nat) {Post : Option Value → MS → Prop} (C : OkX X (gx B) cX4_goodOf 7 wsX4_goodOf RX4 (rmD 1)) (R : RtX X (gx B) (some .int) (encM B g) Post)  : Snd X (gx B) 7 (encM B g) 150 (bk_X4_goodOf_150 g Post ) := by
  unfold bk_X4_goodOf_150
  exact s_iret C R dX4_goodOf_150
def bk_X4_goodOf_66 (g : Nat → Nat) (Post : Option Value → MS → Prop)  (L : Lc) (st : List Value) (s : MS) : Prop :=
  (wIst 6 <| wAload 0 <| wGet (g 30) (fun _ => .ref (g 32)) <| wIload 1 <| wIald (g 32) 7 (mA 1) <| wTab [(1, wIload 6 <| wRetI Post), (2, wIload 5 <| wK (.int 2) <| wDv (fun x y => x / y) <| wRetI Post), (3, wIload 5 <| wK (.int 5) <| wB (fun x y => x - y) <| wCallR 1 (F_X4_above) (fun _ => ()) (fun s _ => s) <| wRetI Post), (4, wIload 3 <| wRetI Post), (5, wIload 6 <| wK (.int 3) <| wB (fun x y => x + y) <| wRetI Post), (6, wIload 4 <| wK (.int 20) <| wIf2 (fun x y => x ≤ y) (wIload 5 <| wK (.int 2) <| wDv (fun x y => x / y) <| bk_X4_goodOf_150 g Post ) (wK (.int 0) <| bk_X4_goodOf_150 g Post ))] (wIload 5 <| wRetI Post)) L st s
set_option maxRecDepth 20000 in
theorem s_X4_goodOf_66 {X : Cx} (B : Bx) (g : Nat → Nat) {Post : Option Value → MS → Prop} (C : OkX X (gx B) cX4_goodOf 7 wsX4_goodOf RX4 (rmD 1)) (R : RtX X (gx B) (some .int) (encM B g) Post)  : Snd X (gx B) 7 (encM B g) 66 (bk_X4_goodOf_66 g Post ) := by
  unfold bk_X4_goodOf_66
  refine s_istore C (by decide) dX4_goodOf_66 ?_
  refine s_aload_n C rfl dX4_goodOf_68 ?_
  refine s_get C inw_X4_goodOf_X4 rfl (k := 1) (by decide) (by decide +kernel) (heM_0 B g) (fun _ => rfl) dX4_goodOf_69 ?_
  refine s_iload_n C rfl dX4_goodOf_72 ?_
  refine s_iald C (heM_2 B g) dX4_goodOf_73 ?_
  refine s_tab C 151 [112, 115, 120, 128, 130, 135] dX4_goodOf_74 (by decide) (by decide) rfl rfl rfl ?_ ?_
  · refine s_iload C dX4_goodOf_151 ?_
    exact s_iret C R dX4_goodOf_153
  · refine ⟨?_, ?_, ?_, ?_, ?_, ?_, trivial⟩
    · refine s_iload C dX4_goodOf_112 ?_
      exact s_iret C R dX4_goodOf_114
    · refine s_iload C dX4_goodOf_115 ?_
      refine s_iconst C (by decide) dX4_goodOf_117 ?_
      refine s_idiv C dX4_goodOf_118 ?_
      exact s_iret C R dX4_goodOf_119
    · refine s_iload C dX4_goodOf_120 ?_
      refine s_iconst C (by decide) dX4_goodOf_122 ?_
      refine s_isub C dX4_goodOf_123 ?_
      refine s_callS C (fr_M_E B g) (k_X4_above B) gX4_goodOf_X4_above rfl (by decide +kernel) ⟨rfl, rfl⟩ (by decide) (cf_I_r _ _ _) dX4_goodOf_124 ?_
      exact s_iret C R dX4_goodOf_127
    · refine s_iload_n C rfl dX4_goodOf_128 ?_
      exact s_iret C R dX4_goodOf_129
    · refine s_iload C dX4_goodOf_130 ?_
      refine s_iconst C (by decide) dX4_goodOf_132 ?_
      refine s_iadd C dX4_goodOf_133 ?_
      exact s_iret C R dX4_goodOf_134
    · refine s_iload C dX4_goodOf_135 ?_
      refine s_bipush C (by decide) dX4_goodOf_137 ?_
      refine s_icmp_le C (tgt := 146) (by decide) dX4_goodOf_139 ?_ ?_
      · refine s_iload C dX4_goodOf_146 ?_
        refine s_iconst C (by decide) dX4_goodOf_148 ?_
        refine s_idiv C dX4_goodOf_149 ?_
        exact s_X4_goodOf_150 B g C R 
      · refine s_iconst C (by decide) dX4_goodOf_142 ?_
        refine s_goto C (tgt := 150) (by decide) dX4_goodOf_143 ?_
        exact s_X4_goodOf_150 B g C R 
def bk_X4_goodOf_0 (g : Nat → Nat) (Post : Option Value → MS → Prop)  (L : Lc) (st : List Value) (s : MS) : Prop :=
  (wAload 0 <| wGet (g 30) (fun _ => .ref (g 34)) <| wK (.int 4) <| wIload 1 <| wB (fun x y => x * y) <| wAload 0 <| wGet (g 30) (fun _ => .ref (g 36)) <| wIload 2 <| wIald (g 36) 13 (mA 5) <| wB (fun x y => x + y) <| wIald (g 34) 28 (mA 3) <| wAload 0 <| wGet (g 30) (fun _ => .ref (g 37)) <| wIload 2 <| wIald (g 37) 13 (mA 6) <| wB (fun x y => x * y) <| wIst 3 <| wAload 0 <| wIload 1 <| wAload 0 <| wGet (g 30) (fun _ => .ref (g 35)) <| wIload 2 <| wIald (g 35) 13 (mA 4) <| wCallR 3 (F_X4_minutesOf g) id (fun _ u => u) <| wIst 4 <| wIload 3 <| wIload 4 <| wK (.int 10) <| wDv (fun x y => x / y) <| wB (fun x y => x - y) <| wCallR 1 (F_X4_above) (fun _ => ()) (fun s _ => s) <| wIst 5 <| wAload 0 <| wGet (g 30) (fun _ => .ref (g 36)) <| wIload 2 <| wIald (g 36) 13 (mA 5) <| wIf1 (fun x => x = 0) (wK (.int 2) <| wIload 5 <| wB (fun x y => x * y) <| bk_X4_goodOf_66 g Post ) (wIload 5 <| bk_X4_goodOf_66 g Post )) L st s
set_option maxRecDepth 20000 in
theorem s_X4_goodOf_0 {X : Cx} (B : Bx) (g : Nat → Nat) {Post : Option Value → MS → Prop} (C : OkX X (gx B) cX4_goodOf 7 wsX4_goodOf RX4 (rmD 1)) (R : RtX X (gx B) (some .int) (encM B g) Post)  : Snd X (gx B) 7 (encM B g) 0 (bk_X4_goodOf_0 g Post ) := by
  unfold bk_X4_goodOf_0
  refine s_aload_n C rfl dX4_goodOf_0 ?_
  refine s_get C inw_X4_goodOf_X4 rfl (k := 3) (by decide) (by decide +kernel) (heM_0 B g) (fun _ => rfl) dX4_goodOf_1 ?_
  refine s_iconst C (by decide) dX4_goodOf_4 ?_
  refine s_iload_n C rfl dX4_goodOf_5 ?_
  refine s_imul C dX4_goodOf_6 ?_
  refine s_aload_n C rfl dX4_goodOf_7 ?_
  refine s_get C inw_X4_goodOf_X4 rfl (k := 5) (by decide) (by decide +kernel) (heM_0 B g) (fun _ => rfl) dX4_goodOf_8 ?_
  refine s_iload_n C rfl dX4_goodOf_11 ?_
  refine s_iald C (heM_6 B g) dX4_goodOf_12 ?_
  refine s_iadd C dX4_goodOf_13 ?_
  refine s_iald C (heM_4 B g) dX4_goodOf_14 ?_
  refine s_aload_n C rfl dX4_goodOf_15 ?_
  refine s_get C inw_X4_goodOf_X4 rfl (k := 6) (by decide) (by decide +kernel) (heM_0 B g) (fun _ => rfl) dX4_goodOf_16 ?_
  refine s_iload_n C rfl dX4_goodOf_19 ?_
  refine s_iald C (heM_7 B g) dX4_goodOf_20 ?_
  refine s_imul C dX4_goodOf_21 ?_
  refine s_istore_n C rfl (by decide) dX4_goodOf_22 ?_
  refine s_aload_n C rfl dX4_goodOf_23 ?_
  refine s_iload_n C rfl dX4_goodOf_24 ?_
  refine s_aload_n C rfl dX4_goodOf_25 ?_
  refine s_get C inw_X4_goodOf_X4 rfl (k := 4) (by decide) (by decide +kernel) (heM_0 B g) (fun _ => rfl) dX4_goodOf_26 ?_
  refine s_iload_n C rfl dX4_goodOf_29 ?_
  refine s_iald C (heM_5 B g) dX4_goodOf_30 ?_
  refine s_callV C (fr_M_M B g) (k_X4_minutesOf B g) gX4_goodOf_X4_minutesOf rfl (by decide +kernel) ⟨rfl, rfl⟩ (by decide) rfl (fun s => ⟨_, heM_0 B g s⟩) (cf_RII_r _ _ _ _) dX4_goodOf_31 ?_
  refine s_istore C (by decide) dX4_goodOf_34 ?_
  refine s_iload_n C rfl dX4_goodOf_36 ?_
  refine s_iload C dX4_goodOf_37 ?_
  refine s_bipush C (by decide) dX4_goodOf_39 ?_
  refine s_idiv C dX4_goodOf_41 ?_
  refine s_isub C dX4_goodOf_42 ?_
  refine s_callS C (fr_M_E B g) (k_X4_above B) gX4_goodOf_X4_above rfl (by decide +kernel) ⟨rfl, rfl⟩ (by decide) (cf_I_r _ _ _) dX4_goodOf_43 ?_
  refine s_istore C (by decide) dX4_goodOf_46 ?_
  refine s_aload_n C rfl dX4_goodOf_48 ?_
  refine s_get C inw_X4_goodOf_X4 rfl (k := 5) (by decide) (by decide +kernel) (heM_0 B g) (fun _ => rfl) dX4_goodOf_49 ?_
  refine s_iload_n C rfl dX4_goodOf_52 ?_
  refine s_iald C (heM_6 B g) dX4_goodOf_53 ?_
  refine s_if_ne C (tgt := 64) (by decide) dX4_goodOf_54 ?_ ?_
  · refine s_iload C dX4_goodOf_64 ?_
    exact s_X4_goodOf_66 B g C R 
  · refine s_iconst C (by decide) dX4_goodOf_57 ?_
    refine s_iload C dX4_goodOf_58 ?_
    refine s_imul C dX4_goodOf_60 ?_
    refine s_goto C (tgt := 66) (by decide) dX4_goodOf_61 ?_
    exact s_X4_goodOf_66 B g C R 
theorem k_X4_goodOf (B : Bx) (g : Nat → Nat) : MtF (gx B) yX4_goodOf wsX4_goodOf (rmD 1) (encM B g) (F_X4_goodOf g) := by
  refine cf_RII_i (fun l M x y h => Mt.of (by decide) rfl (Nat.le_of_ble_eq_true rfl) rfl (fun X C R => s_X4_goodOf_0 B g C R) ?_)
  obtain ⟨i1, i2, i4⟩ := h
  have hv := ixB_v i2 (by decide)
  have hv1 := ixB_v i1 (by decide)
  have i5 := (i4 _ (ixB_c i2 (by decide)).2).1
  obtain ⟨b, hb, eb⟩ := (i4 _ (ixB_c i2 (by decide)).2).2
  obtain ⟨ea, ha⟩ := ixB_c i1 (by decide)
  have e0 : 4 * x + mA 5 M y.toNatClampNeg = nI (4 * x.toNatClampNeg + b) := by
    rw [eb]
    conv => lhs; rw [ea]
    rw [show (4 : Int32) = nI 4 from rfl, pk_mul, nI_add]
  have cb : (nI b).toNatClampNeg = b := nI_clamp (by omega)
  have c0 : (nI (4 * x.toNatClampNeg + b)).toNatClampNeg = 4 * x.toNatClampNeg + b := nI_clamp (by omega)
  have w0 : vp_in (nI (4 * x.toNatClampNeg + b)) 28 := vp_in_nI (by omega) (by decide)
  have d10 : ¬ (10 : Int32) = 0 := by decide
  have d2 : ¬ (2 : Int32) = 0 := by decide
  unfold uGood
  rw [show (mA 5 M y.toNatClampNeg).toNatClampNeg = b by rw [eb, cb]]
  simp only [wIload, wAload, wLload, wK, wB, wDv, wU, wLB, wLU, wLS, wL2i, wLcmp, wIf1, wIf2, wKeep, wInc, wIst, wAst, wLst, wDup, wPop, wDup2, wGet, wPut, wPutZ, wIald, wLald, wIast, wLast, wLen, wRetI, wRetZ, wRetL, wRetA, wRetV, wM1, wM2, wCpy, wTab, tabW, nth, stL, stL2, dropL, keepL, mkL, padL, restOK, restOKn, tl_some, tl_none, id_eq, eq_self, true_and, and_true, bk_X4_goodOf_150, bk_X4_goodOf_66, bk_X4_goodOf_0, F_X4_above, F_X4_minutesOf, cf_I_e, cf_RII_e, hv, hv1, i1, i5, e0, c0, w0, d10, d2]
  repeat' first | refine And.intro ?_ ?_ | intro _
  all_goals grind
end
