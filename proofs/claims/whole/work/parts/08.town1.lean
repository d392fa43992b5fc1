def tOfP (T : TS) (p k : Int32) : Int32 := if p < 0 ∨ 7 ≤ p ∨ k < 0 ∨ 6 ≤ k then 0 else tPt T (p * 6 + k).toNatClampNeg
def F_X2_ofPerson (g : Nat → Nat) (t : Nat) : CF TS := cf_RII (g t) (fun _ _ _ => True) (fun T p k => some (.int (tOfP T p k))) (fun T _ _ => T)
theorem inw_X2_ofPerson_X2 : ∀ w ∈ u_ws RX2 TX2 8, w ∈ wsX2_ofPerson := by decide +kernel
def bk_X2_ofPerson_20 (g : Nat → Nat) (t : Nat) (Post : Option Value → TS → Prop)  (L : Lc) (st : List Value) (s : TS) : Prop :=
  (wK (.int 0) <| wRetI Post) L st s
set_option maxRecDepth 20000 in
theorem s_X2_ofPerson_20 {X : Cx} (B : Bx) (g : Nat → Nat) (t : Nat) {Post : Option Value → TS → Prop} (C : OkX X (gx B) cX2_ofPerson 3 wsX2_ofPerson RX2 (rmD 0)) (R : RtX X (gx B) (some .int) (encT B g t) Post)  : Snd X (gx B) 3 (encT B g t) 20 (bk_X2_ofPerson_20 g t Post ) := by
  unfold bk_X2_ofPerson_20
  refine s_iconst C (by decide) dX2_ofPerson_20 ?_
  exact s_iret C R dX2_ofPerson_21
def bk_X2_ofPerson_0 (g : Nat → Nat) (t : Nat) (Post : Option Value → TS → Prop)  (L : Lc) (st : List Value) (s : TS) : Prop :=
  (wIload 1 <| wIf1 (fun x => x < 0) (bk_X2_ofPerson_20 g t Post ) (wIload 1 <| wK (.int 7) <| wIf2 (fun x y => y ≤ x) (bk_X2_ofPerson_20 g t Post ) (wIload 2 <| wIf1 (fun x => x < 0) (bk_X2_ofPerson_20 g t Post ) (wIload 2 <| wK (.int 6) <| wIf2 (fun x y => x < y) (wAload 0 <| wGet (g t) (fun _ => .ref (g (t + 1))) <| wIload 1 <| wK (.int 6) <| wB (fun x y => x * y) <| wIload 2 <| wB (fun x y => x + y) <| wIald (g (t + 1)) 42 tPt <| wRetI Post) (bk_X2_ofPerson_20 g t Post ))))) L st s
set_option maxRecDepth 20000 in
theorem s_X2_ofPerson_0 {X : Cx} (B : Bx) (g : Nat → Nat) (t : Nat) {Post : Option Value → TS → Prop} (C : OkX X (gx B) cX2_ofPerson 3 wsX2_ofPerson RX2 (rmD 0)) (R : RtX X (gx B) (some .int) (encT B g t) Post)  : Snd X (gx B) 3 (encT B g t) 0 (bk_X2_ofPerson_0 g t Post ) := by
  unfold bk_X2_ofPerson_0
  refine s_iload_n C rfl dX2_ofPerson_0 ?_
  refine s_if_lt C (tgt := 20) (by decide) dX2_ofPerson_1 ?_ ?_
  · exact s_X2_ofPerson_20 B g t C R 
  · refine s_iload_n C rfl dX2_ofPerson_4 ?_
    refine s_bipush C (by decide) dX2_ofPerson_5 ?_
    refine s_icmp_ge C (tgt := 20) (by decide) dX2_ofPerson_7 ?_ ?_
    · exact s_X2_ofPerson_20 B g t C R 
    · refine s_iload_n C rfl dX2_ofPerson_10 ?_
      refine s_if_lt C (tgt := 20) (by decide) dX2_ofPerson_11 ?_ ?_
      · exact s_X2_ofPerson_20 B g t C R 
      · refine s_iload_n C rfl dX2_ofPerson_14 ?_
        refine s_bipush C (by decide) dX2_ofPerson_15 ?_
        refine s_icmp_lt C (tgt := 22) (by decide) dX2_ofPerson_17 ?_ ?_
        · refine s_aload_n C rfl dX2_ofPerson_22 ?_
          refine s_get C inw_X2_ofPerson_X2 rfl (k := 0) (by decide) (by decide +kernel) (heT_0 B g t) (fun _ => rfl) dX2_ofPerson_23 ?_
          refine s_iload_n C rfl dX2_ofPerson_26 ?_
          refine s_bipush C (by decide) dX2_ofPerson_27 ?_
          refine s_imul C dX2_ofPerson_29 ?_
          refine s_iload_n C rfl dX2_ofPerson_30 ?_
          refine s_iadd C dX2_ofPerson_31 ?_
          refine s_iald C (heT_1 B g t) dX2_ofPerson_32 ?_
          exact s_iret C R dX2_ofPerson_33
        · exact s_X2_ofPerson_20 B g t C R 
theorem k_X2_ofPerson (B : Bx) (g : Nat → Nat) (t : Nat) : MtF (gx B) yX2_ofPerson wsX2_ofPerson (rmD 0) (encT B g t) (F_X2_ofPerson g t) := by
  refine cf_RII_i (fun l T p k _ => Mt.of (by decide) rfl (Nat.le_of_ble_eq_true rfl) rfl (fun X C R => s_X2_ofPerson_0 B g t C R) ?_)
  simp only [wIload, wAload, wLload, wK, wB, wDv, wU, wLB, wLU, wLS, wL2i, wLcmp, wIf1, wIf2, wKeep, wInc, wIst, wAst, wLst, wDup, wPop, wDup2, wGet, wPut, wPutZ, wIald, wLald, wIast, wLast, wLen, wRetI, wRetZ, wRetL, wRetA, wRetV, wM1, wM2, wCpy, wTab, tabW, nth, stL, stL2, dropL, keepL, mkL, padL, restOK, restOKn, tl_some, tl_none, id_eq, eq_self, true_and, and_true, bk_X2_ofPerson_20, bk_X2_ofPerson_0]
  have hv : ¬ p < 0 → ¬ 7 ≤ p → ¬ k < 0 → k < 6 → vp_in (p * 6 + k) 42 := by
    intro h1 h2 h3 h4
    obtain ⟨a, ha, ea⟩ := ixN (n := 7) rfl h1 h2
    obtain ⟨b, hb, eb⟩ := ixN' (n := 6) rfl h3 h4
    exact vp_lin (m := 6) ea eb hb (by decide) (by omega)
  grind [tOfP]
def tHasP (T : TS) (p : Int32) : Bool := decide (¬ p < 0 ∧ p < tPp T)
def F_X2_hasPerson (g : Nat → Nat) (t : Nat) : CF TS := cf_RI (g t) (fun _ _ => True) (fun T p => some (.int (b2i (tHasP T p)))) (fun T _ => T)
theorem inw_X2_hasPerson_X2 : ∀ w ∈ u_ws RX2 TX2 8, w ∈ wsX2_hasPerson := by decide +kernel
def bk_X2_hasPerson_17 (g : Nat → Nat) (t : Nat) (Post : Option Value → TS → Prop)  (L : Lc) (st : List Value) (s : TS) : Prop :=
  (wRetZ Post) L st s
set_option maxRecDepth 20000 in
theorem s_X2_hasPerson_17 {X : Cx} (B : Bx) (g : Nat → Nat) (t : Nat) {Post : Option Value → TS → Prop} (C : OkX X (gx B) cX2_hasPerson 2 wsX2_hasPerson RX2 (rmD 0)) (R : RtX X (gx B) (some .boolean) (encT B g t) Post)  : Snd X (gx B) 2 (encT B g t) 17 (bk_X2_hasPerson_17 g t Post ) := by
  unfold bk_X2_hasPerson_17
  exact s_zret C R dX2_hasPerson_17
def bk_X2_hasPerson_16 (g : Nat → Nat) (t : Nat) (Post : Option Value → TS → Prop)  (L : Lc) (st : List Value) (s : TS) : Prop :=
  (wK (.int 0) <| bk_X2_hasPerson_17 g t Post ) L st s
set_option maxRecDepth 20000 in
theorem s_X2_hasPerson_16 {X : Cx} (B : Bx) (g : Nat → Nat) (t : Nat) {Post : Option Value → TS → Prop} (C : OkX X (gx B) cX2_hasPerson 2 wsX2_hasPerson RX2 (rmD 0)) (R : RtX X (gx B) (some .boolean) (encT B g t) Post)  : Snd X (gx B) 2 (encT B g t) 16 (bk_X2_hasPerson_16 g t Post ) := by
  unfold bk_X2_hasPerson_16
  refine s_iconst C (by decide) dX2_hasPerson_16 ?_
  exact s_X2_hasPerson_17 B g t C R 
def bk_X2_hasPerson_0 (g : Nat → Nat) (t : Nat) (Post : Option Value → TS → Prop)  (L : Lc) (st : List Value) (s : TS) : Prop :=
  (wIload 1 <| wIf1 (fun x => x < 0) (bk_X2_hasPerson_16 g t Post ) (wIload 1 <| wAload 0 <| wGet (g t) (fun s => .int (tPp s)) <| wIf2 (fun x y => y ≤ x) (bk_X2_hasPerson_16 g t Post ) (wK (.int 1) <| bk_X2_hasPerson_17 g t Post ))) L st s
set_option maxRecDepth 20000 in
theorem s_X2_hasPerson_0 {X : Cx} (B : Bx) (g : Nat → Nat) (t : Nat) {Post : Option Value → TS → Prop} (C : OkX X (gx B) cX2_hasPerson 2 wsX2_hasPerson RX2 (rmD 0)) (R : RtX X (gx B) (some .boolean) (encT B g t) Post)  : Snd X (gx B) 2 (encT B g t) 0 (bk_X2_hasPerson_0 g t Post ) := by
  unfold bk_X2_hasPerson_0
  refine s_iload_n C rfl dX2_hasPerson_0 ?_
  refine s_if_lt C (tgt := 16) (by decide) dX2_hasPerson_1 ?_ ?_
  · exact s_X2_hasPerson_16 B g t C R 
  · refine s_iload_n C rfl dX2_hasPerson_4 ?_
    refine s_aload_n C rfl dX2_hasPerson_5 ?_
    refine s_get C inw_X2_hasPerson_X2 rfl (k := 1) (by decide) (by decide +kernel) (heT_0 B g t) (fun _ => rfl) dX2_hasPerson_6 ?_
    refine s_icmp_ge C (tgt := 16) (by decide) dX2_hasPerson_9 ?_ ?_
    · exact s_X2_hasPerson_16 B g t C R 
    · refine s_iconst C (by decide) dX2_hasPerson_12 ?_
      refine s_goto C (tgt := 17) (by decide) dX2_hasPerson_13 ?_
      exact s_X2_hasPerson_17 B g t C R 
theorem k_X2_hasPerson (B : Bx) (g : Nat → Nat) (t : Nat) : MtF (gx B) yX2_hasPerson wsX2_hasPerson (rmD 0) (encT B g t) (F_X2_hasPerson g t) := by
  refine cf_RI_i (fun l T p _ => Mt.of (by decide) rfl (Nat.le_of_ble_eq_true rfl) rfl (fun X C R => s_X2_hasPerson_0 B g t C R) ?_)
  simp only [wIload, wAload, wLload, wK, wB, wDv, wU, wLB, wLU, wLS, wL2i, wLcmp, wIf1, wIf2, wKeep, wInc, wIst, wAst, wLst, wDup, wPop, wDup2, wGet, wPut, wPutZ, wIald, wLald, wIast, wLast, wLen, wRetI, wRetZ, wRetL, wRetA, wRetV, wM1, wM2, wCpy, wTab, tabW, nth, stL, stL2, dropL, keepL, mkL, padL, restOK, restOKn, tl_some, tl_none, id_eq, eq_self, true_and, and_true, bk_X2_hasPerson_17, bk_X2_hasPerson_16, bk_X2_hasPerson_0]
  grind [tHasP, b2i]
