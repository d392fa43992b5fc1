noncomputable section
def bcF0 (x : Int32) : Int32 :=
  let a := x - ((x.toUInt32 >>> ((1 : Int32).toUInt32 &&& Int32.toUInt32 31)).toInt32 &&& 1431655765)
  let b := (a &&& 858993459) + ((a.toUInt32 >>> ((2 : Int32).toUInt32 &&& Int32.toUInt32 31)).toInt32 &&& 858993459)
  let c := (b + (b.toUInt32 >>> ((4 : Int32).toUInt32 &&& Int32.toUInt32 31)).toInt32) &&& 252645135
  let d := c + (c.toUInt32 >>> ((8 : Int32).toUInt32 &&& Int32.toUInt32 31)).toInt32
  let e := d + (d.toUInt32 >>> ((16 : Int32).toUInt32 &&& Int32.toUInt32 31)).toInt32
  e &&& 63
/-- sealed, so that no comparison ever opens it -/
theorem bcF_x : ∃ f : Int32 → Int32, ∀ x, f x = bcF0 x := ⟨bcF0, fun _ => rfl⟩
def bcF : Int32 → Int32 := Classical.choose bcF_x
theorem bcF_eq (x : Int32) : bcF x = bcF0 x := Classical.choose_spec bcF_x x
def F_J6_bitCount_0f7a4 : CF Unit := cf_I (fun _ _ => True) (fun _ x => some (.int (bcF x))) (fun s _ => s)

def bk_J6_bitCount_0f7a4_0  (Post : Option Value → Unit → Prop)  (L : Lc) (st : List Value) (s : Unit) : Prop :=
  (wIload 0 <| wIload 0 <| wK (.int 1) <| wB (fun x y => (x.toUInt32 >>> (y.toUInt32 &&& Int32.toUInt32 31)).toInt32) <| wK (.int 1431655765) <| wB (fun x y => x &&& y) <| wB (fun x y => x - y) <| wIst 0 <| wIload 0 <| wK (.int 858993459) <| wB (fun x y => x &&& y) <| wIload 0 <| wK (.int 2) <| wB (fun x y => (x.toUInt32 >>> (y.toUInt32 &&& Int32.toUInt32 31)).toInt32) <| wK (.int 858993459) <| wB (fun x y => x &&& y) <| wB (fun x y => x + y) <| wIst 0 <| wIload 0 <| wIload 0 <| wK (.int 4) <| wB (fun x y => (x.toUInt32 >>> (y.toUInt32 &&& Int32.toUInt32 31)).toInt32) <| wB (fun x y => x + y) <| wK (.int 252645135) <| wB (fun x y => x &&& y) <| wIst 0 <| wIload 0 <| wIload 0 <| wK (.int 8) <| wB (fun x y => (x.toUInt32 >>> (y.toUInt32 &&& Int32.toUInt32 31)).toInt32) <| wB (fun x y => x + y) <| wIst 0 <| wIload 0 <| wIload 0 <| wK (.int 16) <| wB (fun x y => (x.toUInt32 >>> (y.toUInt32 &&& Int32.toUInt32 31)).toInt32) <| wB (fun x y => x + y) <| wIst 0 <| wIload 0 <| wK (.int 63) <| wB (fun x y => x &&& y) <| wRetI Post) L st s
set_option maxRecDepth 20000 in
theorem s_J6_bitCount_0f7a4_0 {X : Cx} (B : Bx)  {Post : Option Value → Unit → Prop} (C : OkX X (gx B) cJ6_bitCount_0f7a4 1 wsJ6_bitCount_0f7a4 RJ6 (rmD 0)) (R : RtX X (gx B) (some .int) (encE) Post)  : Snd X (gx B) 1 (encE) 0 (bk_J6_bitCount_0f7a4_0  Post ) := by
  unfold bk_J6_bitCount_0f7a4_0
  refine s_iload_n C rfl dJ6_bitCount_0f7a4_0 ?_
  refine s_iload_n C rfl dJ6_bitCount_0f7a4_1 ?_
  refine s_iconst C (by decide) dJ6_bitCount_0f7a4_2 ?_
  refine s_iushr C dJ6_bitCount_0f7a4_3 ?_
  refine s_ldc_w C (by decide +kernel) dJ6_bitCount_0f7a4_4 ?_
  refine s_iand C dJ6_bitCount_0f7a4_7 ?_
  refine s_isub C dJ6_bitCount_0f7a4_8 ?_
  refine s_istore_n C rfl (by decide) dJ6_bitCount_0f7a4_9 ?_
  refine s_iload_n C rfl dJ6_bitCount_0f7a4_10 ?_
  refine s_ldc_w C (by decide +kernel) dJ6_bitCount_0f7a4_11 ?_
  refine s_iand C dJ6_bitCount_0f7a4_14 ?_
  refine s_iload_n C rfl dJ6_bitCount_0f7a4_15 ?_
  refine s_iconst C (by decide) dJ6_bitCount_0f7a4_16 ?_
  refine s_iushr C dJ6_bitCount_0f7a4_17 ?_
  refine s_ldc_w C (by decide +kernel) dJ6_bitCount_0f7a4_18 ?_
  refine s_iand C dJ6_bitCount_0f7a4_21 ?_
  refine s_iadd C dJ6_bitCount_0f7a4_22 ?_
  refine s_istore_n C rfl (by decide) dJ6_bitCount_0f7a4_23 ?_
  refine s_iload_n C rfl dJ6_bitCount_0f7a4_24 ?_
  refine s_iload_n C rfl dJ6_bitCount_0f7a4_25 ?_
  refine s_iconst C (by decide) dJ6_bitCount_0f7a4_26 ?_
  refine s_iushr C dJ6_bitCount_0f7a4_27 ?_
  refine s_iadd C dJ6_bitCount_0f7a4_28 ?_
  refine s_ldc_w C (by decide +kernel) dJ6_bitCount_0f7a4_29 ?_
  refine s_iand C dJ6_bitCount_0f7a4_32 ?_
  refine s_istore_n C rfl (by decide) dJ6_bitCount_0f7a4_33 ?_
  refine s_iload_n C rfl dJ6_bitCount_0f7a4_34 ?_
  refine s_iload_n C rfl dJ6_bitCount_0f7a4_35 ?_
  refine s_bipush C (by decide) dJ6_bitCount_0f7a4_36 ?_
  refine s_iushr C dJ6_bitCount_0f7a4_38 ?_
  refine s_iadd C dJ6_bitCount_0f7a4_39 ?_
  refine s_istore_n C rfl (by decide) dJ6_bitCount_0f7a4_40 ?_
  refine s_iload_n C rfl dJ6_bitCount_0f7a4_41 ?_
  refine s_iload_n C rfl dJ6_bitCount_0f7a4_42 ?_
  refine s_bipush C (by decide) dJ6_bitCount_0f7a4_43 ?_
  refine s_iushr C dJ6_bitCount_0f7a4_45 ?_
  refine s_iadd C dJ6_bitCount_0f7a4_46 ?_
  refine s_istore_n C rfl (by decide) dJ6_bitCount_0f7a4_47 ?_
  refine s_iload_n C rfl dJ6_bitCount_0f7a4_48 ?_
  refine s_bipush C (by decide) dJ6_bitCount_0f7a4_49 ?_
  refine s_iand C dJ6_bitCount_0f7a4_51 ?_
  exact s_iret C R dJ6_bitCount_0f7a4_52
theorem k_J6_bitCount_0f7a4 (B : Bx) : MtF (gx B) yJ6_bitCount_0f7a4 wsJ6_bitCount_0f7a4 (rmD 0) encE F_J6_bitCount_0f7a4 := by
  refine cf_I_i (fun l s x _ => Mt.of (by decide) rfl (Nat.le_of_ble_eq_true rfl) rfl (fun X C R => s_J6_bitCount_0f7a4_0 B C R) ?_)
  simp only [wIload, wAload, wLload, wK, wB, wDv, wU, wLB, wLU, wLS, wL2i, wLcmp, wIf1, wIf2, wKeep, wInc, wIst, wAst, wLst, wDup, wPop, wDup2, wGet, wPut, wPutZ, wIald, wLald, wIast, wLast, wLen, wRetI, wRetZ, wRetL, wRetA, wRetV, wM1, wM2, wCpy, wTab, tabW, nth, stL, stL2, dropL, keepL, mkL, padL, restOK, restOKn, tl_some, tl_none, id_eq, eq_self, true_and, and_true, bk_J6_bitCount_0f7a4_0]
  rw [bcF_eq]
  exact rfl
def tBit (p : Int32) : Int32 := if ¬ p < 0 ∧ p < 7 then (1 : Int32) <<< (p &&& 31) else 0
def F_X2_bitOf : CF Unit := cf_I (fun _ _ => True) (fun _ x => some (.int (tBit x))) (fun s _ => s)

def bk_X2_bitOf_17  (Post : Option Value → Unit → Prop)  (L : Lc) (st : List Value) (s : Unit) : Prop :=
  (wRetI Post) L st s
set_option maxRecDepth 20000 in
theorem s_X2_bitOf_17 {X : Cx} (B : Bx)  {Post : Option Value → Unit → Prop} (C : OkX X (gx B) cX2_bitOf 1 wsX2_bitOf RX2 (rmD 0)) (R : RtX X (gx B) (some .int) (encE) Post)  : Snd X (gx B) 1 (encE) 17 (bk_X2_bitOf_17  Post ) := by
  unfold bk_X2_bitOf_17
  exact s_iret C R dX2_bitOf_17
def bk_X2_bitOf_16  (Post : Option Value → Unit → Prop)  (L : Lc) (st : List Value) (s : Unit) : Prop :=
  (wK (.int 0) <| bk_X2_bitOf_17  Post ) L st s
set_option maxRecDepth 20000 in
theorem s_X2_bitOf_16 {X : Cx} (B : Bx)  {Post : Option Value → Unit → Prop} (C : OkX X (gx B) cX2_bitOf 1 wsX2_bitOf RX2 (rmD 0)) (R : RtX X (gx B) (some .int) (encE) Post)  : Snd X (gx B) 1 (encE) 16 (bk_X2_bitOf_16  Post ) := by
  unfold bk_X2_bitOf_16
  refine s_iconst C (by decide) dX2_bitOf_16 ?_
  exact s_X2_bitOf_17 B  C R 
def bk_X2_bitOf_0  (Post : Option Value → Unit → Prop)  (L : Lc) (st : List Value) (s : Unit) : Prop :=
  (wIload 0 <| wIf1 (fun x => x < 0) (bk_X2_bitOf_16  Post ) (wIload 0 <| wK (.int 7) <| wIf2 (fun x y => y ≤ x) (bk_X2_bitOf_16  Post ) (wK (.int 1) <| wIload 0 <| wB (fun x y => x <<< (y &&& 31)) <| bk_X2_bitOf_17  Post ))) L st s
set_option maxRecDepth 20000 in
theorem s_X2_bitOf_0 {X : Cx} (B : Bx)  {Post : Option Value → Unit → Prop} (C : OkX X (gx B) cX2_bitOf 1 wsX2_bitOf RX2 (rmD 0)) (R : RtX X (gx B) (some .int) (encE) Post)  : Snd X (gx B) 1 (encE) 0 (bk_X2_bitOf_0  Post ) := by
  unfold bk_X2_bitOf_0
  refine s_iload_n C rfl dX2_bitOf_0 ?_
  refine s_if_lt C (tgt := 16) (by decide) dX2_bitOf_1 ?_ ?_
  · exact s_X2_bitOf_16 B  C R 
  · refine s_iload_n C rfl dX2_bitOf_4 ?_
    refine s_bipush C (by decide) dX2_bitOf_5 ?_
    refine s_icmp_ge C (tgt := 16) (by decide) dX2_bitOf_7 ?_ ?_
    · exact s_X2_bitOf_16 B  C R 
    · refine s_iconst C (by decide) dX2_bitOf_10 ?_
      refine s_iload_n C rfl dX2_bitOf_11 ?_
      refine s_ishl C dX2_bitOf_12 ?_
      refine s_goto C (tgt := 17) (by decide) dX2_bitOf_13 ?_
      exact s_X2_bitOf_17 B  C R 
theorem k_X2_bitOf (B : Bx) : MtF (gx B) yX2_bitOf wsX2_bitOf (rmD 0) encE F_X2_bitOf := by
  refine cf_I_i (fun l s x _ => Mt.of (by decide) rfl (Nat.le_of_ble_eq_true rfl) rfl (fun X C R => s_X2_bitOf_0 B C R) ?_)
  simp only [wIload, wAload, wLload, wK, wB, wDv, wU, wLB, wLU, wLS, wL2i, wLcmp, wIf1, wIf2, wKeep, wInc, wIst, wAst, wLst, wDup, wPop, wDup2, wGet, wPut, wPutZ, wIald, wLald, wIast, wLast, wLen, wRetI, wRetZ, wRetL, wRetA, wRetV, wM1, wM2, wCpy, wTab, tabW, nth, stL, stL2, dropL, keepL, mkL, padL, restOK, restOKn, tl_some, tl_none, id_eq, eq_self, true_and, and_true, bk_X2_bitOf_17, bk_X2_bitOf_16, bk_X2_bitOf_0]
  grind [tBit]
def tOfP (T : TS) (p k : Int32) : Int32 := if p < 0 ∨ 7 ≤ p ∨ k < 0 ∨ 6 ≤ k then 0 else tPt T (p * 6 + k).toNatClampNeg
theorem v42 {p k : Int32} : ¬ p < 0 → p < 7 → ¬ k < 0 → k < 6 → vp_in (p * 6 + k) 42 := by
  intro h1 h2 h3 h4
  obtain ⟨a, ha, ea⟩ := ixN' (n := 7) rfl h1 h2
  obtain ⟨b, hb, eb⟩ := ixN' (n := 6) rfl h3 h4
  exact vp_lin (m := 6) ea eb hb (by decide) (by omega)
theorem v72 {p k : Int32} : ¬ p < 0 → p < 12 → ¬ k < 0 → k < 6 → vp_in (p * 6 + k) 72 := by
  intro h1 h2 h3 h4
  obtain ⟨a, ha, ea⟩ := ixN' (n := 12) rfl h1 h2
  obtain ⟨b, hb, eb⟩ := ixN' (n := 6) rfl h3 h4
  exact vp_lin (m := 6) ea eb hb (by decide) (by omega)
def F_X2_ofPerson (g : Nat → Nat) (t : Nat) : CF TS := cf_RII (g t) (fun _ _ _ => True) (fun T p k => some (.int (tOfP T p k))) (fun T _ _ => T)
theorem inw_X2_ofPerson_X2 : ∀ w ∈ u_ws RX2 TX2 8, w ∈ wsX2_ofPerson := by decide +kernel
def bk_X2_ofPerson_20 (g : Nat → Nat) (t : Nat) (Post : Option Value → TS → Prop)  (L : Lc) (st : List Value) (s : TS) : Prop :=
  (wK (.int 0) <| wRetI Post) L st s
set_option maxRecDepth 20000 in
theorem s_X2_ofPerson_20 {X : Cx} (B : Bx) (g : Nat → Nat) (t : Nat) {Post : Option Value → TS → Prop} (C : OkX X (gx B) cX2_ofPerson 3 wsX2_ofPerson RX2 (rmD 0)) (R : RtX X (gx B) (some .int) (encT B g t) Post)  : Snd X (gx B) 3 (encT B g t) 20 (bk_X2_ofPerson_20 g t Post ) := by
  unfold bk_X2_ofPerson_20
  refine s_iconst C (by decide) dX2_ofPerson_20 ?_
  exact s_iret C R dX2_ofPerson_21
def bk_X2_ofPerson_0 (g : Nat → Nat) (t : Nat) (Post : Option Value → TS → Prop)  (L : Lc) (st : List Value) (s : TS) : Prop :=
  (wIload 1 <| wIf1 (fun x => x < 0) (bk_X2_ofPerson_20 g t Post ) (wIload 1 <| wK (.int 7) <| wIf2 (fun x y => y ≤ x) (bk_X2_ofPerson_20 g t Post ) (wIload 2 <| wIf1 (fun x => x < 0) (bk_X2_ofPerson_20 g t Post ) (wIload 2 <| wK (.int 6) <| wIf2 (fun x y => x < y) (wAload 0 <| wGet (g t) (fun _ => .ref (g (t + 1))) <| wIload 1 <| wK (.int 6) <| wB (fun x y => x * y) <| wIload 2 <| wB (fun x y => x + y) <| wIald (g (t + 1)) 42 tPt <| wRetI Post) (bk_X2_ofPerson_20 g t Post ))))) L st s
set_option maxRecDepth 20000 in
theorem s_X2_ofPerson_0 {X : Cx} (B : Bx) (g : Nat → Nat) (t : Nat) {Post : Option Value → TS → Prop} (C : OkX X (gx B) cX2_ofPerson 3 wsX2_ofPerson RX2 (rmD 0)) (R : RtX X (gx B) (some .int) (encT B g t) Post)  : Snd X (gx B) 3 (encT B g t) 0 (bk_X2_ofPerson_0 g t Post ) := by
  unfold bk_X2_ofPerson_0
  refine s_iload_n C rfl dX2_ofPerson_0 ?_
  refine s_if_lt C (tgt := 20) (by decide) dX2_ofPerson_1 ?_ ?_
  · exact s_X2_ofPerson_20 B g t C R 
  · refine s_iload_n C rfl dX2_ofPerson_4 ?_
    refine s_bipush C (by decide) dX2_ofPerson_5 ?_
    refine s_icmp_ge C (tgt := 20) (by decide) dX2_ofPerson_7 ?_ ?_
    · exact s_X2_ofPerson_20 B g t C R 
    · refine s_iload_n C rfl dX2_ofPerson_10 ?_
      refine s_if_lt C (tgt := 20) (by decide) dX2_ofPerson_11 ?_ ?_
      · exact s_X2_ofPerson_20 B g t C R 
      · refine s_iload_n C rfl dX2_ofPerson_14 ?_
        refine s_bipush C (by decide) dX2_ofPerson_15 ?_
        refine s_icmp_lt C (tgt := 22) (by decide) dX2_ofPerson_17 ?_ ?_
        · refine s_aload_n C rfl dX2_ofPerson_22 ?_
          refine s_get C inw_X2_ofPerson_X2 rfl (k := 0) (by decide) (by decide +kernel) (heT_0 B g t) (fun _ => rfl) dX2_ofPerson_23 ?_
          refine s_iload_n C rfl dX2_ofPerson_26 ?_
          refine s_bipush C (by decide) dX2_ofPerson_27 ?_
          refine s_imul C dX2_ofPerson_29 ?_
          refine s_iload_n C rfl dX2_ofPerson_30 ?_
          refine s_iadd C dX2_ofPerson_31 ?_
          refine s_iald C (heT_1 B g t) dX2_ofPerson_32 ?_
          exact s_iret C R dX2_ofPerson_33
        · exact s_X2_ofPerson_20 B g t C R 
theorem k_X2_ofPerson (B : Bx) (g : Nat → Nat) (t : Nat) : MtF (gx B) yX2_ofPerson wsX2_ofPerson (rmD 0) (encT B g t) (F_X2_ofPerson g t) := by
  refine cf_RII_i (fun l T p k _ => Mt.of (by decide) rfl (Nat.le_of_ble_eq_true rfl) rfl (fun X C R => s_X2_ofPerson_0 B g t C R) ?_)
  simp only [wIload, wAload, wLload, wK, wB, wDv, wU, wLB, wLU, wLS, wL2i, wLcmp, wIf1, wIf2, wKeep, wInc, wIst, wAst, wLst, wDup, wPop, wDup2, wGet, wPut, wPutZ, wIald, wLald, wIast, wLast, wLen, wRetI, wRetZ, wRetL, wRetA, wRetV, wM1, wM2, wCpy, wTab, tabW, nth, stL, stL2, dropL, keepL, mkL, padL, restOK, restOKn, tl_some, tl_none, id_eq, eq_self, true_and, and_true, bk_X2_ofPerson_20, bk_X2_ofPerson_0]
  grind [tOfP, @v42 p k]
def tHasP (T : TS) (p : Int32) : Bool := decide (¬ p < 0 ∧ p < tPp T)
def F_X2_hasPerson (g : Nat → Nat) (t : Nat) : CF TS := cf_RI (g t) (fun _ _ => True) (fun T p => some (.int (b2i (tHasP T p)))) (fun T _ => T)
theorem inw_X2_hasPerson_X2 : ∀ w ∈ u_ws RX2 TX2 8, w ∈ wsX2_hasPerson := by decide +kernel
def bk_X2_hasPerson_17 (g : Nat → Nat) (t : Nat) (Post : Option Value → TS → Prop)  (L : Lc) (st : List Value) (s : TS) : Prop :=
  (wRetZ Post) L st s
set_option maxRecDepth 20000 in
theorem s_X2_hasPerson_17 {X : Cx} (B : Bx) (g : Nat → Nat) (t : Nat) {Post : Option Value → TS → Prop} (C : OkX X (gx B) cX2_hasPerson 2 wsX2_hasPerson RX2 (rmD 0)) (R : RtX X (gx B) (some .boolean) (encT B g t) Post)  : Snd X (gx B) 2 (encT B g t) 17 (bk_X2_hasPerson_17 g t Post ) := by
  unfold bk_X2_hasPerson_17
  exact s_zret C R dX2_hasPerson_17
def bk_X2_hasPerson_16 (g : Nat → Nat) (t : Nat) (Post : Option Value → TS → Prop)  (L : Lc) (st : List Value) (s : TS) : Prop :=
  (wK (.int 0) <| bk_X2_hasPerson_17 g t Post ) L st s
set_option maxRecDepth 20000 in
theorem s_X2_hasPerson_16 {X : Cx} (B : Bx) (g : Nat → Nat) (t : Nat) {Post : Option Value → TS → Prop} (C : OkX X (gx B) cX2_hasPerson 2 wsX2_hasPerson RX2 (rmD 0)) (R : RtX X (gx B) (some .boolean) (encT B g t) Post)  : Snd X (gx B) 2 (encT B g t) 16 (bk_X2_hasPerson_16 g t Post ) := by
  unfold bk_X2_hasPerson_16
  refine s_iconst C (by decide) dX2_hasPerson_16 ?_
  exact s_X2_hasPerson_17 B g t C R 
def bk_X2_hasPerson_0 (g : Nat → Nat) (t : Nat) (Post : Option Value → TS → Prop)  (L : Lc) (st : List Value) (s : TS) : Prop :=
  (wIload 1 <| wIf1 (fun x => x < 0) (bk_X2_hasPerson_16 g t Post ) (wIload 1 <| wAload 0 <| wGet (g t) (fun s => .int (tPp s)) <| wIf2 (fun x y => y ≤ x) (bk_X2_hasPerson_16 g t Post ) (wK (.int 1) <| bk_X2_hasPerson_17 g t Post ))) L st s
set_option maxRecDepth 20000 in
theorem s_X2_hasPerson_0 {X : Cx} (B : Bx) (g : Nat → Nat) (t : Nat) {Post : Option Value → TS → Prop} (C : OkX X (gx B) cX2_hasPerson 2 wsX2_hasPerson RX2 (rmD 0)) (R : RtX X (gx B) (some .boolean) (encT B g t) Post)  : Snd X (gx B) 2 (encT B g t) 0 (bk_X2_hasPerson_0 g t Post ) := by
  unfold bk_X2_hasPerson_0
  refine s_iload_n C rfl dX2_hasPerson_0 ?_
  refine s_if_lt C (tgt := 16) (by decide) dX2_hasPerson_1 ?_ ?_
  · exact s_X2_hasPerson_16 B g t C R 
  · refine s_iload_n C rfl dX2_hasPerson_4 ?_
    refine s_aload_n C rfl dX2_hasPerson_5 ?_
    refine s_get C inw_X2_hasPerson_X2 rfl (k := 1) (by decide) (by decide +kernel) (heT_0 B g t) (fun _ => rfl) dX2_hasPerson_6 ?_
    refine s_icmp_ge C (tgt := 16) (by decide) dX2_hasPerson_9 ?_ ?_
    · exact s_X2_hasPerson_16 B g t C R 
    · refine s_iconst C (by decide) dX2_hasPerson_12 ?_
      refine s_goto C (tgt := 17) (by decide) dX2_hasPerson_13 ?_
      exact s_X2_hasPerson_17 B g t C R 
theorem k_X2_hasPerson (B : Bx) (g : Nat → Nat) (t : Nat) : MtF (gx B) yX2_hasPerson wsX2_hasPerson (rmD 0) (encT B g t) (F_X2_hasPerson g t) := by
  refine cf_RI_i (fun l T p _ => Mt.of (by decide) rfl (Nat.le_of_ble_eq_true rfl) rfl (fun X C R => s_X2_hasPerson_0 B g t C R) ?_)
  simp only [wIload, wAload, wLload, wK, wB, wDv, wU, wLB, wLU, wLS, wL2i, wLcmp, wIf1, wIf2, wKeep, wInc, wIst, wAst, wLst, wDup, wPop, wDup2, wGet, wPut, wPutZ, wIald, wLald, wIast, wLast, wLen, wRetI, wRetZ, wRetL, wRetA, wRetV, wM1, wM2, wCpy, wTab, tabW, nth, stL, stL2, dropL, keepL, mkL, padL, restOK, restOKn, tl_some, tl_none, id_eq, eq_self, true_and, and_true, bk_X2_hasPerson_17, bk_X2_hasPerson_16, bk_X2_hasPerson_0]
  grind [tHasP, b2i]
def tHasN (T : TS) (p : Int32) : Bool := decide (¬ p < 0 ∧ p < tNn T)
def F_X2_hasNeed (g : Nat → Nat) (t : Nat) : CF TS := cf_RI (g t) (fun _ _ => True) (fun T p => some (.int (b2i (tHasN T p)))) (fun T _ => T)
theorem inw_X2_hasNeed_X2 : ∀ w ∈ u_ws RX2 TX2 8, w ∈ wsX2_hasNeed := by decide +kernel
def bk_X2_hasNeed_17 (g : Nat → Nat) (t : Nat) (Post : Option Value → TS → Prop)  (L : Lc) (st : List Value) (s : TS) : Prop :=
  (wRetZ Post) L st s
set_option maxRecDepth 20000 in
theorem s_X2_hasNeed_17 {X : Cx} (B : Bx) (g : Nat → Nat) (t : Nat) {Post : Option Value → TS → Prop} (C : OkX X (gx B) cX2_hasNeed 2 wsX2_hasNeed RX2 (rmD 0)) (R : RtX X (gx B) (some .boolean) (encT B g t) Post)  : Snd X (gx B) 2 (encT B g t) 17 (bk_X2_hasNeed_17 g t Post ) := by
  unfold bk_X2_hasNeed_17
  exact s_zret C R dX2_hasNeed_17
def bk_X2_hasNeed_16 (g : Nat → Nat) (t : Nat) (Post : Option Value → TS → Prop)  (L : Lc) (st : List Value) (s : TS) : Prop :=
  (wK (.int 0) <| bk_X2_hasNeed_17 g t Post ) L st s
set_option maxRecDepth 20000 in
theorem s_X2_hasNeed_16 {X : Cx} (B : Bx) (g : Nat → Nat) (t : Nat) {Post : Option Value → TS → Prop} (C : OkX X (gx B) cX2_hasNeed 2 wsX2_hasNeed RX2 (rmD 0)) (R : RtX X (gx B) (some .boolean) (encT B g t) Post)  : Snd X (gx B) 2 (encT B g t) 16 (bk_X2_hasNeed_16 g t Post ) := by
  unfold bk_X2_hasNeed_16
  refine s_iconst C (by decide) dX2_hasNeed_16 ?_
  exact s_X2_hasNeed_17 B g t C R 
def bk_X2_hasNeed_0 (g : Nat → Nat) (t : Nat) (Post : Option Value → TS → Prop)  (L : Lc) (st : List Value) (s : TS) : Prop :=
  (wIload 1 <| wIf1 (fun x => x < 0) (bk_X2_hasNeed_16 g t Post ) (wIload 1 <| wAload 0 <| wGet (g t) (fun s => .int (tNn s)) <| wIf2 (fun x y => y ≤ x) (bk_X2_hasNeed_16 g t Post ) (wK (.int 1) <| bk_X2_hasNeed_17 g t Post ))) L st s
set_option maxRecDepth 20000 in
theorem s_X2_hasNeed_0 {X : Cx} (B : Bx) (g : Nat → Nat) (t : Nat) {Post : Option Value → TS → Prop} (C : OkX X (gx B) cX2_hasNeed 2 wsX2_hasNeed RX2 (rmD 0)) (R : RtX X (gx B) (some .boolean) (encT B g t) Post)  : Snd X (gx B) 2 (encT B g t) 0 (bk_X2_hasNeed_0 g t Post ) := by
  unfold bk_X2_hasNeed_0
  refine s_iload_n C rfl dX2_hasNeed_0 ?_
  refine s_if_lt C (tgt := 16) (by decide) dX2_hasNeed_1 ?_ ?_
  · exact s_X2_hasNeed_16 B g t C R 
  · refine s_iload_n C rfl dX2_hasNeed_4 ?_
    refine s_aload_n C rfl dX2_hasNeed_5 ?_
    refine s_get C inw_X2_hasNeed_X2 rfl (k := 3) (by decide) (by decide +kernel) (heT_0 B g t) (fun _ => rfl) dX2_hasNeed_6 ?_
    refine s_icmp_ge C (tgt := 16) (by decide) dX2_hasNeed_9 ?_ ?_
    · exact s_X2_hasNeed_16 B g t C R 
    · refine s_iconst C (by decide) dX2_hasNeed_12 ?_
      refine s_goto C (tgt := 17) (by decide) dX2_hasNeed_13 ?_
      exact s_X2_hasNeed_17 B g t C R 
theorem k_X2_hasNeed (B : Bx) (g : Nat → Nat) (t : Nat) : MtF (gx B) yX2_hasNeed wsX2_hasNeed (rmD 0) (encT B g t) (F_X2_hasNeed g t) := by
  refine cf_RI_i (fun l T p _ => Mt.of (by decide) rfl (Nat.le_of_ble_eq_true rfl) rfl (fun X C R => s_X2_hasNeed_0 B g t C R) ?_)
  simp only [wIload, wAload, wLload, wK, wB, wDv, wU, wLB, wLU, wLS, wL2i, wLcmp, wIf1, wIf2, wKeep, wInc, wIst, wAst, wLst, wDup, wPop, wDup2, wGet, wPut, wPutZ, wIald, wLald, wIast, wLast, wLen, wRetI, wRetZ, wRetL, wRetA, wRetV, wM1, wM2, wCpy, wTab, tabW, nth, stL, stL2, dropL, keepL, mkL, padL, restOK, restOKn, tl_some, tl_none, id_eq, eq_self, true_and, and_true, bk_X2_hasNeed_17, bk_X2_hasNeed_16, bk_X2_hasNeed_0]
  grind [tHasN, b2i]
def tOfN (T : TS) (n k : Int32) : Int32 := if n < 0 ∨ 12 ≤ n ∨ k < 0 ∨ 6 ≤ k then 0 else tNt T (n * 6 + k).toNatClampNeg
def F_X2_ofNeed (g : Nat → Nat) (t : Nat) : CF TS := cf_RII (g t) (fun _ _ _ => True) (fun T p k => some (.int (tOfN T p k))) (fun T _ _ => T)
theorem inw_X2_ofNeed_X2 : ∀ w ∈ u_ws RX2 TX2 8, w ∈ wsX2_ofNeed := by decide +kernel
def bk_X2_ofNeed_20 (g : Nat → Nat) (t : Nat) (Post : Option Value → TS → Prop)  (L : Lc) (st : List Value) (s : TS) : Prop :=
  (wK (.int 0) <| wRetI Post) L st s
set_option maxRecDepth 20000 in
theorem s_X2_ofNeed_20 {X : Cx} (B : Bx) (g : Nat → Nat) (t : Nat) {Post : Option Value → TS → Prop} (C : OkX X (gx B) cX2_ofNeed 3 wsX2_ofNeed RX2 (rmD 0)) (R : RtX X (gx B) (some .int) (encT B g t) Post)  : Snd X (gx B) 3 (encT B g t) 20 (bk_X2_ofNeed_20 g t Post ) := by
  unfold bk_X2_ofNeed_20
  refine s_iconst C (by decide) dX2_ofNeed_20 ?_
  exact s_iret C R dX2_ofNeed_21
def bk_X2_ofNeed_0 (g : Nat → Nat) (t : Nat) (Post : Option Value → TS → Prop)  (L : Lc) (st : List Value) (s : TS) : Prop :=
  (wIload 1 <| wIf1 (fun x => x < 0) (bk_X2_ofNeed_20 g t Post ) (wIload 1 <| wK (.int 12) <| wIf2 (fun x y => y ≤ x) (bk_X2_ofNeed_20 g t Post ) (wIload 2 <| wIf1 (fun x => x < 0) (bk_X2_ofNeed_20 g t Post ) (wIload 2 <| wK (.int 6) <| wIf2 (fun x y => x < y) (wAload 0 <| wGet (g t) (fun _ => .ref (g (t + 2))) <| wIload 1 <| wK (.int 6) <| wB (fun x y => x * y) <| wIload 2 <| wB (fun x y => x + y) <| wIald (g (t + 2)) 72 tNt <| wRetI Post) (bk_X2_ofNeed_20 g t Post ))))) L st s
set_option maxRecDepth 20000 in
theorem s_X2_ofNeed_0 {X : Cx} (B : Bx) (g : Nat → Nat) (t : Nat) {Post : Option Value → TS → Prop} (C : OkX X (gx B) cX2_ofNeed 3 wsX2_ofNeed RX2 (rmD 0)) (R : RtX X (gx B) (some .int) (encT B g t) Post)  : Snd X (gx B) 3 (encT B g t) 0 (bk_X2_ofNeed_0 g t Post ) := by
  unfold bk_X2_ofNeed_0
  refine s_iload_n C rfl dX2_ofNeed_0 ?_
  refine s_if_lt C (tgt := 20) (by decide) dX2_ofNeed_1 ?_ ?_
  · exact s_X2_ofNeed_20 B g t C R 
  · refine s_iload_n C rfl dX2_ofNeed_4 ?_
    refine s_bipush C (by decide) dX2_ofNeed_5 ?_
    refine s_icmp_ge C (tgt := 20) (by decide) dX2_ofNeed_7 ?_ ?_
    · exact s_X2_ofNeed_20 B g t C R 
    · refine s_iload_n C rfl dX2_ofNeed_10 ?_
      refine s_if_lt C (tgt := 20) (by decide) dX2_ofNeed_11 ?_ ?_
      · exact s_X2_ofNeed_20 B g t C R 
      · refine s_iload_n C rfl dX2_ofNeed_14 ?_
        refine s_bipush C (by decide) dX2_ofNeed_15 ?_
        refine s_icmp_lt C (tgt := 22) (by decide) dX2_ofNeed_17 ?_ ?_
        · refine s_aload_n C rfl dX2_ofNeed_22 ?_
          refine s_get C inw_X2_ofNeed_X2 rfl (k := 2) (by decide) (by decide +kernel) (heT_0 B g t) (fun _ => rfl) dX2_ofNeed_23 ?_
          refine s_iload_n C rfl dX2_ofNeed_26 ?_
          refine s_bipush C (by decide) dX2_ofNeed_27 ?_
          refine s_imul C dX2_ofNeed_29 ?_
          refine s_iload_n C rfl dX2_ofNeed_30 ?_
          refine s_iadd C dX2_ofNeed_31 ?_
          refine s_iald C (heT_2 B g t) dX2_ofNeed_32 ?_
          exact s_iret C R dX2_ofNeed_33
        · exact s_X2_ofNeed_20 B g t C R 
theorem k_X2_ofNeed (B : Bx) (g : Nat → Nat) (t : Nat) : MtF (gx B) yX2_ofNeed wsX2_ofNeed (rmD 0) (encT B g t) (F_X2_ofNeed g t) := by
  refine cf_RII_i (fun l T p k _ => Mt.of (by decide) rfl (Nat.le_of_ble_eq_true rfl) rfl (fun X C R => s_X2_ofNeed_0 B g t C R) ?_)
  simp only [wIload, wAload, wLload, wK, wB, wDv, wU, wLB, wLU, wLS, wL2i, wLcmp, wIf1, wIf2, wKeep, wInc, wIst, wAst, wLst, wDup, wPop, wDup2, wGet, wPut, wPutZ, wIald, wLald, wIast, wLast, wLen, wRetI, wRetZ, wRetL, wRetA, wRetV, wM1, wM2, wCpy, wTab, tabW, nth, stL, stL2, dropL, keepL, mkL, padL, restOK, restOKn, tl_some, tl_none, id_eq, eq_self, true_and, and_true, bk_X2_ofNeed_20, bk_X2_ofNeed_0]
  grind [tOfN, @v72 p k]
def tPutP (T : TS) (p k v : Int32) : TS := if p < 0 ∨ 7 ≤ p ∨ k < 0 ∨ 6 ≤ k then T else taPt T (p * 6 + k).toNatClampNeg v
def F_X2_putPerson (g : Nat → Nat) (t : Nat) : CF TS := cf_RIII (g t) (fun _ _ _ _ => True) (fun _ _ _ _ => none) (fun T p k v => tPutP T p k v)
theorem inw_X2_putPerson_X2 : ∀ w ∈ u_ws RX2 TX2 8, w ∈ wsX2_putPerson := by decide +kernel
def bk_X2_putPerson_32 (g : Nat → Nat) (t : Nat) (Post : Option Value → TS → Prop)  (L : Lc) (st : List Value) (s : TS) : Prop :=
  (wRetV Post) L st s
set_option maxRecDepth 20000 in
theorem s_X2_putPerson_32 {X : Cx} (B : Bx) (g : Nat → Nat) (t : Nat) {Post : Option Value → TS → Prop} (C : OkX X (gx B) cX2_putPerson 4 wsX2_putPerson RX2 (rmD 0)) (R : RtX X (gx B) none (encT B g t) Post)  : Snd X (gx B) 4 (encT B g t) 32 (bk_X2_putPerson_32 g t Post ) := by
  unfold bk_X2_putPerson_32
  exact s_vret C R dX2_putPerson_32
def bk_X2_putPerson_0 (g : Nat → Nat) (t : Nat) (Post : Option Value → TS → Prop)  (L : Lc) (st : List Value) (s : TS) : Prop :=
  (wIload 1 <| wIf1 (fun x => x < 0) (bk_X2_putPerson_32 g t Post ) (wIload 1 <| wK (.int 7) <| wIf2 (fun x y => y ≤ x) (bk_X2_putPerson_32 g t Post ) (wIload 2 <| wIf1 (fun x => x < 0) (bk_X2_putPerson_32 g t Post ) (wIload 2 <| wK (.int 6) <| wIf2 (fun x y => y ≤ x) (bk_X2_putPerson_32 g t Post ) (wAload 0 <| wGet (g t) (fun _ => .ref (g (t + 1))) <| wIload 1 <| wK (.int 6) <| wB (fun x y => x * y) <| wIload 2 <| wB (fun x y => x + y) <| wIload 3 <| wIast (g (t + 1)) 42 taPt <| bk_X2_putPerson_32 g t Post ))))) L st s
set_option maxRecDepth 20000 in
theorem s_X2_putPerson_0 {X : Cx} (B : Bx) (g : Nat → Nat) (t : Nat) {Post : Option Value → TS → Prop} (C : OkX X (gx B) cX2_putPerson 4 wsX2_putPerson RX2 (rmD 0)) (R : RtX X (gx B) none (encT B g t) Post)  : Snd X (gx B) 4 (encT B g t) 0 (bk_X2_putPerson_0 g t Post ) := by
  unfold bk_X2_putPerson_0
  refine s_iload_n C rfl dX2_putPerson_0 ?_
  refine s_if_lt C (tgt := 32) (by decide) dX2_putPerson_1 ?_ ?_
  · exact s_X2_putPerson_32 B g t C R 
  · refine s_iload_n C rfl dX2_putPerson_4 ?_
    refine s_bipush C (by decide) dX2_putPerson_5 ?_
    refine s_icmp_ge C (tgt := 32) (by decide) dX2_putPerson_7 ?_ ?_
    · exact s_X2_putPerson_32 B g t C R 
    · refine s_iload_n C rfl dX2_putPerson_10 ?_
      refine s_if_lt C (tgt := 32) (by decide) dX2_putPerson_11 ?_ ?_
      · exact s_X2_putPerson_32 B g t C R 
      · refine s_iload_n C rfl dX2_putPerson_14 ?_
        refine s_bipush C (by decide) dX2_putPerson_15 ?_
        refine s_icmp_ge C (tgt := 32) (by decide) dX2_putPerson_17 ?_ ?_
        · exact s_X2_putPerson_32 B g t C R 
        · refine s_aload_n C rfl dX2_putPerson_20 ?_
          refine s_get C inw_X2_putPerson_X2 rfl (k := 0) (by decide) (by decide +kernel) (heT_0 B g t) (fun _ => rfl) dX2_putPerson_21 ?_
          refine s_iload_n C rfl dX2_putPerson_24 ?_
          refine s_bipush C (by decide) dX2_putPerson_25 ?_
          refine s_imul C dX2_putPerson_27 ?_
          refine s_iload_n C rfl dX2_putPerson_28 ?_
          refine s_iadd C dX2_putPerson_29 ?_
          refine s_iload_n C rfl dX2_putPerson_30 ?_
          refine s_iast C (heT_1 B g t) (fun _ _ _ => rfl) dX2_putPerson_31 ?_
          exact s_X2_putPerson_32 B g t C R 
theorem k_X2_putPerson (B : Bx) (g : Nat → Nat) (t : Nat) : MtF (gx B) yX2_putPerson wsX2_putPerson (rmD 0) (encT B g t) (F_X2_putPerson g t) := by
  refine cf_RIII_i (fun l T p k v _ => Mt.of (by decide) rfl (Nat.le_of_ble_eq_true rfl) rfl (fun X C R => s_X2_putPerson_0 B g t C R) ?_)
  simp only [wIload, wAload, wLload, wK, wB, wDv, wU, wLB, wLU, wLS, wL2i, wLcmp, wIf1, wIf2, wKeep, wInc, wIst, wAst, wLst, wDup, wPop, wDup2, wGet, wPut, wPutZ, wIald, wLald, wIast, wLast, wLen, wRetI, wRetZ, wRetL, wRetA, wRetV, wM1, wM2, wCpy, wTab, tabW, nth, stL, stL2, dropL, keepL, mkL, padL, restOK, restOKn, tl_some, tl_none, id_eq, eq_self, true_and, and_true, bk_X2_putPerson_32, bk_X2_putPerson_0]
  grind [tPutP, @v42 p k]
def tPutN (T : TS) (p k v : Int32) : TS := if p < 0 ∨ 12 ≤ p ∨ k < 0 ∨ 6 ≤ k then T else taNt T (p * 6 + k).toNatClampNeg v
def F_X2_putNeed (g : Nat → Nat) (t : Nat) : CF TS := cf_RIII (g t) (fun _ _ _ _ => True) (fun _ _ _ _ => none) (fun T p k v => tPutN T p k v)
theorem inw_X2_putNeed_X2 : ∀ w ∈ u_ws RX2 TX2 8, w ∈ wsX2_putNeed := by decide +kernel
def bk_X2_putNeed_32 (g : Nat → Nat) (t : Nat) (Post : Option Value → TS → Prop)  (L : Lc) (st : List Value) (s : TS) : Prop :=
  (wRetV Post) L st s
set_option maxRecDepth 20000 in
theorem s_X2_putNeed_32 {X : Cx} (B : Bx) (g : Nat → Nat) (t : Nat) {Post : Option Value → TS → Prop} (C : OkX X (gx B) cX2_putNeed 4 wsX2_putNeed RX2 (rmD 0)) (R : RtX X (gx B) none (encT B g t) Post)  : Snd X (gx B) 4 (encT B g t) 32 (bk_X2_putNeed_32 g t Post ) := by
  unfold bk_X2_putNeed_32
  exact s_vret C R dX2_putNeed_32
def bk_X2_putNeed_0 (g : Nat → Nat) (t : Nat) (Post : Option Value → TS → Prop)  (L : Lc) (st : List Value) (s : TS) : Prop :=
  (wIload 1 <| wIf1 (fun x => x < 0) (bk_X2_putNeed_32 g t Post ) (wIload 1 <| wK (.int 12) <| wIf2 (fun x y => y ≤ x) (bk_X2_putNeed_32 g t Post ) (wIload 2 <| wIf1 (fun x => x < 0) (bk_X2_putNeed_32 g t Post ) (wIload 2 <| wK (.int 6) <| wIf2 (fun x y => y ≤ x) (bk_X2_putNeed_32 g t Post ) (wAload 0 <| wGet (g t) (fun _ => .ref (g (t + 2))) <| wIload 1 <| wK (.int 6) <| wB (fun x y => x * y) <| wIload 2 <| wB (fun x y => x + y) <| wIload 3 <| wIast (g (t + 2)) 72 taNt <| bk_X2_putNeed_32 g t Post ))))) L st s
set_option maxRecDepth 20000 in
theorem s_X2_putNeed_0 {X : Cx} (B : Bx) (g : Nat → Nat) (t : Nat) {Post : Option Value → TS → Prop} (C : OkX X (gx B) cX2_putNeed 4 wsX2_putNeed RX2 (rmD 0)) (R : RtX X (gx B) none (encT B g t) Post)  : Snd X (gx B) 4 (encT B g t) 0 (bk_X2_putNeed_0 g t Post ) := by
  unfold bk_X2_putNeed_0
  refine s_iload_n C rfl dX2_putNeed_0 ?_
  refine s_if_lt C (tgt := 32) (by decide) dX2_putNeed_1 ?_ ?_
  · exact s_X2_putNeed_32 B g t C R 
  · refine s_iload_n C rfl dX2_putNeed_4 ?_
    refine s_bipush C (by decide) dX2_putNeed_5 ?_
    refine s_icmp_ge C (tgt := 32) (by decide) dX2_putNeed_7 ?_ ?_
    · exact s_X2_putNeed_32 B g t C R 
    · refine s_iload_n C rfl dX2_putNeed_10 ?_
      refine s_if_lt C (tgt := 32) (by decide) dX2_putNeed_11 ?_ ?_
      · exact s_X2_putNeed_32 B g t C R 
      · refine s_iload_n C rfl dX2_putNeed_14 ?_
        refine s_bipush C (by decide) dX2_putNeed_15 ?_
        refine s_icmp_ge C (tgt := 32) (by decide) dX2_putNeed_17 ?_ ?_
        · exact s_X2_putNeed_32 B g t C R 
        · refine s_aload_n C rfl dX2_putNeed_20 ?_
          refine s_get C inw_X2_putNeed_X2 rfl (k := 2) (by decide) (by decide +kernel) (heT_0 B g t) (fun _ => rfl) dX2_putNeed_21 ?_
          refine s_iload_n C rfl dX2_putNeed_24 ?_
          refine s_bipush C (by decide) dX2_putNeed_25 ?_
          refine s_imul C dX2_putNeed_27 ?_
          refine s_iload_n C rfl dX2_putNeed_28 ?_
          refine s_iadd C dX2_putNeed_29 ?_
          refine s_iload_n C rfl dX2_putNeed_30 ?_
          refine s_iast C (heT_2 B g t) (fun _ _ _ => rfl) dX2_putNeed_31 ?_
          exact s_X2_putNeed_32 B g t C R 
theorem k_X2_putNeed (B : Bx) (g : Nat → Nat) (t : Nat) : MtF (gx B) yX2_putNeed wsX2_putNeed (rmD 0) (encT B g t) (F_X2_putNeed g t) := by
  refine cf_RIII_i (fun l T p k v _ => Mt.of (by decide) rfl (Nat.le_of_ble_eq_true rfl) rfl (fun X C R => s_X2_putNeed_0 B g t C R) ?_)
  simp only [wIload, wAload, wLload, wK, wB, wDv, wU, wLB, wLU, wLS, wL2i, wLcmp, wIf1, wIf2, wKeep, wInc, wIst, wAst, wLst, wDup, wPop, wDup2, wGet, wPut, wPutZ, wIald, wLald, wIast, wLast, wLen, wRetI, wRetZ, wRetL, wRetA, wRetV, wM1, wM2, wCpy, wTab, tabW, nth, stL, stL2, dropL, keepL, mkL, padL, restOK, restOKn, tl_some, tl_none, id_eq, eq_self, true_and, and_true, bk_X2_putNeed_32, bk_X2_putNeed_0]
  grind [tPutN, @v72 p k]
theorem v4 {k : Int32} : ¬ k < 0 → k < 4 → vp_in k 4 := by
  intro h1 h2
  obtain ⟨a, ha, ea⟩ := ixN' (n := 4) rfl h1 h2
  exact vpN ea ha (by decide)
def tSet (T : TS) (k : Int32) : Int32 := if k < 0 ∨ 4 ≤ k then 0 else tSe T k.toNatClampNeg
def F_X2_setting (g : Nat → Nat) (t : Nat) : CF TS := cf_RI (g t) (fun _ _ => True) (fun T k => some (.int (tSet T k))) (fun T _ => T)
theorem inw_X2_setting_X2 : ∀ w ∈ u_ws RX2 TX2 8, w ∈ wsX2_setting := by decide +kernel
def bk_X2_setting_23 (g : Nat → Nat) (t : Nat) (Post : Option Value → TS → Prop)  (L : Lc) (st : List Value) (s : TS) : Prop :=
  (wRetI Post) L st s
set_option maxRecDepth 20000 in
theorem s_X2_setting_23 {X : Cx} (B : Bx) (g : Nat → Nat) (t : Nat) {Post : Option Value → TS → Prop} (C : OkX X (gx B) cX2_setting 2 wsX2_setting RX2 (rmD 0)) (R : RtX X (gx B) (some .int) (encT B g t) Post)  : Snd X (gx B) 2 (encT B g t) 23 (bk_X2_setting_23 g t Post ) := by
  unfold bk_X2_setting_23
  exact s_iret C R dX2_setting_23
def bk_X2_setting_22 (g : Nat → Nat) (t : Nat) (Post : Option Value → TS → Prop)  (L : Lc) (st : List Value) (s : TS) : Prop :=
  (wK (.int 0) <| bk_X2_setting_23 g t Post ) L st s
set_option maxRecDepth 20000 in
theorem s_X2_setting_22 {X : Cx} (B : Bx) (g : Nat → Nat) (t : Nat) {Post : Option Value → TS → Prop} (C : OkX X (gx B) cX2_setting 2 wsX2_setting RX2 (rmD 0)) (R : RtX X (gx B) (some .int) (encT B g t) Post)  : Snd X (gx B) 2 (encT B g t) 22 (bk_X2_setting_22 g t Post ) := by
  unfold bk_X2_setting_22
  refine s_iconst C (by decide) dX2_setting_22 ?_
  exact s_X2_setting_23 B g t C R 
def bk_X2_setting_0 (g : Nat → Nat) (t : Nat) (Post : Option Value → TS → Prop)  (L : Lc) (st : List Value) (s : TS) : Prop :=
  (wIload 1 <| wIf1 (fun x => x < 0) (bk_X2_setting_22 g t Post ) (wIload 1 <| wAload 0 <| wGet (g t) (fun _ => .ref (g (t + 4))) <| wLen (g (t + 4)) 4 <| wIf2 (fun x y => y ≤ x) (bk_X2_setting_22 g t Post ) (wAload 0 <| wGet (g t) (fun _ => .ref (g (t + 4))) <| wIload 1 <| wIald (g (t + 4)) 4 tSe <| bk_X2_setting_23 g t Post ))) L st s
set_option maxRecDepth 20000 in
theorem s_X2_setting_0 {X : Cx} (B : Bx) (g : Nat → Nat) (t : Nat) {Post : Option Value → TS → Prop} (C : OkX X (gx B) cX2_setting 2 wsX2_setting RX2 (rmD 0)) (R : RtX X (gx B) (some .int) (encT B g t) Post)  : Snd X (gx B) 2 (encT B g t) 0 (bk_X2_setting_0 g t Post ) := by
  unfold bk_X2_setting_0
  refine s_iload_n C rfl dX2_setting_0 ?_
  refine s_if_lt C (tgt := 22) (by decide) dX2_setting_1 ?_ ?_
  · exact s_X2_setting_22 B g t C R 
  · refine s_iload_n C rfl dX2_setting_4 ?_
    refine s_aload_n C rfl dX2_setting_5 ?_
    refine s_get C inw_X2_setting_X2 rfl (k := 6) (by decide) (by decide +kernel) (heT_0 B g t) (fun _ => rfl) dX2_setting_6 ?_
    refine s_alen C (t0 := 0) (heT_4 B g t) rfl (fun _ => rfl) dX2_setting_9 ?_
    refine s_icmp_ge C (tgt := 22) (by decide) dX2_setting_10 ?_ ?_
    · exact s_X2_setting_22 B g t C R 
    · refine s_aload_n C rfl dX2_setting_13 ?_
      refine s_get C inw_X2_setting_X2 rfl (k := 6) (by decide) (by decide +kernel) (heT_0 B g t) (fun _ => rfl) dX2_setting_14 ?_
      refine s_iload_n C rfl dX2_setting_17 ?_
      refine s_iald C (heT_4 B g t) dX2_setting_18 ?_
      refine s_goto C (tgt := 23) (by decide) dX2_setting_19 ?_
      exact s_X2_setting_23 B g t C R 
theorem k_X2_setting (B : Bx) (g : Nat → Nat) (t : Nat) : MtF (gx B) yX2_setting wsX2_setting (rmD 0) (encT B g t) (F_X2_setting g t) := by
  refine cf_RI_i (fun l T k _ => Mt.of (by decide) rfl (Nat.le_of_ble_eq_true rfl) rfl (fun X C R => s_X2_setting_0 B g t C R) ?_)
  simp only [wIload, wAload, wLload, wK, wB, wDv, wU, wLB, wLU, wLS, wL2i, wLcmp, wIf1, wIf2, wKeep, wInc, wIst, wAst, wLst, wDup, wPop, wDup2, wGet, wPut, wPutZ, wIald, wLald, wIast, wLast, wLen, wRetI, wRetZ, wRetL, wRetA, wRetV, wM1, wM2, wCpy, wTab, tabW, nth, stL, stL2, dropL, keepL, mkL, padL, restOK, restOKn, tl_some, tl_none, id_eq, eq_self, true_and, and_true, bk_X2_setting_23, bk_X2_setting_22, bk_X2_setting_0]
  grind [tSet, @v4 k]
def tSettle (T : TS) (k v : Int32) : TS := if k < 0 ∨ 4 ≤ k then T else taSe T k.toNatClampNeg v
def F_X2_settle (g : Nat → Nat) (t : Nat) : CF TS := cf_RII (g t) (fun _ _ _ => True) (fun _ _ _ => none) (fun T k v => tSettle T k v)
theorem inw_X2_settle_X2 : ∀ w ∈ u_ws RX2 TX2 8, w ∈ wsX2_settle := by decide +kernel
def bk_X2_settle_20 (g : Nat → Nat) (t : Nat) (Post : Option Value → TS → Prop)  (L : Lc) (st : List Value) (s : TS) : Prop :=
  (wRetV Post) L st s
set_option maxRecDepth 20000 in
theorem s_X2_settle_20 {X : Cx} (B : Bx) (g : Nat → Nat) (t : Nat) {Post : Option Value → TS → Prop} (C : OkX X (gx B) cX2_settle 3 wsX2_settle RX2 (rmD 0)) (R : RtX X (gx B) none (encT B g t) Post)  : Snd X (gx B) 3 (encT B g t) 20 (bk_X2_settle_20 g t Post ) := by
  unfold bk_X2_settle_20
  exact s_vret C R dX2_settle_20
def bk_X2_settle_0 (g : Nat → Nat) (t : Nat) (Post : Option Value → TS → Prop)  (L : Lc) (st : List Value) (s : TS) : Prop :=
  (wIload 1 <| wIf1 (fun x => x < 0) (bk_X2_settle_20 g t Post ) (wIload 1 <| wAload 0 <| wGet (g t) (fun _ => .ref (g (t + 4))) <| wLen (g (t + 4)) 4 <| wIf2 (fun x y => y ≤ x) (bk_X2_settle_20 g t Post ) (wAload 0 <| wGet (g t) (fun _ => .ref (g (t + 4))) <| wIload 1 <| wIload 2 <| wIast (g (t + 4)) 4 taSe <| bk_X2_settle_20 g t Post ))) L st s
set_option maxRecDepth 20000 in
theorem s_X2_settle_0 {X : Cx} (B : Bx) (g : Nat → Nat) (t : Nat) {Post : Option Value → TS → Prop} (C : OkX X (gx B) cX2_settle 3 wsX2_settle RX2 (rmD 0)) (R : RtX X (gx B) none (encT B g t) Post)  : Snd X (gx B) 3 (encT B g t) 0 (bk_X2_settle_0 g t Post ) := by
  unfold bk_X2_settle_0
  refine s_iload_n C rfl dX2_settle_0 ?_
  refine s_if_lt C (tgt := 20) (by decide) dX2_settle_1 ?_ ?_
  · exact s_X2_settle_20 B g t C R 
  · refine s_iload_n C rfl dX2_settle_4 ?_
    refine s_aload_n C rfl dX2_settle_5 ?_
    refine s_get C inw_X2_settle_X2 rfl (k := 6) (by decide) (by decide +kernel) (heT_0 B g t) (fun _ => rfl) dX2_settle_6 ?_
    refine s_alen C (t0 := 0) (heT_4 B g t) rfl (fun _ => rfl) dX2_settle_9 ?_
    refine s_icmp_ge C (tgt := 20) (by decide) dX2_settle_10 ?_ ?_
    · exact s_X2_settle_20 B g t C R 
    · refine s_aload_n C rfl dX2_settle_13 ?_
      refine s_get C inw_X2_settle_X2 rfl (k := 6) (by decide) (by decide +kernel) (heT_0 B g t) (fun _ => rfl) dX2_settle_14 ?_
      refine s_iload_n C rfl dX2_settle_17 ?_
      refine s_iload_n C rfl dX2_settle_18 ?_
      refine s_iast C (heT_4 B g t) (fun _ _ _ => rfl) dX2_settle_19 ?_
      exact s_X2_settle_20 B g t C R 
theorem k_X2_settle (B : Bx) (g : Nat → Nat) (t : Nat) : MtF (gx B) yX2_settle wsX2_settle (rmD 0) (encT B g t) (F_X2_settle g t) := by
  refine cf_RII_i (fun l T k v _ => Mt.of (by decide) rfl (Nat.le_of_ble_eq_true rfl) rfl (fun X C R => s_X2_settle_0 B g t C R) ?_)
  simp only [wIload, wAload, wLload, wK, wB, wDv, wU, wLB, wLU, wLS, wL2i, wLcmp, wIf1, wIf2, wKeep, wInc, wIst, wAst, wLst, wDup, wPop, wDup2, wGet, wPut, wPutZ, wIald, wLald, wIast, wLast, wLen, wRetI, wRetZ, wRetL, wRetA, wRetV, wM1, wM2, wCpy, wTab, tabW, nth, stL, stL2, dropL, keepL, mkL, padL, restOK, restOKn, tl_some, tl_none, id_eq, eq_self, true_and, and_true, bk_X2_settle_20, bk_X2_settle_0]
  grind [tSettle, @v4 k]
def tOnly (T : TS) (who help grave : Int32) : TS := tPutN (tPutN (tPutN (tPutN (tPutN (tPutN (tsNn T 1) 0 0 who) 0 1 help) 0 2 grave) 0 3 1) 0 4 (tYr T)) 0 5 0
def F_X2_putOnlyNeed (g : Nat → Nat) (t : Nat) : CF TS := cf_RIII (g t) (fun _ _ _ _ => True) (fun _ _ _ _ => none) (fun T p k v => tOnly T p k v)
theorem inw_X2_putOnlyNeed_X2 : ∀ w ∈ u_ws RX2 TX2 8, w ∈ wsX2_putOnlyNeed := by decide +kernel
def bk_X2_putOnlyNeed_0 (g : Nat → Nat) (t : Nat) (Post : Option Value → TS → Prop)  (L : Lc) (st : List Value) (s : TS) : Prop :=
  (wAload 0 <| wK (.int 1) <| wPut (g t) tsNn <| wAload 0 <| wK (.int 0) <| wK (.int 0) <| wIload 1 <| wCallR 4 (F_X2_putNeed g t) id (fun _ u => u) <| wAload 0 <| wK (.int 0) <| wK (.int 1) <| wIload 2 <| wCallR 4 (F_X2_putNeed g t) id (fun _ u => u) <| wAload 0 <| wK (.int 0) <| wK (.int 2) <| wIload 3 <| wCallR 4 (F_X2_putNeed g t) id (fun _ u => u) <| wAload 0 <| wK (.int 0) <| wK (.int 3) <| wK (.int 1) <| wCallR 4 (F_X2_putNeed g t) id (fun _ u => u) <| wAload 0 <| wK (.int 0) <| wK (.int 4) <| wAload 0 <| wGet (g t) (fun s => .int (tYr s)) <| wCallR 4 (F_X2_putNeed g t) id (fun _ u => u) <| wAload 0 <| wK (.int 0) <| wK (.int 5) <| wK (.int 0) <| wCallR 4 (F_X2_putNeed g t) id (fun _ u => u) <| wRetV Post) L st s
set_option maxRecDepth 20000 in
theorem s_X2_putOnlyNeed_0 {X : Cx} (B : Bx) (g : Nat → Nat) (t : Nat) {Post : Option Value → TS → Prop} (C : OkX X (gx B) cX2_putOnlyNeed 4 wsX2_putOnlyNeed RX2 (rmD 1)) (R : RtX X (gx B) none (encT B g t) Post)  : Snd X (gx B) 4 (encT B g t) 0 (bk_X2_putOnlyNeed_0 g t Post ) := by
  unfold bk_X2_putOnlyNeed_0
  refine s_aload_n C rfl dX2_putOnlyNeed_0 ?_
  refine s_iconst C (by decide) dX2_putOnlyNeed_1 ?_
  refine s_put C inw_X2_putOnlyNeed_X2 rfl (k := 3) (by decide) (by decide +kernel) tyX2_ok nmX2 (by decide +kernel) (by decide +kernel) (heT_0 B g t) (fun _ => Nat.le_of_ble_eq_true rfl) (fun _ _ => rfl) dX2_putOnlyNeed_2 ?_
  refine s_aload_n C rfl dX2_putOnlyNeed_5 ?_
  refine s_iconst C (by decide) dX2_putOnlyNeed_6 ?_
  refine s_iconst C (by decide) dX2_putOnlyNeed_7 ?_
  refine s_iload_n C rfl dX2_putOnlyNeed_8 ?_
  refine s_callV C (fr_T_T B g t) (k_X2_putNeed B g t) gX2_putOnlyNeed_X2_putNeed rfl (by decide +kernel) ⟨rfl, rfl⟩ (by decide) rfl (fun s => ⟨_, heT_0 B g t s⟩) (cf_RIII_r _ _ _ _) dX2_putOnlyNeed_9 ?_
  refine s_aload_n C rfl dX2_putOnlyNeed_12 ?_
  refine s_iconst C (by decide) dX2_putOnlyNeed_13 ?_
  refine s_iconst C (by decide) dX2_putOnlyNeed_14 ?_
  refine s_iload_n C rfl dX2_putOnlyNeed_15 ?_
  refine s_callV C (fr_T_T B g t) (k_X2_putNeed B g t) gX2_putOnlyNeed_X2_putNeed rfl (by decide +kernel) ⟨rfl, rfl⟩ (by decide) rfl (fun s => ⟨_, heT_0 B g t s⟩) (cf_RIII_r _ _ _ _) dX2_putOnlyNeed_16 ?_
  refine s_aload_n C rfl dX2_putOnlyNeed_19 ?_
  refine s_iconst C (by decide) dX2_putOnlyNeed_20 ?_
  refine s_iconst C (by decide) dX2_putOnlyNeed_21 ?_
  refine s_iload_n C rfl dX2_putOnlyNeed_22 ?_
  refine s_callV C (fr_T_T B g t) (k_X2_putNeed B g t) gX2_putOnlyNeed_X2_putNeed rfl (by decide +kernel) ⟨rfl, rfl⟩ (by decide) rfl (fun s => ⟨_, heT_0 B g t s⟩) (cf_RIII_r _ _ _ _) dX2_putOnlyNeed_23 ?_
  refine s_aload_n C rfl dX2_putOnlyNeed_26 ?_
  refine s_iconst C (by decide) dX2_putOnlyNeed_27 ?_
  refine s_iconst C (by decide) dX2_putOnlyNeed_28 ?_
  refine s_iconst C (by decide) dX2_putOnlyNeed_29 ?_
  refine s_callV C (fr_T_T B g t) (k_X2_putNeed B g t) gX2_putOnlyNeed_X2_putNeed rfl (by decide +kernel) ⟨rfl, rfl⟩ (by decide) rfl (fun s => ⟨_, heT_0 B g t s⟩) (cf_RIII_r _ _ _ _) dX2_putOnlyNeed_30 ?_
  refine s_aload_n C rfl dX2_putOnlyNeed_33 ?_
  refine s_iconst C (by decide) dX2_putOnlyNeed_34 ?_
  refine s_iconst C (by decide) dX2_putOnlyNeed_35 ?_
  refine s_aload_n C rfl dX2_putOnlyNeed_36 ?_
  refine s_get C inw_X2_putOnlyNeed_X2 rfl (k := 7) (by decide) (by decide +kernel) (heT_0 B g t) (fun _ => rfl) dX2_putOnlyNeed_37 ?_
  refine s_callV C (fr_T_T B g t) (k_X2_putNeed B g t) gX2_putOnlyNeed_X2_putNeed rfl (by decide +kernel) ⟨rfl, rfl⟩ (by decide) rfl (fun s => ⟨_, heT_0 B g t s⟩) (cf_RIII_r _ _ _ _) dX2_putOnlyNeed_40 ?_
  refine s_aload_n C rfl dX2_putOnlyNeed_43 ?_
  refine s_iconst C (by decide) dX2_putOnlyNeed_44 ?_
  refine s_iconst C (by decide) dX2_putOnlyNeed_45 ?_
  refine s_iconst C (by decide) dX2_putOnlyNeed_46 ?_
  refine s_callV C (fr_T_T B g t) (k_X2_putNeed B g t) gX2_putOnlyNeed_X2_putNeed rfl (by decide +kernel) ⟨rfl, rfl⟩ (by decide) rfl (fun s => ⟨_, heT_0 B g t s⟩) (cf_RIII_r _ _ _ _) dX2_putOnlyNeed_47 ?_
  exact s_vret C R dX2_putOnlyNeed_50
theorem tYr_put (T : TS) (p k v : Int32) : tYr (tPutN T p k v) = tYr T := by unfold tPutN; split <;> rfl
theorem k_X2_putOnlyNeed (B : Bx) (g : Nat → Nat) (t : Nat) : MtF (gx B) yX2_putOnlyNeed wsX2_putOnlyNeed (rmD 1) (encT B g t) (F_X2_putOnlyNeed g t) := by
  refine cf_RIII_i (fun l T p k v _ => Mt.of (by decide) rfl (Nat.le_of_ble_eq_true rfl) rfl (fun X C R => s_X2_putOnlyNeed_0 B g t C R) ?_)
  simp only [wIload, wAload, wLload, wK, wB, wDv, wU, wLB, wLU, wLS, wL2i, wLcmp, wIf1, wIf2, wKeep, wInc, wIst, wAst, wLst, wDup, wPop, wDup2, wGet, wPut, wPutZ, wIald, wLald, wIast, wLast, wLen, wRetI, wRetZ, wRetL, wRetA, wRetV, wM1, wM2, wCpy, wTab, tabW, nth, stL, stL2, dropL, keepL, mkL, padL, restOK, restOKn, tl_some, tl_none, id_eq, eq_self, true_and, and_true, bk_X2_putOnlyNeed_0, F_X2_putNeed, cf_RIII_e, tYr_put]
  exact rfl
def absI (x : Int32) : Int32 := if 0 ≤ x then x else 0 - x
def tMin (T : TS) (p q : Int32) : Int32 := absI (tOfP T p 1 - tOfP T q 1)
def F_X2_minutesBetween (g : Nat → Nat) (t : Nat) : CF TS := cf_RII (g t) (fun _ _ _ => True) (fun T p q => some (.int (tMin T p q))) (fun T _ _ => T)
theorem inw_X2_minutesBetween_X2 : ∀ w ∈ u_ws RX2 TX2 8, w ∈ wsX2_minutesBetween := by decide +kernel
def bk_X2_minutesBetween_0 (g : Nat → Nat) (t : Nat) (Post : Option Value → TS → Prop)  (L : Lc) (st : List Value) (s : TS) : Prop :=
  (wAload 0 <| wIload 1 <| wK (.int 1) <| wCallR 3 (F_X2_ofPerson g t) id (fun _ u => u) <| wAload 0 <| wIload 2 <| wK (.int 1) <| wCallR 3 (F_X2_ofPerson g t) id (fun _ u => u) <| wB (fun x y => x - y) <| wM1 (fun x => if 0 ≤ x then x else 0 - x) <| wRetI Post) L st s
set_option maxRecDepth 20000 in
theorem s_X2_minutesBetween_0 {X : Cx} (B : Bx) (g : Nat → Nat) (t : Nat) {Post : Option Value → TS → Prop} (C : OkX X (gx B) cX2_minutesBetween 3 wsX2_minutesBetween RX2 (rmD 1)) (R : RtX X (gx B) (some .int) (encT B g t) Post)  : Snd X (gx B) 3 (encT B g t) 0 (bk_X2_minutesBetween_0 g t Post ) := by
  unfold bk_X2_minutesBetween_0
  refine s_aload_n C rfl dX2_minutesBetween_0 ?_
  refine s_iload_n C rfl dX2_minutesBetween_1 ?_
  refine s_iconst C (by decide) dX2_minutesBetween_2 ?_
  refine s_callV C (fr_T_T B g t) (k_X2_ofPerson B g t) gX2_minutesBetween_X2_ofPerson rfl (by decide +kernel) ⟨rfl, rfl⟩ (by decide) rfl (fun s => ⟨_, heT_0 B g t s⟩) (cf_RII_r _ _ _ _) dX2_minutesBetween_3 ?_
  refine s_aload_n C rfl dX2_minutesBetween_6 ?_
  refine s_iload_n C rfl dX2_minutesBetween_7 ?_
  refine s_iconst C (by decide) dX2_minutesBetween_8 ?_
  refine s_callV C (fr_T_T B g t) (k_X2_ofPerson B g t) gX2_minutesBetween_X2_ofPerson rfl (by decide +kernel) ⟨rfl, rfl⟩ (by decide) rfl (fun s => ⟨_, heT_0 B g t s⟩) (cf_RII_r _ _ _ _) dX2_minutesBetween_9 ?_
  refine s_isub C dX2_minutesBetween_12 ?_
  refine s_mabs C (by decide +kernel) (by decide +kernel) (by decide +kernel) (by decide +kernel) (by decide) dX2_minutesBetween_13 ?_
  exact s_iret C R dX2_minutesBetween_16
theorem k_X2_minutesBetween (B : Bx) (g : Nat → Nat) (t : Nat) : MtF (gx B) yX2_minutesBetween wsX2_minutesBetween (rmD 1) (encT B g t) (F_X2_minutesBetween g t) := by
  refine cf_RII_i (fun l T p k _ => Mt.of (by decide) rfl (Nat.le_of_ble_eq_true rfl) rfl (fun X C R => s_X2_minutesBetween_0 B g t C R) ?_)
  simp only [wIload, wAload, wLload, wK, wB, wDv, wU, wLB, wLU, wLS, wL2i, wLcmp, wIf1, wIf2, wKeep, wInc, wIst, wAst, wLst, wDup, wPop, wDup2, wGet, wPut, wPutZ, wIald, wLald, wIast, wLast, wLen, wRetI, wRetZ, wRetL, wRetA, wRetV, wM1, wM2, wCpy, wTab, tabW, nth, stL, stL2, dropL, keepL, mkL, padL, restOK, restOKn, tl_some, tl_none, id_eq, eq_self, true_and, and_true, bk_X2_minutesBetween_0, F_X2_ofPerson, cf_RII_e]
  exact rfl
def tHL (T : TS) (n : Int32) : Int32 := tOfN T n 3 - bcF (tOfN T n 5)
def F_X2_handsLeft (g : Nat → Nat) (t : Nat) : CF TS := cf_RI (g t) (fun _ _ => True) (fun T n => some (.int (tHL T n))) (fun T _ => T)
theorem inw_X2_handsLeft_X2 : ∀ w ∈ u_ws RX2 TX2 8, w ∈ wsX2_handsLeft := by decide +kernel
def bk_X2_handsLeft_0 (g : Nat → Nat) (t : Nat) (Post : Option Value → TS → Prop)  (L : Lc) (st : List Value) (s : TS) : Prop :=
  (wAload 0 <| wIload 1 <| wK (.int 3) <| wCallR 3 (F_X2_ofNeed g t) id (fun _ u => u) <| wAload 0 <| wIload 1 <| wK (.int 5) <| wCallR 3 (F_X2_ofNeed g t) id (fun _ u => u) <| wCallR 1 (F_J6_bitCount_0f7a4) (fun _ => ()) (fun s _ => s) <| wB (fun x y => x - y) <| wRetI Post) L st s
set_option maxRecDepth 20000 in
theorem s_X2_handsLeft_0 {X : Cx} (B : Bx) (g : Nat → Nat) (t : Nat) {Post : Option Value → TS → Prop} (C : OkX X (gx B) cX2_handsLeft 2 wsX2_handsLeft RX2 (rmD 1)) (R : RtX X (gx B) (some .int) (encT B g t) Post)  : Snd X (gx B) 2 (encT B g t) 0 (bk_X2_handsLeft_0 g t Post ) := by
  unfold bk_X2_handsLeft_0
  refine s_aload_n C rfl dX2_handsLeft_0 ?_
  refine s_iload_n C rfl dX2_handsLeft_1 ?_
  refine s_iconst C (by decide) dX2_handsLeft_2 ?_
  refine s_callV C (fr_T_T B g t) (k_X2_ofNeed B g t) gX2_handsLeft_X2_ofNeed rfl (by decide +kernel) ⟨rfl, rfl⟩ (by decide) rfl (fun s => ⟨_, heT_0 B g t s⟩) (cf_RII_r _ _ _ _) dX2_handsLeft_3 ?_
  refine s_aload_n C rfl dX2_handsLeft_6 ?_
  refine s_iload_n C rfl dX2_handsLeft_7 ?_
  refine s_iconst C (by decide) dX2_handsLeft_8 ?_
  refine s_callV C (fr_T_T B g t) (k_X2_ofNeed B g t) gX2_handsLeft_X2_ofNeed rfl (by decide +kernel) ⟨rfl, rfl⟩ (by decide) rfl (fun s => ⟨_, heT_0 B g t s⟩) (cf_RII_r _ _ _ _) dX2_handsLeft_9 ?_
  refine s_callS C (fr_T_E B g t) (k_J6_bitCount_0f7a4 B) gX2_handsLeft_J6_bitCount_0f7a4 rfl (by decide +kernel) ⟨rfl, rfl⟩ (by decide) (cf_I_r _ _ _) dX2_handsLeft_12 ?_
  refine s_isub C dX2_handsLeft_15 ?_
  exact s_iret C R dX2_handsLeft_16
theorem k_X2_handsLeft (B : Bx) (g : Nat → Nat) (t : Nat) : MtF (gx B) yX2_handsLeft wsX2_handsLeft (rmD 1) (encT B g t) (F_X2_handsLeft g t) := by
  refine cf_RI_i (fun l T p _ => Mt.of (by decide) rfl (Nat.le_of_ble_eq_true rfl) rfl (fun X C R => s_X2_handsLeft_0 B g t C R) ?_)
  simp only [wIload, wAload, wLload, wK, wB, wDv, wU, wLB, wLU, wLS, wL2i, wLcmp, wIf1, wIf2, wKeep, wInc, wIst, wAst, wLst, wDup, wPop, wDup2, wGet, wPut, wPutZ, wIald, wLald, wIast, wLast, wLen, wRetI, wRetZ, wRetL, wRetA, wRetV, wM1, wM2, wCpy, wTab, tabW, nth, stL, stL2, dropL, keepL, mkL, padL, restOK, restOKn, tl_some, tl_none, id_eq, eq_self, true_and, and_true, bk_X2_handsLeft_0, F_J6_bitCount_0f7a4, F_X2_ofNeed, cf_I_e, cf_RII_e]
  exact rfl
def tOpen (T : TS) (n : Int32) : Bool := tHasN T n && (decide (tOfN T n 4 = tYr T) && decide (0 < tHL T n))
def F_X2_isOpen (g : Nat → Nat) (t : Nat) : CF TS := cf_RI (g t) (fun _ _ => True) (fun T n => some (.int (b2i (tOpen T n)))) (fun T _ => T)
theorem inw_X2_isOpen_X2 : ∀ w ∈ u_ws RX2 TX2 8, w ∈ wsX2_isOpen := by decide +kernel
def bk_X2_isOpen_34 (g : Nat → Nat) (t : Nat) (Post : Option Value → TS → Prop)  (L : Lc) (st : List Value) (s : TS) : Prop :=
  (wRetZ Post) L st s
set_option maxRecDepth 20000 in
theorem s_X2_isOpen_34 {X : Cx} (B : Bx) (g : Nat → Nat) (t : Nat) {Post : Option Value → TS → Prop} (C : OkX X (gx B) cX2_isOpen 2 wsX2_isOpen RX2 (rmD 2)) (R : RtX X (gx B) (some .boolean) (encT B g t) Post)  : Snd X (gx B) 2 (encT B g t) 34 (bk_X2_isOpen_34 g t Post ) := by
  unfold bk_X2_isOpen_34
  exact s_zret C R dX2_isOpen_34
def bk_X2_isOpen_33 (g : Nat → Nat) (t : Nat) (Post : Option Value → TS → Prop)  (L : Lc) (st : List Value) (s : TS) : Prop :=
  (wK (.int 0) <| bk_X2_isOpen_34 g t Post ) L st s
set_option maxRecDepth 20000 in
theorem s_X2_isOpen_33 {X : Cx} (B : Bx) (g : Nat → Nat) (t : Nat) {Post : Option Value → TS → Prop} (C : OkX X (gx B) cX2_isOpen 2 wsX2_isOpen RX2 (rmD 2)) (R : RtX X (gx B) (some .boolean) (encT B g t) Post)  : Snd X (gx B) 2 (encT B g t) 33 (bk_X2_isOpen_33 g t Post ) := by
  unfold bk_X2_isOpen_33
  refine s_iconst C (by decide) dX2_isOpen_33 ?_
  exact s_X2_isOpen_34 B g t C R 
def bk_X2_isOpen_0 (g : Nat → Nat) (t : Nat) (Post : Option Value → TS → Prop)  (L : Lc) (st : List Value) (s : TS) : Prop :=
  (wAload 0 <| wIload 1 <| wCallR 2 (F_X2_hasNeed g t) id (fun _ u => u) <| wIf1 (fun x => x = 0) (bk_X2_isOpen_33 g t Post ) (wAload 0 <| wIload 1 <| wK (.int 4) <| wCallR 3 (F_X2_ofNeed g t) id (fun _ u => u) <| wAload 0 <| wGet (g t) (fun s => .int (tYr s)) <| wIf2 (fun x y => x = y) (wAload 0 <| wIload 1 <| wCallR 2 (F_X2_handsLeft g t) id (fun _ u => u) <| wIf1 (fun x => x ≤ 0) (bk_X2_isOpen_33 g t Post ) (wK (.int 1) <| bk_X2_isOpen_34 g t Post )) (bk_X2_isOpen_33 g t Post ))) L st s
set_option maxRecDepth 20000 in
theorem s_X2_isOpen_0 {X : Cx} (B : Bx) (g : Nat → Nat) (t : Nat) {Post : Option Value → TS → Prop} (C : OkX X (gx B) cX2_isOpen 2 wsX2_isOpen RX2 (rmD 2)) (R : RtX X (gx B) (some .boolean) (encT B g t) Post)  : Snd X (gx B) 2 (encT B g t) 0 (bk_X2_isOpen_0 g t Post ) := by
  unfold bk_X2_isOpen_0
  refine s_aload_n C rfl dX2_isOpen_0 ?_
  refine s_iload_n C rfl dX2_isOpen_1 ?_
  refine s_callV C (fr_T_T B g t) (k_X2_hasNeed B g t) gX2_isOpen_X2_hasNeed rfl (by decide +kernel) ⟨rfl, rfl⟩ (by decide) rfl (fun s => ⟨_, heT_0 B g t s⟩) (cf_RI_r _ _ _ _) dX2_isOpen_2 ?_
  refine s_if_eq C (tgt := 33) (by decide) dX2_isOpen_5 ?_ ?_
  · exact s_X2_isOpen_33 B g t C R 
  · refine s_aload_n C rfl dX2_isOpen_8 ?_
    refine s_iload_n C rfl dX2_isOpen_9 ?_
    refine s_iconst C (by decide) dX2_isOpen_10 ?_
    refine s_callV C (fr_T_T B g t) (k_X2_ofNeed B g t) gX2_isOpen_X2_ofNeed rfl (by decide +kernel) ⟨rfl, rfl⟩ (by decide) rfl (fun s => ⟨_, heT_0 B g t s⟩) (cf_RII_r _ _ _ _) dX2_isOpen_11 ?_
    refine s_aload_n C rfl dX2_isOpen_14 ?_
    refine s_get C inw_X2_isOpen_X2 rfl (k := 7) (by decide) (by decide +kernel) (heT_0 B g t) (fun _ => rfl) dX2_isOpen_15 ?_
    refine s_icmp_ne C (tgt := 33) (by decide) dX2_isOpen_18 ?_ ?_
    · exact s_X2_isOpen_33 B g t C R 
    · refine s_aload_n C rfl dX2_isOpen_21 ?_
      refine s_iload_n C rfl dX2_isOpen_22 ?_
      refine s_callV C (fr_T_T B g t) (k_X2_handsLeft B g t) gX2_isOpen_X2_handsLeft rfl (by decide +kernel) ⟨rfl, rfl⟩ (by decide) rfl (fun s => ⟨_, heT_0 B g t s⟩) (cf_RI_r _ _ _ _) dX2_isOpen_23 ?_
      refine s_if_le C (tgt := 33) (by decide) dX2_isOpen_26 ?_ ?_
      · exact s_X2_isOpen_33 B g t C R 
      · refine s_iconst C (by decide) dX2_isOpen_29 ?_
        refine s_goto C (tgt := 34) (by decide) dX2_isOpen_30 ?_
        exact s_X2_isOpen_34 B g t C R 
theorem k_X2_isOpen (B : Bx) (g : Nat → Nat) (t : Nat) : MtF (gx B) yX2_isOpen wsX2_isOpen (rmD 2) (encT B g t) (F_X2_isOpen g t) := by
  refine cf_RI_i (fun l T p _ => Mt.of (by decide) rfl (Nat.le_of_ble_eq_true rfl) rfl (fun X C R => s_X2_isOpen_0 B g t C R) ?_)
  simp only [wIload, wAload, wLload, wK, wB, wDv, wU, wLB, wLU, wLS, wL2i, wLcmp, wIf1, wIf2, wKeep, wInc, wIst, wAst, wLst, wDup, wPop, wDup2, wGet, wPut, wPutZ, wIald, wLald, wIast, wLast, wLen, wRetI, wRetZ, wRetL, wRetA, wRetV, wM1, wM2, wCpy, wTab, tabW, nth, stL, stL2, dropL, keepL, mkL, padL, restOK, restOKn, tl_some, tl_none, id_eq, eq_self, true_and, and_true, bk_X2_isOpen_34, bk_X2_isOpen_33, bk_X2_isOpen_0, F_X2_handsLeft, F_X2_hasNeed, F_X2_ofNeed, cf_RII_e, cf_RI_e, b2i_eq0]
  grind [tOpen, b2i]
def tFull (T : TS) : Bool := decide (60 ≤ tHh T)
def F_X2_bookIsFull (g : Nat → Nat) (t : Nat) : CF TS := cf_R (g t) (fun _ => True) (fun T => some (.int (b2i (tFull T)))) (fun T => T)
theorem inw_X2_bookIsFull_X2 : ∀ w ∈ u_ws RX2 TX2 8, w ∈ wsX2_bookIsFull := by decide +kernel
def bk_X2_bookIsFull_14 (g : Nat → Nat) (t : Nat) (Post : Option Value → TS → Prop)  (L : Lc) (st : List Value) (s : TS) : Prop :=
  (wRetZ Post) L st s
set_option maxRecDepth 20000 in
theorem s_X2_bookIsFull_14 {X : Cx} (B : Bx) (g : Nat → Nat) (t : Nat) {Post : Option Value → TS → Prop} (C : OkX X (gx B) cX2_bookIsFull 1 wsX2_bookIsFull RX2 (rmD 0)) (R : RtX X (gx B) (some .boolean) (encT B g t) Post)  : Snd X (gx B) 1 (encT B g t) 14 (bk_X2_bookIsFull_14 g t Post ) := by
  unfold bk_X2_bookIsFull_14
  exact s_zret C R dX2_bookIsFull_14
def bk_X2_bookIsFull_0 (g : Nat → Nat) (t : Nat) (Post : Option Value → TS → Prop)  (L : Lc) (st : List Value) (s : TS) : Prop :=
  (wAload 0 <| wGet (g t) (fun s => .int (tHh s)) <| wK (.int 60) <| wIf2 (fun x y => x < y) (wK (.int 0) <| bk_X2_bookIsFull_14 g t Post ) (wK (.int 1) <| bk_X2_bookIsFull_14 g t Post )) L st s
set_option maxRecDepth 20000 in
theorem s_X2_bookIsFull_0 {X : Cx} (B : Bx) (g : Nat → Nat) (t : Nat) {Post : Option Value → TS → Prop} (C : OkX X (gx B) cX2_bookIsFull 1 wsX2_bookIsFull RX2 (rmD 0)) (R : RtX X (gx B) (some .boolean) (encT B g t) Post)  : Snd X (gx B) 1 (encT B g t) 0 (bk_X2_bookIsFull_0 g t Post ) := by
  unfold bk_X2_bookIsFull_0
  refine s_aload_n C rfl dX2_bookIsFull_0 ?_
  refine s_get C inw_X2_bookIsFull_X2 rfl (k := 5) (by decide) (by decide +kernel) (heT_0 B g t) (fun _ => rfl) dX2_bookIsFull_1 ?_
  refine s_bipush C (by decide) dX2_bookIsFull_4 ?_
  refine s_icmp_lt C (tgt := 13) (by decide) dX2_bookIsFull_6 ?_ ?_
  · refine s_iconst C (by decide) dX2_bookIsFull_13 ?_
    exact s_X2_bookIsFull_14 B g t C R 
  · refine s_iconst C (by decide) dX2_bookIsFull_9 ?_
    refine s_goto C (tgt := 14) (by decide) dX2_bookIsFull_10 ?_
    exact s_X2_bookIsFull_14 B g t C R 
theorem k_X2_bookIsFull (B : Bx) (g : Nat → Nat) (t : Nat) : MtF (gx B) yX2_bookIsFull wsX2_bookIsFull (rmD 0) (encT B g t) (F_X2_bookIsFull g t) := by
  refine cf_R_i (fun l T _ => Mt.of (by decide) rfl (Nat.le_of_ble_eq_true rfl) rfl (fun X C R => s_X2_bookIsFull_0 B g t C R) ?_)
  simp only [wIload, wAload, wLload, wK, wB, wDv, wU, wLB, wLU, wLS, wL2i, wLcmp, wIf1, wIf2, wKeep, wInc, wIst, wAst, wLst, wDup, wPop, wDup2, wGet, wPut, wPutZ, wIald, wLald, wIast, wLast, wLen, wRetI, wRetZ, wRetL, wRetA, wRetV, wM1, wM2, wCpy, wTab, tabW, nth, stL, stL2, dropL, keepL, mkL, padL, restOK, restOKn, tl_some, tl_none, id_eq, eq_self, true_and, and_true, bk_X2_bookIsFull_14, bk_X2_bookIsFull_0]
  grind [tFull, b2i]
end
