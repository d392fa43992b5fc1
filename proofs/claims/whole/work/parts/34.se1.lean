noncomputable section
theorem sBit_x : ∃ f : Int32 → Int32 → Int64, ∀ h p, f h p = (1 : Int64) <<< ((h * 7 + p).toInt64 &&& 63) := ⟨fun h p => (1 : Int64) <<< ((h * 7 + p).toInt64 &&& 63), fun _ _ => rfl⟩
def sBit : Int32 → Int32 → Int64 := Classical.choose sBit_x
theorem sBit_eq (h p : Int32) : sBit h p = (1 : Int64) <<< ((h * 7 + p).toInt64 &&& 63) := Classical.choose_spec sBit_x h p
theorem sFrom_x : ∃ f : Int32 → Int64, ∀ h, f h = - sBit h 0 := ⟨fun h => - sBit h 0, fun _ => rfl⟩
def sFrom : Int32 → Int64 := Classical.choose sFrom_x
theorem sFrom_eq (h : Int32) : sFrom h = - sBit h 0 := Classical.choose_spec sFrom_x h
theorem sSlot_x : ∃ f : Int64 → Int32, ∀ x : Int64, f x = ((x * (-7046029254386353131)).toUInt64 >>> ((54 : Int32).toInt64.toUInt64 &&& Int64.toUInt64 63)).toInt64.toInt32 := ⟨fun x => ((x * (-7046029254386353131)).toUInt64 >>> ((54 : Int32).toInt64.toUInt64 &&& Int64.toUInt64 63)).toInt64.toInt32, fun _ => rfl⟩
def sSlot : Int64 → Int32 := Classical.choose sSlot_x
theorem sSlot_eq (x : Int64) : sSlot x = ((x * (-7046029254386353131)).toUInt64 >>> ((54 : Int32).toInt64.toUInt64 &&& Int64.toUInt64 63)).toInt64.toInt32 := Classical.choose_spec sSlot_x x
def F_X1_bitOf : CF Unit := cf_II (fun _ _ _ => True) (fun _ h p => some (.long (sBit h p))) (fun s _ _ => s)

def bk_X1_bitOf_0  (Post : Option Value → Unit → Prop)  (L : Lc) (st : List Value) (s : Unit) : Prop :=
  (wK (.long 1) <| wIload 0 <| wK (.int 7) <| wB (fun x y => x * y) <| wIload 1 <| wB (fun x y => x + y) <| wLS (fun x y => x <<< (y.toInt64 &&& 63)) <| wRetL Post) L st s
set_option maxRecDepth 20000 in
theorem s_X1_bitOf_0 {X : Cx} (B : Bx)  {Post : Option Value → Unit → Prop} (C : OkX X (gx B) cX1_bitOf 2 wsX1_bitOf RX1 (rmD 0)) (R : RtX X (gx B) (some .long) (encE) Post)  : Snd X (gx B) 2 (encE) 0 (bk_X1_bitOf_0  Post ) := by
  unfold bk_X1_bitOf_0
  refine s_lconst C (by decide) dX1_bitOf_0 ?_
  refine s_iload_n C rfl dX1_bitOf_1 ?_
  refine s_bipush C (by decide) dX1_bitOf_2 ?_
  refine s_imul C dX1_bitOf_4 ?_
  refine s_iload_n C rfl dX1_bitOf_5 ?_
  refine s_iadd C dX1_bitOf_6 ?_
  refine s_lshl C dX1_bitOf_7 ?_
  exact s_lret C R dX1_bitOf_8
theorem k_X1_bitOf (B : Bx) : MtF (gx B) yX1_bitOf wsX1_bitOf (rmD 0) encE F_X1_bitOf := by
  refine cf_II_i (fun l s h p _ => Mt.of (by decide) rfl (Nat.le_of_ble_eq_true rfl) rfl (fun X C R => s_X1_bitOf_0 B C R) ?_)
  simp only [wIload, wAload, wLload, wK, wB, wDv, wU, wLB, wLU, wLS, wL2i, wLcmp, wIf1, wIf2, wKeep, wInc, wIst, wAst, wLst, wDup, wPop, wDup2, wGet, wPut, wPutZ, wIald, wLald, wIast, wLast, wLen, wRetI, wRetZ, wRetL, wRetA, wRetV, wM1, wM2, wCpy, wTab, tabW, nth, stL, stL2, dropL, keepL, mkL, padL, restOK, restOKn, tl_some, tl_none, id_eq, eq_self, true_and, and_true, bk_X1_bitOf_0]
  rw [sBit_eq]
def F_X1_bitsFrom : CF Unit := cf_I (fun _ _ => True) (fun _ h => some (.long (sFrom h))) (fun s _ => s)

def bk_X1_bitsFrom_0  (Post : Option Value → Unit → Prop)  (L : Lc) (st : List Value) (s : Unit) : Prop :=
  (wIload 0 <| wK (.int 0) <| wCallR 2 (F_X1_bitOf) (fun _ => ()) (fun s _ => s) <| wLU (fun x => -x) <| wRetL Post) L st s
set_option maxRecDepth 20000 in
theorem s_X1_bitsFrom_0 {X : Cx} (B : Bx)  {Post : Option Value → Unit → Prop} (C : OkX X (gx B) cX1_bitsFrom 1 wsX1_bitsFrom RX1 (rmD 1)) (R : RtX X (gx B) (some .long) (encE) Post)  : Snd X (gx B) 1 (encE) 0 (bk_X1_bitsFrom_0  Post ) := by
  unfold bk_X1_bitsFrom_0
  refine s_iload_n C rfl dX1_bitsFrom_0 ?_
  refine s_iconst C (by decide) dX1_bitsFrom_1 ?_
  refine s_callS C (fr_E_E) (k_X1_bitOf B) gX1_bitsFrom_X1_bitOf rfl (by decide +kernel) ⟨rfl, rfl⟩ (by decide) (cf_II_r _ _ _) dX1_bitsFrom_2 ?_
  refine s_lneg C dX1_bitsFrom_5 ?_
  exact s_lret C R dX1_bitsFrom_6
theorem k_X1_bitsFrom (B : Bx) : MtF (gx B) yX1_bitsFrom wsX1_bitsFrom (rmD 1) encE F_X1_bitsFrom := by
  refine cf_I_i (fun l s h _ => Mt.of (by decide) rfl (Nat.le_of_ble_eq_true rfl) rfl (fun X C R => s_X1_bitsFrom_0 B C R) ?_)
  simp only [wIload, wAload, wLload, wK, wB, wDv, wU, wLB, wLU, wLS, wL2i, wLcmp, wIf1, wIf2, wKeep, wInc, wIst, wAst, wLst, wDup, wPop, wDup2, wGet, wPut, wPutZ, wIald, wLald, wIast, wLast, wLen, wRetI, wRetZ, wRetL, wRetA, wRetV, wM1, wM2, wCpy, wTab, tabW, nth, stL, stL2, dropL, keepL, mkL, padL, restOK, restOKn, tl_some, tl_none, id_eq, eq_self, true_and, and_true, bk_X1_bitsFrom_0, F_X1_bitOf, cf_II_e]
  rw [sFrom_eq]
def F_X1_slotOf : CF Unit := cf_J (fun _ _ => True) (fun _ x => some (.int (sSlot x))) (fun s _ => s)

def bk_X1_slotOf_0  (Post : Option Value → Unit → Prop)  (L : Lc) (st : List Value) (s : Unit) : Prop :=
  (wLload 0 <| wK (.long (-7046029254386353131)) <| wLB (fun x y => x * y) <| wK (.int 54) <| wLS (fun x y => (x.toUInt64 >>> (y.toInt64.toUInt64 &&& Int64.toUInt64 63)).toInt64) <| wL2i <| wRetI Post) L st s
set_option maxRecDepth 20000 in
theorem s_X1_slotOf_0 {X : Cx} (B : Bx)  {Post : Option Value → Unit → Prop} (C : OkX X (gx B) cX1_slotOf 2 wsX1_slotOf RX1 (rmD 0)) (R : RtX X (gx B) (some .int) (encE) Post)  : Snd X (gx B) 2 (encE) 0 (bk_X1_slotOf_0  Post ) := by
  unfold bk_X1_slotOf_0
  refine s_lload_n C rfl dX1_slotOf_0 ?_
  refine s_ldc2_w C (by decide +kernel) dX1_slotOf_1 ?_
  refine s_lmul C dX1_slotOf_4 ?_
  refine s_bipush C (by decide) dX1_slotOf_5 ?_
  refine s_lushr C dX1_slotOf_7 ?_
  refine s_l2i C dX1_slotOf_8 ?_
  exact s_iret C R dX1_slotOf_9
theorem k_X1_slotOf (B : Bx) : MtF (gx B) yX1_slotOf wsX1_slotOf (rmD 0) encE F_X1_slotOf := by
  refine cf_J_i (fun l s x _ => Mt.of (by decide) rfl (Nat.le_of_ble_eq_true rfl) rfl (fun X C R => s_X1_slotOf_0 B C R) ?_)
  simp only [wIload, wAload, wLload, wK, wB, wDv, wU, wLB, wLU, wLS, wL2i, wLcmp, wIf1, wIf2, wKeep, wInc, wIst, wAst, wLst, wDup, wPop, wDup2, wGet, wPut, wPutZ, wIald, wLald, wIast, wLast, wLen, wRetI, wRetZ, wRetL, wRetA, wRetV, wM1, wM2, wCpy, wTab, tabW, nth, stL, stL2, dropL, keepL, mkL, padL, restOK, restOKn, tl_some, tl_none, id_eq, eq_self, true_and, and_true, bk_X1_slotOf_0]
  rw [sSlot_eq]
theorem heS_0 (B : Bx) (g : Nat → Nat) : ∀ s : SS, (encS B g s)[0]? = some (g 16, .inr (1, [.ref (g 17), .int (eHd s), .ref (g 18), .ref (g 19), .ref (g 20), .ref (g 21), .int (eFi s)])) := fun _ => rfl
theorem heS_1 (B : Bx) (g : Nat → Nat) : ∀ s : SS, (encS B g s)[1]? = some (g 17, .inl (B.2.1, 8, .inl (eNh s))) := fun _ => rfl
theorem heS_2 (B : Bx) (g : Nat → Nat) : ∀ s : SS, (encS B g s)[2]? = some (g 18, .inl (B.2.1, 56, .inl (eGo s))) := fun _ => rfl
theorem heS_3 (B : Bx) (g : Nat → Nat) : ∀ s : SS, (encS B g s)[3]? = some (g 19, .inl (B.2.2.1, 56, .inr (.inl (eSm s)))) := fun _ => rfl
theorem heS_4 (B : Bx) (g : Nat → Nat) : ∀ s : SS, (encS B g s)[4]? = some (g 20, .inl (B.2.2.1, 1024, .inr (.inl (eSk s)))) := fun _ => rfl
theorem heS_5 (B : Bx) (g : Nat → Nat) : ∀ s : SS, (encS B g s)[5]? = some (g 21, .inl (B.2.1, 1024, .inl (eSu s))) := fun _ => rfl
theorem v8 {k : Int32} : ¬ k < 0 → k < 8 → vp_in k 8 := by
  intro h1 h2
  obtain ⟨a, ha, ea⟩ := ixN' (n := 8) rfl h1 h2
  exact vpN ea ha (by decide)
def sNeed (S : SS) (h : Int32) : Int32 := if ¬ h < 0 ∧ h < eHd S ∧ h < 8 then eNh S h.toNatClampNeg else -1
def F_X1_needOf (g : Nat → Nat) : CF SS := cf_RI (g 16) (fun _ _ => True) (fun S h => some (.int (sNeed S h))) (fun S _ => S)
theorem inw_X1_needOf_X1 : ∀ w ∈ u_ws RX1 TX1 7, w ∈ wsX1_needOf := by decide +kernel
def bk_X1_needOf_31 (g : Nat → Nat) (Post : Option Value → SS → Prop)  (L : Lc) (st : List Value) (s : SS) : Prop :=
  (wRetI Post) L st s
set_option maxRecDepth 20000 in
theorem s_X1_needOf_31 {X : Cx} (B : Bx) (g : Nat → Nat) {Post : Option Value → SS → Prop} (C : OkX X (gx B) cX1_needOf 2 wsX1_needOf RX1 (rmD 0)) (R : RtX X (gx B) (some .int) (encS B g) Post)  : Snd X (gx B) 2 (encS B g) 31 (bk_X1_needOf_31 g Post ) := by
  unfold bk_X1_needOf_31
  exact s_iret C R dX1_needOf_31
def bk_X1_needOf_30 (g : Nat → Nat) (Post : Option Value → SS → Prop)  (L : Lc) (st : List Value) (s : SS) : Prop :=
  (wK (.int (-1)) <| bk_X1_needOf_31 g Post ) L st s
set_option maxRecDepth 20000 in
theorem s_X1_needOf_30 {X : Cx} (B : Bx) (g : Nat → Nat) {Post : Option Value → SS → Prop} (C : OkX X (gx B) cX1_needOf 2 wsX1_needOf RX1 (rmD 0)) (R : RtX X (gx B) (some .int) (encS B g) Post)  : Snd X (gx B) 2 (encS B g) 30 (bk_X1_needOf_30 g Post ) := by
  unfold bk_X1_needOf_30
  refine s_iconst C (by decide) dX1_needOf_30 ?_
  exact s_X1_needOf_31 B g C R 
def bk_X1_needOf_0 (g : Nat → Nat) (Post : Option Value → SS → Prop)  (L : Lc) (st : List Value) (s : SS) : Prop :=
  (wIload 1 <| wIf1 (fun x => x < 0) (bk_X1_needOf_30 g Post ) (wIload 1 <| wAload 0 <| wGet (g 16) (fun s => .int (eHd s)) <| wIf2 (fun x y => y ≤ x) (bk_X1_needOf_30 g Post ) (wIload 1 <| wAload 0 <| wGet (g 16) (fun _ => .ref (g 17)) <| wLen (g 17) 8 <| wIf2 (fun x y => y ≤ x) (bk_X1_needOf_30 g Post ) (wAload 0 <| wGet (g 16) (fun _ => .ref (g 17)) <| wIload 1 <| wIald (g 17) 8 eNh <| bk_X1_needOf_31 g Post )))) L st s
set_option maxRecDepth 20000 in
theorem s_X1_needOf_0 {X : Cx} (B : Bx) (g : Nat → Nat) {Post : Option Value → SS → Prop} (C : OkX X (gx B) cX1_needOf 2 wsX1_needOf RX1 (rmD 0)) (R : RtX X (gx B) (some .int) (encS B g) Post)  : Snd X (gx B) 2 (encS B g) 0 (bk_X1_needOf_0 g Post ) := by
  unfold bk_X1_needOf_0
  refine s_iload_n C rfl dX1_needOf_0 ?_
  refine s_if_lt C (tgt := 30) (by decide) dX1_needOf_1 ?_ ?_
  · exact s_X1_needOf_30 B g C R 
  · refine s_iload_n C rfl dX1_needOf_4 ?_
    refine s_aload_n C rfl dX1_needOf_5 ?_
    refine s_get C inw_X1_needOf_X1 rfl (k := 1) (by decide) (by decide +kernel) (heS_0 B g) (fun _ => rfl) dX1_needOf_6 ?_
    refine s_icmp_ge C (tgt := 30) (by decide) dX1_needOf_9 ?_ ?_
    · exact s_X1_needOf_30 B g C R 
    · refine s_iload_n C rfl dX1_needOf_12 ?_
      refine s_aload_n C rfl dX1_needOf_13 ?_
      refine s_get C inw_X1_needOf_X1 rfl (k := 0) (by decide) (by decide +kernel) (heS_0 B g) (fun _ => rfl) dX1_needOf_14 ?_
      refine s_alen C (t0 := 0) (heS_1 B g) rfl (fun _ => rfl) dX1_needOf_17 ?_
      refine s_icmp_ge C (tgt := 30) (by decide) dX1_needOf_18 ?_ ?_
      · exact s_X1_needOf_30 B g C R 
      · refine s_aload_n C rfl dX1_needOf_21 ?_
        refine s_get C inw_X1_needOf_X1 rfl (k := 0) (by decide) (by decide +kernel) (heS_0 B g) (fun _ => rfl) dX1_needOf_22 ?_
        refine s_iload_n C rfl dX1_needOf_25 ?_
        refine s_iald C (heS_1 B g) dX1_needOf_26 ?_
        refine s_goto C (tgt := 31) (by decide) dX1_needOf_27 ?_
        exact s_X1_needOf_31 B g C R 
theorem k_X1_needOf (B : Bx) (g : Nat → Nat) : MtF (gx B) yX1_needOf wsX1_needOf (rmD 0) (encS B g) (F_X1_needOf g) := by
  refine cf_RI_i (fun l S h _ => Mt.of (by decide) rfl (Nat.le_of_ble_eq_true rfl) rfl (fun X C R => s_X1_needOf_0 B g C R) ?_)
  simp only [wIload, wAload, wLload, wK, wB, wDv, wU, wLB, wLU, wLS, wL2i, wLcmp, wIf1, wIf2, wKeep, wInc, wIst, wAst, wLst, wDup, wPop, wDup2, wGet, wPut, wPutZ, wIald, wLald, wIast, wLast, wLen, wRetI, wRetZ, wRetL, wRetA, wRetV, wM1, wM2, wCpy, wTab, tabW, nth, stL, stL2, dropL, keepL, mkL, padL, restOK, restOKn, tl_some, tl_none, id_eq, eq_self, true_and, and_true, bk_X1_needOf_31, bk_X1_needOf_30, bk_X1_needOf_0]
  have h8 := @v8 h
  unfold vp_in at h8
  repeat' first | refine And.intro ?_ ?_ | intro _
  all_goals grind [sNeed]
theorem heST_0 (B : Bx) (g : Nat → Nat) (t : Nat) : ∀ s : ET, (encST B g t s)[0]? = some (g 16, .inr (1, [.ref (g 17), .int (fSHd s), .ref (g 18), .ref (g 19), .ref (g 20), .ref (g 21), .int (fSFi s)])) := fun _ => rfl
theorem heST_1 (B : Bx) (g : Nat → Nat) (t : Nat) : ∀ s : ET, (encST B g t s)[1]? = some (g 17, .inl (B.2.1, 8, .inl (fSNh s))) := fun _ => rfl
theorem heST_2 (B : Bx) (g : Nat → Nat) (t : Nat) : ∀ s : ET, (encST B g t s)[2]? = some (g 18, .inl (B.2.1, 56, .inl (fSGo s))) := fun _ => rfl
theorem heST_3 (B : Bx) (g : Nat → Nat) (t : Nat) : ∀ s : ET, (encST B g t s)[3]? = some (g 19, .inl (B.2.2.1, 56, .inr (.inl (fSSm s)))) := fun _ => rfl
theorem heST_4 (B : Bx) (g : Nat → Nat) (t : Nat) : ∀ s : ET, (encST B g t s)[4]? = some (g 20, .inl (B.2.2.1, 1024, .inr (.inl (fSSk s)))) := fun _ => rfl
theorem heST_5 (B : Bx) (g : Nat → Nat) (t : Nat) : ∀ s : ET, (encST B g t s)[5]? = some (g 21, .inl (B.2.1, 1024, .inl (fSSu s))) := fun _ => rfl
theorem heST_6 (B : Bx) (g : Nat → Nat) (t : Nat) : ∀ s : ET, (encST B g t s)[6]? = some (g t, .inr (2, [.ref (g (t + 1)), .int (fTPp s), .ref (g (t + 2)), .int (fTNn s), .ref (g (t + 3)), .int (fTHh s), .ref (g (t + 4)), .int (fTYr s)])) := fun _ => rfl
theorem heST_7 (B : Bx) (g : Nat → Nat) (t : Nat) : ∀ s : ET, (encST B g t s)[7]? = some (g (t + 1), .inl (B.2.1, 42, .inl (fTPt s))) := fun _ => rfl
theorem heST_8 (B : Bx) (g : Nat → Nat) (t : Nat) : ∀ s : ET, (encST B g t s)[8]? = some (g (t + 2), .inl (B.2.1, 72, .inl (fTNt s))) := fun _ => rfl
theorem heST_9 (B : Bx) (g : Nat → Nat) (t : Nat) : ∀ s : ET, (encST B g t s)[9]? = some (g (t + 3), .inl (B.2.1, 1350, .inl (fTBt s))) := fun _ => rfl
theorem heST_10 (B : Bx) (g : Nat → Nat) (t : Nat) : ∀ s : ET, (encST B g t s)[10]? = some (g (t + 4), .inl (B.2.1, 4, .inl (fTSe s))) := fun _ => rfl
def sYearN (T : TS) : Int32 := sumU (fun k => if tYr T ≤ tOfN T (nI k) 4 then 1 else 0) (tNeeds T)
def sFits (T : TS) : Bool := decide (sYearN T ≤ 8) && decide (tHLF T (tYr T) ≤ 8)
def F_X1_fits (g : Nat → Nat) (t : Nat) : CF ET := cf_RR (g 16) (g t) (fun _ => True) (fun S => some (.int (b2i (sFits (fT S))))) (fun S => S)
theorem inw_X1_fits_X2 : ∀ w ∈ u_ws RX2 TX2 8, w ∈ wsX1_fits := by decide +kernel
def bk_X1_fits_0 (g : Nat → Nat) (t : Nat) (Post : Option Value → ET → Prop) (K4 : PT ET) (L : Lc) (st : List Value) (s : ET) : Prop :=
  (wK (.int 0) <| wIst 2 <| wK (.int 0) <| wIst 3 <| wKeep [false, true, true, true] K4) L st s
set_option maxRecDepth 20000 in
theorem s_X1_fits_0 {X : Cx} (B : Bx) (g : Nat → Nat) (t : Nat) {Post : Option Value → ET → Prop} (C : OkX X (gx B) cX1_fits 4 wsX1_fits RX1 (rmD 3)) (R : RtX X (gx B) (some .boolean) (encST B g t) Post) {K4 : PT ET} (hK4 : Snd X (gx B) 4 (encST B g t) 4 K4) : Snd X (gx B) 4 (encST B g t) 0 (bk_X1_fits_0 g t Post K4) := by
  unfold bk_X1_fits_0
  refine s_iconst C (by decide) dX1_fits_0 ?_
  refine s_istore_n C rfl (by decide) dX1_fits_1 ?_
  refine s_iconst C (by decide) dX1_fits_2 ?_
  refine s_istore_n C rfl (by decide) dX1_fits_3 ?_
  exact s_keep _ hK4
def bk_X1_fits_31 (g : Nat → Nat) (t : Nat) (Post : Option Value → ET → Prop) (K4 : PT ET) (L : Lc) (st : List Value) (s : ET) : Prop :=
  (wB (fun x y => x + y) <| wIst 2 <| wInc 3 1 <| wKeep [false, true, true, true] K4) L st s
set_option maxRecDepth 20000 in
theorem s_X1_fits_31 {X : Cx} (B : Bx) (g : Nat → Nat) (t : Nat) {Post : Option Value → ET → Prop} (C : OkX X (gx B) cX1_fits 4 wsX1_fits RX1 (rmD 3)) (R : RtX X (gx B) (some .boolean) (encST B g t) Post) {K4 : PT ET} (hK4 : Snd X (gx B) 4 (encST B g t) 4 K4) : Snd X (gx B) 4 (encST B g t) 31 (bk_X1_fits_31 g t Post K4) := by
  unfold bk_X1_fits_31
  refine s_iadd C dX1_fits_31 ?_
  refine s_istore_n C rfl (by decide) dX1_fits_32 ?_
  refine s_iinc C (by decide) (by decide) dX1_fits_33 ?_
  refine s_goto C (tgt := 4) (by decide) dX1_fits_36 ?_
  exact s_keep _ hK4
def bk_X1_fits_63 (g : Nat → Nat) (t : Nat) (Post : Option Value → ET → Prop)  (L : Lc) (st : List Value) (s : ET) : Prop :=
  (wRetZ Post) L st s
set_option maxRecDepth 20000 in
theorem s_X1_fits_63 {X : Cx} (B : Bx) (g : Nat → Nat) (t : Nat) {Post : Option Value → ET → Prop} (C : OkX X (gx B) cX1_fits 4 wsX1_fits RX1 (rmD 3)) (R : RtX X (gx B) (some .boolean) (encST B g t) Post)  : Snd X (gx B) 4 (encST B g t) 63 (bk_X1_fits_63 g t Post ) := by
  unfold bk_X1_fits_63
  exact s_zret C R dX1_fits_63
def bk_X1_fits_62 (g : Nat → Nat) (t : Nat) (Post : Option Value → ET → Prop)  (L : Lc) (st : List Value) (s : ET) : Prop :=
  (wK (.int 0) <| bk_X1_fits_63 g t Post ) L st s
set_option maxRecDepth 20000 in
theorem s_X1_fits_62 {X : Cx} (B : Bx) (g : Nat → Nat) (t : Nat) {Post : Option Value → ET → Prop} (C : OkX X (gx B) cX1_fits 4 wsX1_fits RX1 (rmD 3)) (R : RtX X (gx B) (some .boolean) (encST B g t) Post)  : Snd X (gx B) 4 (encST B g t) 62 (bk_X1_fits_62 g t Post ) := by
  unfold bk_X1_fits_62
  refine s_iconst C (by decide) dX1_fits_62 ?_
  exact s_X1_fits_63 B g t C R 
def bk_X1_fits_4 (g : Nat → Nat) (t : Nat) (Post : Option Value → ET → Prop) (K4 : PT ET) (L : Lc) (st : List Value) (s : ET) : Prop :=
  (wIload 3 <| wAload 1 <| wGet (g t) (fun s => .int (fTNn s)) <| wIf2 (fun x y => y ≤ x) (wIload 2 <| wK (.int 8) <| wIf2 (fun x y => y < x) (bk_X1_fits_62 g t Post ) (wAload 1 <| wAload 1 <| wGet (g t) (fun s => .int (fTYr s)) <| wCallR 2 (F_X2_handsLeftFrom g t) fT fsT <| wK (.int 8) <| wIf2 (fun x y => y < x) (bk_X1_fits_62 g t Post ) (wK (.int 1) <| bk_X1_fits_63 g t Post ))) (wIload 2 <| wAload 1 <| wIload 3 <| wK (.int 4) <| wCallR 3 (F_X2_ofNeed g t) fT fsT <| wAload 1 <| wGet (g t) (fun s => .int (fTYr s)) <| wIf2 (fun x y => x < y) (wK (.int 0) <| bk_X1_fits_31 g t Post K4) (wK (.int 1) <| bk_X1_fits_31 g t Post K4))) L st s
set_option maxRecDepth 20000 in
theorem s_X1_fits_4 {X : Cx} (B : Bx) (g : Nat → Nat) (t : Nat) {Post : Option Value → ET → Prop} (C : OkX X (gx B) cX1_fits 4 wsX1_fits RX1 (rmD 3)) (R : RtX X (gx B) (some .boolean) (encST B g t) Post) {K4 : PT ET} (hK4 : Snd X (gx B) 4 (encST B g t) 4 K4) : Snd X (gx B) 4 (encST B g t) 4 (bk_X1_fits_4 g t Post K4) := by
  unfold bk_X1_fits_4
  refine s_iload_n C rfl dX1_fits_4 ?_
  refine s_aload_n C rfl dX1_fits_5 ?_
  refine s_get C inw_X1_fits_X2 rfl (k := 3) (by decide) (by decide +kernel) (heST_6 B g t) (fun _ => rfl) dX1_fits_6 ?_
  refine s_icmp_ge C (tgt := 39) (by decide) dX1_fits_9 ?_ ?_
  · refine s_iload_n C rfl dX1_fits_39 ?_
    refine s_bipush C (by decide) dX1_fits_40 ?_
    refine s_icmp_gt C (tgt := 62) (by decide) dX1_fits_42 ?_ ?_
    · exact s_X1_fits_62 B g t C R 
    · refine s_aload_n C rfl dX1_fits_45 ?_
      refine s_aload_n C rfl dX1_fits_46 ?_
      refine s_get C inw_X1_fits_X2 rfl (k := 7) (by decide) (by decide +kernel) (heST_6 B g t) (fun _ => rfl) dX1_fits_47 ?_
      refine s_callV C (fr_ST_T B g t) (k_X2_handsLeftFrom B g t) gX1_fits_X2_handsLeftFrom rfl (by decide +kernel) ⟨rfl, rfl⟩ (by decide) rfl (fun s => ⟨_, heST_6 B g t s⟩) (cf_RI_r _ _ _ _) dX1_fits_50 ?_
      refine s_bipush C (by decide) dX1_fits_53 ?_
      refine s_icmp_gt C (tgt := 62) (by decide) dX1_fits_55 ?_ ?_
      · exact s_X1_fits_62 B g t C R 
      · refine s_iconst C (by decide) dX1_fits_58 ?_
        refine s_goto C (tgt := 63) (by decide) dX1_fits_59 ?_
        exact s_X1_fits_63 B g t C R 
  · refine s_iload_n C rfl dX1_fits_12 ?_
    refine s_aload_n C rfl dX1_fits_13 ?_
    refine s_iload_n C rfl dX1_fits_14 ?_
    refine s_iconst C (by decide) dX1_fits_15 ?_
    refine s_callV C (fr_ST_T B g t) (k_X2_ofNeed B g t) gX1_fits_X2_ofNeed rfl (by decide +kernel) ⟨rfl, rfl⟩ (by decide) rfl (fun s => ⟨_, heST_6 B g t s⟩) (cf_RII_r _ _ _ _) dX1_fits_16 ?_
    refine s_aload_n C rfl dX1_fits_19 ?_
    refine s_get C inw_X1_fits_X2 rfl (k := 7) (by decide) (by decide +kernel) (heST_6 B g t) (fun _ => rfl) dX1_fits_20 ?_
    refine s_icmp_lt C (tgt := 30) (by decide) dX1_fits_23 ?_ ?_
    · refine s_iconst C (by decide) dX1_fits_30 ?_
      exact s_X1_fits_31 B g t C R hK4
    · refine s_iconst C (by decide) dX1_fits_26 ?_
      refine s_goto C (tgt := 31) (by decide) dX1_fits_27 ?_
      exact s_X1_fits_31 B g t C R hK4
def I_fits (g : Nat → Nat) (t : Nat) (S : ET) (n : Nat) (L : Lc) (st : List Value) (s : ET) : Prop := ∃ k, n + k = tNeeds (fT S) ∧ st = [] ∧ s = S ∧ L = [none, some (.ref (g t)), some (.int (sumU (fun k => if tYr (fT S) ≤ tOfN (fT S) (nI k) 4 then 1 else 0) k)), some (.int (nI k))]
theorem k_X1_fits (B : Bx) (g : Nat → Nat) (t : Nat) : MtF (gx B) yX1_fits wsX1_fits (rmD 3) (encST B g t) (F_X1_fits g t) := by
  refine cf_RR_i (fun l S _ => Mt.of (P := bk_X1_fits_0 g t _ (fun L st s => ∃ n, I_fits g t S n L st s)) (by decide) rfl (Nat.le_of_ble_eq_true rfl) rfl (fun X C R => s_X1_fits_0 B g t C R (snd_loop _ (I_fits g t S) (fun K hK => s_X1_fits_4 B g t C R hK) ?_)) ?_)
  · rintro K n L st S' ⟨k, hk, rfl, rfl, rfl⟩ hK
    simp only [wIload, wAload, wLload, wK, wB, wDv, wU, wLB, wLU, wLS, wL2i, wLcmp, wIf1, wIf2, wKeep, wInc, wIst, wAst, wLst, wDup, wPop, wDup2, wGet, wPut, wPutZ, wIald, wLald, wIast, wLast, wLen, wRetI, wRetZ, wRetL, wRetA, wRetV, wM1, wM2, wCpy, wTab, tabW, nth, stL, stL2, dropL, keepL, mkL, padL, restOK, restOKn, tl_some, tl_none, id_eq, eq_self, true_and, and_true, bk_X1_fits_0, bk_X1_fits_31, bk_X1_fits_63, bk_X1_fits_62, bk_X1_fits_4, F_X2_handsLeftFrom, F_X2_ofNeed, cf_RII_e, cf_RI_e, fe_T, fTNn, fTYr]
    have hb := clamp_lt (tNn (fT S'))
    unfold tNeeds at hk
    rcases Nat.lt_or_ge k (tNn (fT S')).toNatClampNeg with hlt | hge
    · have h1 : ¬ tNn (fT S') ≤ nI k := by rw [le_nI (by omega)]; omega
      have hc := hK (n - 1) _ _ _ (by omega) ⟨k + 1, by unfold tNeeds; omega, rfl, rfl, rfl⟩
      rw [← nI_1] at hc
      simp only [sumU] at hc
      by_cases ho : tOfN (fT S') (nI k) 4 < tYr (fT S')
      · rw [if_neg (Int32.not_le.mpr ho)] at hc
        simp only [h1, ho, false_implies, true_implies, not_true_eq_false, not_false_eq_true, true_and, and_true, implies_true, eq_self, ne_eq, true_or, or_true, false_or, or_false, and_self]
        exact hc
      · rw [if_pos (Int32.not_lt.mp ho)] at hc
        simp only [h1, ho, false_implies, true_implies, not_true_eq_false, not_false_eq_true, true_and, and_true, implies_true, eq_self, ne_eq, true_or, or_true, false_or, or_false, and_self]
        exact hc
    · have h1 : tNn (fT S') ≤ nI k := (le_nI (by omega)).mpr hge
      have h2 : k = tNeeds (fT S') := by unfold tNeeds; omega
      simp only [h1, false_implies, true_implies, not_true_eq_false, not_false_eq_true, true_and, and_true, implies_true, eq_self, ne_eq, true_or, or_true, false_or, or_false, and_self]
      rw [h2]
      unfold sFits sYearN
      repeat' first | refine And.intro ?_ ?_ | intro _
      all_goals grind [b2i]
  · simp only [wIload, wAload, wLload, wK, wB, wDv, wU, wLB, wLU, wLS, wL2i, wLcmp, wIf1, wIf2, wKeep, wInc, wIst, wAst, wLst, wDup, wPop, wDup2, wGet, wPut, wPutZ, wIald, wLald, wIast, wLast, wLen, wRetI, wRetZ, wRetL, wRetA, wRetV, wM1, wM2, wCpy, wTab, tabW, nth, stL, stL2, dropL, keepL, mkL, padL, restOK, restOKn, tl_some, tl_none, id_eq, eq_self, true_and, and_true, bk_X1_fits_0, bk_X1_fits_31, bk_X1_fits_63, bk_X1_fits_62, bk_X1_fits_4, F_X2_handsLeftFrom, F_X2_ofNeed, cf_RII_e, cf_RI_e]
    exact ⟨tNeeds (fT S), 0, by omega, rfl, rfl, rfl⟩
end
