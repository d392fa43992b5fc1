noncomputable section
theorem heC_all : True := trivial
theorem heC_0 (B : Bx) (g : Nat → Nat) (t : Nat) : ∀ s : CS, (encC B g t s)[0]? = some (g 0, .inr (3, [.ref (g 1), .ref (g 6), .ref (g 11), .int (cIm s), .ref (g 16), .ref (g 22), .ref (g 24), .int (cRl s), .ref (g 25)])) := fun _ => rfl
theorem heC_1 (B : Bx) (g : Nat → Nat) (t : Nat) : ∀ s : CS, (encC B g t s)[1]? = some (g 24, .inl (B.2.1, 10, .inl (cRo s))) := fun _ => rfl
theorem heC_2 (B : Bx) (g : Nat → Nat) (t : Nat) : ∀ s : CS, (encC B g t s)[2]? = some (g t, .inr (2, [.ref (g (t + 1)), .int (cTPp s), .ref (g (t + 2)), .int (cTNn s), .ref (g (t + 3)), .int (cTHh s), .ref (g (t + 4)), .int (cTYr s)])) := fun _ => rfl
theorem heC_3 (B : Bx) (g : Nat → Nat) (t : Nat) : ∀ s : CS, (encC B g t s)[3]? = some (g (t + 1), .inl (B.2.1, 42, .inl (cTPt s))) := fun _ => rfl
theorem heC_4 (B : Bx) (g : Nat → Nat) (t : Nat) : ∀ s : CS, (encC B g t s)[4]? = some (g (t + 2), .inl (B.2.1, 72, .inl (cTNt s))) := fun _ => rfl
theorem heC_5 (B : Bx) (g : Nat → Nat) (t : Nat) : ∀ s : CS, (encC B g t s)[5]? = some (g (t + 3), .inl (B.2.1, 1350, .inl (cTBt s))) := fun _ => rfl
theorem heC_6 (B : Bx) (g : Nat → Nat) (t : Nat) : ∀ s : CS, (encC B g t s)[6]? = some (g (t + 4), .inl (B.2.1, 4, .inl (cTSe s))) := fun _ => rfl
def F_X3_isRule : CF Unit := cf_I (fun _ _ => True) (fun _ x => some (.int (b2i (decide (0 ≤ x ∧ x ≤ 5))))) (fun s _ => s)

def bk_X3_isRule_14  (Post : Option Value → Unit → Prop)  (L : Lc) (st : List Value) (s : Unit) : Prop :=
  (wRetZ Post) L st s
set_option maxRecDepth 20000 in
theorem s_X3_isRule_14 {X : Cx} (B : Bx)  {Post : Option Value → Unit → Prop} (C : OkX X (gx B) cX3_isRule 1 wsX3_isRule RX3 (rmD 0)) (R : RtX X (gx B) (some .boolean) (encE) Post)  : Snd X (gx B) 1 (encE) 14 (bk_X3_isRule_14  Post ) := by
  unfold bk_X3_isRule_14
  exact s_zret C R dX3_isRule_14
def bk_X3_isRule_13  (Post : Option Value → Unit → Prop)  (L : Lc) (st : List Value) (s : Unit) : Prop :=
  (wK (.int 0) <| bk_X3_isRule_14  Post ) L st s
set_option maxRecDepth 20000 in
theorem s_X3_isRule_13 {X : Cx} (B : Bx)  {Post : Option Value → Unit → Prop} (C : OkX X (gx B) cX3_isRule 1 wsX3_isRule RX3 (rmD 0)) (R : RtX X (gx B) (some .boolean) (encE) Post)  : Snd X (gx B) 1 (encE) 13 (bk_X3_isRule_13  Post ) := by
  unfold bk_X3_isRule_13
  refine s_iconst C (by decide) dX3_isRule_13 ?_
  exact s_X3_isRule_14 B  C R 
def bk_X3_isRule_0  (Post : Option Value → Unit → Prop)  (L : Lc) (st : List Value) (s : Unit) : Prop :=
  (wIload 0 <| wIf1 (fun x => x < 0) (bk_X3_isRule_13  Post ) (wIload 0 <| wK (.int 5) <| wIf2 (fun x y => y < x) (bk_X3_isRule_13  Post ) (wK (.int 1) <| bk_X3_isRule_14  Post ))) L st s
set_option maxRecDepth 20000 in
theorem s_X3_isRule_0 {X : Cx} (B : Bx)  {Post : Option Value → Unit → Prop} (C : OkX X (gx B) cX3_isRule 1 wsX3_isRule RX3 (rmD 0)) (R : RtX X (gx B) (some .boolean) (encE) Post)  : Snd X (gx B) 1 (encE) 0 (bk_X3_isRule_0  Post ) := by
  unfold bk_X3_isRule_0
  refine s_iload_n C rfl dX3_isRule_0 ?_
  refine s_if_lt C (tgt := 13) (by decide) dX3_isRule_1 ?_ ?_
  · exact s_X3_isRule_13 B  C R 
  · refine s_iload_n C rfl dX3_isRule_4 ?_
    refine s_iconst C (by decide) dX3_isRule_5 ?_
    refine s_icmp_gt C (tgt := 13) (by decide) dX3_isRule_6 ?_ ?_
    · exact s_X3_isRule_13 B  C R 
    · refine s_iconst C (by decide) dX3_isRule_9 ?_
      refine s_goto C (tgt := 14) (by decide) dX3_isRule_10 ?_
      exact s_X3_isRule_14 B  C R 
theorem k_X3_isRule (B : Bx) : MtF (gx B) yX3_isRule wsX3_isRule (rmD 0) encE F_X3_isRule := by
  refine cf_I_i (fun l s x _ => Mt.of (by decide) rfl (Nat.le_of_ble_eq_true rfl) rfl (fun X C R => s_X3_isRule_0 B C R) ?_)
  simp only [wIload, wAload, wLload, wK, wB, wDv, wU, wLB, wLU, wLS, wL2i, wLcmp, wIf1, wIf2, wKeep, wInc, wIst, wAst, wLst, wDup, wPop, wDup2, wGet, wPut, wPutZ, wIald, wLald, wIast, wLast, wLen, wRetI, wRetZ, wRetL, wRetA, wRetV, wM1, wM2, wCpy, wTab, tabW, nth, stL, stL2, dropL, keepL, mkL, padL, restOK, restOKn, tl_some, tl_none, id_eq, eq_self, true_and, and_true, bk_X3_isRule_14, bk_X3_isRule_13, bk_X3_isRule_0]
  grind [b2i]
def F_X3_isLaw : CF Unit := cf_I (fun _ _ => True) (fun _ x => some (.int (b2i (decide (0 ≤ x ∧ x ≤ 3))))) (fun s _ => s)

def bk_X3_isLaw_14  (Post : Option Value → Unit → Prop)  (L : Lc) (st : List Value) (s : Unit) : Prop :=
  (wRetZ Post) L st s
set_option maxRecDepth 20000 in
theorem s_X3_isLaw_14 {X : Cx} (B : Bx)  {Post : Option Value → Unit → Prop} (C : OkX X (gx B) cX3_isLaw 1 wsX3_isLaw RX3 (rmD 0)) (R : RtX X (gx B) (some .boolean) (encE) Post)  : Snd X (gx B) 1 (encE) 14 (bk_X3_isLaw_14  Post ) := by
  unfold bk_X3_isLaw_14
  exact s_zret C R dX3_isLaw_14
def bk_X3_isLaw_13  (Post : Option Value → Unit → Prop)  (L : Lc) (st : List Value) (s : Unit) : Prop :=
  (wK (.int 0) <| bk_X3_isLaw_14  Post ) L st s
set_option maxRecDepth 20000 in
theorem s_X3_isLaw_13 {X : Cx} (B : Bx)  {Post : Option Value → Unit → Prop} (C : OkX X (gx B) cX3_isLaw 1 wsX3_isLaw RX3 (rmD 0)) (R : RtX X (gx B) (some .boolean) (encE) Post)  : Snd X (gx B) 1 (encE) 13 (bk_X3_isLaw_13  Post ) := by
  unfold bk_X3_isLaw_13
  refine s_iconst C (by decide) dX3_isLaw_13 ?_
  exact s_X3_isLaw_14 B  C R 
def bk_X3_isLaw_0  (Post : Option Value → Unit → Prop)  (L : Lc) (st : List Value) (s : Unit) : Prop :=
  (wIload 0 <| wIf1 (fun x => x < 0) (bk_X3_isLaw_13  Post ) (wIload 0 <| wK (.int 3) <| wIf2 (fun x y => y < x) (bk_X3_isLaw_13  Post ) (wK (.int 1) <| bk_X3_isLaw_14  Post ))) L st s
set_option maxRecDepth 20000 in
theorem s_X3_isLaw_0 {X : Cx} (B : Bx)  {Post : Option Value → Unit → Prop} (C : OkX X (gx B) cX3_isLaw 1 wsX3_isLaw RX3 (rmD 0)) (R : RtX X (gx B) (some .boolean) (encE) Post)  : Snd X (gx B) 1 (encE) 0 (bk_X3_isLaw_0  Post ) := by
  unfold bk_X3_isLaw_0
  refine s_iload_n C rfl dX3_isLaw_0 ?_
  refine s_if_lt C (tgt := 13) (by decide) dX3_isLaw_1 ?_ ?_
  · exact s_X3_isLaw_13 B  C R 
  · refine s_iload_n C rfl dX3_isLaw_4 ?_
    refine s_iconst C (by decide) dX3_isLaw_5 ?_
    refine s_icmp_gt C (tgt := 13) (by decide) dX3_isLaw_6 ?_ ?_
    · exact s_X3_isLaw_13 B  C R 
    · refine s_iconst C (by decide) dX3_isLaw_9 ?_
      refine s_goto C (tgt := 14) (by decide) dX3_isLaw_10 ?_
      exact s_X3_isLaw_14 B  C R 
theorem k_X3_isLaw (B : Bx) : MtF (gx B) yX3_isLaw wsX3_isLaw (rmD 0) encE F_X3_isLaw := by
  refine cf_I_i (fun l s x _ => Mt.of (by decide) rfl (Nat.le_of_ble_eq_true rfl) rfl (fun X C R => s_X3_isLaw_0 B C R) ?_)
  simp only [wIload, wAload, wLload, wK, wB, wDv, wU, wLB, wLU, wLS, wL2i, wLcmp, wIf1, wIf2, wKeep, wInc, wIst, wAst, wLst, wDup, wPop, wDup2, wGet, wPut, wPutZ, wIald, wLald, wIast, wLast, wLen, wRetI, wRetZ, wRetL, wRetA, wRetV, wM1, wM2, wCpy, wTab, tabW, nth, stL, stL2, dropL, keepL, mkL, padL, restOK, restOKn, tl_some, tl_none, id_eq, eq_self, true_and, and_true, bk_X3_isLaw_14, bk_X3_isLaw_13, bk_X3_isLaw_0]
  grind [b2i]
def F_X3_leastSetting : CF Unit := cf_I (fun _ _ => True) (fun _ x => some (.int (if x = 1 then 1 else 0))) (fun s _ => s)

def bk_X3_leastSetting_10  (Post : Option Value → Unit → Prop)  (L : Lc) (st : List Value) (s : Unit) : Prop :=
  (wRetI Post) L st s
set_option maxRecDepth 20000 in
theorem s_X3_leastSetting_10 {X : Cx} (B : Bx)  {Post : Option Value → Unit → Prop} (C : OkX X (gx B) cX3_leastSetting 1 wsX3_leastSetting RX3 (rmD 0)) (R : RtX X (gx B) (some .int) (encE) Post)  : Snd X (gx B) 1 (encE) 10 (bk_X3_leastSetting_10  Post ) := by
  unfold bk_X3_leastSetting_10
  exact s_iret C R dX3_leastSetting_10
def bk_X3_leastSetting_0  (Post : Option Value → Unit → Prop)  (L : Lc) (st : List Value) (s : Unit) : Prop :=
  (wIload 0 <| wK (.int 1) <| wIf2 (fun x y => x = y) (wK (.int 1) <| bk_X3_leastSetting_10  Post ) (wK (.int 0) <| bk_X3_leastSetting_10  Post )) L st s
set_option maxRecDepth 20000 in
theorem s_X3_leastSetting_0 {X : Cx} (B : Bx)  {Post : Option Value → Unit → Prop} (C : OkX X (gx B) cX3_leastSetting 1 wsX3_leastSetting RX3 (rmD 0)) (R : RtX X (gx B) (some .int) (encE) Post)  : Snd X (gx B) 1 (encE) 0 (bk_X3_leastSetting_0  Post ) := by
  unfold bk_X3_leastSetting_0
  refine s_iload_n C rfl dX3_leastSetting_0 ?_
  refine s_iconst C (by decide) dX3_leastSetting_1 ?_
  refine s_icmp_ne C (tgt := 9) (by decide) dX3_leastSetting_2 ?_ ?_
  · refine s_iconst C (by decide) dX3_leastSetting_9 ?_
    exact s_X3_leastSetting_10 B  C R 
  · refine s_iconst C (by decide) dX3_leastSetting_5 ?_
    refine s_goto C (tgt := 10) (by decide) dX3_leastSetting_6 ?_
    exact s_X3_leastSetting_10 B  C R 
theorem k_X3_leastSetting (B : Bx) : MtF (gx B) yX3_leastSetting wsX3_leastSetting (rmD 0) encE F_X3_leastSetting := by
  refine cf_I_i (fun l s x _ => Mt.of (by decide) rfl (Nat.le_of_ble_eq_true rfl) rfl (fun X C R => s_X3_leastSetting_0 B C R) ?_)
  simp only [wIload, wAload, wLload, wK, wB, wDv, wU, wLB, wLU, wLS, wL2i, wLcmp, wIf1, wIf2, wKeep, wInc, wIst, wAst, wLst, wDup, wPop, wDup2, wGet, wPut, wPutZ, wIald, wLald, wIast, wLast, wLen, wRetI, wRetZ, wRetL, wRetA, wRetV, wM1, wM2, wCpy, wTab, tabW, nth, stL, stL2, dropL, keepL, mkL, padL, restOK, restOKn, tl_some, tl_none, id_eq, eq_self, true_and, and_true, bk_X3_leastSetting_10, bk_X3_leastSetting_0]
  grind
def F_X3_greatestSetting : CF Unit := cf_I (fun _ _ => True) (fun _ x => some (.int (if x = 0 then 3 else 9))) (fun s _ => s)

def bk_X3_greatestSetting_10  (Post : Option Value → Unit → Prop)  (L : Lc) (st : List Value) (s : Unit) : Prop :=
  (wRetI Post) L st s
set_option maxRecDepth 20000 in
theorem s_X3_greatestSetting_10 {X : Cx} (B : Bx)  {Post : Option Value → Unit → Prop} (C : OkX X (gx B) cX3_greatestSetting 1 wsX3_greatestSetting RX3 (rmD 0)) (R : RtX X (gx B) (some .int) (encE) Post)  : Snd X (gx B) 1 (encE) 10 (bk_X3_greatestSetting_10  Post ) := by
  unfold bk_X3_greatestSetting_10
  exact s_iret C R dX3_greatestSetting_10
def bk_X3_greatestSetting_0  (Post : Option Value → Unit → Prop)  (L : Lc) (st : List Value) (s : Unit) : Prop :=
  (wIload 0 <| wIf1 (fun x => x = 0) (wK (.int 3) <| bk_X3_greatestSetting_10  Post ) (wK (.int 9) <| bk_X3_greatestSetting_10  Post )) L st s
set_option maxRecDepth 20000 in
theorem s_X3_greatestSetting_0 {X : Cx} (B : Bx)  {Post : Option Value → Unit → Prop} (C : OkX X (gx B) cX3_greatestSetting 1 wsX3_greatestSetting RX3 (rmD 0)) (R : RtX X (gx B) (some .int) (encE) Post)  : Snd X (gx B) 1 (encE) 0 (bk_X3_greatestSetting_0  Post ) := by
  unfold bk_X3_greatestSetting_0
  refine s_iload_n C rfl dX3_greatestSetting_0 ?_
  refine s_if_ne C (tgt := 8) (by decide) dX3_greatestSetting_1 ?_ ?_
  · refine s_bipush C (by decide) dX3_greatestSetting_8 ?_
    exact s_X3_greatestSetting_10 B  C R 
  · refine s_iconst C (by decide) dX3_greatestSetting_4 ?_
    refine s_goto C (tgt := 10) (by decide) dX3_greatestSetting_5 ?_
    exact s_X3_greatestSetting_10 B  C R 
theorem k_X3_greatestSetting (B : Bx) : MtF (gx B) yX3_greatestSetting wsX3_greatestSetting (rmD 0) encE F_X3_greatestSetting := by
  refine cf_I_i (fun l s x _ => Mt.of (by decide) rfl (Nat.le_of_ble_eq_true rfl) rfl (fun X C R => s_X3_greatestSetting_0 B C R) ?_)
  simp only [wIload, wAload, wLload, wK, wB, wDv, wU, wLB, wLU, wLS, wL2i, wLcmp, wIf1, wIf2, wKeep, wInc, wIst, wAst, wLst, wDup, wPop, wDup2, wGet, wPut, wPutZ, wIald, wLald, wIast, wLast, wLen, wRetI, wRetZ, wRetL, wRetA, wRetV, wM1, wM2, wCpy, wTab, tabW, nth, stL, stL2, dropL, keepL, mkL, padL, restOK, restOKn, tl_some, tl_none, id_eq, eq_self, true_and, and_true, bk_X3_greatestSetting_10, bk_X3_greatestSetting_0]
  grind
theorem nxSeed_x : ∃ f : Int32 → Int32, ∀ z, f z = z * 1103515245 + 12345 := ⟨fun z => z * 1103515245 + 12345, fun _ => rfl⟩
def nxSeed : Int32 → Int32 := Classical.choose nxSeed_x
theorem nxSeed_eq (z : Int32) : nxSeed z = z * 1103515245 + 12345 := Classical.choose_spec nxSeed_x z
def F_X3_nextSeed : CF Unit := cf_I (fun _ _ => True) (fun _ x => some (.int (nxSeed x))) (fun s _ => s)

def bk_X3_nextSeed_0  (Post : Option Value → Unit → Prop)  (L : Lc) (st : List Value) (s : Unit) : Prop :=
  (wIload 0 <| wK (.int 1103515245) <| wB (fun x y => x * y) <| wK (.int 12345) <| wB (fun x y => x + y) <| wRetI Post) L st s
set_option maxRecDepth 20000 in
theorem s_X3_nextSeed_0 {X : Cx} (B : Bx)  {Post : Option Value → Unit → Prop} (C : OkX X (gx B) cX3_nextSeed 1 wsX3_nextSeed RX3 (rmD 0)) (R : RtX X (gx B) (some .int) (encE) Post)  : Snd X (gx B) 1 (encE) 0 (bk_X3_nextSeed_0  Post ) := by
  unfold bk_X3_nextSeed_0
  refine s_iload_n C rfl dX3_nextSeed_0 ?_
  refine s_ldc C (by decide +kernel) dX3_nextSeed_1 ?_
  refine s_imul C dX3_nextSeed_3 ?_
  refine s_sipush C (by decide) dX3_nextSeed_4 ?_
  refine s_iadd C dX3_nextSeed_7 ?_
  exact s_iret C R dX3_nextSeed_8
theorem k_X3_nextSeed (B : Bx) : MtF (gx B) yX3_nextSeed wsX3_nextSeed (rmD 0) encE F_X3_nextSeed := by
  refine cf_I_i (fun l s x _ => Mt.of (by decide) rfl (Nat.le_of_ble_eq_true rfl) rfl (fun X C R => s_X3_nextSeed_0 B C R) ?_)
  simp only [wIload, wAload, wLload, wK, wB, wDv, wU, wLB, wLU, wLS, wL2i, wLcmp, wIf1, wIf2, wKeep, wInc, wIst, wAst, wLst, wDup, wPop, wDup2, wGet, wPut, wPutZ, wIald, wLald, wIast, wLast, wLen, wRetI, wRetZ, wRetL, wRetA, wRetV, wM1, wM2, wCpy, wTab, tabW, nth, stL, stL2, dropL, keepL, mkL, padL, restOK, restOKn, tl_some, tl_none, id_eq, eq_self, true_and, and_true, bk_X3_nextSeed_0]
  rw [nxSeed_eq]
theorem drawF_x : ∃ f : Int32 → Int32 → Int32, ∀ z n, f z n = (z &&& 2147483647) / 65536 - (z &&& 2147483647) / 65536 / n * n := ⟨fun z n => (z &&& 2147483647) / 65536 - (z &&& 2147483647) / 65536 / n * n, fun _ _ => rfl⟩
def drawF : Int32 → Int32 → Int32 := Classical.choose drawF_x
theorem drawF_eq (z n : Int32) : drawF z n = (z &&& 2147483647) / 65536 - (z &&& 2147483647) / 65536 / n * n := Classical.choose_spec drawF_x z n
def F_X3_draw : CF Unit := cf_II (fun _ _ _ => True) (fun _ z n => some (.int (if 0 < n then drawF z n else 0))) (fun s _ _ => s)

def bk_X3_draw_17  (Post : Option Value → Unit → Prop)  (L : Lc) (st : List Value) (s : Unit) : Prop :=
  (wRetI Post) L st s
set_option maxRecDepth 20000 in
theorem s_X3_draw_17 {X : Cx} (B : Bx)  {Post : Option Value → Unit → Prop} (C : OkX X (gx B) cX3_draw 2 wsX3_draw RX3 (rmD 0)) (R : RtX X (gx B) (some .int) (encE) Post)  : Snd X (gx B) 2 (encE) 17 (bk_X3_draw_17  Post ) := by
  unfold bk_X3_draw_17
  exact s_iret C R dX3_draw_17
def bk_X3_draw_0  (Post : Option Value → Unit → Prop)  (L : Lc) (st : List Value) (s : Unit) : Prop :=
  (wIload 1 <| wIf1 (fun x => x ≤ 0) (wK (.int 0) <| bk_X3_draw_17  Post ) (wIload 0 <| wK (.int 2147483647) <| wB (fun x y => x &&& y) <| wK (.int 65536) <| wDv (fun x y => x / y) <| wIload 1 <| wDv (fun x y => x - x / y * y) <| bk_X3_draw_17  Post )) L st s
set_option maxRecDepth 20000 in
theorem s_X3_draw_0 {X : Cx} (B : Bx)  {Post : Option Value → Unit → Prop} (C : OkX X (gx B) cX3_draw 2 wsX3_draw RX3 (rmD 0)) (R : RtX X (gx B) (some .int) (encE) Post)  : Snd X (gx B) 2 (encE) 0 (bk_X3_draw_0  Post ) := by
  unfold bk_X3_draw_0
  refine s_iload_n C rfl dX3_draw_0 ?_
  refine s_if_le C (tgt := 16) (by decide) dX3_draw_1 ?_ ?_
  · refine s_iconst C (by decide) dX3_draw_16 ?_
    exact s_X3_draw_17 B  C R 
  · refine s_iload_n C rfl dX3_draw_4 ?_
    refine s_ldc C (by decide +kernel) dX3_draw_5 ?_
    refine s_iand C dX3_draw_7 ?_
    refine s_ldc C (by decide +kernel) dX3_draw_8 ?_
    refine s_idiv C dX3_draw_10 ?_
    refine s_iload_n C rfl dX3_draw_11 ?_
    refine s_irem C dX3_draw_12 ?_
    refine s_goto C (tgt := 17) (by decide) dX3_draw_13 ?_
    exact s_X3_draw_17 B  C R 
theorem k_X3_draw (B : Bx) : MtF (gx B) yX3_draw wsX3_draw (rmD 0) encE F_X3_draw := by
  refine cf_II_i (fun l s z n _ => Mt.of (by decide) rfl (Nat.le_of_ble_eq_true rfl) rfl (fun X C R => s_X3_draw_0 B C R) ?_)
  simp only [wIload, wAload, wLload, wK, wB, wDv, wU, wLB, wLU, wLS, wL2i, wLcmp, wIf1, wIf2, wKeep, wInc, wIst, wAst, wLst, wDup, wPop, wDup2, wGet, wPut, wPutZ, wIald, wLald, wIast, wLast, wLen, wRetI, wRetZ, wRetL, wRetA, wRetV, wM1, wM2, wCpy, wTab, tabW, nth, stL, stL2, dropL, keepL, mkL, padL, restOK, restOKn, tl_some, tl_none, id_eq, eq_self, true_and, and_true, bk_X3_draw_17, bk_X3_draw_0]
  have h1 : ¬ (65536 : Int32) = 0 := by decide
  have h2 : 0 < n → ¬ n = 0 := fun h e => by rw [e] at h; exact absurd h (by decide)
  repeat' first | refine And.intro ?_ ?_ | intro _
  all_goals grind [drawF_eq]
def isN (n : Int32) : Prop := ∃ k, k + 1 < 2 ^ 31 ∧ n = nI k
def tRuled (T : TS) (rule p n : Int32) : Bool := if rule = 3 then decide (tGood T p n ≤ tLoss T p n) else if rule = 4 then decide (p = tOfN T n 0 + 1) || decide (p = tOfN T n 0 - 1) else false
def F_X3_isRuledOut (g : Nat → Nat) (t : Nat) : CF TS := cf_RIII (g t) (fun _ _ _ n => isN n) (fun T r p n => some (.int (b2i (tRuled T r p n)))) (fun T _ _ _ => T)

def bk_X3_isRuledOut_25 (g : Nat → Nat) (t : Nat) (Post : Option Value → TS → Prop)  (L : Lc) (st : List Value) (s : TS) : Prop :=
  (wRetZ Post) L st s
set_option maxRecDepth 20000 in
theorem s_X3_isRuledOut_25 {X : Cx} (B : Bx) (g : Nat → Nat) (t : Nat) {Post : Option Value → TS → Prop} (C : OkX X (gx B) cX3_isRuledOut 5 wsX3_isRuledOut RX3 (rmD 4)) (R : RtX X (gx B) (some .boolean) (encT B g t) Post)  : Snd X (gx B) 5 (encT B g t) 25 (bk_X3_isRuledOut_25 g t Post ) := by
  unfold bk_X3_isRuledOut_25
  exact s_zret C R dX3_isRuledOut_25
def bk_X3_isRuledOut_60 (g : Nat → Nat) (t : Nat) (Post : Option Value → TS → Prop)  (L : Lc) (st : List Value) (s : TS) : Prop :=
  (wRetZ Post) L st s
set_option maxRecDepth 20000 in
theorem s_X3_isRuledOut_60 {X : Cx} (B : Bx) (g : Nat → Nat) (t : Nat) {Post : Option Value → TS → Prop} (C : OkX X (gx B) cX3_isRuledOut 5 wsX3_isRuledOut RX3 (rmD 4)) (R : RtX X (gx B) (some .boolean) (encT B g t) Post)  : Snd X (gx B) 5 (encT B g t) 60 (bk_X3_isRuledOut_60 g t Post ) := by
  unfold bk_X3_isRuledOut_60
  exact s_zret C R dX3_isRuledOut_60
def bk_X3_isRuledOut_55 (g : Nat → Nat) (t : Nat) (Post : Option Value → TS → Prop)  (L : Lc) (st : List Value) (s : TS) : Prop :=
  (wK (.int 1) <| bk_X3_isRuledOut_60 g t Post ) L st s
set_option maxRecDepth 20000 in
theorem s_X3_isRuledOut_55 {X : Cx} (B : Bx) (g : Nat → Nat) (t : Nat) {Post : Option Value → TS → Prop} (C : OkX X (gx B) cX3_isRuledOut 5 wsX3_isRuledOut RX3 (rmD 4)) (R : RtX X (gx B) (some .boolean) (encT B g t) Post)  : Snd X (gx B) 5 (encT B g t) 55 (bk_X3_isRuledOut_55 g t Post ) := by
  unfold bk_X3_isRuledOut_55
  refine s_iconst C (by decide) dX3_isRuledOut_55 ?_
  refine s_goto C (tgt := 60) (by decide) dX3_isRuledOut_56 ?_
  exact s_X3_isRuledOut_60 B g t C R 
def bk_X3_isRuledOut_0 (g : Nat → Nat) (t : Nat) (Post : Option Value → TS → Prop)  (L : Lc) (st : List Value) (s : TS) : Prop :=
  (wIload 1 <| wK (.int 3) <| wIf2 (fun x y => x = y) (wAload 0 <| wIload 2 <| wIload 3 <| wCallR 3 (F_X2_lossOf g t) id (fun _ u => u) <| wAload 0 <| wIload 2 <| wIload 3 <| wCallR 3 (F_X2_goodOf g t) id (fun _ u => u) <| wIf2 (fun x y => x < y) (wK (.int 0) <| bk_X3_isRuledOut_25 g t Post ) (wK (.int 1) <| bk_X3_isRuledOut_25 g t Post )) (wIload 1 <| wK (.int 4) <| wIf2 (fun x y => x = y) (wAload 0 <| wIload 3 <| wK (.int 0) <| wCallR 3 (F_X2_ofNeed g t) id (fun _ u => u) <| wIst 4 <| wIload 2 <| wIload 4 <| wK (.int 1) <| wB (fun x y => x + y) <| wIf2 (fun x y => x = y) (bk_X3_isRuledOut_55 g t Post ) (wIload 2 <| wIload 4 <| wK (.int 1) <| wB (fun x y => x - y) <| wIf2 (fun x y => x = y) (bk_X3_isRuledOut_55 g t Post ) (wK (.int 0) <| bk_X3_isRuledOut_60 g t Post ))) (wK (.int 0) <| wRetZ Post))) L st s
set_option maxRecDepth 20000 in
theorem s_X3_isRuledOut_0 {X : Cx} (B : Bx) (g : Nat → Nat) (t : Nat) {Post : Option Value → TS → Prop} (C : OkX X (gx B) cX3_isRuledOut 5 wsX3_isRuledOut RX3 (rmD 4)) (R : RtX X (gx B) (some .boolean) (encT B g t) Post)  : Snd X (gx B) 5 (encT B g t) 0 (bk_X3_isRuledOut_0 g t Post ) := by
  unfold bk_X3_isRuledOut_0
  refine s_iload_n C rfl dX3_isRuledOut_0 ?_
  refine s_iconst C (by decide) dX3_isRuledOut_1 ?_
  refine s_icmp_ne C (tgt := 26) (by decide) dX3_isRuledOut_2 ?_ ?_
  · refine s_iload_n C rfl dX3_isRuledOut_26 ?_
    refine s_iconst C (by decide) dX3_isRuledOut_27 ?_
    refine s_icmp_ne C (tgt := 61) (by decide) dX3_isRuledOut_28 ?_ ?_
    · refine s_iconst C (by decide) dX3_isRuledOut_61 ?_
      exact s_zret C R dX3_isRuledOut_62
    · refine s_aload_n C rfl dX3_isRuledOut_31 ?_
      refine s_iload_n C rfl dX3_isRuledOut_32 ?_
      refine s_iconst C (by decide) dX3_isRuledOut_33 ?_
      refine s_callV C (fr_T_T B g t) (k_X2_ofNeed B g t) gX3_isRuledOut_X2_ofNeed rfl (by decide +kernel) ⟨rfl, rfl⟩ (by decide) rfl (fun s => ⟨_, heT_0 B g t s⟩) (cf_RII_r _ _ _ _) dX3_isRuledOut_34 ?_
      refine s_istore C (by decide) dX3_isRuledOut_37 ?_
      refine s_iload_n C rfl dX3_isRuledOut_39 ?_
      refine s_iload C dX3_isRuledOut_40 ?_
      refine s_iconst C (by decide) dX3_isRuledOut_42 ?_
      refine s_iadd C dX3_isRuledOut_43 ?_
      refine s_icmp_eq C (tgt := 55) (by decide) dX3_isRuledOut_44 ?_ ?_
      · exact s_X3_isRuledOut_55 B g t C R 
      · refine s_iload_n C rfl dX3_isRuledOut_47 ?_
        refine s_iload C dX3_isRuledOut_48 ?_
        refine s_iconst C (by decide) dX3_isRuledOut_50 ?_
        refine s_isub C dX3_isRuledOut_51 ?_
        refine s_icmp_ne C (tgt := 59) (by decide) dX3_isRuledOut_52 ?_ ?_
        · refine s_iconst C (by decide) dX3_isRuledOut_59 ?_
          exact s_X3_isRuledOut_60 B g t C R 
        · exact s_X3_isRuledOut_55 B g t C R 
  · refine s_aload_n C rfl dX3_isRuledOut_5 ?_
    refine s_iload_n C rfl dX3_isRuledOut_6 ?_
    refine s_iload_n C rfl dX3_isRuledOut_7 ?_
    refine s_callV C (fr_T_T B g t) (k_X2_lossOf B g t) gX3_isRuledOut_X2_lossOf rfl (by decide +kernel) ⟨rfl, rfl⟩ (by decide) rfl (fun s => ⟨_, heT_0 B g t s⟩) (cf_RII_r _ _ _ _) dX3_isRuledOut_8 ?_
    refine s_aload_n C rfl dX3_isRuledOut_11 ?_
    refine s_iload_n C rfl dX3_isRuledOut_12 ?_
    refine s_iload_n C rfl dX3_isRuledOut_13 ?_
    refine s_callV C (fr_T_T B g t) (k_X2_goodOf B g t) gX3_isRuledOut_X2_goodOf rfl (by decide +kernel) ⟨rfl, rfl⟩ (by decide) rfl (fun s => ⟨_, heT_0 B g t s⟩) (cf_RII_r _ _ _ _) dX3_isRuledOut_14 ?_
    refine s_icmp_lt C (tgt := 24) (by decide) dX3_isRuledOut_17 ?_ ?_
    · refine s_iconst C (by decide) dX3_isRuledOut_24 ?_
      exact s_X3_isRuledOut_25 B g t C R 
    · refine s_iconst C (by decide) dX3_isRuledOut_20 ?_
      refine s_goto C (tgt := 25) (by decide) dX3_isRuledOut_21 ?_
      exact s_X3_isRuledOut_25 B g t C R 
theorem k_X3_isRuledOut (B : Bx) (g : Nat → Nat) (t : Nat) : MtF (gx B) yX3_isRuledOut wsX3_isRuledOut (rmD 4) (encT B g t) (F_X3_isRuledOut g t) := by
  refine cf_RIII_i (fun l T r p n hn => Mt.of (by decide) rfl (Nat.le_of_ble_eq_true rfl) rfl (fun X C R => s_X3_isRuledOut_0 B g t C R) ?_)
  simp only [wIload, wAload, wLload, wK, wB, wDv, wU, wLB, wLU, wLS, wL2i, wLcmp, wIf1, wIf2, wKeep, wInc, wIst, wAst, wLst, wDup, wPop, wDup2, wGet, wPut, wPutZ, wIald, wLald, wIast, wLast, wLen, wRetI, wRetZ, wRetL, wRetA, wRetV, wM1, wM2, wCpy, wTab, tabW, nth, stL, stL2, dropL, keepL, mkL, padL, restOK, restOKn, tl_some, tl_none, id_eq, eq_self, true_and, and_true, bk_X3_isRuledOut_25, bk_X3_isRuledOut_60, bk_X3_isRuledOut_55, bk_X3_isRuledOut_0, F_X2_goodOf, F_X2_lossOf, F_X2_ofNeed, cf_RII_e]
  unfold isN at hn
  repeat' first | refine And.intro ?_ ?_ | intro _
  all_goals grind [b2i, tRuled]
def tPrice (T : TS) (rule p n : Int32) : Int32 := if rule = 1 then - tGood T p n else if rule = 2 then tLoss T p n else if rule = 3 then tLoss T p n else tMin T p (tOfN T n 0)
def F_X3_priceBy (g : Nat → Nat) (t : Nat) : CF TS := cf_RIII (g t) (fun _ _ _ n => isN n) (fun T r p n => some (.int (tPrice T r p n))) (fun T _ _ _ => T)

def bk_X3_priceBy_0 (g : Nat → Nat) (t : Nat) (Post : Option Value → TS → Prop)  (L : Lc) (st : List Value) (s : TS) : Prop :=
  (wIload 1 <| wTab [(1, wAload 0 <| wIload 2 <| wIload 3 <| wCallR 3 (F_X2_goodOf g t) id (fun _ u => u) <| wU (fun x => -x) <| wRetI Post), (2, wAload 0 <| wIload 2 <| wIload 3 <| wCallR 3 (F_X2_lossOf g t) id (fun _ u => u) <| wRetI Post), (3, wAload 0 <| wIload 2 <| wIload 3 <| wCallR 3 (F_X2_lossOf g t) id (fun _ u => u) <| wRetI Post)] (wAload 0 <| wIload 2 <| wAload 0 <| wIload 3 <| wK (.int 0) <| wCallR 3 (F_X2_ofNeed g t) id (fun _ u => u) <| wCallR 3 (F_X2_minutesBetween g t) id (fun _ u => u) <| wRetI Post)) L st s
set_option maxRecDepth 20000 in
theorem s_X3_priceBy_0 {X : Cx} (B : Bx) (g : Nat → Nat) (t : Nat) {Post : Option Value → TS → Prop} (C : OkX X (gx B) cX3_priceBy 4 wsX3_priceBy RX3 (rmD 4)) (R : RtX X (gx B) (some .int) (encT B g t) Post)  : Snd X (gx B) 4 (encT B g t) 0 (bk_X3_priceBy_0 g t Post ) := by
  unfold bk_X3_priceBy_0
  refine s_iload_n C rfl dX3_priceBy_0 ?_
  refine s_tab C 43 [28, 36, 36] dX3_priceBy_1 (by decide) (by decide) rfl rfl rfl ?_ ?_
  · refine s_aload_n C rfl dX3_priceBy_43 ?_
    refine s_iload_n C rfl dX3_priceBy_44 ?_
    refine s_aload_n C rfl dX3_priceBy_45 ?_
    refine s_iload_n C rfl dX3_priceBy_46 ?_
    refine s_iconst C (by decide) dX3_priceBy_47 ?_
    refine s_callV C (fr_T_T B g t) (k_X2_ofNeed B g t) gX3_priceBy_X2_ofNeed rfl (by decide +kernel) ⟨rfl, rfl⟩ (by decide) rfl (fun s => ⟨_, heT_0 B g t s⟩) (cf_RII_r _ _ _ _) dX3_priceBy_48 ?_
    refine s_callV C (fr_T_T B g t) (k_X2_minutesBetween B g t) gX3_priceBy_X2_minutesBetween rfl (by decide +kernel) ⟨rfl, rfl⟩ (by decide) rfl (fun s => ⟨_, heT_0 B g t s⟩) (cf_RII_r _ _ _ _) dX3_priceBy_51 ?_
    exact s_iret C R dX3_priceBy_54
  · refine ⟨?_, ?_, ?_, trivial⟩
    · refine s_aload_n C rfl dX3_priceBy_28 ?_
      refine s_iload_n C rfl dX3_priceBy_29 ?_
      refine s_iload_n C rfl dX3_priceBy_30 ?_
      refine s_callV C (fr_T_T B g t) (k_X2_goodOf B g t) gX3_priceBy_X2_goodOf rfl (by decide +kernel) ⟨rfl, rfl⟩ (by decide) rfl (fun s => ⟨_, heT_0 B g t s⟩) (cf_RII_r _ _ _ _) dX3_priceBy_31 ?_
      refine s_ineg C dX3_priceBy_34 ?_
      exact s_iret C R dX3_priceBy_35
    · refine s_aload_n C rfl dX3_priceBy_36 ?_
      refine s_iload_n C rfl dX3_priceBy_37 ?_
      refine s_iload_n C rfl dX3_priceBy_38 ?_
      refine s_callV C (fr_T_T B g t) (k_X2_lossOf B g t) gX3_priceBy_X2_lossOf rfl (by decide +kernel) ⟨rfl, rfl⟩ (by decide) rfl (fun s => ⟨_, heT_0 B g t s⟩) (cf_RII_r _ _ _ _) dX3_priceBy_39 ?_
      exact s_iret C R dX3_priceBy_42
    · refine s_aload_n C rfl dX3_priceBy_36 ?_
      refine s_iload_n C rfl dX3_priceBy_37 ?_
      refine s_iload_n C rfl dX3_priceBy_38 ?_
      refine s_callV C (fr_T_T B g t) (k_X2_lossOf B g t) gX3_priceBy_X2_lossOf rfl (by decide +kernel) ⟨rfl, rfl⟩ (by decide) rfl (fun s => ⟨_, heT_0 B g t s⟩) (cf_RII_r _ _ _ _) dX3_priceBy_39 ?_
      exact s_iret C R dX3_priceBy_42
theorem k_X3_priceBy (B : Bx) (g : Nat → Nat) (t : Nat) : MtF (gx B) yX3_priceBy wsX3_priceBy (rmD 4) (encT B g t) (F_X3_priceBy g t) := by
  refine cf_RIII_i (fun l T r p n hn => Mt.of (by decide) rfl (Nat.le_of_ble_eq_true rfl) rfl (fun X C R => s_X3_priceBy_0 B g t C R) ?_)
  simp only [wIload, wAload, wLload, wK, wB, wDv, wU, wLB, wLU, wLS, wL2i, wLcmp, wIf1, wIf2, wKeep, wInc, wIst, wAst, wLst, wDup, wPop, wDup2, wGet, wPut, wPutZ, wIald, wLald, wIast, wLast, wLen, wRetI, wRetZ, wRetL, wRetA, wRetV, wM1, wM2, wCpy, wTab, tabW, nth, stL, stL2, dropL, keepL, mkL, padL, restOK, restOKn, tl_some, tl_none, id_eq, eq_self, true_and, and_true, bk_X3_priceBy_0, F_X2_goodOf, F_X2_lossOf, F_X2_minutesBetween, F_X2_ofNeed, cf_RII_e]
  unfold isN at hn
  repeat' first | refine And.intro ?_ ?_ | intro _
  all_goals grind [tPrice]
/-- the least place below N that is so, or N -/
def firstIdx (ok : Nat → Bool) : Nat → Nat
  | 0 => 0
  | n + 1 => if firstIdx ok n < n then firstIdx ok n else if ok n then n else n + 1
theorem firstIdx_no {ok : Nat → Bool} : ∀ n, (∀ j, j < n → ok j = false) → firstIdx ok n = n := by
  intro n
  induction n with
  | zero => intro _; rfl
  | succ n ih =>
    intro h
    simp only [firstIdx]
    rw [ih (fun j hj => h j (by omega)), if_neg (by omega), if_neg (by rw [h n (by omega)]; decide)]
theorem firstIdx_at {ok : Nat → Bool} {k : Nat} (h0 : ∀ j, j < k → ok j = false) (h1 : ok k = true) : ∀ n, k < n → firstIdx ok n = k := by
  intro n
  induction n with
  | zero => intro h; omega
  | succ n ih =>
    intro h
    simp only [firstIdx]
    rcases Nat.lt_or_ge k n with h2 | h2
    · rw [ih h2, if_pos h2]
    · have : n = k := by omega
      subst this
      rw [firstIdx_no n h0, if_neg (by omega), if_pos h1]
def rowN (rl : Int32) : Nat := min rl.toNatClampNeg 10
def cTold (ro : Nat → Int32) (N : Nat) (T : TS) (n : Int32) : Int32 := if firstIdx (fun k => tMayW T (ro k) n) N < N then ro (firstIdx (fun k => tMayW T (ro k) n) N) else -9
def F_X3_firstToldOf (g : Nat → Nat) (t : Nat) : CF CS := cf_RRI (g 0) (g t) (fun _ _ => True) (fun S n => some (.int (cTold (cRo S) (rowN (cRl S)) (cT S) n))) (fun S _ => S)
theorem inw_X3_firstToldOf_X3 : ∀ w ∈ u_ws RX3 TX3 9, w ∈ wsX3_firstToldOf := by decide +kernel
def bk_X3_firstToldOf_0 (g : Nat → Nat) (t : Nat) (Post : Option Value → CS → Prop) (K2 : PT CS) (L : Lc) (st : List Value) (s : CS) : Prop :=
  (wK (.int 0) <| wIst 3 <| wKeep [true, true, true, true] K2) L st s
set_option maxRecDepth 20000 in
theorem s_X3_firstToldOf_0 {X : Cx} (B : Bx) (g : Nat → Nat) (t : Nat) {Post : Option Value → CS → Prop} (C : OkX X (gx B) cX3_firstToldOf 4 wsX3_firstToldOf RX3 (rmD 4)) (R : RtX X (gx B) (some .int) (encC B g t) Post) {K2 : PT CS} (hK2 : Snd X (gx B) 4 (encC B g t) 2 K2) : Snd X (gx B) 4 (encC B g t) 0 (bk_X3_firstToldOf_0 g t Post K2) := by
  unfold bk_X3_firstToldOf_0
  refine s_iconst C (by decide) dX3_firstToldOf_0 ?_
  refine s_istore_n C rfl (by decide) dX3_firstToldOf_1 ?_
  exact s_keep _ hK2
def bk_X3_firstToldOf_46 (g : Nat → Nat) (t : Nat) (Post : Option Value → CS → Prop)  (L : Lc) (st : List Value) (s : CS) : Prop :=
  (wK (.int (-9)) <| wRetI Post) L st s
set_option maxRecDepth 20000 in
theorem s_X3_firstToldOf_46 {X : Cx} (B : Bx) (g : Nat → Nat) (t : Nat) {Post : Option Value → CS → Prop} (C : OkX X (gx B) cX3_firstToldOf 4 wsX3_firstToldOf RX3 (rmD 4)) (R : RtX X (gx B) (some .int) (encC B g t) Post)  : Snd X (gx B) 4 (encC B g t) 46 (bk_X3_firstToldOf_46 g t Post ) := by
  unfold bk_X3_firstToldOf_46
  refine s_bipush C (by decide) dX3_firstToldOf_46 ?_
  exact s_iret C R dX3_firstToldOf_48
def bk_X3_firstToldOf_2 (g : Nat → Nat) (t : Nat) (Post : Option Value → CS → Prop) (K2 : PT CS) (L : Lc) (st : List Value) (s : CS) : Prop :=
  (wIload 3 <| wAload 0 <| wGet (g 0) (fun s => .int (cRl s)) <| wIf2 (fun x y => y ≤ x) (bk_X3_firstToldOf_46 g t Post ) (wIload 3 <| wAload 0 <| wGet (g 0) (fun _ => .ref (g 24)) <| wLen (g 24) 10 <| wIf2 (fun x y => y ≤ x) (bk_X3_firstToldOf_46 g t Post ) (wAload 1 <| wAload 0 <| wGet (g 0) (fun _ => .ref (g 24)) <| wIload 3 <| wIald (g 24) 10 cRo <| wIload 2 <| wCallR 3 (F_X2_mayHelpWith g t) cT csT <| wIf1 (fun x => x = 0) (wInc 3 1 <| wKeep [true, true, true, true] K2) (wAload 0 <| wGet (g 0) (fun _ => .ref (g 24)) <| wIload 3 <| wIald (g 24) 10 cRo <| wRetI Post)))) L st s
set_option maxRecDepth 20000 in
theorem s_X3_firstToldOf_2 {X : Cx} (B : Bx) (g : Nat → Nat) (t : Nat) {Post : Option Value → CS → Prop} (C : OkX X (gx B) cX3_firstToldOf 4 wsX3_firstToldOf RX3 (rmD 4)) (R : RtX X (gx B) (some .int) (encC B g t) Post) {K2 : PT CS} (hK2 : Snd X (gx B) 4 (encC B g t) 2 K2) : Snd X (gx B) 4 (encC B g t) 2 (bk_X3_firstToldOf_2 g t Post K2) := by
  unfold bk_X3_firstToldOf_2
  refine s_iload_n C rfl dX3_firstToldOf_2 ?_
  refine s_aload_n C rfl dX3_firstToldOf_3 ?_
  refine s_get C inw_X3_firstToldOf_X3 rfl (k := 7) (by decide) (by decide +kernel) (heC_0 B g t) (fun _ => rfl) dX3_firstToldOf_4 ?_
  refine s_icmp_ge C (tgt := 46) (by decide) dX3_firstToldOf_7 ?_ ?_
  · exact s_X3_firstToldOf_46 B g t C R 
  · refine s_iload_n C rfl dX3_firstToldOf_10 ?_
    refine s_aload_n C rfl dX3_firstToldOf_11 ?_
    refine s_get C inw_X3_firstToldOf_X3 rfl (k := 6) (by decide) (by decide +kernel) (heC_0 B g t) (fun _ => rfl) dX3_firstToldOf_12 ?_
    refine s_alen C (t0 := 0) (heC_1 B g t) rfl (fun _ => rfl) dX3_firstToldOf_15 ?_
    refine s_icmp_ge C (tgt := 46) (by decide) dX3_firstToldOf_16 ?_ ?_
    · exact s_X3_firstToldOf_46 B g t C R 
    · refine s_aload_n C rfl dX3_firstToldOf_19 ?_
      refine s_aload_n C rfl dX3_firstToldOf_20 ?_
      refine s_get C inw_X3_firstToldOf_X3 rfl (k := 6) (by decide) (by decide +kernel) (heC_0 B g t) (fun _ => rfl) dX3_firstToldOf_21 ?_
      refine s_iload_n C rfl dX3_firstToldOf_24 ?_
      refine s_iald C (heC_1 B g t) dX3_firstToldOf_25 ?_
      refine s_iload_n C rfl dX3_firstToldOf_26 ?_
      refine s_callV C (fr_C_T B g t) (k_X2_mayHelpWith B g t) gX3_firstToldOf_X2_mayHelpWith rfl (by decide +kernel) ⟨rfl, rfl⟩ (by decide) rfl (fun s => ⟨_, heC_2 B g t s⟩) (cf_RII_r _ _ _ _) dX3_firstToldOf_27 ?_
      refine s_if_eq C (tgt := 40) (by decide) dX3_firstToldOf_30 ?_ ?_
      · refine s_iinc C (by decide) (by decide) dX3_firstToldOf_40 ?_
        refine s_goto C (tgt := 2) (by decide) dX3_firstToldOf_43 ?_
        exact s_keep _ hK2
      · refine s_aload_n C rfl dX3_firstToldOf_33 ?_
        refine s_get C inw_X3_firstToldOf_X3 rfl (k := 6) (by decide) (by decide +kernel) (heC_0 B g t) (fun _ => rfl) dX3_firstToldOf_34 ?_
        refine s_iload_n C rfl dX3_firstToldOf_37 ?_
        refine s_iald C (heC_1 B g t) dX3_firstToldOf_38 ?_
        exact s_iret C R dX3_firstToldOf_39
def I_told (g : Nat → Nat) (t : Nat) (S : CS) (q : Int32) (n : Nat) (L : Lc) (st : List Value) (s : CS) : Prop := ∃ k, n + k = rowN (cRl S) ∧ st = [] ∧ s = S ∧ L = [some (.ref (g 0)), some (.ref (g t)), some (.int q), some (.int (nI k))] ∧ ∀ j, j < k → tMayW (cT S) (cRo S j) q = false
theorem k_X3_firstToldOf (B : Bx) (g : Nat → Nat) (t : Nat) : MtF (gx B) yX3_firstToldOf wsX3_firstToldOf (rmD 4) (encC B g t) (F_X3_firstToldOf g t) := by
  refine cf_RRI_i (fun l S q _ => Mt.of (P := bk_X3_firstToldOf_0 g t _ (fun L st s => ∃ n, I_told g t S q n L st s)) (by decide) rfl (Nat.le_of_ble_eq_true rfl) rfl (fun X C R => s_X3_firstToldOf_0 B g t C R (snd_loop _ (I_told g t S q) (fun K hK => s_X3_firstToldOf_2 B g t C R hK) ?_)) ?_)
  · rintro K n L st S' ⟨k, hk, rfl, rfl, rfl, hh⟩ hK
    simp only [wIload, wAload, wLload, wK, wB, wDv, wU, wLB, wLU, wLS, wL2i, wLcmp, wIf1, wIf2, wKeep, wInc, wIst, wAst, wLst, wDup, wPop, wDup2, wGet, wPut, wPutZ, wIald, wLald, wIast, wLast, wLen, wRetI, wRetZ, wRetL, wRetA, wRetV, wM1, wM2, wCpy, wTab, tabW, nth, stL, stL2, dropL, keepL, mkL, padL, restOK, restOKn, tl_some, tl_none, id_eq, eq_self, true_and, and_true, bk_X3_firstToldOf_0, bk_X3_firstToldOf_46, bk_X3_firstToldOf_2, F_X2_mayHelpWith, cf_RII_e, b2i_eq0, ce_T]
    unfold rowN at hk
    rcases Nat.lt_or_ge k (rowN (cRl S')) with hlt | hge
    · have hlt2 := hlt
      unfold rowN at hlt
      have h1 : ¬ cRl S' ≤ nI k := by rw [le_nI (by omega)]; omega
      have h2 : ¬ (10 : Int32) ≤ nI k := nI_ge (a := k) (b := 10) (by omega) (by decide)
      have c0 : (nI k).toNatClampNeg = k := nI_clamp (by omega)
      have w0 : vp_in (nI k) 10 := vp_in_nI (by omega) (by decide)
      cases ho : tMayW (cT S') (cRo S' k) q
      · have hc := hK (n - 1) _ _ _ (by omega) ⟨k + 1, by unfold rowN; omega, rfl, rfl, rfl, fun j hj => by rcases Nat.lt_succ_iff_lt_or_eq.mp hj with h' | rfl; exact hh j h'; exact ho⟩
        rw [← nI_1] at hc
        simp only [h1, h2, c0, w0, ho, false_implies, true_implies, not_true_eq_false, not_false_eq_true, true_and, and_true, implies_true, eq_self, ne_eq, true_or, or_true, false_or, or_false, and_self]
        exact hc
      · have e : firstIdx (fun k => tMayW (cT S') (cRo S' k) q) (rowN (cRl S')) = k := firstIdx_at hh ho _ hlt2
        simp only [h1, h2, c0, w0, ho, Bool.true_eq_false, false_implies, true_implies, not_true_eq_false, not_false_eq_true, true_and, and_true, implies_true, eq_self, ne_eq, true_or, or_true, false_or, or_false, and_self]
        unfold cTold
        rw [e, if_pos hlt2]
    · have e : firstIdx (fun k => tMayW (cT S') (cRo S' k) q) (rowN (cRl S')) = rowN (cRl S') := firstIdx_no _ (fun j hj => hh j (by omega))
      have hx : cRl S' ≤ nI k ∨ (10 : Int32) ≤ nI k := by
        unfold rowN at hge
        rcases Nat.lt_or_ge k 10 with h | h
        · exact Or.inl ((le_nI (by omega)).mpr (by omega))
        · exact Or.inr (nI_le (a := 10) h (by omega))
      have e2 : cTold (cRo S') (rowN (cRl S')) (cT S') q = -9 := by unfold cTold; rw [e, if_neg (by omega)]
      rcases hx with hx | hx
      · simp only [hx, e2, false_implies, true_implies, not_true_eq_false, not_false_eq_true, true_and, and_true, implies_true, eq_self, ne_eq, true_or, or_true, false_or, or_false, and_self]
      · by_cases hy : cRl S' ≤ nI k
        · simp only [hy, e2, false_implies, true_implies, not_true_eq_false, not_false_eq_true, true_and, and_true, implies_true, eq_self, ne_eq, true_or, or_true, false_or, or_false, and_self]
        · simp only [hx, hy, e2, false_implies, true_implies, not_true_eq_false, not_false_eq_true, true_and, and_true, implies_true, eq_self, ne_eq, true_or, or_true, false_or, or_false, and_self]
  · simp only [wIload, wAload, wLload, wK, wB, wDv, wU, wLB, wLU, wLS, wL2i, wLcmp, wIf1, wIf2, wKeep, wInc, wIst, wAst, wLst, wDup, wPop, wDup2, wGet, wPut, wPutZ, wIald, wLald, wIast, wLast, wLen, wRetI, wRetZ, wRetL, wRetA, wRetV, wM1, wM2, wCpy, wTab, tabW, nth, stL, stL2, dropL, keepL, mkL, padL, restOK, restOKn, tl_some, tl_none, id_eq, eq_self, true_and, and_true, bk_X3_firstToldOf_0, bk_X3_firstToldOf_46, bk_X3_firstToldOf_2, F_X2_mayHelpWith, cf_RII_e]
    exact ⟨rowN (cRl S), 0, by omega, rfl, rfl, rfl, fun j hj => absurd hj (Nat.not_lt_zero j)⟩
end
