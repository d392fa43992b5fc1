noncomputable section
theorem heH_0 (B : Bx) (g : Nat → Nat) : ∀ s : HS, (encH B g s)[0]? = some (g 0, .inr (3, [.ref (g 1), .ref (g 6), .ref (g 11), .int (hIm s), .ref (g 16), .ref (g 22), .ref (g 24), .int (hRl s), .ref (g 25)])) := fun _ => rfl
theorem heH_1 (B : Bx) (g : Nat → Nat) : ∀ s : HS, (encH B g s)[1]? = some (g 1, .inr (2, [.ref (g (1 + 1)), .int (hNowPp s), .ref (g (1 + 2)), .int (hNowNn s), .ref (g (1 + 3)), .int (hNowHh s), .ref (g (1 + 4)), .int (hNowYr s)])) := fun _ => rfl
theorem heH_2 (B : Bx) (g : Nat → Nat) : ∀ s : HS, (encH B g s)[2]? = some (g (1 + 1), .inl (B.2.1, 42, .inl (hNowPt s))) := fun _ => rfl
theorem heH_3 (B : Bx) (g : Nat → Nat) : ∀ s : HS, (encH B g s)[3]? = some (g (1 + 2), .inl (B.2.1, 72, .inl (hNowNt s))) := fun _ => rfl
theorem heH_4 (B : Bx) (g : Nat → Nat) : ∀ s : HS, (encH B g s)[4]? = some (g (1 + 3), .inl (B.2.1, 1350, .inl (hNowBt s))) := fun _ => rfl
theorem heH_5 (B : Bx) (g : Nat → Nat) : ∀ s : HS, (encH B g s)[5]? = some (g (1 + 4), .inl (B.2.1, 4, .inl (hNowSe s))) := fun _ => rfl
theorem heH_6 (B : Bx) (g : Nat → Nat) : ∀ s : HS, (encH B g s)[6]? = some (g 6, .inr (2, [.ref (g (6 + 1)), .int (hMindPp s), .ref (g (6 + 2)), .int (hMindNn s), .ref (g (6 + 3)), .int (hMindHh s), .ref (g (6 + 4)), .int (hMindYr s)])) := fun _ => rfl
theorem heH_7 (B : Bx) (g : Nat → Nat) : ∀ s : HS, (encH B g s)[7]? = some (g (6 + 1), .inl (B.2.1, 42, .inl (hMindPt s))) := fun _ => rfl
theorem heH_8 (B : Bx) (g : Nat → Nat) : ∀ s : HS, (encH B g s)[8]? = some (g (6 + 2), .inl (B.2.1, 72, .inl (hMindNt s))) := fun _ => rfl
theorem heH_9 (B : Bx) (g : Nat → Nat) : ∀ s : HS, (encH B g s)[9]? = some (g (6 + 3), .inl (B.2.1, 1350, .inl (hMindBt s))) := fun _ => rfl
theorem heH_10 (B : Bx) (g : Nat → Nat) : ∀ s : HS, (encH B g s)[10]? = some (g (6 + 4), .inl (B.2.1, 4, .inl (hMindSe s))) := fun _ => rfl
theorem heH_11 (B : Bx) (g : Nat → Nat) : ∀ s : HS, (encH B g s)[11]? = some (g 11, .inr (2, [.ref (g (11 + 1)), .int (hImagePp s), .ref (g (11 + 2)), .int (hImageNn s), .ref (g (11 + 3)), .int (hImageHh s), .ref (g (11 + 4)), .int (hImageYr s)])) := fun _ => rfl
theorem heH_12 (B : Bx) (g : Nat → Nat) : ∀ s : HS, (encH B g s)[12]? = some (g (11 + 1), .inl (B.2.1, 42, .inl (hImagePt s))) := fun _ => rfl
theorem heH_13 (B : Bx) (g : Nat → Nat) : ∀ s : HS, (encH B g s)[13]? = some (g (11 + 2), .inl (B.2.1, 72, .inl (hImageNt s))) := fun _ => rfl
theorem heH_14 (B : Bx) (g : Nat → Nat) : ∀ s : HS, (encH B g s)[14]? = some (g (11 + 3), .inl (B.2.1, 1350, .inl (hImageBt s))) := fun _ => rfl
theorem heH_15 (B : Bx) (g : Nat → Nat) : ∀ s : HS, (encH B g s)[15]? = some (g (11 + 4), .inl (B.2.1, 4, .inl (hImageSe s))) := fun _ => rfl
theorem heH_16 (B : Bx) (g : Nat → Nat) : ∀ s : HS, (encH B g s)[16]? = some (g 16, .inr (1, [.ref (g 17), .int (hSHd s), .ref (g 18), .ref (g 19), .ref (g 20), .ref (g 21), .int (hSFi s)])) := fun _ => rfl
theorem heH_17 (B : Bx) (g : Nat → Nat) : ∀ s : HS, (encH B g s)[17]? = some (g 17, .inl (B.2.1, 8, .inl (hSNh s))) := fun _ => rfl
theorem heH_18 (B : Bx) (g : Nat → Nat) : ∀ s : HS, (encH B g s)[18]? = some (g 18, .inl (B.2.1, 56, .inl (hSGo s))) := fun _ => rfl
theorem heH_19 (B : Bx) (g : Nat → Nat) : ∀ s : HS, (encH B g s)[19]? = some (g 19, .inl (B.2.2.1, 56, .inr (.inl (hSSm s)))) := fun _ => rfl
theorem heH_20 (B : Bx) (g : Nat → Nat) : ∀ s : HS, (encH B g s)[20]? = some (g 20, .inl (B.2.2.1, 1024, .inr (.inl (hSSk s)))) := fun _ => rfl
theorem heH_21 (B : Bx) (g : Nat → Nat) : ∀ s : HS, (encH B g s)[21]? = some (g 21, .inl (B.2.1, 1024, .inl (hSSu s))) := fun _ => rfl
theorem heH_22 (B : Bx) (g : Nat → Nat) : ∀ s : HS, (encH B g s)[22]? = some (g 22, .inr (0, [.ref (g 23), .int (hLLn s)])) := fun _ => rfl
theorem heH_23 (B : Bx) (g : Nat → Nat) : ∀ s : HS, (encH B g s)[23]? = some (g 23, .inl (B.2.1, 64, .inl (hLFd s))) := fun _ => rfl
theorem heH_24 (B : Bx) (g : Nat → Nat) : ∀ s : HS, (encH B g s)[24]? = some (g 24, .inl (B.2.1, 10, .inl (hRo s))) := fun _ => rfl
theorem heH_25 (B : Bx) (g : Nat → Nat) : ∀ s : HS, (encH B g s)[25]? = some (g 25, .inl (B.2.1, 7, .inl (hRe s))) := fun _ => rfl
theorem isN_of {T : TS} {n : Int32} (h : tHasN T n = true) : isN n := by
  unfold tHasN at h
  obtain ⟨h1, h2⟩ := of_decide_eq_true h
  obtain ⟨j, hj, rfl⟩ := nI_of h1
  have hb := clamp_lt (tNn T)
  rw [nI_lt_x hj] at h2
  exact ⟨j, by omega, rfl⟩
def hRef (S : HS) (n : Int32) : HS := haRe S (-n).toNatClampNeg (hRe S (-n).toNatClampNeg + 1)
def F_X3_refuse (g : Nat → Nat) : CF HS := cf_RI (g 0) (fun _ n => n = -1 ∨ n = -2 ∨ n = -3 ∨ n = -4 ∨ n = -6) (fun _ n => some (.int n)) (fun S n => hRef S n)
theorem inw_X3_refuse_X3 : ∀ w ∈ u_ws RX3 TX3 9, w ∈ wsX3_refuse := by decide +kernel
def bk_X3_refuse_21 (g : Nat → Nat) (Post : Option Value → HS → Prop)  (L : Lc) (st : List Value) (s : HS) : Prop :=
  (wIload 1 <| wRetI Post) L st s
set_option maxRecDepth 20000 in
theorem s_X3_refuse_21 {X : Cx} (B : Bx) (g : Nat → Nat) {Post : Option Value → HS → Prop} (C : OkX X (gx B) cX3_refuse 2 wsX3_refuse RX3 (rmD 0)) (R : RtX X (gx B) (some .int) (encH B g) Post)  : Snd X (gx B) 2 (encH B g) 21 (bk_X3_refuse_21 g Post ) := by
  unfold bk_X3_refuse_21
  refine s_iload_n C rfl dX3_refuse_21 ?_
  exact s_iret C R dX3_refuse_22
def bk_X3_refuse_0 (g : Nat → Nat) (Post : Option Value → HS → Prop)  (L : Lc) (st : List Value) (s : HS) : Prop :=
  (wIload 1 <| wIf1 (fun x => 0 ≤ x) (bk_X3_refuse_21 g Post ) (wIload 1 <| wK (.int (-6)) <| wIf2 (fun x y => x < y) (bk_X3_refuse_21 g Post ) (wAload 0 <| wGet (g 0) (fun _ => .ref (g 25)) <| wIload 1 <| wU (fun x => -x) <| wDup2 <| wIald (g 25) 7 hRe <| wK (.int 1) <| wB (fun x y => x + y) <| wIast (g 25) 7 haRe <| bk_X3_refuse_21 g Post ))) L st s
set_option maxRecDepth 20000 in
theorem s_X3_refuse_0 {X : Cx} (B : Bx) (g : Nat → Nat) {Post : Option Value → HS → Prop} (C : OkX X (gx B) cX3_refuse 2 wsX3_refuse RX3 (rmD 0)) (R : RtX X (gx B) (some .int) (encH B g) Post)  : Snd X (gx B) 2 (encH B g) 0 (bk_X3_refuse_0 g Post ) := by
  unfold bk_X3_refuse_0
  refine s_iload_n C rfl dX3_refuse_0 ?_
  refine s_if_ge C (tgt := 21) (by decide) dX3_refuse_1 ?_ ?_
  · exact s_X3_refuse_21 B g C R 
  · refine s_iload_n C rfl dX3_refuse_4 ?_
    refine s_bipush C (by decide) dX3_refuse_5 ?_
    refine s_icmp_lt C (tgt := 21) (by decide) dX3_refuse_7 ?_ ?_
    · exact s_X3_refuse_21 B g C R 
    · refine s_aload_n C rfl dX3_refuse_10 ?_
      refine s_get C inw_X3_refuse_X3 rfl (k := 8) (by decide) (by decide +kernel) (heH_0 B g) (fun _ => rfl) dX3_refuse_11 ?_
      refine s_iload_n C rfl dX3_refuse_14 ?_
      refine s_ineg C dX3_refuse_15 ?_
      refine s_dup2 C dX3_refuse_16 ?_
      refine s_iald C (heH_25 B g) dX3_refuse_17 ?_
      refine s_iconst C (by decide) dX3_refuse_18 ?_
      refine s_iadd C dX3_refuse_19 ?_
      refine s_iast C (heH_25 B g) (fun _ _ _ => rfl) dX3_refuse_20 ?_
      exact s_X3_refuse_21 B g C R 
theorem k_X3_refuse (B : Bx) (g : Nat → Nat) : MtF (gx B) yX3_refuse wsX3_refuse (rmD 0) (encH B g) (F_X3_refuse g) := by
  refine cf_RI_i (fun l S n hn => Mt.of (by decide) rfl (Nat.le_of_ble_eq_true rfl) rfl (fun X C R => s_X3_refuse_0 B g C R) ?_)
  rcases hn with rfl | rfl | rfl | rfl | rfl
  all_goals
    simp only [wIload, wAload, wLload, wK, wB, wDv, wU, wLB, wLU, wLS, wL2i, wLcmp, wIf1, wIf2, wKeep, wInc, wIst, wAst, wLst, wDup, wPop, wDup2, wGet, wPut, wPutZ, wIald, wLald, wIast, wLast, wLen, wRetI, wRetZ, wRetL, wRetA, wRetV, wM1, wM2, wCpy, wTab, tabW, nth, stL, stL2, dropL, keepL, mkL, padL, restOK, restOKn, tl_some, tl_none, id_eq, eq_self, true_and, and_true, bk_X3_refuse_21, bk_X3_refuse_0]
    refine ⟨fun h => absurd h (by decide), fun _ => ⟨fun h => absurd h (by decide), fun _ => ⟨by unfold vp_in; decide, by unfold vp_in; decide, ?_⟩⟩⟩
    rfl
def F_X3_refuseFarOff (g : Nat → Nat) : CF HS := cf_RI (g 0) (fun _ n => n = -1 ∨ n = -2 ∨ n = -3 ∨ n = -4 ∨ n = -6) (fun _ n => some (.int (1000000000 - n))) (fun S n => hRef S n)
theorem inw_X3_refuseFarOff_X3 : ∀ w ∈ u_ws RX3 TX3 9, w ∈ wsX3_refuseFarOff := by decide +kernel
def bk_X3_refuseFarOff_0 (g : Nat → Nat) (Post : Option Value → HS → Prop)  (L : Lc) (st : List Value) (s : HS) : Prop :=
  (wK (.int 1000000000) <| wAload 0 <| wIload 1 <| wCallR 2 (F_X3_refuse g) id (fun _ u => u) <| wB (fun x y => x - y) <| wRetI Post) L st s
set_option maxRecDepth 20000 in
theorem s_X3_refuseFarOff_0 {X : Cx} (B : Bx) (g : Nat → Nat) {Post : Option Value → HS → Prop} (C : OkX X (gx B) cX3_refuseFarOff 2 wsX3_refuseFarOff RX3 (rmD 1)) (R : RtX X (gx B) (some .int) (encH B g) Post)  : Snd X (gx B) 2 (encH B g) 0 (bk_X3_refuseFarOff_0 g Post ) := by
  unfold bk_X3_refuseFarOff_0
  refine s_ldc C (by decide +kernel) dX3_refuseFarOff_0 ?_
  refine s_aload_n C rfl dX3_refuseFarOff_2 ?_
  refine s_iload_n C rfl dX3_refuseFarOff_3 ?_
  refine s_callV C (fr_H_H B g) (k_X3_refuse B g) gX3_refuseFarOff_X3_refuse rfl (by decide +kernel) ⟨rfl, rfl⟩ (by decide) rfl (fun s => ⟨_, heH_0 B g s⟩) (cf_RI_r _ _ _ _) dX3_refuseFarOff_4 ?_
  refine s_isub C dX3_refuseFarOff_7 ?_
  exact s_iret C R dX3_refuseFarOff_8
theorem k_X3_refuseFarOff (B : Bx) (g : Nat → Nat) : MtF (gx B) yX3_refuseFarOff wsX3_refuseFarOff (rmD 1) (encH B g) (F_X3_refuseFarOff g) := by
  refine cf_RI_i (fun l S n hn => Mt.of (by decide) rfl (Nat.le_of_ble_eq_true rfl) rfl (fun X C R => s_X3_refuseFarOff_0 B g C R) ?_)
  simp only [wIload, wAload, wLload, wK, wB, wDv, wU, wLB, wLU, wLS, wL2i, wLcmp, wIf1, wIf2, wKeep, wInc, wIst, wAst, wLst, wDup, wPop, wDup2, wGet, wPut, wPutZ, wIald, wLald, wIast, wLast, wLen, wRetI, wRetZ, wRetL, wRetA, wRetV, wM1, wM2, wCpy, wTab, tabW, nth, stL, stL2, dropL, keepL, mkL, padL, restOK, restOKn, tl_some, tl_none, id_eq, eq_self, true_and, and_true, bk_X3_refuseFarOff_0, F_X3_refuse, cf_RI_e]
  exact hn
def hPair (S : HS) (p q : Int32) : Bool := tHasP (hNow S) p && (tHasP (hNow S) q && !decide (p = q))
def F_X3_isPair (g : Nat → Nat) : CF HS := cf_RII (g 0) (fun _ _ _ => True) (fun S p q => some (.int (b2i (hPair S p q)))) (fun S _ _ => S)
theorem inw_X3_isPair_X3 : ∀ w ∈ u_ws RX3 TX3 9, w ∈ wsX3_isPair := by decide +kernel
def bk_X3_isPair_32 (g : Nat → Nat) (Post : Option Value → HS → Prop)  (L : Lc) (st : List Value) (s : HS) : Prop :=
  (wRetZ Post) L st s
set_option maxRecDepth 20000 in
theorem s_X3_isPair_32 {X : Cx} (B : Bx) (g : Nat → Nat) {Post : Option Value → HS → Prop} (C : OkX X (gx B) cX3_isPair 3 wsX3_isPair RX3 (rmD 1)) (R : RtX X (gx B) (some .boolean) (encH B g) Post)  : Snd X (gx B) 3 (encH B g) 32 (bk_X3_isPair_32 g Post ) := by
  unfold bk_X3_isPair_32
  exact s_zret C R dX3_isPair_32
def bk_X3_isPair_31 (g : Nat → Nat) (Post : Option Value → HS → Prop)  (L : Lc) (st : List Value) (s : HS) : Prop :=
  (wK (.int 0) <| bk_X3_isPair_32 g Post ) L st s
set_option maxRecDepth 20000 in
theorem s_X3_isPair_31 {X : Cx} (B : Bx) (g : Nat → Nat) {Post : Option Value → HS → Prop} (C : OkX X (gx B) cX3_isPair 3 wsX3_isPair RX3 (rmD 1)) (R : RtX X (gx B) (some .boolean) (encH B g) Post)  : Snd X (gx B) 3 (encH B g) 31 (bk_X3_isPair_31 g Post ) := by
  unfold bk_X3_isPair_31
  refine s_iconst C (by decide) dX3_isPair_31 ?_
  exact s_X3_isPair_32 B g C R 
def bk_X3_isPair_0 (g : Nat → Nat) (Post : Option Value → HS → Prop)  (L : Lc) (st : List Value) (s : HS) : Prop :=
  (wAload 0 <| wGet (g 0) (fun _ => .ref (g 1)) <| wIload 1 <| wCallR 2 (F_X2_hasPerson g 1) hNow hsNow <| wIf1 (fun x => x = 0) (bk_X3_isPair_31 g Post ) (wAload 0 <| wGet (g 0) (fun _ => .ref (g 1)) <| wIload 2 <| wCallR 2 (F_X2_hasPerson g 1) hNow hsNow <| wIf1 (fun x => x = 0) (bk_X3_isPair_31 g Post ) (wIload 1 <| wIload 2 <| wIf2 (fun x y => x = y) (bk_X3_isPair_31 g Post ) (wK (.int 1) <| bk_X3_isPair_32 g Post )))) L st s
set_option maxRecDepth 20000 in
theorem s_X3_isPair_0 {X : Cx} (B : Bx) (g : Nat → Nat) {Post : Option Value → HS → Prop} (C : OkX X (gx B) cX3_isPair 3 wsX3_isPair RX3 (rmD 1)) (R : RtX X (gx B) (some .boolean) (encH B g) Post)  : Snd X (gx B) 3 (encH B g) 0 (bk_X3_isPair_0 g Post ) := by
  unfold bk_X3_isPair_0
  refine s_aload_n C rfl dX3_isPair_0 ?_
  refine s_get C inw_X3_isPair_X3 rfl (k := 0) (by decide) (by decide +kernel) (heH_0 B g) (fun _ => rfl) dX3_isPair_1 ?_
  refine s_iload_n C rfl dX3_isPair_4 ?_
  refine s_callV C (fr_H_T1 B g) (k_X2_hasPerson B g 1) gX3_isPair_X2_hasPerson rfl (by decide +kernel) ⟨rfl, rfl⟩ (by decide) rfl (fun s => ⟨_, heH_1 B g s⟩) (cf_RI_r _ _ _ _) dX3_isPair_5 ?_
  refine s_if_eq C (tgt := 31) (by decide) dX3_isPair_8 ?_ ?_
  · exact s_X3_isPair_31 B g C R 
  · refine s_aload_n C rfl dX3_isPair_11 ?_
    refine s_get C inw_X3_isPair_X3 rfl (k := 0) (by decide) (by decide +kernel) (heH_0 B g) (fun _ => rfl) dX3_isPair_12 ?_
    refine s_iload_n C rfl dX3_isPair_15 ?_
    refine s_callV C (fr_H_T1 B g) (k_X2_hasPerson B g 1) gX3_isPair_X2_hasPerson rfl (by decide +kernel) ⟨rfl, rfl⟩ (by decide) rfl (fun s => ⟨_, heH_1 B g s⟩) (cf_RI_r _ _ _ _) dX3_isPair_16 ?_
    refine s_if_eq C (tgt := 31) (by decide) dX3_isPair_19 ?_ ?_
    · exact s_X3_isPair_31 B g C R 
    · refine s_iload_n C rfl dX3_isPair_22 ?_
      refine s_iload_n C rfl dX3_isPair_23 ?_
      refine s_icmp_eq C (tgt := 31) (by decide) dX3_isPair_24 ?_ ?_
      · exact s_X3_isPair_31 B g C R 
      · refine s_iconst C (by decide) dX3_isPair_27 ?_
        refine s_goto C (tgt := 32) (by decide) dX3_isPair_28 ?_
        exact s_X3_isPair_32 B g C R 
theorem k_X3_isPair (B : Bx) (g : Nat → Nat) : MtF (gx B) yX3_isPair wsX3_isPair (rmD 1) (encH B g) (F_X3_isPair g) := by
  refine cf_RII_i (fun l S p q _ => Mt.of (by decide) rfl (Nat.le_of_ble_eq_true rfl) rfl (fun X C R => s_X3_isPair_0 B g C R) ?_)
  simp only [wIload, wAload, wLload, wK, wB, wDv, wU, wLB, wLU, wLS, wL2i, wLcmp, wIf1, wIf2, wKeep, wInc, wIst, wAst, wLst, wDup, wPop, wDup2, wGet, wPut, wPutZ, wIald, wLald, wIast, wLast, wLen, wRetI, wRetZ, wRetL, wRetA, wRetV, wM1, wM2, wCpy, wTab, tabW, nth, stL, stL2, dropL, keepL, mkL, padL, restOK, restOKn, tl_some, tl_none, id_eq, eq_self, true_and, and_true, bk_X3_isPair_32, bk_X3_isPair_31, bk_X3_isPair_0, F_X2_hasPerson, cf_RI_e, b2i_eq0, hg_Now_Now, hg_Now_Mind, hg_Now_Image, hg_Now_Im, hg_Now_S, hg_Now_L, hg_Now_Ro, hg_Now_Rl, hg_Now_Re, hg_Mind_Now, hg_Mind_Mind, hg_Mind_Image, hg_Mind_Im, hg_Mind_S, hg_Mind_L, hg_Mind_Ro, hg_Mind_Rl, hg_Mind_Re, hg_Image_Now, hg_Image_Mind, hg_Image_Image, hg_Image_Im, hg_Image_S, hg_Image_L, hg_Image_Ro, hg_Image_Rl, hg_Image_Re, hg_Im_Now, hg_Im_Mind, hg_Im_Image, hg_Im_Im, hg_Im_S, hg_Im_L, hg_Im_Ro, hg_Im_Rl, hg_Im_Re, hg_S_Now, hg_S_Mind, hg_S_Image, hg_S_Im, hg_S_S, hg_S_L, hg_S_Ro, hg_S_Rl, hg_S_Re, hg_L_Now, hg_L_Mind, hg_L_Image, hg_L_Im, hg_L_S, hg_L_L, hg_L_Ro, hg_L_Rl, hg_L_Re, hg_Ro_Now, hg_Ro_Mind, hg_Ro_Image, hg_Ro_Im, hg_Ro_S, hg_Ro_L, hg_Ro_Ro, hg_Ro_Rl, hg_Ro_Re, hg_Rl_Now, hg_Rl_Mind, hg_Rl_Image, hg_Rl_Im, hg_Rl_S, hg_Rl_L, hg_Rl_Ro, hg_Rl_Rl, hg_Rl_Re, hg_Re_Now, hg_Re_Mind, hg_Re_Image, hg_Re_Im, hg_Re_S, hg_Re_L, hg_Re_Ro, hg_Re_Rl, hg_Re_Re, he_Now, ho_Now, he_Mind, ho_Mind, he_Image, ho_Image, he_Im, ho_Im, he_S, ho_S, he_L, ho_L, he_Ro, ho_Ro, he_Rl, ho_Rl, he_Re, ho_Re]
  repeat' first | refine And.intro ?_ ?_ | intro _
  all_goals grind [hPair, b2i]
def hCopy (S : HS) : HS := hsMind S (tCopy (hMind S) (hNow S))
def F_X3_mindOfNow (g : Nat → Nat) : CF HS := cf_R (g 0) (fun _ => True) (fun _ => some (.ref (g 6))) (fun S => hCopy S)
theorem inw_X3_mindOfNow_X3 : ∀ w ∈ u_ws RX3 TX3 9, w ∈ wsX3_mindOfNow := by decide +kernel
def bk_X3_mindOfNow_0 (g : Nat → Nat) (Post : Option Value → HS → Prop)  (L : Lc) (st : List Value) (s : HS) : Prop :=
  (wAload 0 <| wGet (g 0) (fun _ => .ref (g 6)) <| wAload 0 <| wGet (g 0) (fun _ => .ref (g 1)) <| wCallR 2 (F_X2_copyFrom g 6 1) hDMindNow hsDMindNow <| wAload 0 <| wGet (g 0) (fun _ => .ref (g 6)) <| wRetA Post) L st s
set_option maxRecDepth 20000 in
theorem s_X3_mindOfNow_0 {X : Cx} (B : Bx) (g : Nat → Nat) {Post : Option Value → HS → Prop} (C : OkX X (gx B) cX3_mindOfNow 1 wsX3_mindOfNow RX3 (rmD 2)) (R : RtX X (gx B) (some (.object "HelpedOnlyOnce$Town")) (encH B g) Post)  : Snd X (gx B) 1 (encH B g) 0 (bk_X3_mindOfNow_0 g Post ) := by
  unfold bk_X3_mindOfNow_0
  refine s_aload_n C rfl dX3_mindOfNow_0 ?_
  refine s_get C inw_X3_mindOfNow_X3 rfl (k := 1) (by decide) (by decide +kernel) (heH_0 B g) (fun _ => rfl) dX3_mindOfNow_1 ?_
  refine s_aload_n C rfl dX3_mindOfNow_4 ?_
  refine s_get C inw_X3_mindOfNow_X3 rfl (k := 0) (by decide) (by decide +kernel) (heH_0 B g) (fun _ => rfl) dX3_mindOfNow_5 ?_
  refine s_callV C (fr_H_D6_1 B g) (k_X2_copyFrom B g 6 1) gX3_mindOfNow_X2_copyFrom rfl (by decide +kernel) ⟨rfl, rfl⟩ (by decide) rfl (fun s => ⟨_, heH_6 B g s⟩) (cf_RR_r _ _ _ _ _) dX3_mindOfNow_8 ?_
  refine s_aload_n C rfl dX3_mindOfNow_11 ?_
  refine s_get C inw_X3_mindOfNow_X3 rfl (k := 1) (by decide) (by decide +kernel) (heH_0 B g) (fun _ => rfl) dX3_mindOfNow_12 ?_
  exact s_aret C R dX3_mindOfNow_15
theorem k_X3_mindOfNow (B : Bx) (g : Nat → Nat) : MtF (gx B) yX3_mindOfNow wsX3_mindOfNow (rmD 2) (encH B g) (F_X3_mindOfNow g) := by
  refine cf_R_i (fun l S _ => Mt.of (by decide) rfl (Nat.le_of_ble_eq_true rfl) rfl (fun X C R => s_X3_mindOfNow_0 B g C R) ?_)
  simp only [wIload, wAload, wLload, wK, wB, wDv, wU, wLB, wLU, wLS, wL2i, wLcmp, wIf1, wIf2, wKeep, wInc, wIst, wAst, wLst, wDup, wPop, wDup2, wGet, wPut, wPutZ, wIald, wLald, wIast, wLast, wLen, wRetI, wRetZ, wRetL, wRetA, wRetV, wM1, wM2, wCpy, wTab, tabW, nth, stL, stL2, dropL, keepL, mkL, padL, restOK, restOKn, tl_some, tl_none, id_eq, eq_self, true_and, and_true, bk_X3_mindOfNow_0, F_X2_copyFrom, cf_RR_e]
  exact rfl
def F_X3_mindWithHelp (g : Nat → Nat) : CF HS := cf_RII (g 0) (fun _ _ _ => True) (fun _ _ _ => some (.ref (g 6))) (fun S p q => hsMind S (tWrite (tCopy (hMind S) (hNow S)) p q 9 (-1)))
theorem inw_X3_mindWithHelp_X3 : ∀ w ∈ u_ws RX3 TX3 9, w ∈ wsX3_mindWithHelp := by decide +kernel
def bk_X3_mindWithHelp_0 (g : Nat → Nat) (Post : Option Value → HS → Prop)  (L : Lc) (st : List Value) (s : HS) : Prop :=
  (wAload 0 <| wGet (g 0) (fun _ => .ref (g 6)) <| wAload 0 <| wGet (g 0) (fun _ => .ref (g 1)) <| wCallR 2 (F_X2_copyFrom g 6 1) hDMindNow hsDMindNow <| wAload 0 <| wGet (g 0) (fun _ => .ref (g 6)) <| wIload 1 <| wIload 2 <| wK (.int 9) <| wK (.int (-1)) <| wCallR 5 (F_X2_write g 6) hMind hsMind <| wAload 0 <| wGet (g 0) (fun _ => .ref (g 6)) <| wRetA Post) L st s
set_option maxRecDepth 20000 in
theorem s_X3_mindWithHelp_0 {X : Cx} (B : Bx) (g : Nat → Nat) {Post : Option Value → HS → Prop} (C : OkX X (gx B) cX3_mindWithHelp 3 wsX3_mindWithHelp RX3 (rmD 2)) (R : RtX X (gx B) (some (.object "HelpedOnlyOnce$Town")) (encH B g) Post)  : Snd X (gx B) 3 (encH B g) 0 (bk_X3_mindWithHelp_0 g Post ) := by
  unfold bk_X3_mindWithHelp_0
  refine s_aload_n C rfl dX3_mindWithHelp_0 ?_
  refine s_get C inw_X3_mindWithHelp_X3 rfl (k := 1) (by decide) (by decide +kernel) (heH_0 B g) (fun _ => rfl) dX3_mindWithHelp_1 ?_
  refine s_aload_n C rfl dX3_mindWithHelp_4 ?_
  refine s_get C inw_X3_mindWithHelp_X3 rfl (k := 0) (by decide) (by decide +kernel) (heH_0 B g) (fun _ => rfl) dX3_mindWithHelp_5 ?_
  refine s_callV C (fr_H_D6_1 B g) (k_X2_copyFrom B g 6 1) gX3_mindWithHelp_X2_copyFrom rfl (by decide +kernel) ⟨rfl, rfl⟩ (by decide) rfl (fun s => ⟨_, heH_6 B g s⟩) (cf_RR_r _ _ _ _ _) dX3_mindWithHelp_8 ?_
  refine s_aload_n C rfl dX3_mindWithHelp_11 ?_
  refine s_get C inw_X3_mindWithHelp_X3 rfl (k := 1) (by decide) (by decide +kernel) (heH_0 B g) (fun _ => rfl) dX3_mindWithHelp_12 ?_
  refine s_iload_n C rfl dX3_mindWithHelp_15 ?_
  refine s_iload_n C rfl dX3_mindWithHelp_16 ?_
  refine s_bipush C (by decide) dX3_mindWithHelp_17 ?_
  refine s_iconst C (by decide) dX3_mindWithHelp_19 ?_
  refine s_callV C (fr_H_T6 B g) (k_X2_write B g 6) gX3_mindWithHelp_X2_write rfl (by decide +kernel) ⟨rfl, rfl⟩ (by decide) rfl (fun s => ⟨_, heH_6 B g s⟩) (cf_RIIII_r _ _ _ _) dX3_mindWithHelp_20 ?_
  refine s_aload_n C rfl dX3_mindWithHelp_23 ?_
  refine s_get C inw_X3_mindWithHelp_X3 rfl (k := 1) (by decide) (by decide +kernel) (heH_0 B g) (fun _ => rfl) dX3_mindWithHelp_24 ?_
  exact s_aret C R dX3_mindWithHelp_27
theorem k_X3_mindWithHelp (B : Bx) (g : Nat → Nat) : MtF (gx B) yX3_mindWithHelp wsX3_mindWithHelp (rmD 2) (encH B g) (F_X3_mindWithHelp g) := by
  refine cf_RII_i (fun l S p q _ => Mt.of (by decide) rfl (Nat.le_of_ble_eq_true rfl) rfl (fun X C R => s_X3_mindWithHelp_0 B g C R) ?_)
  simp only [wIload, wAload, wLload, wK, wB, wDv, wU, wLB, wLU, wLS, wL2i, wLcmp, wIf1, wIf2, wKeep, wInc, wIst, wAst, wLst, wDup, wPop, wDup2, wGet, wPut, wPutZ, wIald, wLald, wIast, wLast, wLen, wRetI, wRetZ, wRetL, wRetA, wRetV, wM1, wM2, wCpy, wTab, tabW, nth, stL, stL2, dropL, keepL, mkL, padL, restOK, restOKn, tl_some, tl_none, id_eq, eq_self, true_and, and_true, bk_X3_mindWithHelp_0, F_X2_copyFrom, F_X2_write, cf_RIIII_e, cf_RR_e]
  exact rfl
def r_person (S : HS) (p w : Int32) : Int32 × HS := if tHasP (hNow S) p = false then (-1, hRef S (-1)) else if w < 0 ∨ 6 ≤ w then (-2, hRef S (-2)) else (tOfP (hNow S) p w, S)
def F_X3_person (g : Nat → Nat) : CF HS := cf_RII (g 0) (fun _ _ _ => True) (fun S p w => some (.int (r_person S p w).1)) (fun S p w => (r_person S p w).2)
theorem inw_X3_person_X3 : ∀ w ∈ u_ws RX3 TX3 9, w ∈ wsX3_person := by decide +kernel
def bk_X3_person_27 (g : Nat → Nat) (Post : Option Value → HS → Prop)  (L : Lc) (st : List Value) (s : HS) : Prop :=
  (wAload 0 <| wK (.int (-2)) <| wCallR 2 (F_X3_refuse g) id (fun _ u => u) <| wRetI Post) L st s
set_option maxRecDepth 20000 in
theorem s_X3_person_27 {X : Cx} (B : Bx) (g : Nat → Nat) {Post : Option Value → HS → Prop} (C : OkX X (gx B) cX3_person 3 wsX3_person RX3 (rmD 1)) (R : RtX X (gx B) (some .int) (encH B g) Post)  : Snd X (gx B) 3 (encH B g) 27 (bk_X3_person_27 g Post ) := by
  unfold bk_X3_person_27
  refine s_aload_n C rfl dX3_person_27 ?_
  refine s_bipush C (by decide) dX3_person_28 ?_
  refine s_callV C (fr_H_H B g) (k_X3_refuse B g) gX3_person_X3_refuse rfl (by decide +kernel) ⟨rfl, rfl⟩ (by decide) rfl (fun s => ⟨_, heH_0 B g s⟩) (cf_RI_r _ _ _ _) dX3_person_30 ?_
  exact s_iret C R dX3_person_33
def bk_X3_person_0 (g : Nat → Nat) (Post : Option Value → HS → Prop)  (L : Lc) (st : List Value) (s : HS) : Prop :=
  (wAload 0 <| wGet (g 0) (fun _ => .ref (g 1)) <| wIload 1 <| wCallR 2 (F_X2_hasPerson g 1) hNow hsNow <| wIf1 (fun x => x = 0) (wAload 0 <| wK (.int (-1)) <| wCallR 2 (F_X3_refuse g) id (fun _ u => u) <| wRetI Post) (wIload 2 <| wIf1 (fun x => x < 0) (bk_X3_person_27 g Post ) (wIload 2 <| wK (.int 6) <| wIf2 (fun x y => x < y) (wAload 0 <| wGet (g 0) (fun _ => .ref (g 1)) <| wIload 1 <| wIload 2 <| wCallR 3 (F_X2_ofPerson g 1) hNow hsNow <| wRetI Post) (bk_X3_person_27 g Post )))) L st s
set_option maxRecDepth 20000 in
theorem s_X3_person_0 {X : Cx} (B : Bx) (g : Nat → Nat) {Post : Option Value → HS → Prop} (C : OkX X (gx B) cX3_person 3 wsX3_person RX3 (rmD 1)) (R : RtX X (gx B) (some .int) (encH B g) Post)  : Snd X (gx B) 3 (encH B g) 0 (bk_X3_person_0 g Post ) := by
  unfold bk_X3_person_0
  refine s_aload_n C rfl dX3_person_0 ?_
  refine s_get C inw_X3_person_X3 rfl (k := 0) (by decide) (by decide +kernel) (heH_0 B g) (fun _ => rfl) dX3_person_1 ?_
  refine s_iload_n C rfl dX3_person_4 ?_
  refine s_callV C (fr_H_T1 B g) (k_X2_hasPerson B g 1) gX3_person_X2_hasPerson rfl (by decide +kernel) ⟨rfl, rfl⟩ (by decide) rfl (fun s => ⟨_, heH_1 B g s⟩) (cf_RI_r _ _ _ _) dX3_person_5 ?_
  refine s_if_ne C (tgt := 17) (by decide) dX3_person_8 ?_ ?_
  · refine s_iload_n C rfl dX3_person_17 ?_
    refine s_if_lt C (tgt := 27) (by decide) dX3_person_18 ?_ ?_
    · exact s_X3_person_27 B g C R 
    · refine s_iload_n C rfl dX3_person_21 ?_
      refine s_bipush C (by decide) dX3_person_22 ?_
      refine s_icmp_lt C (tgt := 34) (by decide) dX3_person_24 ?_ ?_
      · refine s_aload_n C rfl dX3_person_34 ?_
        refine s_get C inw_X3_person_X3 rfl (k := 0) (by decide) (by decide +kernel) (heH_0 B g) (fun _ => rfl) dX3_person_35 ?_
        refine s_iload_n C rfl dX3_person_38 ?_
        refine s_iload_n C rfl dX3_person_39 ?_
        refine s_callV C (fr_H_T1 B g) (k_X2_ofPerson B g 1) gX3_person_X2_ofPerson rfl (by decide +kernel) ⟨rfl, rfl⟩ (by decide) rfl (fun s => ⟨_, heH_1 B g s⟩) (cf_RII_r _ _ _ _) dX3_person_40 ?_
        exact s_iret C R dX3_person_43
      · exact s_X3_person_27 B g C R 
  · refine s_aload_n C rfl dX3_person_11 ?_
    refine s_iconst C (by decide) dX3_person_12 ?_
    refine s_callV C (fr_H_H B g) (k_X3_refuse B g) gX3_person_X3_refuse rfl (by decide +kernel) ⟨rfl, rfl⟩ (by decide) rfl (fun s => ⟨_, heH_0 B g s⟩) (cf_RI_r _ _ _ _) dX3_person_13 ?_
    exact s_iret C R dX3_person_16
theorem k_X3_person (B : Bx) (g : Nat → Nat) : MtF (gx B) yX3_person wsX3_person (rmD 1) (encH B g) (F_X3_person g) := by
  refine cf_RII_i (fun l S p w _ => Mt.of (by decide) rfl (Nat.le_of_ble_eq_true rfl) rfl (fun X C R => s_X3_person_0 B g C R) ?_)
  simp only [wIload, wAload, wLload, wK, wB, wDv, wU, wLB, wLU, wLS, wL2i, wLcmp, wIf1, wIf2, wKeep, wInc, wIst, wAst, wLst, wDup, wPop, wDup2, wGet, wPut, wPutZ, wIald, wLald, wIast, wLast, wLen, wRetI, wRetZ, wRetL, wRetA, wRetV, wM1, wM2, wCpy, wTab, tabW, nth, stL, stL2, dropL, keepL, mkL, padL, restOK, restOKn, tl_some, tl_none, id_eq, eq_self, true_and, and_true, bk_X3_person_27, bk_X3_person_0, F_X2_hasPerson, F_X2_ofPerson, F_X3_refuse, cf_RII_e, cf_RI_e, b2i_eq0, true_or, or_true, hg_Now_Now, hg_Now_Mind, hg_Now_Image, hg_Now_Im, hg_Now_S, hg_Now_L, hg_Now_Ro, hg_Now_Rl, hg_Now_Re, hg_Mind_Now, hg_Mind_Mind, hg_Mind_Image, hg_Mind_Im, hg_Mind_S, hg_Mind_L, hg_Mind_Ro, hg_Mind_Rl, hg_Mind_Re, hg_Image_Now, hg_Image_Mind, hg_Image_Image, hg_Image_Im, hg_Image_S, hg_Image_L, hg_Image_Ro, hg_Image_Rl, hg_Image_Re, hg_Im_Now, hg_Im_Mind, hg_Im_Image, hg_Im_Im, hg_Im_S, hg_Im_L, hg_Im_Ro, hg_Im_Rl, hg_Im_Re, hg_S_Now, hg_S_Mind, hg_S_Image, hg_S_Im, hg_S_S, hg_S_L, hg_S_Ro, hg_S_Rl, hg_S_Re, hg_L_Now, hg_L_Mind, hg_L_Image, hg_L_Im, hg_L_S, hg_L_L, hg_L_Ro, hg_L_Rl, hg_L_Re, hg_Ro_Now, hg_Ro_Mind, hg_Ro_Image, hg_Ro_Im, hg_Ro_S, hg_Ro_L, hg_Ro_Ro, hg_Ro_Rl, hg_Ro_Re, hg_Rl_Now, hg_Rl_Mind, hg_Rl_Image, hg_Rl_Im, hg_Rl_S, hg_Rl_L, hg_Rl_Ro, hg_Rl_Rl, hg_Rl_Re, hg_Re_Now, hg_Re_Mind, hg_Re_Image, hg_Re_Im, hg_Re_S, hg_Re_L, hg_Re_Ro, hg_Re_Rl, hg_Re_Re, he_Now, ho_Now, he_Mind, ho_Mind, he_Image, ho_Image, he_Im, ho_Im, he_S, ho_S, he_L, ho_L, he_Ro, ho_Ro, he_Rl, ho_Rl, he_Re, ho_Re]
  repeat' first | refine And.intro ?_ ?_ | intro _
  all_goals grind [r_person]
def r_need (S : HS) (n w : Int32) : Int32 × HS := if tHasN (hNow S) n = false then (-1, hRef S (-1)) else if w < 0 ∨ 6 ≤ w then (-2, hRef S (-2)) else if w = 5 then (tOfN (hNow S) n 3 - tHL (hNow S) n, S) else (tOfN (hNow S) n w, S)
def F_X3_need (g : Nat → Nat) : CF HS := cf_RII (g 0) (fun _ _ _ => True) (fun S p w => some (.int (r_need S p w).1)) (fun S p w => (r_need S p w).2)
theorem inw_X3_need_X3 : ∀ w ∈ u_ws RX3 TX3 9, w ∈ wsX3_need := by decide +kernel
def bk_X3_need_27 (g : Nat → Nat) (Post : Option Value → HS → Prop)  (L : Lc) (st : List Value) (s : HS) : Prop :=
  (wAload 0 <| wK (.int (-2)) <| wCallR 2 (F_X3_refuse g) id (fun _ u => u) <| wRetI Post) L st s
set_option maxRecDepth 20000 in
theorem s_X3_need_27 {X : Cx} (B : Bx) (g : Nat → Nat) {Post : Option Value → HS → Prop} (C : OkX X (gx B) cX3_need 3 wsX3_need RX3 (rmD 2)) (R : RtX X (gx B) (some .int) (encH B g) Post)  : Snd X (gx B) 3 (encH B g) 27 (bk_X3_need_27 g Post ) := by
  unfold bk_X3_need_27
  refine s_aload_n C rfl dX3_need_27 ?_
  refine s_bipush C (by decide) dX3_need_28 ?_
  refine s_callV C (fr_H_H B g) (k_X3_refuse B g) gX3_need_X3_refuse rfl (by decide +kernel) ⟨rfl, rfl⟩ (by decide) rfl (fun s => ⟨_, heH_0 B g s⟩) (cf_RI_r _ _ _ _) dX3_need_30 ?_
  exact s_iret C R dX3_need_33
def bk_X3_need_0 (g : Nat → Nat) (Post : Option Value → HS → Prop)  (L : Lc) (st : List Value) (s : HS) : Prop :=
  (wAload 0 <| wGet (g 0) (fun _ => .ref (g 1)) <| wIload 1 <| wCallR 2 (F_X2_hasNeed g 1) hNow hsNow <| wIf1 (fun x => x = 0) (wAload 0 <| wK (.int (-1)) <| wCallR 2 (F_X3_refuse g) id (fun _ u => u) <| wRetI Post) (wIload 2 <| wIf1 (fun x => x < 0) (bk_X3_need_27 g Post ) (wIload 2 <| wK (.int 6) <| wIf2 (fun x y => x < y) (wIload 2 <| wK (.int 5) <| wIf2 (fun x y => x = y) (wAload 0 <| wGet (g 0) (fun _ => .ref (g 1)) <| wIload 1 <| wK (.int 3) <| wCallR 3 (F_X2_ofNeed g 1) hNow hsNow <| wAload 0 <| wGet (g 0) (fun _ => .ref (g 1)) <| wIload 1 <| wCallR 2 (F_X2_handsLeft g 1) hNow hsNow <| wB (fun x y => x - y) <| wRetI Post) (wAload 0 <| wGet (g 0) (fun _ => .ref (g 1)) <| wIload 1 <| wIload 2 <| wCallR 3 (F_X2_ofNeed g 1) hNow hsNow <| wRetI Post)) (bk_X3_need_27 g Post )))) L st s
set_option maxRecDepth 20000 in
theorem s_X3_need_0 {X : Cx} (B : Bx) (g : Nat → Nat) {Post : Option Value → HS → Prop} (C : OkX X (gx B) cX3_need 3 wsX3_need RX3 (rmD 2)) (R : RtX X (gx B) (some .int) (encH B g) Post)  : Snd X (gx B) 3 (encH B g) 0 (bk_X3_need_0 g Post ) := by
  unfold bk_X3_need_0
  refine s_aload_n C rfl dX3_need_0 ?_
  refine s_get C inw_X3_need_X3 rfl (k := 0) (by decide) (by decide +kernel) (heH_0 B g) (fun _ => rfl) dX3_need_1 ?_
  refine s_iload_n C rfl dX3_need_4 ?_
  refine s_callV C (fr_H_T1 B g) (k_X2_hasNeed B g 1) gX3_need_X2_hasNeed rfl (by decide +kernel) ⟨rfl, rfl⟩ (by decide) rfl (fun s => ⟨_, heH_1 B g s⟩) (cf_RI_r _ _ _ _) dX3_need_5 ?_
  refine s_if_ne C (tgt := 17) (by decide) dX3_need_8 ?_ ?_
  · refine s_iload_n C rfl dX3_need_17 ?_
    refine s_if_lt C (tgt := 27) (by decide) dX3_need_18 ?_ ?_
    · exact s_X3_need_27 B g C R 
    · refine s_iload_n C rfl dX3_need_21 ?_
      refine s_bipush C (by decide) dX3_need_22 ?_
      refine s_icmp_lt C (tgt := 34) (by decide) dX3_need_24 ?_ ?_
      · refine s_iload_n C rfl dX3_need_34 ?_
        refine s_iconst C (by decide) dX3_need_35 ?_
        refine s_icmp_ne C (tgt := 58) (by decide) dX3_need_36 ?_ ?_
        · refine s_aload_n C rfl dX3_need_58 ?_
          refine s_get C inw_X3_need_X3 rfl (k := 0) (by decide) (by decide +kernel) (heH_0 B g) (fun _ => rfl) dX3_need_59 ?_
          refine s_iload_n C rfl dX3_need_62 ?_
          refine s_iload_n C rfl dX3_need_63 ?_
          refine s_callV C (fr_H_T1 B g) (k_X2_ofNeed B g 1) gX3_need_X2_ofNeed rfl (by decide +kernel) ⟨rfl, rfl⟩ (by decide) rfl (fun s => ⟨_, heH_1 B g s⟩) (cf_RII_r _ _ _ _) dX3_need_64 ?_
          exact s_iret C R dX3_need_67
        · refine s_aload_n C rfl dX3_need_39 ?_
          refine s_get C inw_X3_need_X3 rfl (k := 0) (by decide) (by decide +kernel) (heH_0 B g) (fun _ => rfl) dX3_need_40 ?_
          refine s_iload_n C rfl dX3_need_43 ?_
          refine s_iconst C (by decide) dX3_need_44 ?_
          refine s_callV C (fr_H_T1 B g) (k_X2_ofNeed B g 1) gX3_need_X2_ofNeed rfl (by decide +kernel) ⟨rfl, rfl⟩ (by decide) rfl (fun s => ⟨_, heH_1 B g s⟩) (cf_RII_r _ _ _ _) dX3_need_45 ?_
          refine s_aload_n C rfl dX3_need_48 ?_
          refine s_get C inw_X3_need_X3 rfl (k := 0) (by decide) (by decide +kernel) (heH_0 B g) (fun _ => rfl) dX3_need_49 ?_
          refine s_iload_n C rfl dX3_need_52 ?_
          refine s_callV C (fr_H_T1 B g) (k_X2_handsLeft B g 1) gX3_need_X2_handsLeft rfl (by decide +kernel) ⟨rfl, rfl⟩ (by decide) rfl (fun s => ⟨_, heH_1 B g s⟩) (cf_RI_r _ _ _ _) dX3_need_53 ?_
          refine s_isub C dX3_need_56 ?_
          exact s_iret C R dX3_need_57
      · exact s_X3_need_27 B g C R 
  · refine s_aload_n C rfl dX3_need_11 ?_
    refine s_iconst C (by decide) dX3_need_12 ?_
    refine s_callV C (fr_H_H B g) (k_X3_refuse B g) gX3_need_X3_refuse rfl (by decide +kernel) ⟨rfl, rfl⟩ (by decide) rfl (fun s => ⟨_, heH_0 B g s⟩) (cf_RI_r _ _ _ _) dX3_need_13 ?_
    exact s_iret C R dX3_need_16
theorem k_X3_need (B : Bx) (g : Nat → Nat) : MtF (gx B) yX3_need wsX3_need (rmD 2) (encH B g) (F_X3_need g) := by
  refine cf_RII_i (fun l S p w _ => Mt.of (by decide) rfl (Nat.le_of_ble_eq_true rfl) rfl (fun X C R => s_X3_need_0 B g C R) ?_)
  simp only [wIload, wAload, wLload, wK, wB, wDv, wU, wLB, wLU, wLS, wL2i, wLcmp, wIf1, wIf2, wKeep, wInc, wIst, wAst, wLst, wDup, wPop, wDup2, wGet, wPut, wPutZ, wIald, wLald, wIast, wLast, wLen, wRetI, wRetZ, wRetL, wRetA, wRetV, wM1, wM2, wCpy, wTab, tabW, nth, stL, stL2, dropL, keepL, mkL, padL, restOK, restOKn, tl_some, tl_none, id_eq, eq_self, true_and, and_true, bk_X3_need_27, bk_X3_need_0, F_X2_handsLeft, F_X2_hasNeed, F_X2_ofNeed, F_X3_refuse, cf_RII_e, cf_RI_e, b2i_eq0, true_or, or_true, hg_Now_Now, hg_Now_Mind, hg_Now_Image, hg_Now_Im, hg_Now_S, hg_Now_L, hg_Now_Ro, hg_Now_Rl, hg_Now_Re, hg_Mind_Now, hg_Mind_Mind, hg_Mind_Image, hg_Mind_Im, hg_Mind_S, hg_Mind_L, hg_Mind_Ro, hg_Mind_Rl, hg_Mind_Re, hg_Image_Now, hg_Image_Mind, hg_Image_Image, hg_Image_Im, hg_Image_S, hg_Image_L, hg_Image_Ro, hg_Image_Rl, hg_Image_Re, hg_Im_Now, hg_Im_Mind, hg_Im_Image, hg_Im_Im, hg_Im_S, hg_Im_L, hg_Im_Ro, hg_Im_Rl, hg_Im_Re, hg_S_Now, hg_S_Mind, hg_S_Image, hg_S_Im, hg_S_S, hg_S_L, hg_S_Ro, hg_S_Rl, hg_S_Re, hg_L_Now, hg_L_Mind, hg_L_Image, hg_L_Im, hg_L_S, hg_L_L, hg_L_Ro, hg_L_Rl, hg_L_Re, hg_Ro_Now, hg_Ro_Mind, hg_Ro_Image, hg_Ro_Im, hg_Ro_S, hg_Ro_L, hg_Ro_Ro, hg_Ro_Rl, hg_Ro_Re, hg_Rl_Now, hg_Rl_Mind, hg_Rl_Image, hg_Rl_Im, hg_Rl_S, hg_Rl_L, hg_Rl_Ro, hg_Rl_Rl, hg_Rl_Re, hg_Re_Now, hg_Re_Mind, hg_Re_Image, hg_Re_Im, hg_Re_S, hg_Re_L, hg_Re_Ro, hg_Re_Rl, hg_Re_Re, he_Now, ho_Now, he_Mind, ho_Mind, he_Image, ho_Image, he_Im, ho_Im, he_S, ho_S, he_L, ho_L, he_Ro, ho_Ro, he_Rl, ho_Rl, he_Re, ho_Re]
  repeat' first | refine And.intro ?_ ?_ | intro _
  all_goals grind [r_need]
def r_set (S : HS) (w v : Int32) : Int32 × HS := if w < 0 ∨ 4 ≤ w then (-2, hRef S (-2)) else if v < (if w = 1 then 1 else 0) then (-4, hRef S (-4)) else if (if w = 0 then 3 else 9) < v then (-6, hRef S (-6)) else (tSet (hNow S) w, hsNow S (tSettle (hNow S) w v))
def F_X3_set (g : Nat → Nat) : CF HS := cf_RII (g 0) (fun _ _ _ => True) (fun S p w => some (.int (r_set S p w).1)) (fun S p w => (r_set S p w).2)
theorem inw_X3_set_X3 : ∀ w ∈ u_ws RX3 TX3 9, w ∈ wsX3_set := by decide +kernel
def bk_X3_set_9 (g : Nat → Nat) (Post : Option Value → HS → Prop)  (L : Lc) (st : List Value) (s : HS) : Prop :=
  (wAload 0 <| wK (.int (-2)) <| wCallR 2 (F_X3_refuse g) id (fun _ u => u) <| wRetI Post) L st s
set_option maxRecDepth 20000 in
theorem s_X3_set_9 {X : Cx} (B : Bx) (g : Nat → Nat) {Post : Option Value → HS → Prop} (C : OkX X (gx B) cX3_set 4 wsX3_set RX3 (rmD 1)) (R : RtX X (gx B) (some .int) (encH B g) Post)  : Snd X (gx B) 4 (encH B g) 9 (bk_X3_set_9 g Post ) := by
  unfold bk_X3_set_9
  refine s_aload_n C rfl dX3_set_9 ?_
  refine s_bipush C (by decide) dX3_set_10 ?_
  refine s_callV C (fr_H_H B g) (k_X3_refuse B g) gX3_set_X3_refuse rfl (by decide +kernel) ⟨rfl, rfl⟩ (by decide) rfl (fun s => ⟨_, heH_0 B g s⟩) (cf_RI_r _ _ _ _) dX3_set_12 ?_
  exact s_iret C R dX3_set_15
def bk_X3_set_0 (g : Nat → Nat) (Post : Option Value → HS → Prop)  (L : Lc) (st : List Value) (s : HS) : Prop :=
  (wIload 1 <| wIf1 (fun x => x < 0) (bk_X3_set_9 g Post ) (wIload 1 <| wK (.int 4) <| wIf2 (fun x y => x < y) (wIload 2 <| wIload 1 <| wCallR 1 (F_X3_leastSetting) (fun _ => ()) (fun s _ => s) <| wIf2 (fun x y => y ≤ x) (wIload 2 <| wIload 1 <| wCallR 1 (F_X3_greatestSetting) (fun _ => ()) (fun s _ => s) <| wIf2 (fun x y => x ≤ y) (wAload 0 <| wGet (g 0) (fun _ => .ref (g 1)) <| wIload 1 <| wCallR 2 (F_X2_setting g 1) hNow hsNow <| wIst 3 <| wAload 0 <| wGet (g 0) (fun _ => .ref (g 1)) <| wIload 1 <| wIload 2 <| wCallR 3 (F_X2_settle g 1) hNow hsNow <| wIload 3 <| wRetI Post) (wAload 0 <| wK (.int (-6)) <| wCallR 2 (F_X3_refuse g) id (fun _ u => u) <| wRetI Post)) (wAload 0 <| wK (.int (-4)) <| wCallR 2 (F_X3_refuse g) id (fun _ u => u) <| wRetI Post)) (bk_X3_set_9 g Post ))) L st s
set_option maxRecDepth 20000 in
theorem s_X3_set_0 {X : Cx} (B : Bx) (g : Nat → Nat) {Post : Option Value → HS → Prop} (C : OkX X (gx B) cX3_set 4 wsX3_set RX3 (rmD 1)) (R : RtX X (gx B) (some .int) (encH B g) Post)  : Snd X (gx B) 4 (encH B g) 0 (bk_X3_set_0 g Post ) := by
  unfold bk_X3_set_0
  refine s_iload_n C rfl dX3_set_0 ?_
  refine s_if_lt C (tgt := 9) (by decide) dX3_set_1 ?_ ?_
  · exact s_X3_set_9 B g C R 
  · refine s_iload_n C rfl dX3_set_4 ?_
    refine s_iconst C (by decide) dX3_set_5 ?_
    refine s_icmp_lt C (tgt := 16) (by decide) dX3_set_6 ?_ ?_
    · refine s_iload_n C rfl dX3_set_16 ?_
      refine s_iload_n C rfl dX3_set_17 ?_
      refine s_callS C (fr_H_E B g) (k_X3_leastSetting B) gX3_set_X3_leastSetting rfl (by decide +kernel) ⟨rfl, rfl⟩ (by decide) (cf_I_r _ _ _) dX3_set_18 ?_
      refine s_icmp_ge C (tgt := 31) (by decide) dX3_set_21 ?_ ?_
      · refine s_iload_n C rfl dX3_set_31 ?_
        refine s_iload_n C rfl dX3_set_32 ?_
        refine s_callS C (fr_H_E B g) (k_X3_greatestSetting B) gX3_set_X3_greatestSetting rfl (by decide +kernel) ⟨rfl, rfl⟩ (by decide) (cf_I_r _ _ _) dX3_set_33 ?_
        refine s_icmp_le C (tgt := 46) (by decide) dX3_set_36 ?_ ?_
        · refine s_aload_n C rfl dX3_set_46 ?_
          refine s_get C inw_X3_set_X3 rfl (k := 0) (by decide) (by decide +kernel) (heH_0 B g) (fun _ => rfl) dX3_set_47 ?_
          refine s_iload_n C rfl dX3_set_50 ?_
          refine s_callV C (fr_H_T1 B g) (k_X2_setting B g 1) gX3_set_X2_setting rfl (by decide +kernel) ⟨rfl, rfl⟩ (by decide) rfl (fun s => ⟨_, heH_1 B g s⟩) (cf_RI_r _ _ _ _) dX3_set_51 ?_
          refine s_istore_n C rfl (by decide) dX3_set_54 ?_
          refine s_aload_n C rfl dX3_set_55 ?_
          refine s_get C inw_X3_set_X3 rfl (k := 0) (by decide) (by decide +kernel) (heH_0 B g) (fun _ => rfl) dX3_set_56 ?_
          refine s_iload_n C rfl dX3_set_59 ?_
          refine s_iload_n C rfl dX3_set_60 ?_
          refine s_callV C (fr_H_T1 B g) (k_X2_settle B g 1) gX3_set_X2_settle rfl (by decide +kernel) ⟨rfl, rfl⟩ (by decide) rfl (fun s => ⟨_, heH_1 B g s⟩) (cf_RII_r _ _ _ _) dX3_set_61 ?_
          refine s_iload_n C rfl dX3_set_64 ?_
          exact s_iret C R dX3_set_65
        · refine s_aload_n C rfl dX3_set_39 ?_
          refine s_bipush C (by decide) dX3_set_40 ?_
          refine s_callV C (fr_H_H B g) (k_X3_refuse B g) gX3_set_X3_refuse rfl (by decide +kernel) ⟨rfl, rfl⟩ (by decide) rfl (fun s => ⟨_, heH_0 B g s⟩) (cf_RI_r _ _ _ _) dX3_set_42 ?_
          exact s_iret C R dX3_set_45
      · refine s_aload_n C rfl dX3_set_24 ?_
        refine s_bipush C (by decide) dX3_set_25 ?_
        refine s_callV C (fr_H_H B g) (k_X3_refuse B g) gX3_set_X3_refuse rfl (by decide +kernel) ⟨rfl, rfl⟩ (by decide) rfl (fun s => ⟨_, heH_0 B g s⟩) (cf_RI_r _ _ _ _) dX3_set_27 ?_
        exact s_iret C R dX3_set_30
    · exact s_X3_set_9 B g C R 
theorem k_X3_set (B : Bx) (g : Nat → Nat) : MtF (gx B) yX3_set wsX3_set (rmD 1) (encH B g) (F_X3_set g) := by
  refine cf_RII_i (fun l S w v _ => Mt.of (by decide) rfl (Nat.le_of_ble_eq_true rfl) rfl (fun X C R => s_X3_set_0 B g C R) ?_)
  simp only [wIload, wAload, wLload, wK, wB, wDv, wU, wLB, wLU, wLS, wL2i, wLcmp, wIf1, wIf2, wKeep, wInc, wIst, wAst, wLst, wDup, wPop, wDup2, wGet, wPut, wPutZ, wIald, wLald, wIast, wLast, wLen, wRetI, wRetZ, wRetL, wRetA, wRetV, wM1, wM2, wCpy, wTab, tabW, nth, stL, stL2, dropL, keepL, mkL, padL, restOK, restOKn, tl_some, tl_none, id_eq, eq_self, true_and, and_true, bk_X3_set_9, bk_X3_set_0, F_X2_setting, F_X2_settle, F_X3_greatestSetting, F_X3_leastSetting, F_X3_refuse, cf_I_e, cf_RII_e, cf_RI_e, true_or, or_true, hg_Now_Now, hg_Now_Mind, hg_Now_Image, hg_Now_Im, hg_Now_S, hg_Now_L, hg_Now_Ro, hg_Now_Rl, hg_Now_Re, hg_Mind_Now, hg_Mind_Mind, hg_Mind_Image, hg_Mind_Im, hg_Mind_S, hg_Mind_L, hg_Mind_Ro, hg_Mind_Rl, hg_Mind_Re, hg_Image_Now, hg_Image_Mind, hg_Image_Image, hg_Image_Im, hg_Image_S, hg_Image_L, hg_Image_Ro, hg_Image_Rl, hg_Image_Re, hg_Im_Now, hg_Im_Mind, hg_Im_Image, hg_Im_Im, hg_Im_S, hg_Im_L, hg_Im_Ro, hg_Im_Rl, hg_Im_Re, hg_S_Now, hg_S_Mind, hg_S_Image, hg_S_Im, hg_S_S, hg_S_L, hg_S_Ro, hg_S_Rl, hg_S_Re, hg_L_Now, hg_L_Mind, hg_L_Image, hg_L_Im, hg_L_S, hg_L_L, hg_L_Ro, hg_L_Rl, hg_L_Re, hg_Ro_Now, hg_Ro_Mind, hg_Ro_Image, hg_Ro_Im, hg_Ro_S, hg_Ro_L, hg_Ro_Ro, hg_Ro_Rl, hg_Ro_Re, hg_Rl_Now, hg_Rl_Mind, hg_Rl_Image, hg_Rl_Im, hg_Rl_S, hg_Rl_L, hg_Rl_Ro, hg_Rl_Rl, hg_Rl_Re, hg_Re_Now, hg_Re_Mind, hg_Re_Image, hg_Re_Im, hg_Re_S, hg_Re_L, hg_Re_Ro, hg_Re_Rl, hg_Re_Re, he_Now, ho_Now, he_Mind, ho_Mind, he_Image, ho_Image, he_Im, ho_Im, he_S, ho_S, he_L, ho_L, he_Ro, ho_Ro, he_Rl, ho_Rl, he_Re, ho_Re]
  repeat' first | refine And.intro ?_ ?_ | intro _
  all_goals grind [r_set]
def r_minutes (S : HS) (p q : Int32) : Int32 × HS := if tHasP (hNow S) p = true ∧ tHasP (hNow S) q = true then (tMin (hNow S) p q, S) else (-1, hRef S (-1))
def F_X3_minutes (g : Nat → Nat) : CF HS := cf_RII (g 0) (fun _ _ _ => True) (fun S p w => some (.int (r_minutes S p w).1)) (fun S p w => (r_minutes S p w).2)
theorem inw_X3_minutes_X3 : ∀ w ∈ u_ws RX3 TX3 9, w ∈ wsX3_minutes := by decide +kernel
def bk_X3_minutes_22 (g : Nat → Nat) (Post : Option Value → HS → Prop)  (L : Lc) (st : List Value) (s : HS) : Prop :=
  (wAload 0 <| wK (.int (-1)) <| wCallR 2 (F_X3_refuse g) id (fun _ u => u) <| wRetI Post) L st s
set_option maxRecDepth 20000 in
theorem s_X3_minutes_22 {X : Cx} (B : Bx) (g : Nat → Nat) {Post : Option Value → HS → Prop} (C : OkX X (gx B) cX3_minutes 3 wsX3_minutes RX3 (rmD 2)) (R : RtX X (gx B) (some .int) (encH B g) Post)  : Snd X (gx B) 3 (encH B g) 22 (bk_X3_minutes_22 g Post ) := by
  unfold bk_X3_minutes_22
  refine s_aload_n C rfl dX3_minutes_22 ?_
  refine s_iconst C (by decide) dX3_minutes_23 ?_
  refine s_callV C (fr_H_H B g) (k_X3_refuse B g) gX3_minutes_X3_refuse rfl (by decide +kernel) ⟨rfl, rfl⟩ (by decide) rfl (fun s => ⟨_, heH_0 B g s⟩) (cf_RI_r _ _ _ _) dX3_minutes_24 ?_
  exact s_iret C R dX3_minutes_27
def bk_X3_minutes_0 (g : Nat → Nat) (Post : Option Value → HS → Prop)  (L : Lc) (st : List Value) (s : HS) : Prop :=
  (wAload 0 <| wGet (g 0) (fun _ => .ref (g 1)) <| wIload 1 <| wCallR 2 (F_X2_hasPerson g 1) hNow hsNow <| wIf1 (fun x => x = 0) (bk_X3_minutes_22 g Post ) (wAload 0 <| wGet (g 0) (fun _ => .ref (g 1)) <| wIload 2 <| wCallR 2 (F_X2_hasPerson g 1) hNow hsNow <| wIf1 (fun x => x = 0) (bk_X3_minutes_22 g Post ) (wAload 0 <| wGet (g 0) (fun _ => .ref (g 1)) <| wIload 1 <| wIload 2 <| wCallR 3 (F_X2_minutesBetween g 1) hNow hsNow <| wRetI Post))) L st s
set_option maxRecDepth 20000 in
theorem s_X3_minutes_0 {X : Cx} (B : Bx) (g : Nat → Nat) {Post : Option Value → HS → Prop} (C : OkX X (gx B) cX3_minutes 3 wsX3_minutes RX3 (rmD 2)) (R : RtX X (gx B) (some .int) (encH B g) Post)  : Snd X (gx B) 3 (encH B g) 0 (bk_X3_minutes_0 g Post ) := by
  unfold bk_X3_minutes_0
  refine s_aload_n C rfl dX3_minutes_0 ?_
  refine s_get C inw_X3_minutes_X3 rfl (k := 0) (by decide) (by decide +kernel) (heH_0 B g) (fun _ => rfl) dX3_minutes_1 ?_
  refine s_iload_n C rfl dX3_minutes_4 ?_
  refine s_callV C (fr_H_T1 B g) (k_X2_hasPerson B g 1) gX3_minutes_X2_hasPerson rfl (by decide +kernel) ⟨rfl, rfl⟩ (by decide) rfl (fun s => ⟨_, heH_1 B g s⟩) (cf_RI_r _ _ _ _) dX3_minutes_5 ?_
  refine s_if_eq C (tgt := 22) (by decide) dX3_minutes_8 ?_ ?_
  · exact s_X3_minutes_22 B g C R 
  · refine s_aload_n C rfl dX3_minutes_11 ?_
    refine s_get C inw_X3_minutes_X3 rfl (k := 0) (by decide) (by decide +kernel) (heH_0 B g) (fun _ => rfl) dX3_minutes_12 ?_
    refine s_iload_n C rfl dX3_minutes_15 ?_
    refine s_callV C (fr_H_T1 B g) (k_X2_hasPerson B g 1) gX3_minutes_X2_hasPerson rfl (by decide +kernel) ⟨rfl, rfl⟩ (by decide) rfl (fun s => ⟨_, heH_1 B g s⟩) (cf_RI_r _ _ _ _) dX3_minutes_16 ?_
    refine s_if_ne C (tgt := 28) (by decide) dX3_minutes_19 ?_ ?_
    · refine s_aload_n C rfl dX3_minutes_28 ?_
      refine s_get C inw_X3_minutes_X3 rfl (k := 0) (by decide) (by decide +kernel) (heH_0 B g) (fun _ => rfl) dX3_minutes_29 ?_
      refine s_iload_n C rfl dX3_minutes_32 ?_
      refine s_iload_n C rfl dX3_minutes_33 ?_
      refine s_callV C (fr_H_T1 B g) (k_X2_minutesBetween B g 1) gX3_minutes_X2_minutesBetween rfl (by decide +kernel) ⟨rfl, rfl⟩ (by decide) rfl (fun s => ⟨_, heH_1 B g s⟩) (cf_RII_r _ _ _ _) dX3_minutes_34 ?_
      exact s_iret C R dX3_minutes_37
    · exact s_X3_minutes_22 B g C R 
theorem k_X3_minutes (B : Bx) (g : Nat → Nat) : MtF (gx B) yX3_minutes wsX3_minutes (rmD 2) (encH B g) (F_X3_minutes g) := by
  refine cf_RII_i (fun l S p q _ => Mt.of (by decide) rfl (Nat.le_of_ble_eq_true rfl) rfl (fun X C R => s_X3_minutes_0 B g C R) ?_)
  simp only [wIload, wAload, wLload, wK, wB, wDv, wU, wLB, wLU, wLS, wL2i, wLcmp, wIf1, wIf2, wKeep, wInc, wIst, wAst, wLst, wDup, wPop, wDup2, wGet, wPut, wPutZ, wIald, wLald, wIast, wLast, wLen, wRetI, wRetZ, wRetL, wRetA, wRetV, wM1, wM2, wCpy, wTab, tabW, nth, stL, stL2, dropL, keepL, mkL, padL, restOK, restOKn, tl_some, tl_none, id_eq, eq_self, true_and, and_true, bk_X3_minutes_22, bk_X3_minutes_0, F_X2_hasPerson, F_X2_minutesBetween, F_X3_refuse, cf_RII_e, cf_RI_e, b2i_eq0, true_or, or_true, hg_Now_Now, hg_Now_Mind, hg_Now_Image, hg_Now_Im, hg_Now_S, hg_Now_L, hg_Now_Ro, hg_Now_Rl, hg_Now_Re, hg_Mind_Now, hg_Mind_Mind, hg_Mind_Image, hg_Mind_Im, hg_Mind_S, hg_Mind_L, hg_Mind_Ro, hg_Mind_Rl, hg_Mind_Re, hg_Image_Now, hg_Image_Mind, hg_Image_Image, hg_Image_Im, hg_Image_S, hg_Image_L, hg_Image_Ro, hg_Image_Rl, hg_Image_Re, hg_Im_Now, hg_Im_Mind, hg_Im_Image, hg_Im_Im, hg_Im_S, hg_Im_L, hg_Im_Ro, hg_Im_Rl, hg_Im_Re, hg_S_Now, hg_S_Mind, hg_S_Image, hg_S_Im, hg_S_S, hg_S_L, hg_S_Ro, hg_S_Rl, hg_S_Re, hg_L_Now, hg_L_Mind, hg_L_Image, hg_L_Im, hg_L_S, hg_L_L, hg_L_Ro, hg_L_Rl, hg_L_Re, hg_Ro_Now, hg_Ro_Mind, hg_Ro_Image, hg_Ro_Im, hg_Ro_S, hg_Ro_L, hg_Ro_Ro, hg_Ro_Rl, hg_Ro_Re, hg_Rl_Now, hg_Rl_Mind, hg_Rl_Image, hg_Rl_Im, hg_Rl_S, hg_Rl_L, hg_Rl_Ro, hg_Rl_Rl, hg_Rl_Re, hg_Re_Now, hg_Re_Mind, hg_Re_Image, hg_Re_Im, hg_Re_S, hg_Re_L, hg_Re_Ro, hg_Re_Rl, hg_Re_Re, he_Now, ho_Now, he_Mind, ho_Mind, he_Image, ho_Image, he_Im, ho_Im, he_S, ho_S, he_L, ho_L, he_Ro, ho_Ro, he_Rl, ho_Rl, he_Re, ho_Re]
  repeat' first | refine And.intro ?_ ?_ | intro _
  all_goals grind [r_minutes]
def r_spent (S : HS) (p q : Int32) : Int32 × HS := if hPair S p q = false then (-1, hRef S (-1)) else (b2i (tSpent (hNow S) p q), S)
def F_X3_spent (g : Nat → Nat) : CF HS := cf_RII (g 0) (fun _ _ _ => True) (fun S p w => some (.int (r_spent S p w).1)) (fun S p w => (r_spent S p w).2)
theorem inw_X3_spent_X3 : ∀ w ∈ u_ws RX3 TX3 9, w ∈ wsX3_spent := by decide +kernel
def bk_X3_spent_32 (g : Nat → Nat) (Post : Option Value → HS → Prop)  (L : Lc) (st : List Value) (s : HS) : Prop :=
  (wRetI Post) L st s
set_option maxRecDepth 20000 in
theorem s_X3_spent_32 {X : Cx} (B : Bx) (g : Nat → Nat) {Post : Option Value → HS → Prop} (C : OkX X (gx B) cX3_spent 3 wsX3_spent RX3 (rmD 2)) (R : RtX X (gx B) (some .int) (encH B g) Post)  : Snd X (gx B) 3 (encH B g) 32 (bk_X3_spent_32 g Post ) := by
  unfold bk_X3_spent_32
  exact s_iret C R dX3_spent_32
def bk_X3_spent_0 (g : Nat → Nat) (Post : Option Value → HS → Prop)  (L : Lc) (st : List Value) (s : HS) : Prop :=
  (wAload 0 <| wIload 1 <| wIload 2 <| wCallR 3 (F_X3_isPair g) id (fun _ u => u) <| wIf1 (fun x => x = 0) (wAload 0 <| wK (.int (-1)) <| wCallR 2 (F_X3_refuse g) id (fun _ u => u) <| wRetI Post) (wAload 0 <| wGet (g 0) (fun _ => .ref (g 1)) <| wIload 1 <| wIload 2 <| wCallR 3 (F_X2_isSpent g 1) hNow hsNow <| wIf1 (fun x => x = 0) (wK (.int 0) <| bk_X3_spent_32 g Post ) (wK (.int 1) <| bk_X3_spent_32 g Post ))) L st s
set_option maxRecDepth 20000 in
theorem s_X3_spent_0 {X : Cx} (B : Bx) (g : Nat → Nat) {Post : Option Value → HS → Prop} (C : OkX X (gx B) cX3_spent 3 wsX3_spent RX3 (rmD 2)) (R : RtX X (gx B) (some .int) (encH B g) Post)  : Snd X (gx B) 3 (encH B g) 0 (bk_X3_spent_0 g Post ) := by
  unfold bk_X3_spent_0
  refine s_aload_n C rfl dX3_spent_0 ?_
  refine s_iload_n C rfl dX3_spent_1 ?_
  refine s_iload_n C rfl dX3_spent_2 ?_
  refine s_callV C (fr_H_H B g) (k_X3_isPair B g) gX3_spent_X3_isPair rfl (by decide +kernel) ⟨rfl, rfl⟩ (by decide) rfl (fun s => ⟨_, heH_0 B g s⟩) (cf_RII_r _ _ _ _) dX3_spent_3 ?_
  refine s_if_ne C (tgt := 15) (by decide) dX3_spent_6 ?_ ?_
  · refine s_aload_n C rfl dX3_spent_15 ?_
    refine s_get C inw_X3_spent_X3 rfl (k := 0) (by decide) (by decide +kernel) (heH_0 B g) (fun _ => rfl) dX3_spent_16 ?_
    refine s_iload_n C rfl dX3_spent_19 ?_
    refine s_iload_n C rfl dX3_spent_20 ?_
    refine s_callV C (fr_H_T1 B g) (k_X2_isSpent B g 1) gX3_spent_X2_isSpent rfl (by decide +kernel) ⟨rfl, rfl⟩ (by decide) rfl (fun s => ⟨_, heH_1 B g s⟩) (cf_RII_r _ _ _ _) dX3_spent_21 ?_
    refine s_if_eq C (tgt := 31) (by decide) dX3_spent_24 ?_ ?_
    · refine s_iconst C (by decide) dX3_spent_31 ?_
      exact s_X3_spent_32 B g C R 
    · refine s_iconst C (by decide) dX3_spent_27 ?_
      refine s_goto C (tgt := 32) (by decide) dX3_spent_28 ?_
      exact s_X3_spent_32 B g C R 
  · refine s_aload_n C rfl dX3_spent_9 ?_
    refine s_iconst C (by decide) dX3_spent_10 ?_
    refine s_callV C (fr_H_H B g) (k_X3_refuse B g) gX3_spent_X3_refuse rfl (by decide +kernel) ⟨rfl, rfl⟩ (by decide) rfl (fun s => ⟨_, heH_0 B g s⟩) (cf_RI_r _ _ _ _) dX3_spent_11 ?_
    exact s_iret C R dX3_spent_14
theorem k_X3_spent (B : Bx) (g : Nat → Nat) : MtF (gx B) yX3_spent wsX3_spent (rmD 2) (encH B g) (F_X3_spent g) := by
  refine cf_RII_i (fun l S p q _ => Mt.of (by decide) rfl (Nat.le_of_ble_eq_true rfl) rfl (fun X C R => s_X3_spent_0 B g C R) ?_)
  simp only [wIload, wAload, wLload, wK, wB, wDv, wU, wLB, wLU, wLS, wL2i, wLcmp, wIf1, wIf2, wKeep, wInc, wIst, wAst, wLst, wDup, wPop, wDup2, wGet, wPut, wPutZ, wIald, wLald, wIast, wLast, wLen, wRetI, wRetZ, wRetL, wRetA, wRetV, wM1, wM2, wCpy, wTab, tabW, nth, stL, stL2, dropL, keepL, mkL, padL, restOK, restOKn, tl_some, tl_none, id_eq, eq_self, true_and, and_true, bk_X3_spent_32, bk_X3_spent_0, F_X2_isSpent, F_X3_isPair, F_X3_refuse, cf_RII_e, cf_RI_e, b2i_eq0, true_or, or_true, hg_Now_Now, hg_Now_Mind, hg_Now_Image, hg_Now_Im, hg_Now_S, hg_Now_L, hg_Now_Ro, hg_Now_Rl, hg_Now_Re, hg_Mind_Now, hg_Mind_Mind, hg_Mind_Image, hg_Mind_Im, hg_Mind_S, hg_Mind_L, hg_Mind_Ro, hg_Mind_Rl, hg_Mind_Re, hg_Image_Now, hg_Image_Mind, hg_Image_Image, hg_Image_Im, hg_Image_S, hg_Image_L, hg_Image_Ro, hg_Image_Rl, hg_Image_Re, hg_Im_Now, hg_Im_Mind, hg_Im_Image, hg_Im_Im, hg_Im_S, hg_Im_L, hg_Im_Ro, hg_Im_Rl, hg_Im_Re, hg_S_Now, hg_S_Mind, hg_S_Image, hg_S_Im, hg_S_S, hg_S_L, hg_S_Ro, hg_S_Rl, hg_S_Re, hg_L_Now, hg_L_Mind, hg_L_Image, hg_L_Im, hg_L_S, hg_L_L, hg_L_Ro, hg_L_Rl, hg_L_Re, hg_Ro_Now, hg_Ro_Mind, hg_Ro_Image, hg_Ro_Im, hg_Ro_S, hg_Ro_L, hg_Ro_Ro, hg_Ro_Rl, hg_Ro_Re, hg_Rl_Now, hg_Rl_Mind, hg_Rl_Image, hg_Rl_Im, hg_Rl_S, hg_Rl_L, hg_Rl_Ro, hg_Rl_Rl, hg_Rl_Re, hg_Re_Now, hg_Re_Mind, hg_Re_Image, hg_Re_Im, hg_Re_S, hg_Re_L, hg_Re_Ro, hg_Re_Rl, hg_Re_Re, he_Now, ho_Now, he_Mind, ho_Mind, he_Image, ho_Image, he_Im, ho_Im, he_S, ho_S, he_L, ho_L, he_Ro, ho_Ro, he_Rl, ho_Rl, he_Re, ho_Re]
  repeat' first | refine And.intro ?_ ?_ | intro _
  all_goals grind [r_spent, b2i]
def r_may (S : HS) (p q : Int32) : Int32 × HS := if tHasP (hNow S) p = true ∧ tHasP (hNow S) q = true then (b2i (tMay (hNow S) p q), S) else (-1, hRef S (-1))
def F_X3_may (g : Nat → Nat) : CF HS := cf_RII (g 0) (fun _ _ _ => True) (fun S p w => some (.int (r_may S p w).1)) (fun S p w => (r_may S p w).2)
theorem inw_X3_may_X3 : ∀ w ∈ u_ws RX3 TX3 9, w ∈ wsX3_may := by decide +kernel
def bk_X3_may_22 (g : Nat → Nat) (Post : Option Value → HS → Prop)  (L : Lc) (st : List Value) (s : HS) : Prop :=
  (wAload 0 <| wK (.int (-1)) <| wCallR 2 (F_X3_refuse g) id (fun _ u => u) <| wRetI Post) L st s
set_option maxRecDepth 20000 in
theorem s_X3_may_22 {X : Cx} (B : Bx) (g : Nat → Nat) {Post : Option Value → HS → Prop} (C : OkX X (gx B) cX3_may 3 wsX3_may RX3 (rmD 3)) (R : RtX X (gx B) (some .int) (encH B g) Post)  : Snd X (gx B) 3 (encH B g) 22 (bk_X3_may_22 g Post ) := by
  unfold bk_X3_may_22
  refine s_aload_n C rfl dX3_may_22 ?_
  refine s_iconst C (by decide) dX3_may_23 ?_
  refine s_callV C (fr_H_H B g) (k_X3_refuse B g) gX3_may_X3_refuse rfl (by decide +kernel) ⟨rfl, rfl⟩ (by decide) rfl (fun s => ⟨_, heH_0 B g s⟩) (cf_RI_r _ _ _ _) dX3_may_24 ?_
  exact s_iret C R dX3_may_27
def bk_X3_may_45 (g : Nat → Nat) (Post : Option Value → HS → Prop)  (L : Lc) (st : List Value) (s : HS) : Prop :=
  (wRetI Post) L st s
set_option maxRecDepth 20000 in
theorem s_X3_may_45 {X : Cx} (B : Bx) (g : Nat → Nat) {Post : Option Value → HS → Prop} (C : OkX X (gx B) cX3_may 3 wsX3_may RX3 (rmD 3)) (R : RtX X (gx B) (some .int) (encH B g) Post)  : Snd X (gx B) 3 (encH B g) 45 (bk_X3_may_45 g Post ) := by
  unfold bk_X3_may_45
  exact s_iret C R dX3_may_45
def bk_X3_may_0 (g : Nat → Nat) (Post : Option Value → HS → Prop)  (L : Lc) (st : List Value) (s : HS) : Prop :=
  (wAload 0 <| wGet (g 0) (fun _ => .ref (g 1)) <| wIload 1 <| wCallR 2 (F_X2_hasPerson g 1) hNow hsNow <| wIf1 (fun x => x = 0) (bk_X3_may_22 g Post ) (wAload 0 <| wGet (g 0) (fun _ => .ref (g 1)) <| wIload 2 <| wCallR 2 (F_X2_hasPerson g 1) hNow hsNow <| wIf1 (fun x => x = 0) (bk_X3_may_22 g Post ) (wAload 0 <| wGet (g 0) (fun _ => .ref (g 1)) <| wIload 1 <| wIload 2 <| wCallR 3 (F_X2_mayHelp g 1) hNow hsNow <| wIf1 (fun x => x = 0) (wK (.int 0) <| bk_X3_may_45 g Post ) (wK (.int 1) <| bk_X3_may_45 g Post )))) L st s
set_option maxRecDepth 20000 in
theorem s_X3_may_0 {X : Cx} (B : Bx) (g : Nat → Nat) {Post : Option Value → HS → Prop} (C : OkX X (gx B) cX3_may 3 wsX3_may RX3 (rmD 3)) (R : RtX X (gx B) (some .int) (encH B g) Post)  : Snd X (gx B) 3 (encH B g) 0 (bk_X3_may_0 g Post ) := by
  unfold bk_X3_may_0
  refine s_aload_n C rfl dX3_may_0 ?_
  refine s_get C inw_X3_may_X3 rfl (k := 0) (by decide) (by decide +kernel) (heH_0 B g) (fun _ => rfl) dX3_may_1 ?_
  refine s_iload_n C rfl dX3_may_4 ?_
  refine s_callV C (fr_H_T1 B g) (k_X2_hasPerson B g 1) gX3_may_X2_hasPerson rfl (by decide +kernel) ⟨rfl, rfl⟩ (by decide) rfl (fun s => ⟨_, heH_1 B g s⟩) (cf_RI_r _ _ _ _) dX3_may_5 ?_
  refine s_if_eq C (tgt := 22) (by decide) dX3_may_8 ?_ ?_
  · exact s_X3_may_22 B g C R 
  · refine s_aload_n C rfl dX3_may_11 ?_
    refine s_get C inw_X3_may_X3 rfl (k := 0) (by decide) (by decide +kernel) (heH_0 B g) (fun _ => rfl) dX3_may_12 ?_
    refine s_iload_n C rfl dX3_may_15 ?_
    refine s_callV C (fr_H_T1 B g) (k_X2_hasPerson B g 1) gX3_may_X2_hasPerson rfl (by decide +kernel) ⟨rfl, rfl⟩ (by decide) rfl (fun s => ⟨_, heH_1 B g s⟩) (cf_RI_r _ _ _ _) dX3_may_16 ?_
    refine s_if_ne C (tgt := 28) (by decide) dX3_may_19 ?_ ?_
    · refine s_aload_n C rfl dX3_may_28 ?_
      refine s_get C inw_X3_may_X3 rfl (k := 0) (by decide) (by decide +kernel) (heH_0 B g) (fun _ => rfl) dX3_may_29 ?_
      refine s_iload_n C rfl dX3_may_32 ?_
      refine s_iload_n C rfl dX3_may_33 ?_
      refine s_callV C (fr_H_T1 B g) (k_X2_mayHelp B g 1) gX3_may_X2_mayHelp rfl (by decide +kernel) ⟨rfl, rfl⟩ (by decide) rfl (fun s => ⟨_, heH_1 B g s⟩) (cf_RII_r _ _ _ _) dX3_may_34 ?_
      refine s_if_eq C (tgt := 44) (by decide) dX3_may_37 ?_ ?_
      · refine s_iconst C (by decide) dX3_may_44 ?_
        exact s_X3_may_45 B g C R 
      · refine s_iconst C (by decide) dX3_may_40 ?_
        refine s_goto C (tgt := 45) (by decide) dX3_may_41 ?_
        exact s_X3_may_45 B g C R 
    · exact s_X3_may_22 B g C R 
theorem k_X3_may (B : Bx) (g : Nat → Nat) : MtF (gx B) yX3_may wsX3_may (rmD 3) (encH B g) (F_X3_may g) := by
  refine cf_RII_i (fun l S p q _ => Mt.of (by decide) rfl (Nat.le_of_ble_eq_true rfl) rfl (fun X C R => s_X3_may_0 B g C R) ?_)
  simp only [wIload, wAload, wLload, wK, wB, wDv, wU, wLB, wLU, wLS, wL2i, wLcmp, wIf1, wIf2, wKeep, wInc, wIst, wAst, wLst, wDup, wPop, wDup2, wGet, wPut, wPutZ, wIald, wLald, wIast, wLast, wLen, wRetI, wRetZ, wRetL, wRetA, wRetV, wM1, wM2, wCpy, wTab, tabW, nth, stL, stL2, dropL, keepL, mkL, padL, restOK, restOKn, tl_some, tl_none, id_eq, eq_self, true_and, and_true, bk_X3_may_22, bk_X3_may_45, bk_X3_may_0, F_X2_hasPerson, F_X2_mayHelp, F_X3_refuse, cf_RII_e, cf_RI_e, b2i_eq0, true_or, or_true, hg_Now_Now, hg_Now_Mind, hg_Now_Image, hg_Now_Im, hg_Now_S, hg_Now_L, hg_Now_Ro, hg_Now_Rl, hg_Now_Re, hg_Mind_Now, hg_Mind_Mind, hg_Mind_Image, hg_Mind_Im, hg_Mind_S, hg_Mind_L, hg_Mind_Ro, hg_Mind_Rl, hg_Mind_Re, hg_Image_Now, hg_Image_Mind, hg_Image_Image, hg_Image_Im, hg_Image_S, hg_Image_L, hg_Image_Ro, hg_Image_Rl, hg_Image_Re, hg_Im_Now, hg_Im_Mind, hg_Im_Image, hg_Im_Im, hg_Im_S, hg_Im_L, hg_Im_Ro, hg_Im_Rl, hg_Im_Re, hg_S_Now, hg_S_Mind, hg_S_Image, hg_S_Im, hg_S_S, hg_S_L, hg_S_Ro, hg_S_Rl, hg_S_Re, hg_L_Now, hg_L_Mind, hg_L_Image, hg_L_Im, hg_L_S, hg_L_L, hg_L_Ro, hg_L_Rl, hg_L_Re, hg_Ro_Now, hg_Ro_Mind, hg_Ro_Image, hg_Ro_Im, hg_Ro_S, hg_Ro_L, hg_Ro_Ro, hg_Ro_Rl, hg_Ro_Re, hg_Rl_Now, hg_Rl_Mind, hg_Rl_Image, hg_Rl_Im, hg_Rl_S, hg_Rl_L, hg_Rl_Ro, hg_Rl_Rl, hg_Rl_Re, hg_Re_Now, hg_Re_Mind, hg_Re_Image, hg_Re_Im, hg_Re_S, hg_Re_L, hg_Re_Ro, hg_Re_Rl, hg_Re_Re, he_Now, ho_Now, he_Mind, ho_Mind, he_Image, ho_Image, he_Im, ho_Im, he_S, ho_S, he_L, ho_L, he_Ro, ho_Ro, he_Rl, ho_Rl, he_Re, ho_Re]
  repeat' first | refine And.intro ?_ ?_ | intro _
  all_goals grind [r_may, b2i]
def r_good (S : HS) (p n : Int32) : Int32 × HS := if tHasP (hNow S) p = true ∧ tHasN (hNow S) n = true then (tGood (hNow S) p n, S) else (-1, hRef S (-1))
def F_X3_good (g : Nat → Nat) : CF HS := cf_RII (g 0) (fun _ _ _ => True) (fun S p w => some (.int (r_good S p w).1)) (fun S p w => (r_good S p w).2)
theorem inw_X3_good_X3 : ∀ w ∈ u_ws RX3 TX3 9, w ∈ wsX3_good := by decide +kernel
def bk_X3_good_22 (g : Nat → Nat) (Post : Option Value → HS → Prop)  (L : Lc) (st : List Value) (s : HS) : Prop :=
  (wAload 0 <| wK (.int (-1)) <| wCallR 2 (F_X3_refuse g) id (fun _ u => u) <| wRetI Post) L st s
set_option maxRecDepth 20000 in
theorem s_X3_good_22 {X : Cx} (B : Bx) (g : Nat → Nat) {Post : Option Value → HS → Prop} (C : OkX X (gx B) cX3_good 3 wsX3_good RX3 (rmD 3)) (R : RtX X (gx B) (some .int) (encH B g) Post)  : Snd X (gx B) 3 (encH B g) 22 (bk_X3_good_22 g Post ) := by
  unfold bk_X3_good_22
  refine s_aload_n C rfl dX3_good_22 ?_
  refine s_iconst C (by decide) dX3_good_23 ?_
  refine s_callV C (fr_H_H B g) (k_X3_refuse B g) gX3_good_X3_refuse rfl (by decide +kernel) ⟨rfl, rfl⟩ (by decide) rfl (fun s => ⟨_, heH_0 B g s⟩) (cf_RI_r _ _ _ _) dX3_good_24 ?_
  exact s_iret C R dX3_good_27
def bk_X3_good_0 (g : Nat → Nat) (Post : Option Value → HS → Prop)  (L : Lc) (st : List Value) (s : HS) : Prop :=
  (wAload 0 <| wGet (g 0) (fun _ => .ref (g 1)) <| wIload 1 <| wCallR 2 (F_X2_hasPerson g 1) hNow hsNow <| wIf1 (fun x => x = 0) (bk_X3_good_22 g Post ) (wAload 0 <| wGet (g 0) (fun _ => .ref (g 1)) <| wIload 2 <| wCallR 2 (F_X2_hasNeed g 1) hNow hsNow <| wIf1 (fun x => x = 0) (bk_X3_good_22 g Post ) (wAload 0 <| wGet (g 0) (fun _ => .ref (g 1)) <| wIload 1 <| wIload 2 <| wCallR 3 (F_X2_goodOf g 1) hNow hsNow <| wRetI Post))) L st s
set_option maxRecDepth 20000 in
theorem s_X3_good_0 {X : Cx} (B : Bx) (g : Nat → Nat) {Post : Option Value → HS → Prop} (C : OkX X (gx B) cX3_good 3 wsX3_good RX3 (rmD 3)) (R : RtX X (gx B) (some .int) (encH B g) Post)  : Snd X (gx B) 3 (encH B g) 0 (bk_X3_good_0 g Post ) := by
  unfold bk_X3_good_0
  refine s_aload_n C rfl dX3_good_0 ?_
  refine s_get C inw_X3_good_X3 rfl (k := 0) (by decide) (by decide +kernel) (heH_0 B g) (fun _ => rfl) dX3_good_1 ?_
  refine s_iload_n C rfl dX3_good_4 ?_
  refine s_callV C (fr_H_T1 B g) (k_X2_hasPerson B g 1) gX3_good_X2_hasPerson rfl (by decide +kernel) ⟨rfl, rfl⟩ (by decide) rfl (fun s => ⟨_, heH_1 B g s⟩) (cf_RI_r _ _ _ _) dX3_good_5 ?_
  refine s_if_eq C (tgt := 22) (by decide) dX3_good_8 ?_ ?_
  · exact s_X3_good_22 B g C R 
  · refine s_aload_n C rfl dX3_good_11 ?_
    refine s_get C inw_X3_good_X3 rfl (k := 0) (by decide) (by decide +kernel) (heH_0 B g) (fun _ => rfl) dX3_good_12 ?_
    refine s_iload_n C rfl dX3_good_15 ?_
    refine s_callV C (fr_H_T1 B g) (k_X2_hasNeed B g 1) gX3_good_X2_hasNeed rfl (by decide +kernel) ⟨rfl, rfl⟩ (by decide) rfl (fun s => ⟨_, heH_1 B g s⟩) (cf_RI_r _ _ _ _) dX3_good_16 ?_
    refine s_if_ne C (tgt := 28) (by decide) dX3_good_19 ?_ ?_
    · refine s_aload_n C rfl dX3_good_28 ?_
      refine s_get C inw_X3_good_X3 rfl (k := 0) (by decide) (by decide +kernel) (heH_0 B g) (fun _ => rfl) dX3_good_29 ?_
      refine s_iload_n C rfl dX3_good_32 ?_
      refine s_iload_n C rfl dX3_good_33 ?_
      refine s_callV C (fr_H_T1 B g) (k_X2_goodOf B g 1) gX3_good_X2_goodOf rfl (by decide +kernel) ⟨rfl, rfl⟩ (by decide) rfl (fun s => ⟨_, heH_1 B g s⟩) (cf_RII_r _ _ _ _) dX3_good_34 ?_
      exact s_iret C R dX3_good_37
    · exact s_X3_good_22 B g C R 
theorem k_X3_good (B : Bx) (g : Nat → Nat) : MtF (gx B) yX3_good wsX3_good (rmD 3) (encH B g) (F_X3_good g) := by
  refine cf_RII_i (fun l S p q _ => Mt.of (by decide) rfl (Nat.le_of_ble_eq_true rfl) rfl (fun X C R => s_X3_good_0 B g C R) ?_)
  simp only [wIload, wAload, wLload, wK, wB, wDv, wU, wLB, wLU, wLS, wL2i, wLcmp, wIf1, wIf2, wKeep, wInc, wIst, wAst, wLst, wDup, wPop, wDup2, wGet, wPut, wPutZ, wIald, wLald, wIast, wLast, wLen, wRetI, wRetZ, wRetL, wRetA, wRetV, wM1, wM2, wCpy, wTab, tabW, nth, stL, stL2, dropL, keepL, mkL, padL, restOK, restOKn, tl_some, tl_none, id_eq, eq_self, true_and, and_true, bk_X3_good_22, bk_X3_good_0, F_X2_goodOf, F_X2_hasNeed, F_X2_hasPerson, F_X3_refuse, cf_RII_e, cf_RI_e, b2i_eq0, true_or, or_true, hg_Now_Now, hg_Now_Mind, hg_Now_Image, hg_Now_Im, hg_Now_S, hg_Now_L, hg_Now_Ro, hg_Now_Rl, hg_Now_Re, hg_Mind_Now, hg_Mind_Mind, hg_Mind_Image, hg_Mind_Im, hg_Mind_S, hg_Mind_L, hg_Mind_Ro, hg_Mind_Rl, hg_Mind_Re, hg_Image_Now, hg_Image_Mind, hg_Image_Image, hg_Image_Im, hg_Image_S, hg_Image_L, hg_Image_Ro, hg_Image_Rl, hg_Image_Re, hg_Im_Now, hg_Im_Mind, hg_Im_Image, hg_Im_Im, hg_Im_S, hg_Im_L, hg_Im_Ro, hg_Im_Rl, hg_Im_Re, hg_S_Now, hg_S_Mind, hg_S_Image, hg_S_Im, hg_S_S, hg_S_L, hg_S_Ro, hg_S_Rl, hg_S_Re, hg_L_Now, hg_L_Mind, hg_L_Image, hg_L_Im, hg_L_S, hg_L_L, hg_L_Ro, hg_L_Rl, hg_L_Re, hg_Ro_Now, hg_Ro_Mind, hg_Ro_Image, hg_Ro_Im, hg_Ro_S, hg_Ro_L, hg_Ro_Ro, hg_Ro_Rl, hg_Ro_Re, hg_Rl_Now, hg_Rl_Mind, hg_Rl_Image, hg_Rl_Im, hg_Rl_S, hg_Rl_L, hg_Rl_Ro, hg_Rl_Rl, hg_Rl_Re, hg_Re_Now, hg_Re_Mind, hg_Re_Image, hg_Re_Im, hg_Re_S, hg_Re_L, hg_Re_Ro, hg_Re_Rl, hg_Re_Re, he_Now, ho_Now, he_Mind, ho_Mind, he_Image, ho_Image, he_Im, ho_Im, he_S, ho_S, he_L, ho_L, he_Ro, ho_Ro, he_Rl, ho_Rl, he_Re, ho_Re]
  repeat' first | refine And.intro ?_ ?_ | intro _
  all_goals grind [r_good]
def r_help (S : HS) (p n : Int32) : Int32 × HS := if tHasP (hNow S) p = true ∧ tHasN (hNow S) n = true then (if tMayW (hNow S) p n = false then (-3, hRef S (-3)) else if tFull (hNow S) = true then (-6, hRef S (-6)) else (tGood (tDo (hNow S) p n) p n, hsNow S (tDo (hNow S) p n))) else (-1, hRef S (-1))
def F_X3_help (g : Nat → Nat) : CF HS := cf_RII (g 0) (fun _ _ _ => True) (fun S p w => some (.int (r_help S p w).1)) (fun S p w => (r_help S p w).2)
theorem inw_X3_help_X3 : ∀ w ∈ u_ws RX3 TX3 9, w ∈ wsX3_help := by decide +kernel
def bk_X3_help_22 (g : Nat → Nat) (Post : Option Value → HS → Prop)  (L : Lc) (st : List Value) (s : HS) : Prop :=
  (wAload 0 <| wK (.int (-1)) <| wCallR 2 (F_X3_refuse g) id (fun _ u => u) <| wRetI Post) L st s
set_option maxRecDepth 20000 in
theorem s_X3_help_22 {X : Cx} (B : Bx) (g : Nat → Nat) {Post : Option Value → HS → Prop} (C : OkX X (gx B) cX3_help 3 wsX3_help RX3 (rmD 4)) (R : RtX X (gx B) (some .int) (encH B g) Post)  : Snd X (gx B) 3 (encH B g) 22 (bk_X3_help_22 g Post ) := by
  unfold bk_X3_help_22
  refine s_aload_n C rfl dX3_help_22 ?_
  refine s_iconst C (by decide) dX3_help_23 ?_
  refine s_callV C (fr_H_H B g) (k_X3_refuse B g) gX3_help_X3_refuse rfl (by decide +kernel) ⟨rfl, rfl⟩ (by decide) rfl (fun s => ⟨_, heH_0 B g s⟩) (cf_RI_r _ _ _ _) dX3_help_24 ?_
  exact s_iret C R dX3_help_27
def bk_X3_help_0 (g : Nat → Nat) (Post : Option Value → HS → Prop)  (L : Lc) (st : List Value) (s : HS) : Prop :=
  (wAload 0 <| wGet (g 0) (fun _ => .ref (g 1)) <| wIload 1 <| wCallR 2 (F_X2_hasPerson g 1) hNow hsNow <| wIf1 (fun x => x = 0) (bk_X3_help_22 g Post ) (wAload 0 <| wGet (g 0) (fun _ => .ref (g 1)) <| wIload 2 <| wCallR 2 (F_X2_hasNeed g 1) hNow hsNow <| wIf1 (fun x => x = 0) (bk_X3_help_22 g Post ) (wAload 0 <| wGet (g 0) (fun _ => .ref (g 1)) <| wIload 1 <| wIload 2 <| wCallR 3 (F_X2_mayHelpWith g 1) hNow hsNow <| wIf1 (fun x => x = 0) (wAload 0 <| wK (.int (-3)) <| wCallR 2 (F_X3_refuse g) id (fun _ u => u) <| wRetI Post) (wAload 0 <| wGet (g 0) (fun _ => .ref (g 1)) <| wCallR 1 (F_X2_bookIsFull g 1) hNow hsNow <| wIf1 (fun x => x = 0) (wAload 0 <| wGet (g 0) (fun _ => .ref (g 1)) <| wIload 1 <| wIload 2 <| wCallR 3 (F_X2_doHelp g 1) hNow hsNow <| wAload 0 <| wGet (g 0) (fun _ => .ref (g 1)) <| wIload 1 <| wIload 2 <| wCallR 3 (F_X2_goodOf g 1) hNow hsNow <| wRetI Post) (wAload 0 <| wK (.int (-6)) <| wCallR 2 (F_X3_refuse g) id (fun _ u => u) <| wRetI Post))))) L st s
set_option maxRecDepth 20000 in
theorem s_X3_help_0 {X : Cx} (B : Bx) (g : Nat → Nat) {Post : Option Value → HS → Prop} (C : OkX X (gx B) cX3_help 3 wsX3_help RX3 (rmD 4)) (R : RtX X (gx B) (some .int) (encH B g) Post)  : Snd X (gx B) 3 (encH B g) 0 (bk_X3_help_0 g Post ) := by
  unfold bk_X3_help_0
  refine s_aload_n C rfl dX3_help_0 ?_
  refine s_get C inw_X3_help_X3 rfl (k := 0) (by decide) (by decide +kernel) (heH_0 B g) (fun _ => rfl) dX3_help_1 ?_
  refine s_iload_n C rfl dX3_help_4 ?_
  refine s_callV C (fr_H_T1 B g) (k_X2_hasPerson B g 1) gX3_help_X2_hasPerson rfl (by decide +kernel) ⟨rfl, rfl⟩ (by decide) rfl (fun s => ⟨_, heH_1 B g s⟩) (cf_RI_r _ _ _ _) dX3_help_5 ?_
  refine s_if_eq C (tgt := 22) (by decide) dX3_help_8 ?_ ?_
  · exact s_X3_help_22 B g C R 
  · refine s_aload_n C rfl dX3_help_11 ?_
    refine s_get C inw_X3_help_X3 rfl (k := 0) (by decide) (by decide +kernel) (heH_0 B g) (fun _ => rfl) dX3_help_12 ?_
    refine s_iload_n C rfl dX3_help_15 ?_
    refine s_callV C (fr_H_T1 B g) (k_X2_hasNeed B g 1) gX3_help_X2_hasNeed rfl (by decide +kernel) ⟨rfl, rfl⟩ (by decide) rfl (fun s => ⟨_, heH_1 B g s⟩) (cf_RI_r _ _ _ _) dX3_help_16 ?_
    refine s_if_ne C (tgt := 28) (by decide) dX3_help_19 ?_ ?_
    · refine s_aload_n C rfl dX3_help_28 ?_
      refine s_get C inw_X3_help_X3 rfl (k := 0) (by decide) (by decide +kernel) (heH_0 B g) (fun _ => rfl) dX3_help_29 ?_
      refine s_iload_n C rfl dX3_help_32 ?_
      refine s_iload_n C rfl dX3_help_33 ?_
      refine s_callV C (fr_H_T1 B g) (k_X2_mayHelpWith B g 1) gX3_help_X2_mayHelpWith rfl (by decide +kernel) ⟨rfl, rfl⟩ (by decide) rfl (fun s => ⟨_, heH_1 B g s⟩) (cf_RII_r _ _ _ _) dX3_help_34 ?_
      refine s_if_ne C (tgt := 47) (by decide) dX3_help_37 ?_ ?_
      · refine s_aload_n C rfl dX3_help_47 ?_
        refine s_get C inw_X3_help_X3 rfl (k := 0) (by decide) (by decide +kernel) (heH_0 B g) (fun _ => rfl) dX3_help_48 ?_
        refine s_callV C (fr_H_T1 B g) (k_X2_bookIsFull B g 1) gX3_help_X2_bookIsFull rfl (by decide +kernel) ⟨rfl, rfl⟩ (by decide) rfl (fun s => ⟨_, heH_1 B g s⟩) (cf_R_r _ _ _ _) dX3_help_51 ?_
        refine s_if_eq C (tgt := 64) (by decide) dX3_help_54 ?_ ?_
        · refine s_aload_n C rfl dX3_help_64 ?_
          refine s_get C inw_X3_help_X3 rfl (k := 0) (by decide) (by decide +kernel) (heH_0 B g) (fun _ => rfl) dX3_help_65 ?_
          refine s_iload_n C rfl dX3_help_68 ?_
          refine s_iload_n C rfl dX3_help_69 ?_
          refine s_callV C (fr_H_T1 B g) (k_X2_doHelp B g 1) gX3_help_X2_doHelp rfl (by decide +kernel) ⟨rfl, rfl⟩ (by decide) rfl (fun s => ⟨_, heH_1 B g s⟩) (cf_RII_r _ _ _ _) dX3_help_70 ?_
          refine s_aload_n C rfl dX3_help_73 ?_
          refine s_get C inw_X3_help_X3 rfl (k := 0) (by decide) (by decide +kernel) (heH_0 B g) (fun _ => rfl) dX3_help_74 ?_
          refine s_iload_n C rfl dX3_help_77 ?_
          refine s_iload_n C rfl dX3_help_78 ?_
          refine s_callV C (fr_H_T1 B g) (k_X2_goodOf B g 1) gX3_help_X2_goodOf rfl (by decide +kernel) ⟨rfl, rfl⟩ (by decide) rfl (fun s => ⟨_, heH_1 B g s⟩) (cf_RII_r _ _ _ _) dX3_help_79 ?_
          exact s_iret C R dX3_help_82
        · refine s_aload_n C rfl dX3_help_57 ?_
          refine s_bipush C (by decide) dX3_help_58 ?_
          refine s_callV C (fr_H_H B g) (k_X3_refuse B g) gX3_help_X3_refuse rfl (by decide +kernel) ⟨rfl, rfl⟩ (by decide) rfl (fun s => ⟨_, heH_0 B g s⟩) (cf_RI_r _ _ _ _) dX3_help_60 ?_
          exact s_iret C R dX3_help_63
      · refine s_aload_n C rfl dX3_help_40 ?_
        refine s_bipush C (by decide) dX3_help_41 ?_
        refine s_callV C (fr_H_H B g) (k_X3_refuse B g) gX3_help_X3_refuse rfl (by decide +kernel) ⟨rfl, rfl⟩ (by decide) rfl (fun s => ⟨_, heH_0 B g s⟩) (cf_RI_r _ _ _ _) dX3_help_43 ?_
        exact s_iret C R dX3_help_46
    · exact s_X3_help_22 B g C R 
theorem k_X3_help (B : Bx) (g : Nat → Nat) : MtF (gx B) yX3_help wsX3_help (rmD 4) (encH B g) (F_X3_help g) := by
  refine cf_RII_i (fun l S p q _ => Mt.of (by decide) rfl (Nat.le_of_ble_eq_true rfl) rfl (fun X C R => s_X3_help_0 B g C R) ?_)
  simp only [wIload, wAload, wLload, wK, wB, wDv, wU, wLB, wLU, wLS, wL2i, wLcmp, wIf1, wIf2, wKeep, wInc, wIst, wAst, wLst, wDup, wPop, wDup2, wGet, wPut, wPutZ, wIald, wLald, wIast, wLast, wLen, wRetI, wRetZ, wRetL, wRetA, wRetV, wM1, wM2, wCpy, wTab, tabW, nth, stL, stL2, dropL, keepL, mkL, padL, restOK, restOKn, tl_some, tl_none, id_eq, eq_self, true_and, and_true, bk_X3_help_22, bk_X3_help_0, F_X2_bookIsFull, F_X2_doHelp, F_X2_goodOf, F_X2_hasNeed, F_X2_hasPerson, F_X2_mayHelpWith, F_X3_refuse, cf_RII_e, cf_RI_e, cf_R_e, b2i_eq0, true_or, or_true, hg_Now_Now, hg_Now_Mind, hg_Now_Image, hg_Now_Im, hg_Now_S, hg_Now_L, hg_Now_Ro, hg_Now_Rl, hg_Now_Re, hg_Mind_Now, hg_Mind_Mind, hg_Mind_Image, hg_Mind_Im, hg_Mind_S, hg_Mind_L, hg_Mind_Ro, hg_Mind_Rl, hg_Mind_Re, hg_Image_Now, hg_Image_Mind, hg_Image_Image, hg_Image_Im, hg_Image_S, hg_Image_L, hg_Image_Ro, hg_Image_Rl, hg_Image_Re, hg_Im_Now, hg_Im_Mind, hg_Im_Image, hg_Im_Im, hg_Im_S, hg_Im_L, hg_Im_Ro, hg_Im_Rl, hg_Im_Re, hg_S_Now, hg_S_Mind, hg_S_Image, hg_S_Im, hg_S_S, hg_S_L, hg_S_Ro, hg_S_Rl, hg_S_Re, hg_L_Now, hg_L_Mind, hg_L_Image, hg_L_Im, hg_L_S, hg_L_L, hg_L_Ro, hg_L_Rl, hg_L_Re, hg_Ro_Now, hg_Ro_Mind, hg_Ro_Image, hg_Ro_Im, hg_Ro_S, hg_Ro_L, hg_Ro_Ro, hg_Ro_Rl, hg_Ro_Re, hg_Rl_Now, hg_Rl_Mind, hg_Rl_Image, hg_Rl_Im, hg_Rl_S, hg_Rl_L, hg_Rl_Ro, hg_Rl_Rl, hg_Rl_Re, hg_Re_Now, hg_Re_Mind, hg_Re_Image, hg_Re_Im, hg_Re_S, hg_Re_L, hg_Re_Ro, hg_Re_Rl, hg_Re_Re, he_Now, ho_Now, he_Mind, ho_Mind, he_Image, ho_Image, he_Im, ho_Im, he_S, ho_S, he_L, ho_L, he_Ro, ho_Ro, he_Rl, ho_Rl, he_Re, ho_Re]
  repeat' first | refine And.intro ?_ ?_ | intro _
  all_goals grind [r_help]
def r_back (S : HS) : Int32 × HS := if tHh (hNow S) = 0 then (-3, hRef S (-3)) else (tHh (tBack (hNow S)), hsNow S (tBack (hNow S)))
def F_X3_back (g : Nat → Nat) : CF HS := cf_R (g 0) (fun _ => True) (fun S => some (.int (r_back S).1)) (fun S => (r_back S).2)
theorem inw_X3_back_X2 : ∀ w ∈ u_ws RX2 TX2 8, w ∈ wsX3_back := by decide +kernel
theorem inw_X3_back_X3 : ∀ w ∈ u_ws RX3 TX3 9, w ∈ wsX3_back := by decide +kernel
def bk_X3_back_0 (g : Nat → Nat) (Post : Option Value → HS → Prop)  (L : Lc) (st : List Value) (s : HS) : Prop :=
  (wAload 0 <| wGet (g 0) (fun _ => .ref (g 1)) <| wGet (g 1) (fun s => .int (hNowHh s)) <| wIf1 (fun x => x = 0) (wAload 0 <| wK (.int (-3)) <| wCallR 2 (F_X3_refuse g) id (fun _ u => u) <| wRetI Post) (wAload 0 <| wGet (g 0) (fun _ => .ref (g 1)) <| wCallR 1 (F_X2_takeBack g 1) hNow hsNow <| wAload 0 <| wGet (g 0) (fun _ => .ref (g 1)) <| wGet (g 1) (fun s => .int (hNowHh s)) <| wRetI Post)) L st s
set_option maxRecDepth 20000 in
theorem s_X3_back_0 {X : Cx} (B : Bx) (g : Nat → Nat) {Post : Option Value → HS → Prop} (C : OkX X (gx B) cX3_back 1 wsX3_back RX3 (rmD 2)) (R : RtX X (gx B) (some .int) (encH B g) Post)  : Snd X (gx B) 1 (encH B g) 0 (bk_X3_back_0 g Post ) := by
  unfold bk_X3_back_0
  refine s_aload_n C rfl dX3_back_0 ?_
  refine s_get C inw_X3_back_X3 rfl (k := 0) (by decide) (by decide +kernel) (heH_0 B g) (fun _ => rfl) dX3_back_1 ?_
  refine s_get C inw_X3_back_X2 rfl (k := 5) (by decide) (by decide +kernel) (heH_1 B g) (fun _ => rfl) dX3_back_4 ?_
  refine s_if_ne C (tgt := 17) (by decide) dX3_back_7 ?_ ?_
  · refine s_aload_n C rfl dX3_back_17 ?_
    refine s_get C inw_X3_back_X3 rfl (k := 0) (by decide) (by decide +kernel) (heH_0 B g) (fun _ => rfl) dX3_back_18 ?_
    refine s_callV C (fr_H_T1 B g) (k_X2_takeBack B g 1) gX3_back_X2_takeBack rfl (by decide +kernel) ⟨rfl, rfl⟩ (by decide) rfl (fun s => ⟨_, heH_1 B g s⟩) (cf_R_r _ _ _ _) dX3_back_21 ?_
    refine s_aload_n C rfl dX3_back_24 ?_
    refine s_get C inw_X3_back_X3 rfl (k := 0) (by decide) (by decide +kernel) (heH_0 B g) (fun _ => rfl) dX3_back_25 ?_
    refine s_get C inw_X3_back_X2 rfl (k := 5) (by decide) (by decide +kernel) (heH_1 B g) (fun _ => rfl) dX3_back_28 ?_
    exact s_iret C R dX3_back_31
  · refine s_aload_n C rfl dX3_back_10 ?_
    refine s_bipush C (by decide) dX3_back_11 ?_
    refine s_callV C (fr_H_H B g) (k_X3_refuse B g) gX3_back_X3_refuse rfl (by decide +kernel) ⟨rfl, rfl⟩ (by decide) rfl (fun s => ⟨_, heH_0 B g s⟩) (cf_RI_r _ _ _ _) dX3_back_13 ?_
    exact s_iret C R dX3_back_16
theorem k_X3_back (B : Bx) (g : Nat → Nat) : MtF (gx B) yX3_back wsX3_back (rmD 2) (encH B g) (F_X3_back g) := by
  refine cf_R_i (fun l S _ => Mt.of (by decide) rfl (Nat.le_of_ble_eq_true rfl) rfl (fun X C R => s_X3_back_0 B g C R) ?_)
  simp only [wIload, wAload, wLload, wK, wB, wDv, wU, wLB, wLU, wLS, wL2i, wLcmp, wIf1, wIf2, wKeep, wInc, wIst, wAst, wLst, wDup, wPop, wDup2, wGet, wPut, wPutZ, wIald, wLald, wIast, wLast, wLen, wRetI, wRetZ, wRetL, wRetA, wRetV, wM1, wM2, wCpy, wTab, tabW, nth, stL, stL2, dropL, keepL, mkL, padL, restOK, restOKn, tl_some, tl_none, id_eq, eq_self, true_and, and_true, bk_X3_back_0, F_X2_takeBack, F_X3_refuse, cf_RI_e, cf_R_e, true_or, or_true, hNowHh, hg_Now_Now, hg_Now_Mind, hg_Now_Image, hg_Now_Im, hg_Now_S, hg_Now_L, hg_Now_Ro, hg_Now_Rl, hg_Now_Re, hg_Mind_Now, hg_Mind_Mind, hg_Mind_Image, hg_Mind_Im, hg_Mind_S, hg_Mind_L, hg_Mind_Ro, hg_Mind_Rl, hg_Mind_Re, hg_Image_Now, hg_Image_Mind, hg_Image_Image, hg_Image_Im, hg_Image_S, hg_Image_L, hg_Image_Ro, hg_Image_Rl, hg_Image_Re, hg_Im_Now, hg_Im_Mind, hg_Im_Image, hg_Im_Im, hg_Im_S, hg_Im_L, hg_Im_Ro, hg_Im_Rl, hg_Im_Re, hg_S_Now, hg_S_Mind, hg_S_Image, hg_S_Im, hg_S_S, hg_S_L, hg_S_Ro, hg_S_Rl, hg_S_Re, hg_L_Now, hg_L_Mind, hg_L_Image, hg_L_Im, hg_L_S, hg_L_L, hg_L_Ro, hg_L_Rl, hg_L_Re, hg_Ro_Now, hg_Ro_Mind, hg_Ro_Image, hg_Ro_Im, hg_Ro_S, hg_Ro_L, hg_Ro_Ro, hg_Ro_Rl, hg_Ro_Re, hg_Rl_Now, hg_Rl_Mind, hg_Rl_Image, hg_Rl_Im, hg_Rl_S, hg_Rl_L, hg_Rl_Ro, hg_Rl_Rl, hg_Rl_Re, hg_Re_Now, hg_Re_Mind, hg_Re_Image, hg_Re_Im, hg_Re_S, hg_Re_L, hg_Re_Ro, hg_Re_Rl, hg_Re_Re, he_Now, ho_Now, he_Mind, ho_Mind, he_Image, ho_Image, he_Im, ho_Im, he_S, ho_S, he_L, ho_L, he_Ro, ho_Ro, he_Rl, ho_Rl, he_Re, ho_Re]
  repeat' first | refine And.intro ?_ ?_ | intro _
  all_goals grind [r_back]
def r_year (S : HS) : Int32 × HS := if 99 ≤ tYr (hNow S) then (-6, hRef S (-6)) else (tYr (hNow S) + 1, hsNow S (tsYr (hNow S) (tYr (hNow S) + 1)))
def F_X3_year (g : Nat → Nat) : CF HS := cf_R (g 0) (fun _ => True) (fun S => some (.int (r_year S).1)) (fun S => (r_year S).2)
theorem inw_X3_year_X2 : ∀ w ∈ u_ws RX2 TX2 8, w ∈ wsX3_year := by decide +kernel
theorem inw_X3_year_X3 : ∀ w ∈ u_ws RX3 TX3 9, w ∈ wsX3_year := by decide +kernel
def bk_X3_year_0 (g : Nat → Nat) (Post : Option Value → HS → Prop)  (L : Lc) (st : List Value) (s : HS) : Prop :=
  (wAload 0 <| wGet (g 0) (fun _ => .ref (g 1)) <| wGet (g 1) (fun s => .int (hNowYr s)) <| wK (.int 99) <| wIf2 (fun x y => x < y) (wAload 0 <| wGet (g 0) (fun _ => .ref (g 1)) <| wDup <| wGet (g 1) (fun s => .int (hNowYr s)) <| wK (.int 1) <| wB (fun x y => x + y) <| wPut (g 1) hsNowYr <| wAload 0 <| wGet (g 0) (fun _ => .ref (g 1)) <| wGet (g 1) (fun s => .int (hNowYr s)) <| wRetI Post) (wAload 0 <| wK (.int (-6)) <| wCallR 2 (F_X3_refuse g) id (fun _ u => u) <| wRetI Post)) L st s
set_option maxRecDepth 20000 in
theorem s_X3_year_0 {X : Cx} (B : Bx) (g : Nat → Nat) {Post : Option Value → HS → Prop} (C : OkX X (gx B) cX3_year 1 wsX3_year RX3 (rmD 1)) (R : RtX X (gx B) (some .int) (encH B g) Post)  : Snd X (gx B) 1 (encH B g) 0 (bk_X3_year_0 g Post ) := by
  unfold bk_X3_year_0
  refine s_aload_n C rfl dX3_year_0 ?_
  refine s_get C inw_X3_year_X3 rfl (k := 0) (by decide) (by decide +kernel) (heH_0 B g) (fun _ => rfl) dX3_year_1 ?_
  refine s_get C inw_X3_year_X2 rfl (k := 7) (by decide) (by decide +kernel) (heH_1 B g) (fun _ => rfl) dX3_year_4 ?_
  refine s_bipush C (by decide) dX3_year_7 ?_
  refine s_icmp_lt C (tgt := 19) (by decide) dX3_year_9 ?_ ?_
  · refine s_aload_n C rfl dX3_year_19 ?_
    refine s_get C inw_X3_year_X3 rfl (k := 0) (by decide) (by decide +kernel) (heH_0 B g) (fun _ => rfl) dX3_year_20 ?_
    refine s_dup C dX3_year_23 ?_
    refine s_get C inw_X3_year_X2 rfl (k := 7) (by decide) (by decide +kernel) (heH_1 B g) (fun _ => rfl) dX3_year_24 ?_
    refine s_iconst C (by decide) dX3_year_27 ?_
    refine s_iadd C dX3_year_28 ?_
    refine s_put C inw_X3_year_X2 rfl (k := 7) (by decide) (by decide +kernel) tyX2_ok nmX2 (by decide +kernel) (by decide +kernel) (heH_1 B g) (fun _ => Nat.le_of_ble_eq_true rfl) (fun _ _ => rfl) dX3_year_29 ?_
    refine s_aload_n C rfl dX3_year_32 ?_
    refine s_get C inw_X3_year_X3 rfl (k := 0) (by decide) (by decide +kernel) (heH_0 B g) (fun _ => rfl) dX3_year_33 ?_
    refine s_get C inw_X3_year_X2 rfl (k := 7) (by decide) (by decide +kernel) (heH_1 B g) (fun _ => rfl) dX3_year_36 ?_
    exact s_iret C R dX3_year_39
  · refine s_aload_n C rfl dX3_year_12 ?_
    refine s_bipush C (by decide) dX3_year_13 ?_
    refine s_callV C (fr_H_H B g) (k_X3_refuse B g) gX3_year_X3_refuse rfl (by decide +kernel) ⟨rfl, rfl⟩ (by decide) rfl (fun s => ⟨_, heH_0 B g s⟩) (cf_RI_r _ _ _ _) dX3_year_15 ?_
    exact s_iret C R dX3_year_18
theorem k_X3_year (B : Bx) (g : Nat → Nat) : MtF (gx B) yX3_year wsX3_year (rmD 1) (encH B g) (F_X3_year g) := by
  refine cf_R_i (fun l S _ => Mt.of (by decide) rfl (Nat.le_of_ble_eq_true rfl) rfl (fun X C R => s_X3_year_0 B g C R) ?_)
  simp only [wIload, wAload, wLload, wK, wB, wDv, wU, wLB, wLU, wLS, wL2i, wLcmp, wIf1, wIf2, wKeep, wInc, wIst, wAst, wLst, wDup, wPop, wDup2, wGet, wPut, wPutZ, wIald, wLald, wIast, wLast, wLen, wRetI, wRetZ, wRetL, wRetA, wRetV, wM1, wM2, wCpy, wTab, tabW, nth, stL, stL2, dropL, keepL, mkL, padL, restOK, restOKn, tl_some, tl_none, id_eq, eq_self, true_and, and_true, bk_X3_year_0, F_X3_refuse, cf_RI_e, true_or, or_true, hNowYr, hsNowYr, hg_Now_Now, hg_Now_Mind, hg_Now_Image, hg_Now_Im, hg_Now_S, hg_Now_L, hg_Now_Ro, hg_Now_Rl, hg_Now_Re, hg_Mind_Now, hg_Mind_Mind, hg_Mind_Image, hg_Mind_Im, hg_Mind_S, hg_Mind_L, hg_Mind_Ro, hg_Mind_Rl, hg_Mind_Re, hg_Image_Now, hg_Image_Mind, hg_Image_Image, hg_Image_Im, hg_Image_S, hg_Image_L, hg_Image_Ro, hg_Image_Rl, hg_Image_Re, hg_Im_Now, hg_Im_Mind, hg_Im_Image, hg_Im_Im, hg_Im_S, hg_Im_L, hg_Im_Ro, hg_Im_Rl, hg_Im_Re, hg_S_Now, hg_S_Mind, hg_S_Image, hg_S_Im, hg_S_S, hg_S_L, hg_S_Ro, hg_S_Rl, hg_S_Re, hg_L_Now, hg_L_Mind, hg_L_Image, hg_L_Im, hg_L_S, hg_L_L, hg_L_Ro, hg_L_Rl, hg_L_Re, hg_Ro_Now, hg_Ro_Mind, hg_Ro_Image, hg_Ro_Im, hg_Ro_S, hg_Ro_L, hg_Ro_Ro, hg_Ro_Rl, hg_Ro_Re, hg_Rl_Now, hg_Rl_Mind, hg_Rl_Image, hg_Rl_Im, hg_Rl_S, hg_Rl_L, hg_Rl_Ro, hg_Rl_Rl, hg_Rl_Re, hg_Re_Now, hg_Re_Mind, hg_Re_Image, hg_Re_Im, hg_Re_S, hg_Re_L, hg_Re_Ro, hg_Re_Rl, hg_Re_Re, he_Now, ho_Now, he_Mind, ho_Mind, he_Image, ho_Image, he_Im, ho_Im, he_S, ho_S, he_L, ho_L, he_Ro, ho_Ro, he_Rl, ho_Rl, he_Re, ho_Re, tg_Pt_Pt, tg_Pt_Pp, tg_Pt_Nt, tg_Pt_Nn, tg_Pt_Bt, tg_Pt_Hh, tg_Pt_Se, tg_Pt_Yr, tg_Pp_Pt, tg_Pp_Pp, tg_Pp_Nt, tg_Pp_Nn, tg_Pp_Bt, tg_Pp_Hh, tg_Pp_Se, tg_Pp_Yr, tg_Nt_Pt, tg_Nt_Pp, tg_Nt_Nt, tg_Nt_Nn, tg_Nt_Bt, tg_Nt_Hh, tg_Nt_Se, tg_Nt_Yr, tg_Nn_Pt, tg_Nn_Pp, tg_Nn_Nt, tg_Nn_Nn, tg_Nn_Bt, tg_Nn_Hh, tg_Nn_Se, tg_Nn_Yr, tg_Bt_Pt, tg_Bt_Pp, tg_Bt_Nt, tg_Bt_Nn, tg_Bt_Bt, tg_Bt_Hh, tg_Bt_Se, tg_Bt_Yr, tg_Hh_Pt, tg_Hh_Pp, tg_Hh_Nt, tg_Hh_Nn, tg_Hh_Bt, tg_Hh_Hh, tg_Hh_Se, tg_Hh_Yr, tg_Se_Pt, tg_Se_Pp, tg_Se_Nt, tg_Se_Nn, tg_Se_Bt, tg_Se_Hh, tg_Se_Se, tg_Se_Yr, tg_Yr_Pt, tg_Yr_Pp, tg_Yr_Nt, tg_Yr_Nn, tg_Yr_Bt, tg_Yr_Hh, tg_Yr_Se, tg_Yr_Yr, te_Pt, to_Pt, te_Pp, to_Pp, te_Nt, to_Nt, te_Nn, to_Nn, te_Bt, to_Bt, te_Hh, to_Hh, te_Se, to_Se, te_Yr, to_Yr]
  repeat' first | refine And.intro ?_ ?_ | intro _
  all_goals grind [r_year]
end
