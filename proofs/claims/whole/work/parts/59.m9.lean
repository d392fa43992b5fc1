noncomputable section
theorem refI1 : refI (-1) := Or.inl rfl
theorem refI2 : refI (-2) := Or.inr (Or.inl rfl)
theorem refI3 : refI (-3) := Or.inr (Or.inr (Or.inl rfl))
theorem refI4 : refI (-4) := Or.inr (Or.inr (Or.inr (Or.inl rfl)))
theorem refI6 : refI (-6) := Or.inr (Or.inr (Or.inr (Or.inr rfl)))
/-- all that is in the model between two calls -/
def bnB (M : MS) : Prop := ∀ k, k < uHelps M → ixB 12 (mA 14 M k)
def tpB (M : MS) : Prop := ∃ t, t ≤ 64 ∧ mS 27 M = nI t
def mPub (M : MS) : Prop := mOK 60 M ∧ haB M ∧ yrB M ∧ bnB M ∧ tpB M
theorem mPub_n {M : MS} (h : mPub M) {n : Int32} (hn : uNeed M n = true) : ixB 12 n := by
  obtain ⟨e, h1⟩ := nnB_c h.1.2.2.1
  unfold uNeed at hn
  have hp := of_decide_eq_true hn
  rw [e] at hp
  obtain ⟨j, hj, rfl⟩ := nI_of hp.1
  refine ⟨j, ?_, rfl⟩
  have := (nI_lt_x hj).mp hp.2
  rw [nI_clamp (by omega)] at this
  omega
theorem mPub_p {M : MS} (h : mPub M) {p : Int32} (hp : uOne M p = true) : ixB 7 p := uOne_ix h.1.2.2.2.1 hp
def v_person (M : MS) (p w : Int32) : Int32 × MS := if uOne M p = false then (-1, uNo M (-1)) else if uIn w 0 5 = false then (-2, uNo M (-2)) else if w = 0 then (mA 1 M p.toNatClampNeg, M) else if w = 1 then (mA 2 M p.toNatClampNeg, M) else (mA 3 M (4 * p + w - 2).toNatClampNeg, M)
def F_X4_person (g : Nat → Nat) : CF MS := cf_RII (g 30) (fun M _ _ => mPub M) (fun M p w => some (.int (v_person M p w).1)) (fun M p w => (v_person M p w).2)
theorem inw_X4_person_X4 : ∀ w ∈ u_ws RX4 TX4 45, w ∈ wsX4_person := by decide +kernel
def bk_X4_person_69 (g : Nat → Nat) (Post : Option Value → MS → Prop)  (L : Lc) (st : List Value) (s : MS) : Prop :=
  (wRetI Post) L st s
set_option maxRecDepth 20000 in
theorem s_X4_person_69 {X : Cx} (B : Bx) (g : Nat → Nat) {Post : Option Value → MS → Prop} (C : OkX X (gx B) cX4_person 3 wsX4_person RX4 (rmD 1)) (R : RtX X (gx B) (some .int) (encM B g) Post)  : Snd X (gx B) 3 (encM B g) 69 (bk_X4_person_69 g Post ) := by
  unfold bk_X4_person_69
  exact s_iret C R dX4_person_69
def bk_X4_person_0 (g : Nat → Nat) (Post : Option Value → MS → Prop)  (L : Lc) (st : List Value) (s : MS) : Prop :=
  (wAload 0 <| wIload 1 <| wCallR 2 (F_X4_isOne g) id (fun _ u => u) <| wIf1 (fun x => x = 0) (wAload 0 <| wK (.int (-1)) <| wCallR 2 (F_X4_no g) id (fun _ u => u) <| wRetI Post) (wIload 2 <| wK (.int 0) <| wK (.int 5) <| wCallR 3 (F_X4_isIn) (fun _ => ()) (fun s _ => s) <| wIf1 (fun x => x = 0) (wAload 0 <| wK (.int (-2)) <| wCallR 2 (F_X4_no g) id (fun _ u => u) <| wRetI Post) (wIload 2 <| wIf1 (fun x => x = 0) (wAload 0 <| wGet (g 30) (fun _ => .ref (g 32)) <| wIload 1 <| wIald (g 32) 7 (mA 1) <| bk_X4_person_69 g Post ) (wIload 2 <| wK (.int 1) <| wIf2 (fun x y => x = y) (wAload 0 <| wGet (g 30) (fun _ => .ref (g 33)) <| wIload 1 <| wIald (g 33) 7 (mA 2) <| bk_X4_person_69 g Post ) (wAload 0 <| wGet (g 30) (fun _ => .ref (g 34)) <| wK (.int 4) <| wIload 1 <| wB (fun x y => x * y) <| wIload 2 <| wB (fun x y => x + y) <| wK (.int 2) <| wB (fun x y => x - y) <| wIald (g 34) 28 (mA 3) <| bk_X4_person_69 g Post ))))) L st s
set_option maxRecDepth 20000 in
theorem s_X4_person_0 {X : Cx} (B : Bx) (g : Nat → Nat) {Post : Option Value → MS → Prop} (C : OkX X (gx B) cX4_person 3 wsX4_person RX4 (rmD 1)) (R : RtX X (gx B) (some .int) (encM B g) Post)  : Snd X (gx B) 3 (encM B g) 0 (bk_X4_person_0 g Post ) := by
  unfold bk_X4_person_0
  refine s_aload_n C rfl dX4_person_0 ?_
  refine s_iload_n C rfl dX4_person_1 ?_
  refine s_callV C (fr_M_M B g) (k_X4_isOne B g) gX4_person_X4_isOne rfl (by decide +kernel) ⟨rfl, rfl⟩ (by decide) rfl (fun s => ⟨_, heM_0 B g s⟩) (cf_RI_r _ _ _ _) dX4_person_2 ?_
  refine s_if_ne C (tgt := 14) (by decide) dX4_person_5 ?_ ?_
  · refine s_iload_n C rfl dX4_person_14 ?_
    refine s_iconst C (by decide) dX4_person_15 ?_
    refine s_iconst C (by decide) dX4_person_16 ?_
    refine s_callS C (fr_M_E B g) (k_X4_isIn B) gX4_person_X4_isIn rfl (by decide +kernel) ⟨rfl, rfl⟩ (by decide) (cf_III_r _ _ _) dX4_person_17 ?_
    refine s_if_ne C (tgt := 30) (by decide) dX4_person_20 ?_ ?_
    · refine s_iload_n C rfl dX4_person_30 ?_
      refine s_if_ne C (tgt := 43) (by decide) dX4_person_31 ?_ ?_
      · refine s_iload_n C rfl dX4_person_43 ?_
        refine s_iconst C (by decide) dX4_person_44 ?_
        refine s_icmp_ne C (tgt := 57) (by decide) dX4_person_45 ?_ ?_
        · refine s_aload_n C rfl dX4_person_57 ?_
          refine s_get C inw_X4_person_X4 rfl (k := 3) (by decide) (by decide +kernel) (heM_0 B g) (fun _ => rfl) dX4_person_58 ?_
          refine s_iconst C (by decide) dX4_person_61 ?_
          refine s_iload_n C rfl dX4_person_62 ?_
          refine s_imul C dX4_person_63 ?_
          refine s_iload_n C rfl dX4_person_64 ?_
          refine s_iadd C dX4_person_65 ?_
          refine s_iconst C (by decide) dX4_person_66 ?_
          refine s_isub C dX4_person_67 ?_
          refine s_iald C (heM_4 B g) dX4_person_68 ?_
          exact s_X4_person_69 B g C R 
        · refine s_aload_n C rfl dX4_person_48 ?_
          refine s_get C inw_X4_person_X4 rfl (k := 2) (by decide) (by decide +kernel) (heM_0 B g) (fun _ => rfl) dX4_person_49 ?_
          refine s_iload_n C rfl dX4_person_52 ?_
          refine s_iald C (heM_3 B g) dX4_person_53 ?_
          refine s_goto C (tgt := 69) (by decide) dX4_person_54 ?_
          exact s_X4_person_69 B g C R 
      · refine s_aload_n C rfl dX4_person_34 ?_
        refine s_get C inw_X4_person_X4 rfl (k := 1) (by decide) (by decide +kernel) (heM_0 B g) (fun _ => rfl) dX4_person_35 ?_
        refine s_iload_n C rfl dX4_person_38 ?_
        refine s_iald C (heM_2 B g) dX4_person_39 ?_
        refine s_goto C (tgt := 69) (by decide) dX4_person_40 ?_
        exact s_X4_person_69 B g C R 
    · refine s_aload_n C rfl dX4_person_23 ?_
      refine s_bipush C (by decide) dX4_person_24 ?_
      refine s_callV C (fr_M_M B g) (k_X4_no B g) gX4_person_X4_no rfl (by decide +kernel) ⟨rfl, rfl⟩ (by decide) rfl (fun s => ⟨_, heM_0 B g s⟩) (cf_RI_r _ _ _ _) dX4_person_26 ?_
      exact s_iret C R dX4_person_29
  · refine s_aload_n C rfl dX4_person_8 ?_
    refine s_iconst C (by decide) dX4_person_9 ?_
    refine s_callV C (fr_M_M B g) (k_X4_no B g) gX4_person_X4_no rfl (by decide +kernel) ⟨rfl, rfl⟩ (by decide) rfl (fun s => ⟨_, heM_0 B g s⟩) (cf_RI_r _ _ _ _) dX4_person_10 ?_
    exact s_iret C R dX4_person_13
theorem person_ix {p w : Int32} (hp : ixB 7 p) (hw : uIn w 0 5 = true) (h0 : ¬ w = 0) (h1 : ¬ w = 1) : ∃ a b, a < 7 ∧ b < 4 ∧ p = nI a ∧ w = nI (b + 2) ∧ 4 * p + w - 2 = nI (4 * a + b) := by
  obtain ⟨a, ha, rfl⟩ := hp
  unfold uIn at hw
  obtain ⟨h2, h3⟩ := of_decide_eq_true hw
  obtain ⟨j, hj, rfl⟩ := nI_of2 (M := 5) (n := 5) rfl (Int32.not_lt.mpr h2) h3
  rcases j with _ | _ | b
  · exact absurd rfl h0
  · exact absurd rfl h1
  · refine ⟨a, b, ha, by omega, rfl, rfl, ?_⟩
    rw [show (4 : Int32) = nI 4 from rfl, pk_mul, nI_add, show 4 * a + (b + 2) = 4 * a + b + 1 + 1 by omega, show (2 : Int32) = 1 + 1 from by decide, ← Int32.sub_sub, nI_pred, nI_pred]
theorem k_X4_person (B : Bx) (g : Nat → Nat) : MtF (gx B) yX4_person wsX4_person (rmD 1) (encM B g) (F_X4_person g) := by
  refine cf_RII_i (fun l M p w h => Mt.of (by decide) rfl (Nat.le_of_ble_eq_true rfl) rfl (fun X C R => s_X4_person_0 B g C R) ?_)
  have hv := fun z => ixB_v (mPub_p h (p := p) z) (by decide)
  have hx : uOne M p = true → uIn w 0 5 = true → ¬ w = 0 → ¬ w = 1 → vp_in (4 * p + w - 2) 28 := fun z1 z2 z3 z4 => by
    obtain ⟨a, b, ha, hb, -, -, e⟩ := person_ix (mPub_p h z1) z2 z3 z4
    rw [e]
    exact vp_in_nI (by omega) (by decide)
  unfold vp_in at hv hx
  simp only [wIload, wAload, wLload, wK, wB, wDv, wU, wLB, wLU, wLS, wL2i, wLcmp, wIf1, wIf2, wKeep, wInc, wIst, wAst, wLst, wDup, wPop, wDup2, wGet, wPut, wPutZ, wIald, wLald, wIast, wLast, wLen, wRetI, wRetZ, wRetL, wRetA, wRetV, wM1, wM2, wCpy, wTab, tabW, nth, stL, stL2, dropL, keepL, mkL, padL, restOK, restOKn, tl_some, tl_none, id_eq, eq_self, true_and, and_true, bk_X4_person_69, bk_X4_person_0, F_X4_isIn, F_X4_isOne, F_X4_no, cf_III_e, cf_RI_e, mS_S, mA_A, mS_A, mA_S, mS_a, mA_a, Nat.reduceEqDiff, reduceIte, b2i_eq0, refI1, refI2]
  repeat' first | refine And.intro ?_ ?_ | intro _
  all_goals grind [v_person]
def v_need (M : MS) (n w : Int32) : Int32 × MS := if uNeed M n = false then (-1, uNo M (-1)) else if w = 0 then (mA 4 M n.toNatClampNeg, M) else if w = 1 then (mA 5 M n.toNatClampNeg, M) else if w = 2 then (mA 6 M n.toNatClampNeg, M) else if w = 3 then (mA 7 M n.toNatClampNeg, M) else if w = 4 then (mA 8 M n.toNatClampNeg, M) else if w = 5 then (mA 9 M n.toNatClampNeg, M) else (-2, uNo M (-2))
def F_X4_need (g : Nat → Nat) : CF MS := cf_RII (g 30) (fun M _ _ => mPub M) (fun M p w => some (.int (v_need M p w).1)) (fun M p w => (v_need M p w).2)
theorem inw_X4_need_X4 : ∀ w ∈ u_ws RX4 TX4 45, w ∈ wsX4_need := by decide +kernel
def bk_X4_need_0 (g : Nat → Nat) (Post : Option Value → MS → Prop)  (L : Lc) (st : List Value) (s : MS) : Prop :=
  (wAload 0 <| wIload 1 <| wCallR 2 (F_X4_isNeed g) id (fun _ u => u) <| wIf1 (fun x => x = 0) (wAload 0 <| wK (.int (-1)) <| wCallR 2 (F_X4_no g) id (fun _ u => u) <| wRetI Post) (wIload 2 <| wTab [(0, wAload 0 <| wGet (g 30) (fun _ => .ref (g 35)) <| wIload 1 <| wIald (g 35) 13 (mA 4) <| wRetI Post), (1, wAload 0 <| wGet (g 30) (fun _ => .ref (g 36)) <| wIload 1 <| wIald (g 36) 13 (mA 5) <| wRetI Post), (2, wAload 0 <| wGet (g 30) (fun _ => .ref (g 37)) <| wIload 1 <| wIald (g 37) 13 (mA 6) <| wRetI Post), (3, wAload 0 <| wGet (g 30) (fun _ => .ref (g 38)) <| wIload 1 <| wIald (g 38) 13 (mA 7) <| wRetI Post), (4, wAload 0 <| wGet (g 30) (fun _ => .ref (g 39)) <| wIload 1 <| wIald (g 39) 13 (mA 8) <| wRetI Post), (5, wAload 0 <| wGet (g 30) (fun _ => .ref (g 40)) <| wIload 1 <| wIald (g 40) 13 (mA 9) <| wRetI Post)] (wAload 0 <| wK (.int (-2)) <| wCallR 2 (F_X4_no g) id (fun _ u => u) <| wRetI Post))) L st s
set_option maxRecDepth 20000 in
theorem s_X4_need_0 {X : Cx} (B : Bx) (g : Nat → Nat) {Post : Option Value → MS → Prop} (C : OkX X (gx B) cX4_need 3 wsX4_need RX4 (rmD 1)) (R : RtX X (gx B) (some .int) (encM B g) Post)  : Snd X (gx B) 3 (encM B g) 0 (bk_X4_need_0 g Post ) := by
  unfold bk_X4_need_0
  refine s_aload_n C rfl dX4_need_0 ?_
  refine s_iload_n C rfl dX4_need_1 ?_
  refine s_callV C (fr_M_M B g) (k_X4_isNeed B g) gX4_need_X4_isNeed rfl (by decide +kernel) ⟨rfl, rfl⟩ (by decide) rfl (fun s => ⟨_, heM_0 B g s⟩) (cf_RI_r _ _ _ _) dX4_need_2 ?_
  refine s_if_ne C (tgt := 14) (by decide) dX4_need_5 ?_ ?_
  · refine s_iload_n C rfl dX4_need_14 ?_
    refine s_tab C 94 [52, 59, 66, 73, 80, 87] dX4_need_15 (by decide) (by decide) rfl rfl rfl ?_ ?_
    · refine s_aload_n C rfl dX4_need_94 ?_
      refine s_bipush C (by decide) dX4_need_95 ?_
      refine s_callV C (fr_M_M B g) (k_X4_no B g) gX4_need_X4_no rfl (by decide +kernel) ⟨rfl, rfl⟩ (by decide) rfl (fun s => ⟨_, heM_0 B g s⟩) (cf_RI_r _ _ _ _) dX4_need_97 ?_
      exact s_iret C R dX4_need_100
    · refine ⟨?_, ?_, ?_, ?_, ?_, ?_, trivial⟩
      · refine s_aload_n C rfl dX4_need_52 ?_
        refine s_get C inw_X4_need_X4 rfl (k := 4) (by decide) (by decide +kernel) (heM_0 B g) (fun _ => rfl) dX4_need_53 ?_
        refine s_iload_n C rfl dX4_need_56 ?_
        refine s_iald C (heM_5 B g) dX4_need_57 ?_
        exact s_iret C R dX4_need_58
      · refine s_aload_n C rfl dX4_need_59 ?_
        refine s_get C inw_X4_need_X4 rfl (k := 5) (by decide) (by decide +kernel) (heM_0 B g) (fun _ => rfl) dX4_need_60 ?_
        refine s_iload_n C rfl dX4_need_63 ?_
        refine s_iald C (heM_6 B g) dX4_need_64 ?_
        exact s_iret C R dX4_need_65
      · refine s_aload_n C rfl dX4_need_66 ?_
        refine s_get C inw_X4_need_X4 rfl (k := 6) (by decide) (by decide +kernel) (heM_0 B g) (fun _ => rfl) dX4_need_67 ?_
        refine s_iload_n C rfl dX4_need_70 ?_
        refine s_iald C (heM_7 B g) dX4_need_71 ?_
        exact s_iret C R dX4_need_72
      · refine s_aload_n C rfl dX4_need_73 ?_
        refine s_get C inw_X4_need_X4 rfl (k := 7) (by decide) (by decide +kernel) (heM_0 B g) (fun _ => rfl) dX4_need_74 ?_
        refine s_iload_n C rfl dX4_need_77 ?_
        refine s_iald C (heM_8 B g) dX4_need_78 ?_
        exact s_iret C R dX4_need_79
      · refine s_aload_n C rfl dX4_need_80 ?_
        refine s_get C inw_X4_need_X4 rfl (k := 8) (by decide) (by decide +kernel) (heM_0 B g) (fun _ => rfl) dX4_need_81 ?_
        refine s_iload_n C rfl dX4_need_84 ?_
        refine s_iald C (heM_9 B g) dX4_need_85 ?_
        exact s_iret C R dX4_need_86
      · refine s_aload_n C rfl dX4_need_87 ?_
        refine s_get C inw_X4_need_X4 rfl (k := 9) (by decide) (by decide +kernel) (heM_0 B g) (fun _ => rfl) dX4_need_88 ?_
        refine s_iload_n C rfl dX4_need_91 ?_
        refine s_iald C (heM_10 B g) dX4_need_92 ?_
        exact s_iret C R dX4_need_93
  · refine s_aload_n C rfl dX4_need_8 ?_
    refine s_iconst C (by decide) dX4_need_9 ?_
    refine s_callV C (fr_M_M B g) (k_X4_no B g) gX4_need_X4_no rfl (by decide +kernel) ⟨rfl, rfl⟩ (by decide) rfl (fun s => ⟨_, heM_0 B g s⟩) (cf_RI_r _ _ _ _) dX4_need_10 ?_
    exact s_iret C R dX4_need_13
theorem k_X4_need (B : Bx) (g : Nat → Nat) : MtF (gx B) yX4_need wsX4_need (rmD 1) (encM B g) (F_X4_need g) := by
  refine cf_RII_i (fun l M n w h => Mt.of (by decide) rfl (Nat.le_of_ble_eq_true rfl) rfl (fun X C R => s_X4_need_0 B g C R) ?_)
  have hv := fun z => ixB_v (n := 13) (ixB_le (mPub_n h (n := n) z) (by decide)) (by decide)
  unfold vp_in at hv
  simp only [wIload, wAload, wLload, wK, wB, wDv, wU, wLB, wLU, wLS, wL2i, wLcmp, wIf1, wIf2, wKeep, wInc, wIst, wAst, wLst, wDup, wPop, wDup2, wGet, wPut, wPutZ, wIald, wLald, wIast, wLast, wLen, wRetI, wRetZ, wRetL, wRetA, wRetV, wM1, wM2, wCpy, wTab, tabW, nth, stL, stL2, dropL, keepL, mkL, padL, restOK, restOKn, tl_some, tl_none, id_eq, eq_self, true_and, and_true, bk_X4_need_0, F_X4_isNeed, F_X4_no, cf_RI_e, mS_S, mA_A, mS_A, mA_S, mS_a, mA_a, Nat.reduceEqDiff, reduceIte, b2i_eq0, refI1, refI2]
  repeat' first | refine And.intro ?_ ?_ | intro _
  all_goals grind [v_need]
def v_set (M : MS) (w v : Int32) : Int32 × MS := if uIn w 0 3 = false then (-2, uNo M (-2)) else if uBd v (if w = 1 then 1 else 0) (if w = 0 then 3 else 9) = 0 then (if w = 0 then (mS 18 M, msS 18 M v) else if w = 1 then (mS 19 M, msS 19 M v) else if w = 2 then (mS 20 M, msS 20 M v) else if w = 3 then (mS 21 M, msS 21 M v) else (mS 21 M, M)) else (uBd v (if w = 1 then 1 else 0) (if w = 0 then 3 else 9), uNo M (uBd v (if w = 1 then 1 else 0) (if w = 0 then 3 else 9)))
def F_X4_set (g : Nat → Nat) : CF MS := cf_RII (g 30) (fun M _ _ => True) (fun M p w => some (.int (v_set M p w).1)) (fun M p w => (v_set M p w).2)
theorem inw_X4_set_X4 : ∀ w ∈ u_ws RX4 TX4 45, w ∈ wsX4_set := by decide +kernel
def bk_X4_set_131 (g : Nat → Nat) (Post : Option Value → MS → Prop)  (L : Lc) (st : List Value) (s : MS) : Prop :=
  (wIload 4 <| wRetI Post) L st s
set_option maxRecDepth 20000 in
theorem s_X4_set_131 {X : Cx} (B : Bx) (g : Nat → Nat) {Post : Option Value → MS → Prop} (C : OkX X (gx B) cX4_set 5 wsX4_set RX4 (rmD 1)) (R : RtX X (gx B) (some .int) (encM B g) Post)  : Snd X (gx B) 5 (encM B g) 131 (bk_X4_set_131 g Post ) := by
  unfold bk_X4_set_131
  refine s_iload C dX4_set_131 ?_
  exact s_iret C R dX4_set_133
def bk_X4_set_121 (g : Nat → Nat) (Post : Option Value → MS → Prop)  (L : Lc) (st : List Value) (s : MS) : Prop :=
  (wIload 1 <| wK (.int 3) <| wIf2 (fun x y => x = y) (wAload 0 <| wIload 2 <| wPut (g 30) (msS 21) <| bk_X4_set_131 g Post ) (bk_X4_set_131 g Post )) L st s
set_option maxRecDepth 20000 in
theorem s_X4_set_121 {X : Cx} (B : Bx) (g : Nat → Nat) {Post : Option Value → MS → Prop} (C : OkX X (gx B) cX4_set 5 wsX4_set RX4 (rmD 1)) (R : RtX X (gx B) (some .int) (encM B g) Post)  : Snd X (gx B) 5 (encM B g) 121 (bk_X4_set_121 g Post ) := by
  unfold bk_X4_set_121
  refine s_iload_n C rfl dX4_set_121 ?_
  refine s_iconst C (by decide) dX4_set_122 ?_
  refine s_icmp_ne C (tgt := 131) (by decide) dX4_set_123 ?_ ?_
  · exact s_X4_set_131 B g C R 
  · refine s_aload_n C rfl dX4_set_126 ?_
    refine s_iload_n C rfl dX4_set_127 ?_
    refine s_put C inw_X4_set_X4 rfl (k := 21) (by decide) (by decide +kernel) tyX4_ok nmX4 (by decide +kernel) (by decide +kernel) (heM_0 B g) (fun _ => Nat.le_of_ble_eq_true rfl) (fun _ _ => rfl) dX4_set_128 ?_
    exact s_X4_set_131 B g C R 
def bk_X4_set_111 (g : Nat → Nat) (Post : Option Value → MS → Prop)  (L : Lc) (st : List Value) (s : MS) : Prop :=
  (wIload 1 <| wK (.int 2) <| wIf2 (fun x y => x = y) (wAload 0 <| wIload 2 <| wPut (g 30) (msS 20) <| bk_X4_set_121 g Post ) (bk_X4_set_121 g Post )) L st s
set_option maxRecDepth 20000 in
theorem s_X4_set_111 {X : Cx} (B : Bx) (g : Nat → Nat) {Post : Option Value → MS → Prop} (C : OkX X (gx B) cX4_set 5 wsX4_set RX4 (rmD 1)) (R : RtX X (gx B) (some .int) (encM B g) Post)  : Snd X (gx B) 5 (encM B g) 111 (bk_X4_set_111 g Post ) := by
  unfold bk_X4_set_111
  refine s_iload_n C rfl dX4_set_111 ?_
  refine s_iconst C (by decide) dX4_set_112 ?_
  refine s_icmp_ne C (tgt := 121) (by decide) dX4_set_113 ?_ ?_
  · exact s_X4_set_121 B g C R 
  · refine s_aload_n C rfl dX4_set_116 ?_
    refine s_iload_n C rfl dX4_set_117 ?_
    refine s_put C inw_X4_set_X4 rfl (k := 20) (by decide) (by decide +kernel) tyX4_ok nmX4 (by decide +kernel) (by decide +kernel) (heM_0 B g) (fun _ => Nat.le_of_ble_eq_true rfl) (fun _ _ => rfl) dX4_set_118 ?_
    exact s_X4_set_121 B g C R 
def bk_X4_set_101 (g : Nat → Nat) (Post : Option Value → MS → Prop)  (L : Lc) (st : List Value) (s : MS) : Prop :=
  (wIload 1 <| wK (.int 1) <| wIf2 (fun x y => x = y) (wAload 0 <| wIload 2 <| wPut (g 30) (msS 19) <| bk_X4_set_111 g Post ) (bk_X4_set_111 g Post )) L st s
set_option maxRecDepth 20000 in
theorem s_X4_set_101 {X : Cx} (B : Bx) (g : Nat → Nat) {Post : Option Value → MS → Prop} (C : OkX X (gx B) cX4_set 5 wsX4_set RX4 (rmD 1)) (R : RtX X (gx B) (some .int) (encM B g) Post)  : Snd X (gx B) 5 (encM B g) 101 (bk_X4_set_101 g Post ) := by
  unfold bk_X4_set_101
  refine s_iload_n C rfl dX4_set_101 ?_
  refine s_iconst C (by decide) dX4_set_102 ?_
  refine s_icmp_ne C (tgt := 111) (by decide) dX4_set_103 ?_ ?_
  · exact s_X4_set_111 B g C R 
  · refine s_aload_n C rfl dX4_set_106 ?_
    refine s_iload_n C rfl dX4_set_107 ?_
    refine s_put C inw_X4_set_X4 rfl (k := 19) (by decide) (by decide +kernel) tyX4_ok nmX4 (by decide +kernel) (by decide +kernel) (heM_0 B g) (fun _ => Nat.le_of_ble_eq_true rfl) (fun _ _ => rfl) dX4_set_108 ?_
    exact s_X4_set_111 B g C R 
def bk_X4_set_90 (g : Nat → Nat) (Post : Option Value → MS → Prop)  (L : Lc) (st : List Value) (s : MS) : Prop :=
  (wIst 4 <| wIload 1 <| wIf1 (fun x => x = 0) (wAload 0 <| wIload 2 <| wPut (g 30) (msS 18) <| bk_X4_set_101 g Post ) (bk_X4_set_101 g Post )) L st s
set_option maxRecDepth 20000 in
theorem s_X4_set_90 {X : Cx} (B : Bx) (g : Nat → Nat) {Post : Option Value → MS → Prop} (C : OkX X (gx B) cX4_set 5 wsX4_set RX4 (rmD 1)) (R : RtX X (gx B) (some .int) (encM B g) Post)  : Snd X (gx B) 5 (encM B g) 90 (bk_X4_set_90 g Post ) := by
  unfold bk_X4_set_90
  refine s_istore C (by decide) dX4_set_90 ?_
  refine s_iload_n C rfl dX4_set_92 ?_
  refine s_if_ne C (tgt := 101) (by decide) dX4_set_93 ?_ ?_
  · exact s_X4_set_101 B g C R 
  · refine s_aload_n C rfl dX4_set_96 ?_
    refine s_iload_n C rfl dX4_set_97 ?_
    refine s_put C inw_X4_set_X4 rfl (k := 18) (by decide) (by decide +kernel) tyX4_ok nmX4 (by decide +kernel) (by decide +kernel) (heM_0 B g) (fun _ => Nat.le_of_ble_eq_true rfl) (fun _ _ => rfl) dX4_set_98 ?_
    exact s_X4_set_101 B g C R 
def bk_X4_set_37 (g : Nat → Nat) (Post : Option Value → MS → Prop)  (L : Lc) (st : List Value) (s : MS) : Prop :=
  (wCallR 3 (F_X4_bound) (fun _ => ()) (fun s _ => s) <| wIst 3 <| wIload 3 <| wIf1 (fun x => x = 0) (wIload 1 <| wIf1 (fun x => x = 0) (wAload 0 <| wGet (g 30) (fun s => .int (mS 18 s)) <| bk_X4_set_90 g Post ) (wIload 1 <| wK (.int 1) <| wIf2 (fun x y => x = y) (wAload 0 <| wGet (g 30) (fun s => .int (mS 19 s)) <| bk_X4_set_90 g Post ) (wIload 1 <| wK (.int 2) <| wIf2 (fun x y => x = y) (wAload 0 <| wGet (g 30) (fun s => .int (mS 20 s)) <| bk_X4_set_90 g Post ) (wAload 0 <| wGet (g 30) (fun s => .int (mS 21 s)) <| bk_X4_set_90 g Post )))) (wAload 0 <| wIload 3 <| wCallR 2 (F_X4_no g) id (fun _ u => u) <| wRetI Post)) L st s
set_option maxRecDepth 20000 in
theorem s_X4_set_37 {X : Cx} (B : Bx) (g : Nat → Nat) {Post : Option Value → MS → Prop} (C : OkX X (gx B) cX4_set 5 wsX4_set RX4 (rmD 1)) (R : RtX X (gx B) (some .int) (encM B g) Post)  : Snd X (gx B) 5 (encM B g) 37 (bk_X4_set_37 g Post ) := by
  unfold bk_X4_set_37
  refine s_callS C (fr_M_E B g) (k_X4_bound B) gX4_set_X4_bound rfl (by decide +kernel) ⟨rfl, rfl⟩ (by decide) (cf_III_r _ _ _) dX4_set_37 ?_
  refine s_istore_n C rfl (by decide) dX4_set_40 ?_
  refine s_iload_n C rfl dX4_set_41 ?_
  refine s_if_eq C (tgt := 51) (by decide) dX4_set_42 ?_ ?_
  · refine s_iload_n C rfl dX4_set_51 ?_
    refine s_if_ne C (tgt := 62) (by decide) dX4_set_52 ?_ ?_
    · refine s_iload_n C rfl dX4_set_62 ?_
      refine s_iconst C (by decide) dX4_set_63 ?_
      refine s_icmp_ne C (tgt := 74) (by decide) dX4_set_64 ?_ ?_
      · refine s_iload_n C rfl dX4_set_74 ?_
        refine s_iconst C (by decide) dX4_set_75 ?_
        refine s_icmp_ne C (tgt := 86) (by decide) dX4_set_76 ?_ ?_
        · refine s_aload_n C rfl dX4_set_86 ?_
          refine s_get C inw_X4_set_X4 rfl (k := 21) (by decide) (by decide +kernel) (heM_0 B g) (fun _ => rfl) dX4_set_87 ?_
          exact s_X4_set_90 B g C R 
        · refine s_aload_n C rfl dX4_set_79 ?_
          refine s_get C inw_X4_set_X4 rfl (k := 20) (by decide) (by decide +kernel) (heM_0 B g) (fun _ => rfl) dX4_set_80 ?_
          refine s_goto C (tgt := 90) (by decide) dX4_set_83 ?_
          exact s_X4_set_90 B g C R 
      · refine s_aload_n C rfl dX4_set_67 ?_
        refine s_get C inw_X4_set_X4 rfl (k := 19) (by decide) (by decide +kernel) (heM_0 B g) (fun _ => rfl) dX4_set_68 ?_
        refine s_goto C (tgt := 90) (by decide) dX4_set_71 ?_
        exact s_X4_set_90 B g C R 
    · refine s_aload_n C rfl dX4_set_55 ?_
      refine s_get C inw_X4_set_X4 rfl (k := 18) (by decide) (by decide +kernel) (heM_0 B g) (fun _ => rfl) dX4_set_56 ?_
      refine s_goto C (tgt := 90) (by decide) dX4_set_59 ?_
      exact s_X4_set_90 B g C R 
  · refine s_aload_n C rfl dX4_set_45 ?_
    refine s_iload_n C rfl dX4_set_46 ?_
    refine s_callV C (fr_M_M B g) (k_X4_no B g) gX4_set_X4_no rfl (by decide +kernel) ⟨rfl, rfl⟩ (by decide) rfl (fun s => ⟨_, heM_0 B g s⟩) (cf_RI_r _ _ _ _) dX4_set_47 ?_
    exact s_iret C R dX4_set_50
def bk_X4_set_27 (g : Nat → Nat) (Post : Option Value → MS → Prop)  (L : Lc) (st : List Value) (s : MS) : Prop :=
  (wIload 1 <| wIf1 (fun x => x = 0) (wK (.int 3) <| bk_X4_set_37 g Post ) (wK (.int 9) <| bk_X4_set_37 g Post )) L st s
set_option maxRecDepth 20000 in
theorem s_X4_set_27 {X : Cx} (B : Bx) (g : Nat → Nat) {Post : Option Value → MS → Prop} (C : OkX X (gx B) cX4_set 5 wsX4_set RX4 (rmD 1)) (R : RtX X (gx B) (some .int) (encM B g) Post)  : Snd X (gx B) 5 (encM B g) 27 (bk_X4_set_27 g Post ) := by
  unfold bk_X4_set_27
  refine s_iload_n C rfl dX4_set_27 ?_
  refine s_if_ne C (tgt := 35) (by decide) dX4_set_28 ?_ ?_
  · refine s_bipush C (by decide) dX4_set_35 ?_
    exact s_X4_set_37 B g C R 
  · refine s_iconst C (by decide) dX4_set_31 ?_
    refine s_goto C (tgt := 37) (by decide) dX4_set_32 ?_
    exact s_X4_set_37 B g C R 
def bk_X4_set_0 (g : Nat → Nat) (Post : Option Value → MS → Prop)  (L : Lc) (st : List Value) (s : MS) : Prop :=
  (wIload 1 <| wK (.int 0) <| wK (.int 3) <| wCallR 3 (F_X4_isIn) (fun _ => ()) (fun s _ => s) <| wIf1 (fun x => x = 0) (wAload 0 <| wK (.int (-2)) <| wCallR 2 (F_X4_no g) id (fun _ u => u) <| wRetI Post) (wIload 2 <| wIload 1 <| wK (.int 1) <| wIf2 (fun x y => x = y) (wK (.int 1) <| bk_X4_set_27 g Post ) (wK (.int 0) <| bk_X4_set_27 g Post ))) L st s
set_option maxRecDepth 20000 in
theorem s_X4_set_0 {X : Cx} (B : Bx) (g : Nat → Nat) {Post : Option Value → MS → Prop} (C : OkX X (gx B) cX4_set 5 wsX4_set RX4 (rmD 1)) (R : RtX X (gx B) (some .int) (encM B g) Post)  : Snd X (gx B) 5 (encM B g) 0 (bk_X4_set_0 g Post ) := by
  unfold bk_X4_set_0
  refine s_iload_n C rfl dX4_set_0 ?_
  refine s_iconst C (by decide) dX4_set_1 ?_
  refine s_iconst C (by decide) dX4_set_2 ?_
  refine s_callS C (fr_M_E B g) (k_X4_isIn B) gX4_set_X4_isIn rfl (by decide +kernel) ⟨rfl, rfl⟩ (by decide) (cf_III_r _ _ _) dX4_set_3 ?_
  refine s_if_ne C (tgt := 16) (by decide) dX4_set_6 ?_ ?_
  · refine s_iload_n C rfl dX4_set_16 ?_
    refine s_iload_n C rfl dX4_set_17 ?_
    refine s_iconst C (by decide) dX4_set_18 ?_
    refine s_icmp_ne C (tgt := 26) (by decide) dX4_set_19 ?_ ?_
    · refine s_iconst C (by decide) dX4_set_26 ?_
      exact s_X4_set_27 B g C R 
    · refine s_iconst C (by decide) dX4_set_22 ?_
      refine s_goto C (tgt := 27) (by decide) dX4_set_23 ?_
      exact s_X4_set_27 B g C R 
  · refine s_aload_n C rfl dX4_set_9 ?_
    refine s_bipush C (by decide) dX4_set_10 ?_
    refine s_callV C (fr_M_M B g) (k_X4_no B g) gX4_set_X4_no rfl (by decide +kernel) ⟨rfl, rfl⟩ (by decide) rfl (fun s => ⟨_, heM_0 B g s⟩) (cf_RI_r _ _ _ _) dX4_set_12 ?_
    exact s_iret C R dX4_set_15
theorem refI_bd {v a b : Int32} (h : ¬ uBd v a b = 0) : refI (uBd v a b) := by
  unfold uBd at h ⊢
  split
  · exact refI4
  · split
    · exact refI6
    · rename_i h1 h2
      rw [if_neg h1, if_neg h2] at h
      exact absurd rfl h
theorem k_X4_set (B : Bx) (g : Nat → Nat) : MtF (gx B) yX4_set wsX4_set (rmD 1) (encM B g) (F_X4_set g) := by
  refine cf_RII_i (fun l M w v h => Mt.of (by decide) rfl (Nat.le_of_ble_eq_true rfl) rfl (fun X C R => s_X4_set_0 B g C R) ?_)
  have r3 := @refI_bd v 0 3
  have r9 := @refI_bd v 0 9
  have r1 := @refI_bd v 1 9
  have d13 : ¬ (1 : Int32) = 0 := by decide
  simp only [wIload, wAload, wLload, wK, wB, wDv, wU, wLB, wLU, wLS, wL2i, wLcmp, wIf1, wIf2, wKeep, wInc, wIst, wAst, wLst, wDup, wPop, wDup2, wGet, wPut, wPutZ, wIald, wLald, wIast, wLast, wLen, wRetI, wRetZ, wRetL, wRetA, wRetV, wM1, wM2, wCpy, wTab, tabW, nth, stL, stL2, dropL, keepL, mkL, padL, restOK, restOKn, tl_some, tl_none, id_eq, eq_self, true_and, and_true, bk_X4_set_131, bk_X4_set_121, bk_X4_set_111, bk_X4_set_101, bk_X4_set_90, bk_X4_set_37, bk_X4_set_27, bk_X4_set_0, F_X4_bound, F_X4_isIn, F_X4_no, cf_III_e, cf_RI_e, mS_S, mA_A, mS_A, mA_S, mS_a, mA_a, Nat.reduceEqDiff, reduceIte, b2i_eq0, refI2]
  repeat' first | refine And.intro ?_ ?_ | intro _
  all_goals grind [v_set]
def v_minutes (M : MS) (p q : Int32) : Int32 × MS := if uOne M p = true ∧ uOne M q = true then (uMin M p.toNatClampNeg q.toNatClampNeg, M) else (-1, uNo M (-1))
def F_X4_minutes (g : Nat → Nat) : CF MS := cf_RII (g 30) (fun M _ _ => mPub M) (fun M p w => some (.int (v_minutes M p w).1)) (fun M p w => (v_minutes M p w).2)
theorem inw_X4_minutes_X4 : ∀ w ∈ u_ws RX4 TX4 45, w ∈ wsX4_minutes := by decide +kernel
def bk_X4_minutes_30 (g : Nat → Nat) (Post : Option Value → MS → Prop)  (L : Lc) (st : List Value) (s : MS) : Prop :=
  (wRetI Post) L st s
set_option maxRecDepth 20000 in
theorem s_X4_minutes_30 {X : Cx} (B : Bx) (g : Nat → Nat) {Post : Option Value → MS → Prop} (C : OkX X (gx B) cX4_minutes 3 wsX4_minutes RX4 (rmD 1)) (R : RtX X (gx B) (some .int) (encM B g) Post)  : Snd X (gx B) 3 (encM B g) 30 (bk_X4_minutes_30 g Post ) := by
  unfold bk_X4_minutes_30
  exact s_iret C R dX4_minutes_30
def bk_X4_minutes_25 (g : Nat → Nat) (Post : Option Value → MS → Prop)  (L : Lc) (st : List Value) (s : MS) : Prop :=
  (wAload 0 <| wK (.int (-1)) <| wCallR 2 (F_X4_no g) id (fun _ u => u) <| bk_X4_minutes_30 g Post ) L st s
set_option maxRecDepth 20000 in
theorem s_X4_minutes_25 {X : Cx} (B : Bx) (g : Nat → Nat) {Post : Option Value → MS → Prop} (C : OkX X (gx B) cX4_minutes 3 wsX4_minutes RX4 (rmD 1)) (R : RtX X (gx B) (some .int) (encM B g) Post)  : Snd X (gx B) 3 (encM B g) 25 (bk_X4_minutes_25 g Post ) := by
  unfold bk_X4_minutes_25
  refine s_aload_n C rfl dX4_minutes_25 ?_
  refine s_iconst C (by decide) dX4_minutes_26 ?_
  refine s_callV C (fr_M_M B g) (k_X4_no B g) gX4_minutes_X4_no rfl (by decide +kernel) ⟨rfl, rfl⟩ (by decide) rfl (fun s => ⟨_, heM_0 B g s⟩) (cf_RI_r _ _ _ _) dX4_minutes_27 ?_
  exact s_X4_minutes_30 B g C R 
def bk_X4_minutes_0 (g : Nat → Nat) (Post : Option Value → MS → Prop)  (L : Lc) (st : List Value) (s : MS) : Prop :=
  (wAload 0 <| wIload 1 <| wCallR 2 (F_X4_isOne g) id (fun _ u => u) <| wIf1 (fun x => x = 0) (bk_X4_minutes_25 g Post ) (wAload 0 <| wIload 2 <| wCallR 2 (F_X4_isOne g) id (fun _ u => u) <| wIf1 (fun x => x = 0) (bk_X4_minutes_25 g Post ) (wAload 0 <| wIload 1 <| wIload 2 <| wCallR 3 (F_X4_minutesOf g) id (fun _ u => u) <| bk_X4_minutes_30 g Post ))) L st s
set_option maxRecDepth 20000 in
theorem s_X4_minutes_0 {X : Cx} (B : Bx) (g : Nat → Nat) {Post : Option Value → MS → Prop} (C : OkX X (gx B) cX4_minutes 3 wsX4_minutes RX4 (rmD 1)) (R : RtX X (gx B) (some .int) (encM B g) Post)  : Snd X (gx B) 3 (encM B g) 0 (bk_X4_minutes_0 g Post ) := by
  unfold bk_X4_minutes_0
  refine s_aload_n C rfl dX4_minutes_0 ?_
  refine s_iload_n C rfl dX4_minutes_1 ?_
  refine s_callV C (fr_M_M B g) (k_X4_isOne B g) gX4_minutes_X4_isOne rfl (by decide +kernel) ⟨rfl, rfl⟩ (by decide) rfl (fun s => ⟨_, heM_0 B g s⟩) (cf_RI_r _ _ _ _) dX4_minutes_2 ?_
  refine s_if_eq C (tgt := 25) (by decide) dX4_minutes_5 ?_ ?_
  · exact s_X4_minutes_25 B g C R 
  · refine s_aload_n C rfl dX4_minutes_8 ?_
    refine s_iload_n C rfl dX4_minutes_9 ?_
    refine s_callV C (fr_M_M B g) (k_X4_isOne B g) gX4_minutes_X4_isOne rfl (by decide +kernel) ⟨rfl, rfl⟩ (by decide) rfl (fun s => ⟨_, heM_0 B g s⟩) (cf_RI_r _ _ _ _) dX4_minutes_10 ?_
    refine s_if_eq C (tgt := 25) (by decide) dX4_minutes_13 ?_ ?_
    · exact s_X4_minutes_25 B g C R 
    · refine s_aload_n C rfl dX4_minutes_16 ?_
      refine s_iload_n C rfl dX4_minutes_17 ?_
      refine s_iload_n C rfl dX4_minutes_18 ?_
      refine s_callV C (fr_M_M B g) (k_X4_minutesOf B g) gX4_minutes_X4_minutesOf rfl (by decide +kernel) ⟨rfl, rfl⟩ (by decide) rfl (fun s => ⟨_, heM_0 B g s⟩) (cf_RII_r _ _ _ _) dX4_minutes_19 ?_
      refine s_goto C (tgt := 30) (by decide) dX4_minutes_22 ?_
      exact s_X4_minutes_30 B g C R 
theorem k_X4_minutes (B : Bx) (g : Nat → Nat) : MtF (gx B) yX4_minutes wsX4_minutes (rmD 1) (encM B g) (F_X4_minutes g) := by
  refine cf_RII_i (fun l M p q h => Mt.of (by decide) rfl (Nat.le_of_ble_eq_true rfl) rfl (fun X C R => s_X4_minutes_0 B g C R) ?_)
  have h1 := fun z => mPub_p h (p := p) z
  have h2 := fun z => mPub_p h (p := q) z
  simp only [wIload, wAload, wLload, wK, wB, wDv, wU, wLB, wLU, wLS, wL2i, wLcmp, wIf1, wIf2, wKeep, wInc, wIst, wAst, wLst, wDup, wPop, wDup2, wGet, wPut, wPutZ, wIald, wLald, wIast, wLast, wLen, wRetI, wRetZ, wRetL, wRetA, wRetV, wM1, wM2, wCpy, wTab, tabW, nth, stL, stL2, dropL, keepL, mkL, padL, restOK, restOKn, tl_some, tl_none, id_eq, eq_self, true_and, and_true, bk_X4_minutes_30, bk_X4_minutes_25, bk_X4_minutes_0, F_X4_isOne, F_X4_minutesOf, F_X4_no, cf_RII_e, cf_RI_e, mS_S, mA_A, mS_A, mA_S, mS_a, mA_a, Nat.reduceEqDiff, reduceIte, b2i_eq0, refI1]
  repeat' first | refine And.intro ?_ ?_ | intro _
  all_goals grind [v_minutes]
def v_spent (M : MS) (p q : Int32) : Int32 × MS := if uOne M p = true ∧ uOne M q = true ∧ ¬ p = q then (b2i (uSpent M p q), M) else (-1, uNo M (-1))
def F_X4_spent (g : Nat → Nat) : CF MS := cf_RII (g 30) (fun M _ _ => mPub M) (fun M p w => some (.int (v_spent M p w).1)) (fun M p w => (v_spent M p w).2)
theorem inw_X4_spent_X4 : ∀ w ∈ u_ws RX4 TX4 45, w ∈ wsX4_spent := by decide +kernel
def bk_X4_spent_43 (g : Nat → Nat) (Post : Option Value → MS → Prop)  (L : Lc) (st : List Value) (s : MS) : Prop :=
  (wRetI Post) L st s
set_option maxRecDepth 20000 in
theorem s_X4_spent_43 {X : Cx} (B : Bx) (g : Nat → Nat) {Post : Option Value → MS → Prop} (C : OkX X (gx B) cX4_spent 3 wsX4_spent RX4 (rmD 2)) (R : RtX X (gx B) (some .int) (encM B g) Post)  : Snd X (gx B) 3 (encM B g) 43 (bk_X4_spent_43 g Post ) := by
  unfold bk_X4_spent_43
  exact s_iret C R dX4_spent_43
def bk_X4_spent_21 (g : Nat → Nat) (Post : Option Value → MS → Prop)  (L : Lc) (st : List Value) (s : MS) : Prop :=
  (wAload 0 <| wK (.int (-1)) <| wCallR 2 (F_X4_no g) id (fun _ u => u) <| bk_X4_spent_43 g Post ) L st s
set_option maxRecDepth 20000 in
theorem s_X4_spent_21 {X : Cx} (B : Bx) (g : Nat → Nat) {Post : Option Value → MS → Prop} (C : OkX X (gx B) cX4_spent 3 wsX4_spent RX4 (rmD 2)) (R : RtX X (gx B) (some .int) (encM B g) Post)  : Snd X (gx B) 3 (encM B g) 21 (bk_X4_spent_21 g Post ) := by
  unfold bk_X4_spent_21
  refine s_aload_n C rfl dX4_spent_21 ?_
  refine s_iconst C (by decide) dX4_spent_22 ?_
  refine s_callV C (fr_M_M B g) (k_X4_no B g) gX4_spent_X4_no rfl (by decide +kernel) ⟨rfl, rfl⟩ (by decide) rfl (fun s => ⟨_, heM_0 B g s⟩) (cf_RI_r _ _ _ _) dX4_spent_23 ?_
  refine s_goto C (tgt := 43) (by decide) dX4_spent_26 ?_
  exact s_X4_spent_43 B g C R 
def bk_X4_spent_0 (g : Nat → Nat) (Post : Option Value → MS → Prop)  (L : Lc) (st : List Value) (s : MS) : Prop :=
  (wAload 0 <| wIload 1 <| wCallR 2 (F_X4_isOne g) id (fun _ u => u) <| wIf1 (fun x => x = 0) (bk_X4_spent_21 g Post ) (wAload 0 <| wIload 2 <| wCallR 2 (F_X4_isOne g) id (fun _ u => u) <| wIf1 (fun x => x = 0) (bk_X4_spent_21 g Post ) (wIload 1 <| wIload 2 <| wIf2 (fun x y => x = y) (bk_X4_spent_21 g Post ) (wAload 0 <| wIload 1 <| wIload 2 <| wCallR 3 (F_X4_isSpent g) id (fun _ u => u) <| wIf1 (fun x => x = 0) (wK (.int 0) <| bk_X4_spent_43 g Post ) (wK (.int 1) <| bk_X4_spent_43 g Post ))))) L st s
set_option maxRecDepth 20000 in
theorem s_X4_spent_0 {X : Cx} (B : Bx) (g : Nat → Nat) {Post : Option Value → MS → Prop} (C : OkX X (gx B) cX4_spent 3 wsX4_spent RX4 (rmD 2)) (R : RtX X (gx B) (some .int) (encM B g) Post)  : Snd X (gx B) 3 (encM B g) 0 (bk_X4_spent_0 g Post ) := by
  unfold bk_X4_spent_0
  refine s_aload_n C rfl dX4_spent_0 ?_
  refine s_iload_n C rfl dX4_spent_1 ?_
  refine s_callV C (fr_M_M B g) (k_X4_isOne B g) gX4_spent_X4_isOne rfl (by decide +kernel) ⟨rfl, rfl⟩ (by decide) rfl (fun s => ⟨_, heM_0 B g s⟩) (cf_RI_r _ _ _ _) dX4_spent_2 ?_
  refine s_if_eq C (tgt := 21) (by decide) dX4_spent_5 ?_ ?_
  · exact s_X4_spent_21 B g C R 
  · refine s_aload_n C rfl dX4_spent_8 ?_
    refine s_iload_n C rfl dX4_spent_9 ?_
    refine s_callV C (fr_M_M B g) (k_X4_isOne B g) gX4_spent_X4_isOne rfl (by decide +kernel) ⟨rfl, rfl⟩ (by decide) rfl (fun s => ⟨_, heM_0 B g s⟩) (cf_RI_r _ _ _ _) dX4_spent_10 ?_
    refine s_if_eq C (tgt := 21) (by decide) dX4_spent_13 ?_ ?_
    · exact s_X4_spent_21 B g C R 
    · refine s_iload_n C rfl dX4_spent_16 ?_
      refine s_iload_n C rfl dX4_spent_17 ?_
      refine s_icmp_ne C (tgt := 29) (by decide) dX4_spent_18 ?_ ?_
      · refine s_aload_n C rfl dX4_spent_29 ?_
        refine s_iload_n C rfl dX4_spent_30 ?_
        refine s_iload_n C rfl dX4_spent_31 ?_
        refine s_callV C (fr_M_M B g) (k_X4_isSpent B g) gX4_spent_X4_isSpent rfl (by decide +kernel) ⟨rfl, rfl⟩ (by decide) rfl (fun s => ⟨_, heM_0 B g s⟩) (cf_RII_r _ _ _ _) dX4_spent_32 ?_
        refine s_if_eq C (tgt := 42) (by decide) dX4_spent_35 ?_ ?_
        · refine s_iconst C (by decide) dX4_spent_42 ?_
          exact s_X4_spent_43 B g C R 
        · refine s_iconst C (by decide) dX4_spent_38 ?_
          refine s_goto C (tgt := 43) (by decide) dX4_spent_39 ?_
          exact s_X4_spent_43 B g C R 
      · exact s_X4_spent_21 B g C R 
theorem k_X4_spent (B : Bx) (g : Nat → Nat) : MtF (gx B) yX4_spent wsX4_spent (rmD 2) (encM B g) (F_X4_spent g) := by
  refine cf_RII_i (fun l M p q h => Mt.of (by decide) rfl (Nat.le_of_ble_eq_true rfl) rfl (fun X C R => s_X4_spent_0 B g C R) ?_)
  have h1 := fun z => mPub_p h (p := p) z
  have h2 : hpB 400 M := hpB_le h.1.1 (by decide)
  simp only [wIload, wAload, wLload, wK, wB, wDv, wU, wLB, wLU, wLS, wL2i, wLcmp, wIf1, wIf2, wKeep, wInc, wIst, wAst, wLst, wDup, wPop, wDup2, wGet, wPut, wPutZ, wIald, wLald, wIast, wLast, wLen, wRetI, wRetZ, wRetL, wRetA, wRetV, wM1, wM2, wCpy, wTab, tabW, nth, stL, stL2, dropL, keepL, mkL, padL, restOK, restOKn, tl_some, tl_none, id_eq, eq_self, true_and, and_true, bk_X4_spent_43, bk_X4_spent_21, bk_X4_spent_0, F_X4_isOne, F_X4_isSpent, F_X4_no, cf_RII_e, cf_RI_e, mS_S, mA_A, mS_A, mA_S, mS_a, mA_a, Nat.reduceEqDiff, reduceIte, b2i_eq0, refI1, h2]
  repeat' first | refine And.intro ?_ ?_ | intro _
  all_goals grind [v_spent, b2i]
def v_may (M : MS) (p q : Int32) : Int32 × MS := if uOne M p = true ∧ uOne M q = true then (b2i (uMay M p q), M) else (-1, uNo M (-1))
def F_X4_may (g : Nat → Nat) : CF MS := cf_RII (g 30) (fun M _ _ => mPub M) (fun M p w => some (.int (v_may M p w).1)) (fun M p w => (v_may M p w).2)
theorem inw_X4_may_X4 : ∀ w ∈ u_ws RX4 TX4 45, w ∈ wsX4_may := by decide +kernel
def bk_X4_may_38 (g : Nat → Nat) (Post : Option Value → MS → Prop)  (L : Lc) (st : List Value) (s : MS) : Prop :=
  (wRetI Post) L st s
set_option maxRecDepth 20000 in
theorem s_X4_may_38 {X : Cx} (B : Bx) (g : Nat → Nat) {Post : Option Value → MS → Prop} (C : OkX X (gx B) cX4_may 3 wsX4_may RX4 (rmD 3)) (R : RtX X (gx B) (some .int) (encM B g) Post)  : Snd X (gx B) 3 (encM B g) 38 (bk_X4_may_38 g Post ) := by
  unfold bk_X4_may_38
  exact s_iret C R dX4_may_38
def bk_X4_may_16 (g : Nat → Nat) (Post : Option Value → MS → Prop)  (L : Lc) (st : List Value) (s : MS) : Prop :=
  (wAload 0 <| wK (.int (-1)) <| wCallR 2 (F_X4_no g) id (fun _ u => u) <| bk_X4_may_38 g Post ) L st s
set_option maxRecDepth 20000 in
theorem s_X4_may_16 {X : Cx} (B : Bx) (g : Nat → Nat) {Post : Option Value → MS → Prop} (C : OkX X (gx B) cX4_may 3 wsX4_may RX4 (rmD 3)) (R : RtX X (gx B) (some .int) (encM B g) Post)  : Snd X (gx B) 3 (encM B g) 16 (bk_X4_may_16 g Post ) := by
  unfold bk_X4_may_16
  refine s_aload_n C rfl dX4_may_16 ?_
  refine s_iconst C (by decide) dX4_may_17 ?_
  refine s_callV C (fr_M_M B g) (k_X4_no B g) gX4_may_X4_no rfl (by decide +kernel) ⟨rfl, rfl⟩ (by decide) rfl (fun s => ⟨_, heM_0 B g s⟩) (cf_RI_r _ _ _ _) dX4_may_18 ?_
  refine s_goto C (tgt := 38) (by decide) dX4_may_21 ?_
  exact s_X4_may_38 B g C R 
def bk_X4_may_0 (g : Nat → Nat) (Post : Option Value → MS → Prop)  (L : Lc) (st : List Value) (s : MS) : Prop :=
  (wAload 0 <| wIload 1 <| wCallR 2 (F_X4_isOne g) id (fun _ u => u) <| wIf1 (fun x => x = 0) (bk_X4_may_16 g Post ) (wAload 0 <| wIload 2 <| wCallR 2 (F_X4_isOne g) id (fun _ u => u) <| wIf1 (fun x => x = 0) (bk_X4_may_16 g Post ) (wAload 0 <| wIload 1 <| wIload 2 <| wCallR 3 (F_X4_mayHelp g) id (fun _ u => u) <| wIf1 (fun x => x = 0) (wK (.int 0) <| bk_X4_may_38 g Post ) (wK (.int 1) <| bk_X4_may_38 g Post )))) L st s
set_option maxRecDepth 20000 in
theorem s_X4_may_0 {X : Cx} (B : Bx) (g : Nat → Nat) {Post : Option Value → MS → Prop} (C : OkX X (gx B) cX4_may 3 wsX4_may RX4 (rmD 3)) (R : RtX X (gx B) (some .int) (encM B g) Post)  : Snd X (gx B) 3 (encM B g) 0 (bk_X4_may_0 g Post ) := by
  unfold bk_X4_may_0
  refine s_aload_n C rfl dX4_may_0 ?_
  refine s_iload_n C rfl dX4_may_1 ?_
  refine s_callV C (fr_M_M B g) (k_X4_isOne B g) gX4_may_X4_isOne rfl (by decide +kernel) ⟨rfl, rfl⟩ (by decide) rfl (fun s => ⟨_, heM_0 B g s⟩) (cf_RI_r _ _ _ _) dX4_may_2 ?_
  refine s_if_eq C (tgt := 16) (by decide) dX4_may_5 ?_ ?_
  · exact s_X4_may_16 B g C R 
  · refine s_aload_n C rfl dX4_may_8 ?_
    refine s_iload_n C rfl dX4_may_9 ?_
    refine s_callV C (fr_M_M B g) (k_X4_isOne B g) gX4_may_X4_isOne rfl (by decide +kernel) ⟨rfl, rfl⟩ (by decide) rfl (fun s => ⟨_, heM_0 B g s⟩) (cf_RI_r _ _ _ _) dX4_may_10 ?_
    refine s_if_ne C (tgt := 24) (by decide) dX4_may_13 ?_ ?_
    · refine s_aload_n C rfl dX4_may_24 ?_
      refine s_iload_n C rfl dX4_may_25 ?_
      refine s_iload_n C rfl dX4_may_26 ?_
      refine s_callV C (fr_M_M B g) (k_X4_mayHelp B g) gX4_may_X4_mayHelp rfl (by decide +kernel) ⟨rfl, rfl⟩ (by decide) rfl (fun s => ⟨_, heM_0 B g s⟩) (cf_RII_r _ _ _ _) dX4_may_27 ?_
      refine s_if_eq C (tgt := 37) (by decide) dX4_may_30 ?_ ?_
      · refine s_iconst C (by decide) dX4_may_37 ?_
        exact s_X4_may_38 B g C R 
      · refine s_iconst C (by decide) dX4_may_33 ?_
        refine s_goto C (tgt := 38) (by decide) dX4_may_34 ?_
        exact s_X4_may_38 B g C R 
    · exact s_X4_may_16 B g C R 
theorem k_X4_may (B : Bx) (g : Nat → Nat) : MtF (gx B) yX4_may wsX4_may (rmD 3) (encM B g) (F_X4_may g) := by
  refine cf_RII_i (fun l M p q h => Mt.of (by decide) rfl (Nat.le_of_ble_eq_true rfl) rfl (fun X C R => s_X4_may_0 B g C R) ?_)
  have h1 := fun z => mPub_p h (p := p) z
  have h3 := fun z => mPub_p h (p := q) z
  have h2 : hpB 400 M := hpB_le h.1.1 (by decide)
  simp only [wIload, wAload, wLload, wK, wB, wDv, wU, wLB, wLU, wLS, wL2i, wLcmp, wIf1, wIf2, wKeep, wInc, wIst, wAst, wLst, wDup, wPop, wDup2, wGet, wPut, wPutZ, wIald, wLald, wIast, wLast, wLen, wRetI, wRetZ, wRetL, wRetA, wRetV, wM1, wM2, wCpy, wTab, tabW, nth, stL, stL2, dropL, keepL, mkL, padL, restOK, restOKn, tl_some, tl_none, id_eq, eq_self, true_and, and_true, bk_X4_may_38, bk_X4_may_16, bk_X4_may_0, F_X4_isOne, F_X4_mayHelp, F_X4_no, cf_RII_e, cf_RI_e, mS_S, mA_A, mS_A, mA_S, mS_a, mA_a, Nat.reduceEqDiff, reduceIte, b2i_eq0, refI1, h2]
  repeat' first | refine And.intro ?_ ?_ | intro _
  all_goals grind [v_may, b2i]
def v_good (M : MS) (p n : Int32) : Int32 × MS := if uOne M p = true ∧ uNeed M n = true then (uGood M p.toNatClampNeg n.toNatClampNeg, M) else (-1, uNo M (-1))
def F_X4_good (g : Nat → Nat) : CF MS := cf_RII (g 30) (fun M _ _ => mPub M) (fun M p w => some (.int (v_good M p w).1)) (fun M p w => (v_good M p w).2)
theorem inw_X4_good_X4 : ∀ w ∈ u_ws RX4 TX4 45, w ∈ wsX4_good := by decide +kernel
def bk_X4_good_30 (g : Nat → Nat) (Post : Option Value → MS → Prop)  (L : Lc) (st : List Value) (s : MS) : Prop :=
  (wRetI Post) L st s
set_option maxRecDepth 20000 in
theorem s_X4_good_30 {X : Cx} (B : Bx) (g : Nat → Nat) {Post : Option Value → MS → Prop} (C : OkX X (gx B) cX4_good 3 wsX4_good RX4 (rmD 2)) (R : RtX X (gx B) (some .int) (encM B g) Post)  : Snd X (gx B) 3 (encM B g) 30 (bk_X4_good_30 g Post ) := by
  unfold bk_X4_good_30
  exact s_iret C R dX4_good_30
def bk_X4_good_25 (g : Nat → Nat) (Post : Option Value → MS → Prop)  (L : Lc) (st : List Value) (s : MS) : Prop :=
  (wAload 0 <| wK (.int (-1)) <| wCallR 2 (F_X4_no g) id (fun _ u => u) <| bk_X4_good_30 g Post ) L st s
set_option maxRecDepth 20000 in
theorem s_X4_good_25 {X : Cx} (B : Bx) (g : Nat → Nat) {Post : Option Value → MS → Prop} (C : OkX X (gx B) cX4_good 3 wsX4_good RX4 (rmD 2)) (R : RtX X (gx B) (some .int) (encM B g) Post)  : Snd X (gx B) 3 (encM B g) 25 (bk_X4_good_25 g Post ) := by
  unfold bk_X4_good_25
  refine s_aload_n C rfl dX4_good_25 ?_
  refine s_iconst C (by decide) dX4_good_26 ?_
  refine s_callV C (fr_M_M B g) (k_X4_no B g) gX4_good_X4_no rfl (by decide +kernel) ⟨rfl, rfl⟩ (by decide) rfl (fun s => ⟨_, heM_0 B g s⟩) (cf_RI_r _ _ _ _) dX4_good_27 ?_
  exact s_X4_good_30 B g C R 
def bk_X4_good_0 (g : Nat → Nat) (Post : Option Value → MS → Prop)  (L : Lc) (st : List Value) (s : MS) : Prop :=
  (wAload 0 <| wIload 1 <| wCallR 2 (F_X4_isOne g) id (fun _ u => u) <| wIf1 (fun x => x = 0) (bk_X4_good_25 g Post ) (wAload 0 <| wIload 2 <| wCallR 2 (F_X4_isNeed g) id (fun _ u => u) <| wIf1 (fun x => x = 0) (bk_X4_good_25 g Post ) (wAload 0 <| wIload 1 <| wIload 2 <| wCallR 3 (F_X4_goodOf g) id (fun _ u => u) <| bk_X4_good_30 g Post ))) L st s
set_option maxRecDepth 20000 in
theorem s_X4_good_0 {X : Cx} (B : Bx) (g : Nat → Nat) {Post : Option Value → MS → Prop} (C : OkX X (gx B) cX4_good 3 wsX4_good RX4 (rmD 2)) (R : RtX X (gx B) (some .int) (encM B g) Post)  : Snd X (gx B) 3 (encM B g) 0 (bk_X4_good_0 g Post ) := by
  unfold bk_X4_good_0
  refine s_aload_n C rfl dX4_good_0 ?_
  refine s_iload_n C rfl dX4_good_1 ?_
  refine s_callV C (fr_M_M B g) (k_X4_isOne B g) gX4_good_X4_isOne rfl (by decide +kernel) ⟨rfl, rfl⟩ (by decide) rfl (fun s => ⟨_, heM_0 B g s⟩) (cf_RI_r _ _ _ _) dX4_good_2 ?_
  refine s_if_eq C (tgt := 25) (by decide) dX4_good_5 ?_ ?_
  · exact s_X4_good_25 B g C R 
  · refine s_aload_n C rfl dX4_good_8 ?_
    refine s_iload_n C rfl dX4_good_9 ?_
    refine s_callV C (fr_M_M B g) (k_X4_isNeed B g) gX4_good_X4_isNeed rfl (by decide +kernel) ⟨rfl, rfl⟩ (by decide) rfl (fun s => ⟨_, heM_0 B g s⟩) (cf_RI_r _ _ _ _) dX4_good_10 ?_
    refine s_if_eq C (tgt := 25) (by decide) dX4_good_13 ?_ ?_
    · exact s_X4_good_25 B g C R 
    · refine s_aload_n C rfl dX4_good_16 ?_
      refine s_iload_n C rfl dX4_good_17 ?_
      refine s_iload_n C rfl dX4_good_18 ?_
      refine s_callV C (fr_M_M B g) (k_X4_goodOf B g) gX4_good_X4_goodOf rfl (by decide +kernel) ⟨rfl, rfl⟩ (by decide) rfl (fun s => ⟨_, heM_0 B g s⟩) (cf_RII_r _ _ _ _) dX4_good_19 ?_
      refine s_goto C (tgt := 30) (by decide) dX4_good_22 ?_
      exact s_X4_good_30 B g C R 
theorem k_X4_good (B : Bx) (g : Nat → Nat) : MtF (gx B) yX4_good wsX4_good (rmD 2) (encM B g) (F_X4_good g) := by
  refine cf_RII_i (fun l M p n h => Mt.of (by decide) rfl (Nat.le_of_ble_eq_true rfl) rfl (fun X C R => s_X4_good_0 B g C R) ?_)
  have h1 := fun z => mPub_p h (p := p) z
  have h3 := fun z => ixB_le (m := 13) (mPub_n h (n := n) z) (by decide)
  have h2 := h.1.2.1
  simp only [wIload, wAload, wLload, wK, wB, wDv, wU, wLB, wLU, wLS, wL2i, wLcmp, wIf1, wIf2, wKeep, wInc, wIst, wAst, wLst, wDup, wPop, wDup2, wGet, wPut, wPutZ, wIald, wLald, wIast, wLast, wLen, wRetI, wRetZ, wRetL, wRetA, wRetV, wM1, wM2, wCpy, wTab, tabW, nth, stL, stL2, dropL, keepL, mkL, padL, restOK, restOKn, tl_some, tl_none, id_eq, eq_self, true_and, and_true, bk_X4_good_30, bk_X4_good_25, bk_X4_good_0, F_X4_goodOf, F_X4_isNeed, F_X4_isOne, F_X4_no, cf_RII_e, cf_RI_e, mS_S, mA_A, mS_A, mA_S, mS_a, mA_a, Nat.reduceEqDiff, reduceIte, b2i_eq0, refI1, h2]
  repeat' first | refine And.intro ?_ ?_ | intro _
  all_goals grind [v_good]
def v_loss (M : MS) (p n : Int32) : Int32 × MS := if uOne M p = true ∧ uNeed M n = true then (uLoss M p.toNatClampNeg n.toNatClampNeg, M) else (-1, uNo M (-1))
def F_X4_loss (g : Nat → Nat) : CF MS := cf_RII (g 30) (fun M _ _ => mPub M) (fun M p w => some (.int (v_loss M p w).1)) (fun M p w => (v_loss M p w).2)
theorem inw_X4_loss_X4 : ∀ w ∈ u_ws RX4 TX4 45, w ∈ wsX4_loss := by decide +kernel
def bk_X4_loss_30 (g : Nat → Nat) (Post : Option Value → MS → Prop)  (L : Lc) (st : List Value) (s : MS) : Prop :=
  (wRetI Post) L st s
set_option maxRecDepth 20000 in
theorem s_X4_loss_30 {X : Cx} (B : Bx) (g : Nat → Nat) {Post : Option Value → MS → Prop} (C : OkX X (gx B) cX4_loss 3 wsX4_loss RX4 (rmD 3)) (R : RtX X (gx B) (some .int) (encM B g) Post)  : Snd X (gx B) 3 (encM B g) 30 (bk_X4_loss_30 g Post ) := by
  unfold bk_X4_loss_30
  exact s_iret C R dX4_loss_30
def bk_X4_loss_25 (g : Nat → Nat) (Post : Option Value → MS → Prop)  (L : Lc) (st : List Value) (s : MS) : Prop :=
  (wAload 0 <| wK (.int (-1)) <| wCallR 2 (F_X4_no g) id (fun _ u => u) <| bk_X4_loss_30 g Post ) L st s
set_option maxRecDepth 20000 in
theorem s_X4_loss_25 {X : Cx} (B : Bx) (g : Nat → Nat) {Post : Option Value → MS → Prop} (C : OkX X (gx B) cX4_loss 3 wsX4_loss RX4 (rmD 3)) (R : RtX X (gx B) (some .int) (encM B g) Post)  : Snd X (gx B) 3 (encM B g) 25 (bk_X4_loss_25 g Post ) := by
  unfold bk_X4_loss_25
  refine s_aload_n C rfl dX4_loss_25 ?_
  refine s_iconst C (by decide) dX4_loss_26 ?_
  refine s_callV C (fr_M_M B g) (k_X4_no B g) gX4_loss_X4_no rfl (by decide +kernel) ⟨rfl, rfl⟩ (by decide) rfl (fun s => ⟨_, heM_0 B g s⟩) (cf_RI_r _ _ _ _) dX4_loss_27 ?_
  exact s_X4_loss_30 B g C R 
def bk_X4_loss_0 (g : Nat → Nat) (Post : Option Value → MS → Prop)  (L : Lc) (st : List Value) (s : MS) : Prop :=
  (wAload 0 <| wIload 1 <| wCallR 2 (F_X4_isOne g) id (fun _ u => u) <| wIf1 (fun x => x = 0) (bk_X4_loss_25 g Post ) (wAload 0 <| wIload 2 <| wCallR 2 (F_X4_isNeed g) id (fun _ u => u) <| wIf1 (fun x => x = 0) (bk_X4_loss_25 g Post ) (wAload 0 <| wIload 1 <| wIload 2 <| wCallR 3 (F_X4_lossOf g) id (fun _ u => u) <| bk_X4_loss_30 g Post ))) L st s
set_option maxRecDepth 20000 in
theorem s_X4_loss_0 {X : Cx} (B : Bx) (g : Nat → Nat) {Post : Option Value → MS → Prop} (C : OkX X (gx B) cX4_loss 3 wsX4_loss RX4 (rmD 3)) (R : RtX X (gx B) (some .int) (encM B g) Post)  : Snd X (gx B) 3 (encM B g) 0 (bk_X4_loss_0 g Post ) := by
  unfold bk_X4_loss_0
  refine s_aload_n C rfl dX4_loss_0 ?_
  refine s_iload_n C rfl dX4_loss_1 ?_
  refine s_callV C (fr_M_M B g) (k_X4_isOne B g) gX4_loss_X4_isOne rfl (by decide +kernel) ⟨rfl, rfl⟩ (by decide) rfl (fun s => ⟨_, heM_0 B g s⟩) (cf_RI_r _ _ _ _) dX4_loss_2 ?_
  refine s_if_eq C (tgt := 25) (by decide) dX4_loss_5 ?_ ?_
  · exact s_X4_loss_25 B g C R 
  · refine s_aload_n C rfl dX4_loss_8 ?_
    refine s_iload_n C rfl dX4_loss_9 ?_
    refine s_callV C (fr_M_M B g) (k_X4_isNeed B g) gX4_loss_X4_isNeed rfl (by decide +kernel) ⟨rfl, rfl⟩ (by decide) rfl (fun s => ⟨_, heM_0 B g s⟩) (cf_RI_r _ _ _ _) dX4_loss_10 ?_
    refine s_if_eq C (tgt := 25) (by decide) dX4_loss_13 ?_ ?_
    · exact s_X4_loss_25 B g C R 
    · refine s_aload_n C rfl dX4_loss_16 ?_
      refine s_iload_n C rfl dX4_loss_17 ?_
      refine s_iload_n C rfl dX4_loss_18 ?_
      refine s_callV C (fr_M_M B g) (k_X4_lossOf B g) gX4_loss_X4_lossOf rfl (by decide +kernel) ⟨rfl, rfl⟩ (by decide) rfl (fun s => ⟨_, heM_0 B g s⟩) (cf_RII_r _ _ _ _) dX4_loss_19 ?_
      refine s_goto C (tgt := 30) (by decide) dX4_loss_22 ?_
      exact s_X4_loss_30 B g C R 
theorem k_X4_loss (B : Bx) (g : Nat → Nat) : MtF (gx B) yX4_loss wsX4_loss (rmD 3) (encM B g) (F_X4_loss g) := by
  refine cf_RII_i (fun l M p n h => Mt.of (by decide) rfl (Nat.le_of_ble_eq_true rfl) rfl (fun X C R => s_X4_loss_0 B g C R) ?_)
  have h1 := fun z => mPub_p h (p := p) z
  have h3 := fun z => ixB_le (m := 13) (mPub_n h (n := n) z) (by decide)
  have h2 := h.1.2.1
  have h4 := h.1.2.2.1
  simp only [wIload, wAload, wLload, wK, wB, wDv, wU, wLB, wLU, wLS, wL2i, wLcmp, wIf1, wIf2, wKeep, wInc, wIst, wAst, wLst, wDup, wPop, wDup2, wGet, wPut, wPutZ, wIald, wLald, wIast, wLast, wLen, wRetI, wRetZ, wRetL, wRetA, wRetV, wM1, wM2, wCpy, wTab, tabW, nth, stL, stL2, dropL, keepL, mkL, padL, restOK, restOKn, tl_some, tl_none, id_eq, eq_self, true_and, and_true, bk_X4_loss_30, bk_X4_loss_25, bk_X4_loss_0, F_X4_isNeed, F_X4_isOne, F_X4_lossOf, F_X4_no, cf_RII_e, cf_RI_e, mS_S, mA_A, mS_A, mA_S, mS_a, mA_a, Nat.reduceEqDiff, reduceIte, b2i_eq0, refI1, h2, h4]
  repeat' first | refine And.intro ?_ ?_ | intro _
  all_goals grind [v_loss]
def v_chosen (M : MS) (r n : Int32) : Int32 × MS := if 0 ≤ r ∧ r < 6 then (if uNeed M n = false then (-1, uNo M (-1)) else (uChose M r n, M)) else (-2, uNo M (-2))
def F_X4_chosen (g : Nat → Nat) : CF MS := cf_RII (g 30) (fun M _ _ => mPub M) (fun M p w => some (.int (v_chosen M p w).1)) (fun M p w => (v_chosen M p w).2)
theorem inw_X4_chosen_X4 : ∀ w ∈ u_ws RX4 TX4 45, w ∈ wsX4_chosen := by decide +kernel
def bk_X4_chosen_0 (g : Nat → Nat) (Post : Option Value → MS → Prop)  (L : Lc) (st : List Value) (s : MS) : Prop :=
  (wIload 1 <| wCallR 1 (F_X4_isRule) (fun _ => ()) (fun s _ => s) <| wIf1 (fun x => x = 0) (wAload 0 <| wK (.int (-2)) <| wCallR 2 (F_X4_no g) id (fun _ u => u) <| wRetI Post) (wAload 0 <| wIload 2 <| wCallR 2 (F_X4_isNeed g) id (fun _ u => u) <| wIf1 (fun x => x = 0) (wAload 0 <| wK (.int (-1)) <| wCallR 2 (F_X4_no g) id (fun _ u => u) <| wRetI Post) (wAload 0 <| wIload 1 <| wIload 2 <| wCallR 3 (F_X4_chooses g) id (fun _ u => u) <| wRetI Post))) L st s
set_option maxRecDepth 20000 in
theorem s_X4_chosen_0 {X : Cx} (B : Bx) (g : Nat → Nat) {Post : Option Value → MS → Prop} (C : OkX X (gx B) cX4_chosen 3 wsX4_chosen RX4 (rmD 6)) (R : RtX X (gx B) (some .int) (encM B g) Post)  : Snd X (gx B) 3 (encM B g) 0 (bk_X4_chosen_0 g Post ) := by
  unfold bk_X4_chosen_0
  refine s_iload_n C rfl dX4_chosen_0 ?_
  refine s_callS C (fr_M_E B g) (k_X4_isRule B) gX4_chosen_X4_isRule rfl (by decide +kernel) ⟨rfl, rfl⟩ (by decide) (cf_I_r _ _ _) dX4_chosen_1 ?_
  refine s_if_ne C (tgt := 14) (by decide) dX4_chosen_4 ?_ ?_
  · refine s_aload_n C rfl dX4_chosen_14 ?_
    refine s_iload_n C rfl dX4_chosen_15 ?_
    refine s_callV C (fr_M_M B g) (k_X4_isNeed B g) gX4_chosen_X4_isNeed rfl (by decide +kernel) ⟨rfl, rfl⟩ (by decide) rfl (fun s => ⟨_, heM_0 B g s⟩) (cf_RI_r _ _ _ _) dX4_chosen_16 ?_
    refine s_if_ne C (tgt := 28) (by decide) dX4_chosen_19 ?_ ?_
    · refine s_aload_n C rfl dX4_chosen_28 ?_
      refine s_iload_n C rfl dX4_chosen_29 ?_
      refine s_iload_n C rfl dX4_chosen_30 ?_
      refine s_callV C (fr_M_M B g) (k_X4_chooses B g) gX4_chosen_X4_chooses rfl (by decide +kernel) ⟨rfl, rfl⟩ (by decide) rfl (fun s => ⟨_, heM_0 B g s⟩) (cf_RII_r _ _ _ _) dX4_chosen_31 ?_
      exact s_iret C R dX4_chosen_34
    · refine s_aload_n C rfl dX4_chosen_22 ?_
      refine s_iconst C (by decide) dX4_chosen_23 ?_
      refine s_callV C (fr_M_M B g) (k_X4_no B g) gX4_chosen_X4_no rfl (by decide +kernel) ⟨rfl, rfl⟩ (by decide) rfl (fun s => ⟨_, heM_0 B g s⟩) (cf_RI_r _ _ _ _) dX4_chosen_24 ?_
      exact s_iret C R dX4_chosen_27
  · refine s_aload_n C rfl dX4_chosen_7 ?_
    refine s_bipush C (by decide) dX4_chosen_8 ?_
    refine s_callV C (fr_M_M B g) (k_X4_no B g) gX4_chosen_X4_no rfl (by decide +kernel) ⟨rfl, rfl⟩ (by decide) rfl (fun s => ⟨_, heM_0 B g s⟩) (cf_RI_r _ _ _ _) dX4_chosen_10 ?_
    exact s_iret C R dX4_chosen_13
theorem k_X4_chosen (B : Bx) (g : Nat → Nat) : MtF (gx B) yX4_chosen wsX4_chosen (rmD 6) (encM B g) (F_X4_chosen g) := by
  refine cf_RII_i (fun l M r n h => Mt.of (by decide) rfl (Nat.le_of_ble_eq_true rfl) rfl (fun X C R => s_X4_chosen_0 B g C R) ?_)
  have h3 := fun z => ixB_le (m := 13) (mPub_n h (n := n) z) (by decide)
  have h2 := mOK_le h.1 (show 60 ≤ 400 by decide)
  simp only [wIload, wAload, wLload, wK, wB, wDv, wU, wLB, wLU, wLS, wL2i, wLcmp, wIf1, wIf2, wKeep, wInc, wIst, wAst, wLst, wDup, wPop, wDup2, wGet, wPut, wPutZ, wIald, wLald, wIast, wLast, wLen, wRetI, wRetZ, wRetL, wRetA, wRetV, wM1, wM2, wCpy, wTab, tabW, nth, stL, stL2, dropL, keepL, mkL, padL, restOK, restOKn, tl_some, tl_none, id_eq, eq_self, true_and, and_true, bk_X4_chosen_0, F_X4_chooses, F_X4_isNeed, F_X4_isRule, F_X4_no, cf_I_e, cf_RII_e, cf_RI_e, mS_S, mA_A, mS_A, mA_S, mS_a, mA_a, Nat.reduceEqDiff, reduceIte, b2i_eq0, refI1, refI2, h2, decide_eq_false_iff_not]
  repeat' first | refine And.intro ?_ ?_ | intro _
  all_goals grind [v_chosen]
def v_help (M : MS) (p n : Int32) : Int32 × MS := if uOne M p = true ∧ uNeed M n = true then (if uMayW M p n = false then (-3, uNo M (-3)) else if mS 17 M < 60 then (uGood (uW M p (mA 4 M n.toNatClampNeg) (mA 6 M n.toNatClampNeg) n) p.toNatClampNeg n.toNatClampNeg, uW M p (mA 4 M n.toNatClampNeg) (mA 6 M n.toNatClampNeg) n) else (-6, uNo M (-6))) else (-1, uNo M (-1))
def F_X4_help (g : Nat → Nat) : CF MS := cf_RII (g 30) (fun M _ _ => mPub M) (fun M p w => some (.int (v_help M p w).1)) (fun M p w => (v_help M p w).2)
theorem inw_X4_help_X4 : ∀ w ∈ u_ws RX4 TX4 45, w ∈ wsX4_help := by decide +kernel
def bk_X4_help_16 (g : Nat → Nat) (Post : Option Value → MS → Prop)  (L : Lc) (st : List Value) (s : MS) : Prop :=
  (wAload 0 <| wK (.int (-1)) <| wCallR 2 (F_X4_no g) id (fun _ u => u) <| wRetI Post) L st s
set_option maxRecDepth 20000 in
theorem s_X4_help_16 {X : Cx} (B : Bx) (g : Nat → Nat) {Post : Option Value → MS → Prop} (C : OkX X (gx B) cX4_help 3 wsX4_help RX4 (rmD 4)) (R : RtX X (gx B) (some .int) (encM B g) Post)  : Snd X (gx B) 3 (encM B g) 16 (bk_X4_help_16 g Post ) := by
  unfold bk_X4_help_16
  refine s_aload_n C rfl dX4_help_16 ?_
  refine s_iconst C (by decide) dX4_help_17 ?_
  refine s_callV C (fr_M_M B g) (k_X4_no B g) gX4_help_X4_no rfl (by decide +kernel) ⟨rfl, rfl⟩ (by decide) rfl (fun s => ⟨_, heM_0 B g s⟩) (cf_RI_r _ _ _ _) dX4_help_18 ?_
  exact s_iret C R dX4_help_21
def bk_X4_help_0 (g : Nat → Nat) (Post : Option Value → MS → Prop)  (L : Lc) (st : List Value) (s : MS) : Prop :=
  (wAload 0 <| wIload 1 <| wCallR 2 (F_X4_isOne g) id (fun _ u => u) <| wIf1 (fun x => x = 0) (bk_X4_help_16 g Post ) (wAload 0 <| wIload 2 <| wCallR 2 (F_X4_isNeed g) id (fun _ u => u) <| wIf1 (fun x => x = 0) (bk_X4_help_16 g Post ) (wAload 0 <| wIload 1 <| wIload 2 <| wCallR 3 (F_X4_mayWith g) id (fun _ u => u) <| wIf1 (fun x => x = 0) (wAload 0 <| wK (.int (-3)) <| wCallR 2 (F_X4_no g) id (fun _ u => u) <| wRetI Post) (wAload 0 <| wGet (g 30) (fun s => .int (mS 17 s)) <| wK (.int 60) <| wIf2 (fun x y => x < y) (wAload 0 <| wIload 1 <| wAload 0 <| wGet (g 30) (fun _ => .ref (g 35)) <| wIload 2 <| wIald (g 35) 13 (mA 4) <| wAload 0 <| wGet (g 30) (fun _ => .ref (g 37)) <| wIload 2 <| wIald (g 37) 13 (mA 6) <| wIload 2 <| wCallR 5 (F_X4_writes g) id (fun _ u => u) <| wAload 0 <| wIload 1 <| wIload 2 <| wCallR 3 (F_X4_goodOf g) id (fun _ u => u) <| wRetI Post) (wAload 0 <| wK (.int (-6)) <| wCallR 2 (F_X4_no g) id (fun _ u => u) <| wRetI Post))))) L st s
set_option maxRecDepth 20000 in
theorem s_X4_help_0 {X : Cx} (B : Bx) (g : Nat → Nat) {Post : Option Value → MS → Prop} (C : OkX X (gx B) cX4_help 3 wsX4_help RX4 (rmD 4)) (R : RtX X (gx B) (some .int) (encM B g) Post)  : Snd X (gx B) 3 (encM B g) 0 (bk_X4_help_0 g Post ) := by
  unfold bk_X4_help_0
  refine s_aload_n C rfl dX4_help_0 ?_
  refine s_iload_n C rfl dX4_help_1 ?_
  refine s_callV C (fr_M_M B g) (k_X4_isOne B g) gX4_help_X4_isOne rfl (by decide +kernel) ⟨rfl, rfl⟩ (by decide) rfl (fun s => ⟨_, heM_0 B g s⟩) (cf_RI_r _ _ _ _) dX4_help_2 ?_
  refine s_if_eq C (tgt := 16) (by decide) dX4_help_5 ?_ ?_
  · exact s_X4_help_16 B g C R 
  · refine s_aload_n C rfl dX4_help_8 ?_
    refine s_iload_n C rfl dX4_help_9 ?_
    refine s_callV C (fr_M_M B g) (k_X4_isNeed B g) gX4_help_X4_isNeed rfl (by decide +kernel) ⟨rfl, rfl⟩ (by decide) rfl (fun s => ⟨_, heM_0 B g s⟩) (cf_RI_r _ _ _ _) dX4_help_10 ?_
    refine s_if_ne C (tgt := 22) (by decide) dX4_help_13 ?_ ?_
    · refine s_aload_n C rfl dX4_help_22 ?_
      refine s_iload_n C rfl dX4_help_23 ?_
      refine s_iload_n C rfl dX4_help_24 ?_
      refine s_callV C (fr_M_M B g) (k_X4_mayWith B g) gX4_help_X4_mayWith rfl (by decide +kernel) ⟨rfl, rfl⟩ (by decide) rfl (fun s => ⟨_, heM_0 B g s⟩) (cf_RII_r _ _ _ _) dX4_help_25 ?_
      refine s_if_ne C (tgt := 38) (by decide) dX4_help_28 ?_ ?_
      · refine s_aload_n C rfl dX4_help_38 ?_
        refine s_get C inw_X4_help_X4 rfl (k := 17) (by decide) (by decide +kernel) (heM_0 B g) (fun _ => rfl) dX4_help_39 ?_
        refine s_bipush C (by decide) dX4_help_42 ?_
        refine s_icmp_lt C (tgt := 54) (by decide) dX4_help_44 ?_ ?_
        · refine s_aload_n C rfl dX4_help_54 ?_
          refine s_iload_n C rfl dX4_help_55 ?_
          refine s_aload_n C rfl dX4_help_56 ?_
          refine s_get C inw_X4_help_X4 rfl (k := 4) (by decide) (by decide +kernel) (heM_0 B g) (fun _ => rfl) dX4_help_57 ?_
          refine s_iload_n C rfl dX4_help_60 ?_
          refine s_iald C (heM_5 B g) dX4_help_61 ?_
          refine s_aload_n C rfl dX4_help_62 ?_
          refine s_get C inw_X4_help_X4 rfl (k := 6) (by decide) (by decide +kernel) (heM_0 B g) (fun _ => rfl) dX4_help_63 ?_
          refine s_iload_n C rfl dX4_help_66 ?_
          refine s_iald C (heM_7 B g) dX4_help_67 ?_
          refine s_iload_n C rfl dX4_help_68 ?_
          refine s_callV C (fr_M_M B g) (k_X4_writes B g) gX4_help_X4_writes rfl (by decide +kernel) ⟨rfl, rfl⟩ (by decide) rfl (fun s => ⟨_, heM_0 B g s⟩) (cf_RIIII_r _ _ _ _) dX4_help_69 ?_
          refine s_aload_n C rfl dX4_help_72 ?_
          refine s_iload_n C rfl dX4_help_73 ?_
          refine s_iload_n C rfl dX4_help_74 ?_
          refine s_callV C (fr_M_M B g) (k_X4_goodOf B g) gX4_help_X4_goodOf rfl (by decide +kernel) ⟨rfl, rfl⟩ (by decide) rfl (fun s => ⟨_, heM_0 B g s⟩) (cf_RII_r _ _ _ _) dX4_help_75 ?_
          exact s_iret C R dX4_help_78
        · refine s_aload_n C rfl dX4_help_47 ?_
          refine s_bipush C (by decide) dX4_help_48 ?_
          refine s_callV C (fr_M_M B g) (k_X4_no B g) gX4_help_X4_no rfl (by decide +kernel) ⟨rfl, rfl⟩ (by decide) rfl (fun s => ⟨_, heM_0 B g s⟩) (cf_RI_r _ _ _ _) dX4_help_50 ?_
          exact s_iret C R dX4_help_53
      · refine s_aload_n C rfl dX4_help_31 ?_
        refine s_bipush C (by decide) dX4_help_32 ?_
        refine s_callV C (fr_M_M B g) (k_X4_no B g) gX4_help_X4_no rfl (by decide +kernel) ⟨rfl, rfl⟩ (by decide) rfl (fun s => ⟨_, heM_0 B g s⟩) (cf_RI_r _ _ _ _) dX4_help_34 ?_
        exact s_iret C R dX4_help_37
    · exact s_X4_help_16 B g C R 
theorem k_X4_help (B : Bx) (g : Nat → Nat) : MtF (gx B) yX4_help wsX4_help (rmD 4) (encM B g) (F_X4_help g) := by
  refine cf_RII_i (fun l M p n h => Mt.of (by decide) rfl (Nat.le_of_ble_eq_true rfl) rfl (fun X C R => s_X4_help_0 B g C R) ?_)
  have h1 := fun z => mPub_p h (p := p) z
  have h3 := fun z => ixB_le (m := 13) (mPub_n h (n := n) z) (by decide)
  have h4 := fun z => ixB_v (n := 13) (h3 z) (by decide)
  have h2 := hpB_le h.1.1 (show 60 ≤ 400 by decide)
  have h5 := hpB_le h.1.1 (show 60 ≤ 399 by decide)
  have h6 := h.1.2.1
  have h7 := fun a b c d => nwB_W h6 a b c d
  unfold vp_in at h4
  simp only [wIload, wAload, wLload, wK, wB, wDv, wU, wLB, wLU, wLS, wL2i, wLcmp, wIf1, wIf2, wKeep, wInc, wIst, wAst, wLst, wDup, wPop, wDup2, wGet, wPut, wPutZ, wIald, wLald, wIast, wLast, wLen, wRetI, wRetZ, wRetL, wRetA, wRetV, wM1, wM2, wCpy, wTab, tabW, nth, stL, stL2, dropL, keepL, mkL, padL, restOK, restOKn, tl_some, tl_none, id_eq, eq_self, true_and, and_true, bk_X4_help_16, bk_X4_help_0, F_X4_goodOf, F_X4_isNeed, F_X4_isOne, F_X4_mayWith, F_X4_no, F_X4_writes, cf_RIIII_e, cf_RII_e, cf_RI_e, mS_S, mA_A, mS_A, mA_S, mS_a, mA_a, Nat.reduceEqDiff, reduceIte, b2i_eq0, refI1, refI3, refI6, h2, h5, h6, h7]
  repeat' first | refine And.intro ?_ ?_ | intro _
  all_goals grind [v_help]
def v_back (M : MS) : Int32 × MS := if mS 17 M = 0 then (-3, uNo M (-3)) else (mS 17 (uBack M), uBack M)
def F_X4_back (g : Nat → Nat) : CF MS := cf_R (g 30) (fun M => mPub M) (fun M => some (.int (v_back M).1)) (fun M => (v_back M).2)
theorem inw_X4_back_X4 : ∀ w ∈ u_ws RX4 TX4 45, w ∈ wsX4_back := by decide +kernel
def bk_X4_back_0 (g : Nat → Nat) (Post : Option Value → MS → Prop)  (L : Lc) (st : List Value) (s : MS) : Prop :=
  (wAload 0 <| wGet (g 30) (fun s => .int (mS 17 s)) <| wIf1 (fun x => x = 0) (wAload 0 <| wK (.int (-3)) <| wCallR 2 (F_X4_no g) id (fun _ u => u) <| wRetI Post) (wAload 0 <| wCallR 1 (F_X4_takesBack g) id (fun _ u => u) <| wAload 0 <| wGet (g 30) (fun s => .int (mS 17 s)) <| wRetI Post)) L st s
set_option maxRecDepth 20000 in
theorem s_X4_back_0 {X : Cx} (B : Bx) (g : Nat → Nat) {Post : Option Value → MS → Prop} (C : OkX X (gx B) cX4_back 1 wsX4_back RX4 (rmD 1)) (R : RtX X (gx B) (some .int) (encM B g) Post)  : Snd X (gx B) 1 (encM B g) 0 (bk_X4_back_0 g Post ) := by
  unfold bk_X4_back_0
  refine s_aload_n C rfl dX4_back_0 ?_
  refine s_get C inw_X4_back_X4 rfl (k := 17) (by decide) (by decide +kernel) (heM_0 B g) (fun _ => rfl) dX4_back_1 ?_
  refine s_if_ne C (tgt := 14) (by decide) dX4_back_4 ?_ ?_
  · refine s_aload_n C rfl dX4_back_14 ?_
    refine s_callV C (fr_M_M B g) (k_X4_takesBack B g) gX4_back_X4_takesBack rfl (by decide +kernel) ⟨rfl, rfl⟩ (by decide) rfl (fun s => ⟨_, heM_0 B g s⟩) (cf_R_r _ _ _ _) dX4_back_15 ?_
    refine s_aload_n C rfl dX4_back_18 ?_
    refine s_get C inw_X4_back_X4 rfl (k := 17) (by decide) (by decide +kernel) (heM_0 B g) (fun _ => rfl) dX4_back_19 ?_
    exact s_iret C R dX4_back_22
  · refine s_aload_n C rfl dX4_back_7 ?_
    refine s_bipush C (by decide) dX4_back_8 ?_
    refine s_callV C (fr_M_M B g) (k_X4_no B g) gX4_back_X4_no rfl (by decide +kernel) ⟨rfl, rfl⟩ (by decide) rfl (fun s => ⟨_, heM_0 B g s⟩) (cf_RI_r _ _ _ _) dX4_back_10 ?_
    exact s_iret C R dX4_back_13
theorem mPub_back {M : MS} (h : mPub M) (h0 : ¬ mS 17 M = 0) : bkB M := by
  obtain ⟨e, h1⟩ := hpB_c h.1.1 (by decide)
  have hb := h.2.2.2.1
  obtain ⟨H, hH⟩ : ∃ H, uHelps M = H + 1 := by
    rcases hu : uHelps M with _ | H
    · rw [hu] at e; exact absurd e h0
    · exact ⟨H, rfl⟩
  unfold bkB
  rw [e, hH, nI_pred, nI_clamp (by omega)]
  exact ⟨⟨H, by omega, rfl⟩, Or.inr (ixB_le (hb H (by omega)) (by decide))⟩
theorem k_X4_back (B : Bx) (g : Nat → Nat) : MtF (gx B) yX4_back wsX4_back (rmD 1) (encM B g) (F_X4_back g) := by
  refine cf_R_i (fun l M h => Mt.of (by decide) rfl (Nat.le_of_ble_eq_true rfl) rfl (fun X C R => s_X4_back_0 B g C R) ?_)
  have h1 := fun z => mPub_back h z
  unfold bkB at h1
  simp only [wIload, wAload, wLload, wK, wB, wDv, wU, wLB, wLU, wLS, wL2i, wLcmp, wIf1, wIf2, wKeep, wInc, wIst, wAst, wLst, wDup, wPop, wDup2, wGet, wPut, wPutZ, wIald, wLald, wIast, wLast, wLen, wRetI, wRetZ, wRetL, wRetA, wRetV, wM1, wM2, wCpy, wTab, tabW, nth, stL, stL2, dropL, keepL, mkL, padL, restOK, restOKn, tl_some, tl_none, id_eq, eq_self, true_and, and_true, bk_X4_back_0, F_X4_no, F_X4_takesBack, cf_RI_e, cf_R_e, mS_S, mA_A, mS_A, mA_S, mS_a, mA_a, Nat.reduceEqDiff, reduceIte, b2i_eq0, refI3]
  repeat' first | refine And.intro ?_ ?_ | intro _
  all_goals grind [v_back]
def v_year (M : MS) : Int32 × MS := if mS 22 M = 99 then (-6, uNo M (-6)) else (mS 22 M + 1, msS 22 M (mS 22 M + 1))
def F_X4_year (g : Nat → Nat) : CF MS := cf_R (g 30) (fun M => True) (fun M => some (.int (v_year M).1)) (fun M => (v_year M).2)
theorem inw_X4_year_X4 : ∀ w ∈ u_ws RX4 TX4 45, w ∈ wsX4_year := by decide +kernel
def bk_X4_year_0 (g : Nat → Nat) (Post : Option Value → MS → Prop)  (L : Lc) (st : List Value) (s : MS) : Prop :=
  (wAload 0 <| wGet (g 30) (fun s => .int (mS 22 s)) <| wK (.int 99) <| wIf2 (fun x y => x = y) (wAload 0 <| wK (.int (-6)) <| wCallR 2 (F_X4_no g) id (fun _ u => u) <| wRetI Post) (wAload 0 <| wDup <| wGet (g 30) (fun s => .int (mS 22 s)) <| wK (.int 1) <| wB (fun x y => x + y) <| wPut (g 30) (msS 22) <| wAload 0 <| wGet (g 30) (fun s => .int (mS 22 s)) <| wRetI Post)) L st s
set_option maxRecDepth 20000 in
theorem s_X4_year_0 {X : Cx} (B : Bx) (g : Nat → Nat) {Post : Option Value → MS → Prop} (C : OkX X (gx B) cX4_year 1 wsX4_year RX4 (rmD 1)) (R : RtX X (gx B) (some .int) (encM B g) Post)  : Snd X (gx B) 1 (encM B g) 0 (bk_X4_year_0 g Post ) := by
  unfold bk_X4_year_0
  refine s_aload_n C rfl dX4_year_0 ?_
  refine s_get C inw_X4_year_X4 rfl (k := 22) (by decide) (by decide +kernel) (heM_0 B g) (fun _ => rfl) dX4_year_1 ?_
  refine s_bipush C (by decide) dX4_year_4 ?_
  refine s_icmp_ne C (tgt := 16) (by decide) dX4_year_6 ?_ ?_
  · refine s_aload_n C rfl dX4_year_16 ?_
    refine s_dup C dX4_year_17 ?_
    refine s_get C inw_X4_year_X4 rfl (k := 22) (by decide) (by decide +kernel) (heM_0 B g) (fun _ => rfl) dX4_year_18 ?_
    refine s_iconst C (by decide) dX4_year_21 ?_
    refine s_iadd C dX4_year_22 ?_
    refine s_put C inw_X4_year_X4 rfl (k := 22) (by decide) (by decide +kernel) tyX4_ok nmX4 (by decide +kernel) (by decide +kernel) (heM_0 B g) (fun _ => Nat.le_of_ble_eq_true rfl) (fun _ _ => rfl) dX4_year_23 ?_
    refine s_aload_n C rfl dX4_year_26 ?_
    refine s_get C inw_X4_year_X4 rfl (k := 22) (by decide) (by decide +kernel) (heM_0 B g) (fun _ => rfl) dX4_year_27 ?_
    exact s_iret C R dX4_year_30
  · refine s_aload_n C rfl dX4_year_9 ?_
    refine s_bipush C (by decide) dX4_year_10 ?_
    refine s_callV C (fr_M_M B g) (k_X4_no B g) gX4_year_X4_no rfl (by decide +kernel) ⟨rfl, rfl⟩ (by decide) rfl (fun s => ⟨_, heM_0 B g s⟩) (cf_RI_r _ _ _ _) dX4_year_12 ?_
    exact s_iret C R dX4_year_15
theorem k_X4_year (B : Bx) (g : Nat → Nat) : MtF (gx B) yX4_year wsX4_year (rmD 1) (encM B g) (F_X4_year g) := by
  refine cf_R_i (fun l M h => Mt.of (by decide) rfl (Nat.le_of_ble_eq_true rfl) rfl (fun X C R => s_X4_year_0 B g C R) ?_)
  simp only [wIload, wAload, wLload, wK, wB, wDv, wU, wLB, wLU, wLS, wL2i, wLcmp, wIf1, wIf2, wKeep, wInc, wIst, wAst, wLst, wDup, wPop, wDup2, wGet, wPut, wPutZ, wIald, wLald, wIast, wLast, wLen, wRetI, wRetZ, wRetL, wRetA, wRetV, wM1, wM2, wCpy, wTab, tabW, nth, stL, stL2, dropL, keepL, mkL, padL, restOK, restOKn, tl_some, tl_none, id_eq, eq_self, true_and, and_true, bk_X4_year_0, F_X4_no, cf_RI_e, mS_S, mA_A, mS_A, mA_S, mS_a, mA_a, Nat.reduceEqDiff, reduceIte, b2i_eq0, refI6]
  repeat' first | refine And.intro ?_ ?_ | intro _
  all_goals grind [v_year]
def v_many (M : MS) (w n : Int32) : Int32 × MS := if uIn w 0 3 = false then (-2, uNo M (-2)) else if uBd n 1 999 = 0 then (if w = 1 then (n + 1, M) else (2 * n + 1, M)) else (uBd n 1 999, uNo M (uBd n 1 999))
def F_X4_many (g : Nat → Nat) : CF MS := cf_RII (g 30) (fun M _ _ => True) (fun M p w => some (.int (v_many M p w).1)) (fun M p w => (v_many M p w).2)
theorem inw_X4_many_X4 : ∀ w ∈ u_ws RX4 TX4 45, w ∈ wsX4_many := by decide +kernel
def bk_X4_many_51 (g : Nat → Nat) (Post : Option Value → MS → Prop)  (L : Lc) (st : List Value) (s : MS) : Prop :=
  (wRetI Post) L st s
set_option maxRecDepth 20000 in
theorem s_X4_many_51 {X : Cx} (B : Bx) (g : Nat → Nat) {Post : Option Value → MS → Prop} (C : OkX X (gx B) cX4_many 4 wsX4_many RX4 (rmD 1)) (R : RtX X (gx B) (some .int) (encM B g) Post)  : Snd X (gx B) 4 (encM B g) 51 (bk_X4_many_51 g Post ) := by
  unfold bk_X4_many_51
  exact s_iret C R dX4_many_51
def bk_X4_many_0 (g : Nat → Nat) (Post : Option Value → MS → Prop)  (L : Lc) (st : List Value) (s : MS) : Prop :=
  (wIload 1 <| wK (.int 0) <| wK (.int 3) <| wCallR 3 (F_X4_isIn) (fun _ => ()) (fun s _ => s) <| wIf1 (fun x => x = 0) (wAload 0 <| wK (.int (-2)) <| wCallR 2 (F_X4_no g) id (fun _ u => u) <| wRetI Post) (wIload 2 <| wK (.int 1) <| wK (.int 999) <| wCallR 3 (F_X4_bound) (fun _ => ()) (fun s _ => s) <| wIst 3 <| wIload 3 <| wIf1 (fun x => x = 0) (wIload 1 <| wK (.int 1) <| wIf2 (fun x y => x = y) (wIload 2 <| wK (.int 1) <| wB (fun x y => x + y) <| bk_X4_many_51 g Post ) (wK (.int 2) <| wIload 2 <| wB (fun x y => x * y) <| wK (.int 1) <| wB (fun x y => x + y) <| bk_X4_many_51 g Post )) (wAload 0 <| wIload 3 <| wCallR 2 (F_X4_no g) id (fun _ u => u) <| wRetI Post))) L st s
set_option maxRecDepth 20000 in
theorem s_X4_many_0 {X : Cx} (B : Bx) (g : Nat → Nat) {Post : Option Value → MS → Prop} (C : OkX X (gx B) cX4_many 4 wsX4_many RX4 (rmD 1)) (R : RtX X (gx B) (some .int) (encM B g) Post)  : Snd X (gx B) 4 (encM B g) 0 (bk_X4_many_0 g Post ) := by
  unfold bk_X4_many_0
  refine s_iload_n C rfl dX4_many_0 ?_
  refine s_iconst C (by decide) dX4_many_1 ?_
  refine s_iconst C (by decide) dX4_many_2 ?_
  refine s_callS C (fr_M_E B g) (k_X4_isIn B) gX4_many_X4_isIn rfl (by decide +kernel) ⟨rfl, rfl⟩ (by decide) (cf_III_r _ _ _) dX4_many_3 ?_
  refine s_if_ne C (tgt := 16) (by decide) dX4_many_6 ?_ ?_
  · refine s_iload_n C rfl dX4_many_16 ?_
    refine s_iconst C (by decide) dX4_many_17 ?_
    refine s_sipush C (by decide) dX4_many_18 ?_
    refine s_callS C (fr_M_E B g) (k_X4_bound B) gX4_many_X4_bound rfl (by decide +kernel) ⟨rfl, rfl⟩ (by decide) (cf_III_r _ _ _) dX4_many_21 ?_
    refine s_istore_n C rfl (by decide) dX4_many_24 ?_
    refine s_iload_n C rfl dX4_many_25 ?_
    refine s_if_eq C (tgt := 35) (by decide) dX4_many_26 ?_ ?_
    · refine s_iload_n C rfl dX4_many_35 ?_
      refine s_iconst C (by decide) dX4_many_36 ?_
      refine s_icmp_ne C (tgt := 46) (by decide) dX4_many_37 ?_ ?_
      · refine s_iconst C (by decide) dX4_many_46 ?_
        refine s_iload_n C rfl dX4_many_47 ?_
        refine s_imul C dX4_many_48 ?_
        refine s_iconst C (by decide) dX4_many_49 ?_
        refine s_iadd C dX4_many_50 ?_
        exact s_X4_many_51 B g C R 
      · refine s_iload_n C rfl dX4_many_40 ?_
        refine s_iconst C (by decide) dX4_many_41 ?_
        refine s_iadd C dX4_many_42 ?_
        refine s_goto C (tgt := 51) (by decide) dX4_many_43 ?_
        exact s_X4_many_51 B g C R 
    · refine s_aload_n C rfl dX4_many_29 ?_
      refine s_iload_n C rfl dX4_many_30 ?_
      refine s_callV C (fr_M_M B g) (k_X4_no B g) gX4_many_X4_no rfl (by decide +kernel) ⟨rfl, rfl⟩ (by decide) rfl (fun s => ⟨_, heM_0 B g s⟩) (cf_RI_r _ _ _ _) dX4_many_31 ?_
      exact s_iret C R dX4_many_34
  · refine s_aload_n C rfl dX4_many_9 ?_
    refine s_bipush C (by decide) dX4_many_10 ?_
    refine s_callV C (fr_M_M B g) (k_X4_no B g) gX4_many_X4_no rfl (by decide +kernel) ⟨rfl, rfl⟩ (by decide) rfl (fun s => ⟨_, heM_0 B g s⟩) (cf_RI_r _ _ _ _) dX4_many_12 ?_
    exact s_iret C R dX4_many_15
theorem k_X4_many (B : Bx) (g : Nat → Nat) : MtF (gx B) yX4_many wsX4_many (rmD 1) (encM B g) (F_X4_many g) := by
  refine cf_RII_i (fun l M w v h => Mt.of (by decide) rfl (Nat.le_of_ble_eq_true rfl) rfl (fun X C R => s_X4_many_0 B g C R) ?_)
  have r3 := @refI_bd v 1 999
  simp only [wIload, wAload, wLload, wK, wB, wDv, wU, wLB, wLU, wLS, wL2i, wLcmp, wIf1, wIf2, wKeep, wInc, wIst, wAst, wLst, wDup, wPop, wDup2, wGet, wPut, wPutZ, wIald, wLald, wIast, wLast, wLen, wRetI, wRetZ, wRetL, wRetA, wRetV, wM1, wM2, wCpy, wTab, tabW, nth, stL, stL2, dropL, keepL, mkL, padL, restOK, restOKn, tl_some, tl_none, id_eq, eq_self, true_and, and_true, bk_X4_many_51, bk_X4_many_0, F_X4_bound, F_X4_isIn, F_X4_no, cf_III_e, cf_RI_e, mS_S, mA_A, mS_A, mA_S, mS_a, mA_a, Nat.reduceEqDiff, reduceIte, b2i_eq0, refI2]
  repeat' first | refine And.intro ?_ ?_ | intro _
  all_goals grind [v_many]
def v_move (M : MS) (p v : Int32) : Int32 × MS := if uOne M p = false then (-1, uNo M (-1)) else if uBd v 0 99 = 0 then (mA 2 M p.toNatClampNeg, maA 2 M p.toNatClampNeg v) else (uBd v 0 99, uNo M (uBd v 0 99))
def F_X4_move (g : Nat → Nat) : CF MS := cf_RII (g 30) (fun M _ _ => mPub M) (fun M p w => some (.int (v_move M p w).1)) (fun M p w => (v_move M p w).2)
theorem inw_X4_move_X4 : ∀ w ∈ u_ws RX4 TX4 45, w ∈ wsX4_move := by decide +kernel
def bk_X4_move_0 (g : Nat → Nat) (Post : Option Value → MS → Prop)  (L : Lc) (st : List Value) (s : MS) : Prop :=
  (wAload 0 <| wIload 1 <| wCallR 2 (F_X4_isOne g) id (fun _ u => u) <| wIf1 (fun x => x = 0) (wAload 0 <| wK (.int (-1)) <| wCallR 2 (F_X4_no g) id (fun _ u => u) <| wRetI Post) (wIload 2 <| wK (.int 0) <| wK (.int 99) <| wCallR 3 (F_X4_bound) (fun _ => ()) (fun s _ => s) <| wIst 3 <| wIload 3 <| wIf1 (fun x => x = 0) (wAload 0 <| wGet (g 30) (fun _ => .ref (g 33)) <| wIload 1 <| wIald (g 33) 7 (mA 2) <| wIst 4 <| wAload 0 <| wGet (g 30) (fun _ => .ref (g 33)) <| wIload 1 <| wIload 2 <| wIast (g 33) 7 (maA 2) <| wIload 4 <| wRetI Post) (wAload 0 <| wIload 3 <| wCallR 2 (F_X4_no g) id (fun _ u => u) <| wRetI Post))) L st s
set_option maxRecDepth 20000 in
theorem s_X4_move_0 {X : Cx} (B : Bx) (g : Nat → Nat) {Post : Option Value → MS → Prop} (C : OkX X (gx B) cX4_move 5 wsX4_move RX4 (rmD 1)) (R : RtX X (gx B) (some .int) (encM B g) Post)  : Snd X (gx B) 5 (encM B g) 0 (bk_X4_move_0 g Post ) := by
  unfold bk_X4_move_0
  refine s_aload_n C rfl dX4_move_0 ?_
  refine s_iload_n C rfl dX4_move_1 ?_
  refine s_callV C (fr_M_M B g) (k_X4_isOne B g) gX4_move_X4_isOne rfl (by decide +kernel) ⟨rfl, rfl⟩ (by decide) rfl (fun s => ⟨_, heM_0 B g s⟩) (cf_RI_r _ _ _ _) dX4_move_2 ?_
  refine s_if_ne C (tgt := 14) (by decide) dX4_move_5 ?_ ?_
  · refine s_iload_n C rfl dX4_move_14 ?_
    refine s_iconst C (by decide) dX4_move_15 ?_
    refine s_bipush C (by decide) dX4_move_16 ?_
    refine s_callS C (fr_M_E B g) (k_X4_bound B) gX4_move_X4_bound rfl (by decide +kernel) ⟨rfl, rfl⟩ (by decide) (cf_III_r _ _ _) dX4_move_18 ?_
    refine s_istore_n C rfl (by decide) dX4_move_21 ?_
    refine s_iload_n C rfl dX4_move_22 ?_
    refine s_if_eq C (tgt := 32) (by decide) dX4_move_23 ?_ ?_
    · refine s_aload_n C rfl dX4_move_32 ?_
      refine s_get C inw_X4_move_X4 rfl (k := 2) (by decide) (by decide +kernel) (heM_0 B g) (fun _ => rfl) dX4_move_33 ?_
      refine s_iload_n C rfl dX4_move_36 ?_
      refine s_iald C (heM_3 B g) dX4_move_37 ?_
      refine s_istore C (by decide) dX4_move_38 ?_
      refine s_aload_n C rfl dX4_move_40 ?_
      refine s_get C inw_X4_move_X4 rfl (k := 2) (by decide) (by decide +kernel) (heM_0 B g) (fun _ => rfl) dX4_move_41 ?_
      refine s_iload_n C rfl dX4_move_44 ?_
      refine s_iload_n C rfl dX4_move_45 ?_
      refine s_iast C (heM_3 B g) (fun _ _ _ => rfl) dX4_move_46 ?_
      refine s_iload C dX4_move_47 ?_
      exact s_iret C R dX4_move_49
    · refine s_aload_n C rfl dX4_move_26 ?_
      refine s_iload_n C rfl dX4_move_27 ?_
      refine s_callV C (fr_M_M B g) (k_X4_no B g) gX4_move_X4_no rfl (by decide +kernel) ⟨rfl, rfl⟩ (by decide) rfl (fun s => ⟨_, heM_0 B g s⟩) (cf_RI_r _ _ _ _) dX4_move_28 ?_
      exact s_iret C R dX4_move_31
  · refine s_aload_n C rfl dX4_move_8 ?_
    refine s_iconst C (by decide) dX4_move_9 ?_
    refine s_callV C (fr_M_M B g) (k_X4_no B g) gX4_move_X4_no rfl (by decide +kernel) ⟨rfl, rfl⟩ (by decide) rfl (fun s => ⟨_, heM_0 B g s⟩) (cf_RI_r _ _ _ _) dX4_move_10 ?_
    exact s_iret C R dX4_move_13
theorem k_X4_move (B : Bx) (g : Nat → Nat) : MtF (gx B) yX4_move wsX4_move (rmD 1) (encM B g) (F_X4_move g) := by
  refine cf_RII_i (fun l M p v h => Mt.of (by decide) rfl (Nat.le_of_ble_eq_true rfl) rfl (fun X C R => s_X4_move_0 B g C R) ?_)
  have r3 := @refI_bd v 0 99
  have hv := fun z => ixB_v (mPub_p h (p := p) z) (by decide)
  unfold vp_in at hv
  simp only [wIload, wAload, wLload, wK, wB, wDv, wU, wLB, wLU, wLS, wL2i, wLcmp, wIf1, wIf2, wKeep, wInc, wIst, wAst, wLst, wDup, wPop, wDup2, wGet, wPut, wPutZ, wIald, wLald, wIast, wLast, wLen, wRetI, wRetZ, wRetL, wRetA, wRetV, wM1, wM2, wCpy, wTab, tabW, nth, stL, stL2, dropL, keepL, mkL, padL, restOK, restOKn, tl_some, tl_none, id_eq, eq_self, true_and, and_true, bk_X4_move_0, F_X4_bound, F_X4_isOne, F_X4_no, cf_III_e, cf_RI_e, mS_S, mA_A, mS_A, mA_S, mS_a, mA_a, Nat.reduceEqDiff, reduceIte, b2i_eq0, refI1]
  repeat' first | refine And.intro ?_ ?_ | intro _
  all_goals grind [v_move]
def v_row (M : MS) (p : Int32) : Int32 × MS := if uOne M p = false then (-1, uNo M (-1)) else if mS 35 M = 10 then (-6, uNo M (-6)) else (mS 35 M + 1, msS 35 (maA 34 M (mS 35 M).toNatClampNeg p) (mS 35 M + 1))
def F_X4_row (g : Nat → Nat) : CF MS := cf_RI (g 30) (fun M _ => mPub M) (fun M p => some (.int (v_row M p).1)) (fun M p => (v_row M p).2)
theorem inw_X4_row_X4 : ∀ w ∈ u_ws RX4 TX4 45, w ∈ wsX4_row := by decide +kernel
def bk_X4_row_0 (g : Nat → Nat) (Post : Option Value → MS → Prop)  (L : Lc) (st : List Value) (s : MS) : Prop :=
  (wAload 0 <| wIload 1 <| wCallR 2 (F_X4_isOne g) id (fun _ u => u) <| wIf1 (fun x => x = 0) (wAload 0 <| wK (.int (-1)) <| wCallR 2 (F_X4_no g) id (fun _ u => u) <| wRetI Post) (wAload 0 <| wGet (g 30) (fun s => .int (mS 35 s)) <| wK (.int 10) <| wIf2 (fun x y => x = y) (wAload 0 <| wK (.int (-6)) <| wCallR 2 (F_X4_no g) id (fun _ u => u) <| wRetI Post) (wAload 0 <| wGet (g 30) (fun _ => .ref (g 65)) <| wAload 0 <| wGet (g 30) (fun s => .int (mS 35 s)) <| wIload 1 <| wIast (g 65) 10 (maA 34) <| wAload 0 <| wDup <| wGet (g 30) (fun s => .int (mS 35 s)) <| wK (.int 1) <| wB (fun x y => x + y) <| wPut (g 30) (msS 35) <| wAload 0 <| wGet (g 30) (fun s => .int (mS 35 s)) <| wRetI Post))) L st s
set_option maxRecDepth 20000 in
theorem s_X4_row_0 {X : Cx} (B : Bx) (g : Nat → Nat) {Post : Option Value → MS → Prop} (C : OkX X (gx B) cX4_row 2 wsX4_row RX4 (rmD 1)) (R : RtX X (gx B) (some .int) (encM B g) Post)  : Snd X (gx B) 2 (encM B g) 0 (bk_X4_row_0 g Post ) := by
  unfold bk_X4_row_0
  refine s_aload_n C rfl dX4_row_0 ?_
  refine s_iload_n C rfl dX4_row_1 ?_
  refine s_callV C (fr_M_M B g) (k_X4_isOne B g) gX4_row_X4_isOne rfl (by decide +kernel) ⟨rfl, rfl⟩ (by decide) rfl (fun s => ⟨_, heM_0 B g s⟩) (cf_RI_r _ _ _ _) dX4_row_2 ?_
  refine s_if_ne C (tgt := 14) (by decide) dX4_row_5 ?_ ?_
  · refine s_aload_n C rfl dX4_row_14 ?_
    refine s_get C inw_X4_row_X4 rfl (k := 35) (by decide) (by decide +kernel) (heM_0 B g) (fun _ => rfl) dX4_row_15 ?_
    refine s_bipush C (by decide) dX4_row_18 ?_
    refine s_icmp_ne C (tgt := 30) (by decide) dX4_row_20 ?_ ?_
    · refine s_aload_n C rfl dX4_row_30 ?_
      refine s_get C inw_X4_row_X4 rfl (k := 34) (by decide) (by decide +kernel) (heM_0 B g) (fun _ => rfl) dX4_row_31 ?_
      refine s_aload_n C rfl dX4_row_34 ?_
      refine s_get C inw_X4_row_X4 rfl (k := 35) (by decide) (by decide +kernel) (heM_0 B g) (fun _ => rfl) dX4_row_35 ?_
      refine s_iload_n C rfl dX4_row_38 ?_
      refine s_iast C (heM_21 B g) (fun _ _ _ => rfl) dX4_row_39 ?_
      refine s_aload_n C rfl dX4_row_40 ?_
      refine s_dup C dX4_row_41 ?_
      refine s_get C inw_X4_row_X4 rfl (k := 35) (by decide) (by decide +kernel) (heM_0 B g) (fun _ => rfl) dX4_row_42 ?_
      refine s_iconst C (by decide) dX4_row_45 ?_
      refine s_iadd C dX4_row_46 ?_
      refine s_put C inw_X4_row_X4 rfl (k := 35) (by decide) (by decide +kernel) tyX4_ok nmX4 (by decide +kernel) (by decide +kernel) (heM_0 B g) (fun _ => Nat.le_of_ble_eq_true rfl) (fun _ _ => rfl) dX4_row_47 ?_
      refine s_aload_n C rfl dX4_row_50 ?_
      refine s_get C inw_X4_row_X4 rfl (k := 35) (by decide) (by decide +kernel) (heM_0 B g) (fun _ => rfl) dX4_row_51 ?_
      exact s_iret C R dX4_row_54
    · refine s_aload_n C rfl dX4_row_23 ?_
      refine s_bipush C (by decide) dX4_row_24 ?_
      refine s_callV C (fr_M_M B g) (k_X4_no B g) gX4_row_X4_no rfl (by decide +kernel) ⟨rfl, rfl⟩ (by decide) rfl (fun s => ⟨_, heM_0 B g s⟩) (cf_RI_r _ _ _ _) dX4_row_26 ?_
      exact s_iret C R dX4_row_29
  · refine s_aload_n C rfl dX4_row_8 ?_
    refine s_iconst C (by decide) dX4_row_9 ?_
    refine s_callV C (fr_M_M B g) (k_X4_no B g) gX4_row_X4_no rfl (by decide +kernel) ⟨rfl, rfl⟩ (by decide) rfl (fun s => ⟨_, heM_0 B g s⟩) (cf_RI_r _ _ _ _) dX4_row_10 ?_
    exact s_iret C R dX4_row_13
theorem k_X4_row (B : Bx) (g : Nat → Nat) : MtF (gx B) yX4_row wsX4_row (rmD 1) (encM B g) (F_X4_row g) := by
  refine cf_RI_i (fun l M p h => Mt.of (by decide) rfl (Nat.le_of_ble_eq_true rfl) rfl (fun X C R => s_X4_row_0 B g C R) ?_)
  have hv : ¬ mS 35 M = 10 → vp_in (mS 35 M) 10 := fun z => by
    obtain ⟨e1, e2⟩ := rwB_c h.1.2.2.2.2
    rw [e1] at z ⊢
    refine vp_in_nI ?_ (by decide)
    rcases Nat.lt_or_eq_of_le e2 with h | h
    · exact h
    · rw [h] at z; exact absurd rfl z
  unfold vp_in at hv
  simp only [wIload, wAload, wLload, wK, wB, wDv, wU, wLB, wLU, wLS, wL2i, wLcmp, wIf1, wIf2, wKeep, wInc, wIst, wAst, wLst, wDup, wPop, wDup2, wGet, wPut, wPutZ, wIald, wLald, wIast, wLast, wLen, wRetI, wRetZ, wRetL, wRetA, wRetV, wM1, wM2, wCpy, wTab, tabW, nth, stL, stL2, dropL, keepL, mkL, padL, restOK, restOKn, tl_some, tl_none, id_eq, eq_self, true_and, and_true, bk_X4_row_0, F_X4_isOne, F_X4_no, cf_RI_e, mS_S, mA_A, mS_A, mA_S, mS_a, mA_a, Nat.reduceEqDiff, reduceIte, b2i_eq0, refI1, refI6]
  repeat' first | refine And.intro ?_ ?_ | intro _
  all_goals grind [v_row]
def v_clear (M : MS) : Int32 × MS := (mS 35 M, msS 35 M 0)
def F_X4_clear (g : Nat → Nat) : CF MS := cf_R (g 30) (fun M => True) (fun M => some (.int (v_clear M).1)) (fun M => (v_clear M).2)
theorem inw_X4_clear_X4 : ∀ w ∈ u_ws RX4 TX4 45, w ∈ wsX4_clear := by decide +kernel
def bk_X4_clear_0 (g : Nat → Nat) (Post : Option Value → MS → Prop)  (L : Lc) (st : List Value) (s : MS) : Prop :=
  (wAload 0 <| wGet (g 30) (fun s => .int (mS 35 s)) <| wIst 1 <| wAload 0 <| wK (.int 0) <| wPut (g 30) (msS 35) <| wIload 1 <| wRetI Post) L st s
set_option maxRecDepth 20000 in
theorem s_X4_clear_0 {X : Cx} (B : Bx) (g : Nat → Nat) {Post : Option Value → MS → Prop} (C : OkX X (gx B) cX4_clear 2 wsX4_clear RX4 (rmD 0)) (R : RtX X (gx B) (some .int) (encM B g) Post)  : Snd X (gx B) 2 (encM B g) 0 (bk_X4_clear_0 g Post ) := by
  unfold bk_X4_clear_0
  refine s_aload_n C rfl dX4_clear_0 ?_
  refine s_get C inw_X4_clear_X4 rfl (k := 35) (by decide) (by decide +kernel) (heM_0 B g) (fun _ => rfl) dX4_clear_1 ?_
  refine s_istore_n C rfl (by decide) dX4_clear_4 ?_
  refine s_aload_n C rfl dX4_clear_5 ?_
  refine s_iconst C (by decide) dX4_clear_6 ?_
  refine s_put C inw_X4_clear_X4 rfl (k := 35) (by decide) (by decide +kernel) tyX4_ok nmX4 (by decide +kernel) (by decide +kernel) (heM_0 B g) (fun _ => Nat.le_of_ble_eq_true rfl) (fun _ _ => rfl) dX4_clear_7 ?_
  refine s_iload_n C rfl dX4_clear_10 ?_
  exact s_iret C R dX4_clear_11
theorem k_X4_clear (B : Bx) (g : Nat → Nat) : MtF (gx B) yX4_clear wsX4_clear (rmD 0) (encM B g) (F_X4_clear g) := by
  refine cf_R_i (fun l M h => Mt.of (by decide) rfl (Nat.le_of_ble_eq_true rfl) rfl (fun X C R => s_X4_clear_0 B g C R) ?_)
  simp only [wIload, wAload, wLload, wK, wB, wDv, wU, wLB, wLU, wLS, wL2i, wLcmp, wIf1, wIf2, wKeep, wInc, wIst, wAst, wLst, wDup, wPop, wDup2, wGet, wPut, wPutZ, wIald, wLald, wIast, wLast, wLen, wRetI, wRetZ, wRetL, wRetA, wRetV, wM1, wM2, wCpy, wTab, tabW, nth, stL, stL2, dropL, keepL, mkL, padL, restOK, restOKn, tl_some, tl_none, id_eq, eq_self, true_and, and_true, bk_X4_clear_0, mS_S, mA_A, mS_A, mA_S, mS_a, mA_a, Nat.reduceEqDiff, reduceIte]
  exact ⟨rfl, rfl⟩
def v_image (M : MS) : Int32 × MS := (mS 22 (uPA (msS 31 M 1) 0 1), uPA (msS 31 M 1) 0 1)
def F_X4_image (g : Nat → Nat) : CF MS := cf_R (g 30) (fun M => True) (fun M => some (.int (v_image M).1)) (fun M => (v_image M).2)
theorem inw_X4_image_X4 : ∀ w ∈ u_ws RX4 TX4 45, w ∈ wsX4_image := by decide +kernel
def bk_X4_image_0 (g : Nat → Nat) (Post : Option Value → MS → Prop)  (L : Lc) (st : List Value) (s : MS) : Prop :=
  (wAload 0 <| wK (.int 1) <| wPutZ (g 30) (msS 31) <| wAload 0 <| wK (.int 0) <| wK (.int 1) <| wCallR 3 (F_X4_passesAll g) id (fun _ u => u) <| wAload 0 <| wGet (g 30) (fun s => .int (mS 22 s)) <| wRetI Post) L st s
set_option maxRecDepth 20000 in
theorem s_X4_image_0 {X : Cx} (B : Bx) (g : Nat → Nat) {Post : Option Value → MS → Prop} (C : OkX X (gx B) cX4_image 1 wsX4_image RX4 (rmD 2)) (R : RtX X (gx B) (some .int) (encM B g) Post)  : Snd X (gx B) 1 (encM B g) 0 (bk_X4_image_0 g Post ) := by
  unfold bk_X4_image_0
  refine s_aload_n C rfl dX4_image_0 ?_
  refine s_iconst C (by decide) dX4_image_1 ?_
  refine s_putZ C inw_X4_image_X4 rfl (k := 31) (by decide) (by decide +kernel) tyX4_ok nmX4 (by decide +kernel) (by decide +kernel) (heM_0 B g) (fun _ => Nat.le_of_ble_eq_true rfl) (fun _ _ => rfl) dX4_image_2 ?_
  refine s_aload_n C rfl dX4_image_5 ?_
  refine s_iconst C (by decide) dX4_image_6 ?_
  refine s_iconst C (by decide) dX4_image_7 ?_
  refine s_callV C (fr_M_M B g) (k_X4_passesAll B g) gX4_image_X4_passesAll rfl (by decide +kernel) ⟨rfl, rfl⟩ (by decide) rfl (fun s => ⟨_, heM_0 B g s⟩) (cf_RII_r _ _ _ _) dX4_image_8 ?_
  refine s_aload_n C rfl dX4_image_11 ?_
  refine s_get C inw_X4_image_X4 rfl (k := 22) (by decide) (by decide +kernel) (heM_0 B g) (fun _ => rfl) dX4_image_12 ?_
  exact s_iret C R dX4_image_15
theorem k_X4_image (B : Bx) (g : Nat → Nat) : MtF (gx B) yX4_image wsX4_image (rmD 2) (encM B g) (F_X4_image g) := by
  refine cf_R_i (fun l M h => Mt.of (by decide) rfl (Nat.le_of_ble_eq_true rfl) rfl (fun X C R => s_X4_image_0 B g C R) ?_)
  unfold v_image
  simp only [wIload, wAload, wLload, wK, wB, wDv, wU, wLB, wLU, wLS, wL2i, wLcmp, wIf1, wIf2, wKeep, wInc, wIst, wAst, wLst, wDup, wPop, wDup2, wGet, wPut, wPutZ, wIald, wLald, wIast, wLast, wLen, wRetI, wRetZ, wRetL, wRetA, wRetV, wM1, wM2, wCpy, wTab, tabW, nth, stL, stL2, dropL, keepL, mkL, padL, restOK, restOKn, tl_some, tl_none, id_eq, eq_self, true_and, and_true, bk_X4_image_0, F_X4_passesAll, cf_RII_e]
  simp
def v_restore (M : MS) : Int32 × MS := if mS 31 M = 0 then (-3, uNo M (-3)) else (mS 22 (uPA M 0 0), uPA M 0 0)
def F_X4_restore (g : Nat → Nat) : CF MS := cf_R (g 30) (fun M => True) (fun M => some (.int (v_restore M).1)) (fun M => (v_restore M).2)
theorem inw_X4_restore_X4 : ∀ w ∈ u_ws RX4 TX4 45, w ∈ wsX4_restore := by decide +kernel
def bk_X4_restore_0 (g : Nat → Nat) (Post : Option Value → MS → Prop)  (L : Lc) (st : List Value) (s : MS) : Prop :=
  (wAload 0 <| wGet (g 30) (fun s => .int (mS 31 s)) <| wIf1 (fun x => x = 0) (wAload 0 <| wK (.int (-3)) <| wCallR 2 (F_X4_no g) id (fun _ u => u) <| wRetI Post) (wAload 0 <| wK (.int 0) <| wK (.int 0) <| wCallR 3 (F_X4_passesAll g) id (fun _ u => u) <| wAload 0 <| wGet (g 30) (fun s => .int (mS 22 s)) <| wRetI Post)) L st s
set_option maxRecDepth 20000 in
theorem s_X4_restore_0 {X : Cx} (B : Bx) (g : Nat → Nat) {Post : Option Value → MS → Prop} (C : OkX X (gx B) cX4_restore 1 wsX4_restore RX4 (rmD 2)) (R : RtX X (gx B) (some .int) (encM B g) Post)  : Snd X (gx B) 1 (encM B g) 0 (bk_X4_restore_0 g Post ) := by
  unfold bk_X4_restore_0
  refine s_aload_n C rfl dX4_restore_0 ?_
  refine s_get C inw_X4_restore_X4 rfl (k := 31) (by decide) (by decide +kernel) (heM_0 B g) (fun _ => rfl) dX4_restore_1 ?_
  refine s_if_ne C (tgt := 14) (by decide) dX4_restore_4 ?_ ?_
  · refine s_aload_n C rfl dX4_restore_14 ?_
    refine s_iconst C (by decide) dX4_restore_15 ?_
    refine s_iconst C (by decide) dX4_restore_16 ?_
    refine s_callV C (fr_M_M B g) (k_X4_passesAll B g) gX4_restore_X4_passesAll rfl (by decide +kernel) ⟨rfl, rfl⟩ (by decide) rfl (fun s => ⟨_, heM_0 B g s⟩) (cf_RII_r _ _ _ _) dX4_restore_17 ?_
    refine s_aload_n C rfl dX4_restore_20 ?_
    refine s_get C inw_X4_restore_X4 rfl (k := 22) (by decide) (by decide +kernel) (heM_0 B g) (fun _ => rfl) dX4_restore_21 ?_
    exact s_iret C R dX4_restore_24
  · refine s_aload_n C rfl dX4_restore_7 ?_
    refine s_bipush C (by decide) dX4_restore_8 ?_
    refine s_callV C (fr_M_M B g) (k_X4_no B g) gX4_restore_X4_no rfl (by decide +kernel) ⟨rfl, rfl⟩ (by decide) rfl (fun s => ⟨_, heM_0 B g s⟩) (cf_RI_r _ _ _ _) dX4_restore_10 ?_
    exact s_iret C R dX4_restore_13
theorem k_X4_restore (B : Bx) (g : Nat → Nat) : MtF (gx B) yX4_restore wsX4_restore (rmD 2) (encM B g) (F_X4_restore g) := by
  refine cf_R_i (fun l M h => Mt.of (by decide) rfl (Nat.le_of_ble_eq_true rfl) rfl (fun X C R => s_X4_restore_0 B g C R) ?_)
  simp only [wIload, wAload, wLload, wK, wB, wDv, wU, wLB, wLU, wLS, wL2i, wLcmp, wIf1, wIf2, wKeep, wInc, wIst, wAst, wLst, wDup, wPop, wDup2, wGet, wPut, wPutZ, wIald, wLald, wIast, wLast, wLen, wRetI, wRetZ, wRetL, wRetA, wRetV, wM1, wM2, wCpy, wTab, tabW, nth, stL, stL2, dropL, keepL, mkL, padL, restOK, restOKn, tl_some, tl_none, id_eq, eq_self, true_and, and_true, bk_X4_restore_0, F_X4_no, F_X4_passesAll, cf_RII_e, cf_RI_e, refI3]
  repeat' first | refine And.intro ?_ ?_ | intro _
  all_goals grind [v_restore]
def v_run (M : MS) (r : Int32) : Int32 × MS := if 0 ≤ r ∧ r < 6 then uRun M r 0 else (-2, uNo M (-2))
def F_X4_run (g : Nat → Nat) : CF MS := cf_RI (g 30) (fun M _ => rnPre M) (fun M p => some (.int (v_run M p).1)) (fun M p => (v_run M p).2)
theorem inw_X4_run_X4 : ∀ w ∈ u_ws RX4 TX4 45, w ∈ wsX4_run := by decide +kernel
def bk_X4_run_22 (g : Nat → Nat) (Post : Option Value → MS → Prop)  (L : Lc) (st : List Value) (s : MS) : Prop :=
  (wRetI Post) L st s
set_option maxRecDepth 20000 in
theorem s_X4_run_22 {X : Cx} (B : Bx) (g : Nat → Nat) {Post : Option Value → MS → Prop} (C : OkX X (gx B) cX4_run 2 wsX4_run RX4 (rmD 8)) (R : RtX X (gx B) (some .int) (encM B g) Post)  : Snd X (gx B) 2 (encM B g) 22 (bk_X4_run_22 g Post ) := by
  unfold bk_X4_run_22
  exact s_iret C R dX4_run_22
def bk_X4_run_0 (g : Nat → Nat) (Post : Option Value → MS → Prop)  (L : Lc) (st : List Value) (s : MS) : Prop :=
  (wIload 1 <| wCallR 1 (F_X4_isRule) (fun _ => ()) (fun s _ => s) <| wIf1 (fun x => x = 0) (wAload 0 <| wK (.int (-2)) <| wCallR 2 (F_X4_no g) id (fun _ u => u) <| bk_X4_run_22 g Post ) (wAload 0 <| wIload 1 <| wK (.int 0) <| wCallR 3 (F_X4_runOf g) id (fun _ u => u) <| bk_X4_run_22 g Post )) L st s
set_option maxRecDepth 20000 in
theorem s_X4_run_0 {X : Cx} (B : Bx) (g : Nat → Nat) {Post : Option Value → MS → Prop} (C : OkX X (gx B) cX4_run 2 wsX4_run RX4 (rmD 8)) (R : RtX X (gx B) (some .int) (encM B g) Post)  : Snd X (gx B) 2 (encM B g) 0 (bk_X4_run_0 g Post ) := by
  unfold bk_X4_run_0
  refine s_iload_n C rfl dX4_run_0 ?_
  refine s_callS C (fr_M_E B g) (k_X4_isRule B) gX4_run_X4_isRule rfl (by decide +kernel) ⟨rfl, rfl⟩ (by decide) (cf_I_r _ _ _) dX4_run_1 ?_
  refine s_if_eq C (tgt := 16) (by decide) dX4_run_4 ?_ ?_
  · refine s_aload_n C rfl dX4_run_16 ?_
    refine s_bipush C (by decide) dX4_run_17 ?_
    refine s_callV C (fr_M_M B g) (k_X4_no B g) gX4_run_X4_no rfl (by decide +kernel) ⟨rfl, rfl⟩ (by decide) rfl (fun s => ⟨_, heM_0 B g s⟩) (cf_RI_r _ _ _ _) dX4_run_19 ?_
    exact s_X4_run_22 B g C R 
  · refine s_aload_n C rfl dX4_run_7 ?_
    refine s_iload_n C rfl dX4_run_8 ?_
    refine s_iconst C (by decide) dX4_run_9 ?_
    refine s_callV C (fr_M_M B g) (k_X4_runOf B g) gX4_run_X4_runOf rfl (by decide +kernel) ⟨rfl, rfl⟩ (by decide) rfl (fun s => ⟨_, heM_0 B g s⟩) (cf_RII_r _ _ _ _) dX4_run_10 ?_
    refine s_goto C (tgt := 22) (by decide) dX4_run_13 ?_
    exact s_X4_run_22 B g C R 
theorem k_X4_run (B : Bx) (g : Nat → Nat) : MtF (gx B) yX4_run wsX4_run (rmD 8) (encM B g) (F_X4_run g) := by
  refine cf_RI_i (fun l M r h => Mt.of (by decide) rfl (Nat.le_of_ble_eq_true rfl) rfl (fun X C R => s_X4_run_0 B g C R) ?_)
  simp only [wIload, wAload, wLload, wK, wB, wDv, wU, wLB, wLU, wLS, wL2i, wLcmp, wIf1, wIf2, wKeep, wInc, wIst, wAst, wLst, wDup, wPop, wDup2, wGet, wPut, wPutZ, wIald, wLald, wIast, wLast, wLen, wRetI, wRetZ, wRetL, wRetA, wRetV, wM1, wM2, wCpy, wTab, tabW, nth, stL, stL2, dropL, keepL, mkL, padL, restOK, restOKn, tl_some, tl_none, id_eq, eq_self, true_and, and_true, bk_X4_run_22, bk_X4_run_0, F_X4_isRule, F_X4_no, F_X4_runOf, cf_I_e, cf_RII_e, cf_RI_e, b2i_eq0, refI2, h, decide_eq_false_iff_not]
  repeat' first | refine And.intro ?_ ?_ | intro _
  all_goals grind [v_run]
end
