noncomputable section
def cpL (q P : Nat) : Nat → Nat → MS → MS
  | _, 0, M => M
  | h, n + 1, M => cpL q P (h + 1) n (maA 3 M (4 * P + h) (mA 26 M (q + 2 + h)))
theorem cpL_s (q P h n : Nat) (M : MS) : cpL q P h (n + 1) M = cpL q P (h + 1) n (maA 3 M (4 * P + h) (mA 26 M (q + 2 + h))) := rfl
def uCp0 (M : MS) (q : Nat) : MS := cpL q (uPeople M) 0 4 (maA 2 (maA 1 M (uPeople M) (mA 26 M q)) (uPeople M) (mA 26 M (q + 1)))
def uCp (M : MS) (q : Nat) : Bool × MS := if 6 < mA 26 M q then (false, M) else if mS 15 M = 7 then (false, M) else (true, msS 15 (uCp0 M q) (mS 15 (uCp0 M q) + 1))
def F_X4_comesPerson (g : Nat → Nat) : CF MS := cf_RI (g 30) (fun M p => ppB M ∧ ∃ q, q + 5 < 192 ∧ p = nI q) (fun M p => some (.int (b2i (uCp M p.toNatClampNeg).1))) (fun M p => (uCp M p.toNatClampNeg).2)
theorem inw_X4_comesPerson_X4 : ∀ w ∈ u_ws RX4 TX4 45, w ∈ wsX4_comesPerson := by decide +kernel
def bk_X4_comesPerson_20 (g : Nat → Nat) (Post : Option Value → MS → Prop)  (L : Lc) (st : List Value) (s : MS) : Prop :=
  (wK (.int 0) <| wRetZ Post) L st s
set_option maxRecDepth 20000 in
theorem s_X4_comesPerson_20 {X : Cx} (B : Bx) (g : Nat → Nat) {Post : Option Value → MS → Prop} (C : OkX X (gx B) cX4_comesPerson 3 wsX4_comesPerson RX4 (rmD 0)) (R : RtX X (gx B) (some .boolean) (encM B g) Post)  : Snd X (gx B) 3 (encM B g) 20 (bk_X4_comesPerson_20 g Post ) := by
  unfold bk_X4_comesPerson_20
  refine s_iconst C (by decide) dX4_comesPerson_20 ?_
  exact s_zret C R dX4_comesPerson_21
def bk_X4_comesPerson_0 (g : Nat → Nat) (Post : Option Value → MS → Prop) (K56 : PT MS) (L : Lc) (st : List Value) (s : MS) : Prop :=
  (wAload 0 <| wGet (g 30) (fun _ => .ref (g 57)) <| wIload 1 <| wIald (g 57) 192 (mA 26) <| wK (.int 6) <| wIf2 (fun x y => y < x) (bk_X4_comesPerson_20 g Post ) (wAload 0 <| wGet (g 30) (fun s => .int (mS 15 s)) <| wK (.int 7) <| wIf2 (fun x y => x = y) (bk_X4_comesPerson_20 g Post ) (wAload 0 <| wGet (g 30) (fun _ => .ref (g 32)) <| wAload 0 <| wGet (g 30) (fun s => .int (mS 15 s)) <| wAload 0 <| wGet (g 30) (fun _ => .ref (g 57)) <| wIload 1 <| wIald (g 57) 192 (mA 26) <| wIast (g 32) 7 (maA 1) <| wAload 0 <| wGet (g 30) (fun _ => .ref (g 33)) <| wAload 0 <| wGet (g 30) (fun s => .int (mS 15 s)) <| wAload 0 <| wGet (g 30) (fun _ => .ref (g 57)) <| wIload 1 <| wK (.int 1) <| wB (fun x y => x + y) <| wIald (g 57) 192 (mA 26) <| wIast (g 33) 7 (maA 2) <| wK (.int 0) <| wIst 2 <| wKeep [true, true, true] K56))) L st s
set_option maxRecDepth 20000 in
theorem s_X4_comesPerson_0 {X : Cx} (B : Bx) (g : Nat → Nat) {Post : Option Value → MS → Prop} (C : OkX X (gx B) cX4_comesPerson 3 wsX4_comesPerson RX4 (rmD 0)) (R : RtX X (gx B) (some .boolean) (encM B g) Post) {K56 : PT MS} (hK56 : Snd X (gx B) 3 (encM B g) 56 K56) : Snd X (gx B) 3 (encM B g) 0 (bk_X4_comesPerson_0 g Post K56) := by
  unfold bk_X4_comesPerson_0
  refine s_aload_n C rfl dX4_comesPerson_0 ?_
  refine s_get C inw_X4_comesPerson_X4 rfl (k := 26) (by decide) (by decide +kernel) (heM_0 B g) (fun _ => rfl) dX4_comesPerson_1 ?_
  refine s_iload_n C rfl dX4_comesPerson_4 ?_
  refine s_iald C (heM_19 B g) dX4_comesPerson_5 ?_
  refine s_bipush C (by decide) dX4_comesPerson_6 ?_
  refine s_icmp_gt C (tgt := 20) (by decide) dX4_comesPerson_8 ?_ ?_
  · exact s_X4_comesPerson_20 B g C R 
  · refine s_aload_n C rfl dX4_comesPerson_11 ?_
    refine s_get C inw_X4_comesPerson_X4 rfl (k := 15) (by decide) (by decide +kernel) (heM_0 B g) (fun _ => rfl) dX4_comesPerson_12 ?_
    refine s_bipush C (by decide) dX4_comesPerson_15 ?_
    refine s_icmp_ne C (tgt := 22) (by decide) dX4_comesPerson_17 ?_ ?_
    · refine s_aload_n C rfl dX4_comesPerson_22 ?_
      refine s_get C inw_X4_comesPerson_X4 rfl (k := 1) (by decide) (by decide +kernel) (heM_0 B g) (fun _ => rfl) dX4_comesPerson_23 ?_
      refine s_aload_n C rfl dX4_comesPerson_26 ?_
      refine s_get C inw_X4_comesPerson_X4 rfl (k := 15) (by decide) (by decide +kernel) (heM_0 B g) (fun _ => rfl) dX4_comesPerson_27 ?_
      refine s_aload_n C rfl dX4_comesPerson_30 ?_
      refine s_get C inw_X4_comesPerson_X4 rfl (k := 26) (by decide) (by decide +kernel) (heM_0 B g) (fun _ => rfl) dX4_comesPerson_31 ?_
      refine s_iload_n C rfl dX4_comesPerson_34 ?_
      refine s_iald C (heM_19 B g) dX4_comesPerson_35 ?_
      refine s_iast C (heM_2 B g) (fun _ _ _ => rfl) dX4_comesPerson_36 ?_
      refine s_aload_n C rfl dX4_comesPerson_37 ?_
      refine s_get C inw_X4_comesPerson_X4 rfl (k := 2) (by decide) (by decide +kernel) (heM_0 B g) (fun _ => rfl) dX4_comesPerson_38 ?_
      refine s_aload_n C rfl dX4_comesPerson_41 ?_
      refine s_get C inw_X4_comesPerson_X4 rfl (k := 15) (by decide) (by decide +kernel) (heM_0 B g) (fun _ => rfl) dX4_comesPerson_42 ?_
      refine s_aload_n C rfl dX4_comesPerson_45 ?_
      refine s_get C inw_X4_comesPerson_X4 rfl (k := 26) (by decide) (by decide +kernel) (heM_0 B g) (fun _ => rfl) dX4_comesPerson_46 ?_
      refine s_iload_n C rfl dX4_comesPerson_49 ?_
      refine s_iconst C (by decide) dX4_comesPerson_50 ?_
      refine s_iadd C dX4_comesPerson_51 ?_
      refine s_iald C (heM_19 B g) dX4_comesPerson_52 ?_
      refine s_iast C (heM_3 B g) (fun _ _ _ => rfl) dX4_comesPerson_53 ?_
      refine s_iconst C (by decide) dX4_comesPerson_54 ?_
      refine s_istore_n C rfl (by decide) dX4_comesPerson_55 ?_
      exact s_keep _ hK56
    · exact s_X4_comesPerson_20 B g C R 
def bk_X4_comesPerson_56 (g : Nat → Nat) (Post : Option Value → MS → Prop) (K56 : PT MS) (L : Lc) (st : List Value) (s : MS) : Prop :=
  (wIload 2 <| wK (.int 4) <| wIf2 (fun x y => y ≤ x) (wAload 0 <| wDup <| wGet (g 30) (fun s => .int (mS 15 s)) <| wK (.int 1) <| wB (fun x y => x + y) <| wPut (g 30) (msS 15) <| wK (.int 1) <| wRetZ Post) (wAload 0 <| wGet (g 30) (fun _ => .ref (g 34)) <| wK (.int 4) <| wAload 0 <| wGet (g 30) (fun s => .int (mS 15 s)) <| wB (fun x y => x * y) <| wIload 2 <| wB (fun x y => x + y) <| wAload 0 <| wGet (g 30) (fun _ => .ref (g 57)) <| wIload 1 <| wK (.int 2) <| wB (fun x y => x + y) <| wIload 2 <| wB (fun x y => x + y) <| wIald (g 57) 192 (mA 26) <| wIast (g 34) 28 (maA 3) <| wInc 2 1 <| wKeep [true, true, true] K56)) L st s
set_option maxRecDepth 20000 in
theorem s_X4_comesPerson_56 {X : Cx} (B : Bx) (g : Nat → Nat) {Post : Option Value → MS → Prop} (C : OkX X (gx B) cX4_comesPerson 3 wsX4_comesPerson RX4 (rmD 0)) (R : RtX X (gx B) (some .boolean) (encM B g) Post) {K56 : PT MS} (hK56 : Snd X (gx B) 3 (encM B g) 56 K56) : Snd X (gx B) 3 (encM B g) 56 (bk_X4_comesPerson_56 g Post K56) := by
  unfold bk_X4_comesPerson_56
  refine s_iload_n C rfl dX4_comesPerson_56 ?_
  refine s_iconst C (by decide) dX4_comesPerson_57 ?_
  refine s_icmp_ge C (tgt := 90) (by decide) dX4_comesPerson_58 ?_ ?_
  · refine s_aload_n C rfl dX4_comesPerson_90 ?_
    refine s_dup C dX4_comesPerson_91 ?_
    refine s_get C inw_X4_comesPerson_X4 rfl (k := 15) (by decide) (by decide +kernel) (heM_0 B g) (fun _ => rfl) dX4_comesPerson_92 ?_
    refine s_iconst C (by decide) dX4_comesPerson_95 ?_
    refine s_iadd C dX4_comesPerson_96 ?_
    refine s_put C inw_X4_comesPerson_X4 rfl (k := 15) (by decide) (by decide +kernel) tyX4_ok nmX4 (by decide +kernel) (by decide +kernel) (heM_0 B g) (fun _ => Nat.le_of_ble_eq_true rfl) (fun _ _ => rfl) dX4_comesPerson_97 ?_
    refine s_iconst C (by decide) dX4_comesPerson_100 ?_
    exact s_zret C R dX4_comesPerson_101
  · refine s_aload_n C rfl dX4_comesPerson_61 ?_
    refine s_get C inw_X4_comesPerson_X4 rfl (k := 3) (by decide) (by decide +kernel) (heM_0 B g) (fun _ => rfl) dX4_comesPerson_62 ?_
    refine s_iconst C (by decide) dX4_comesPerson_65 ?_
    refine s_aload_n C rfl dX4_comesPerson_66 ?_
    refine s_get C inw_X4_comesPerson_X4 rfl (k := 15) (by decide) (by decide +kernel) (heM_0 B g) (fun _ => rfl) dX4_comesPerson_67 ?_
    refine s_imul C dX4_comesPerson_70 ?_
    refine s_iload_n C rfl dX4_comesPerson_71 ?_
    refine s_iadd C dX4_comesPerson_72 ?_
    refine s_aload_n C rfl dX4_comesPerson_73 ?_
    refine s_get C inw_X4_comesPerson_X4 rfl (k := 26) (by decide) (by decide +kernel) (heM_0 B g) (fun _ => rfl) dX4_comesPerson_74 ?_
    refine s_iload_n C rfl dX4_comesPerson_77 ?_
    refine s_iconst C (by decide) dX4_comesPerson_78 ?_
    refine s_iadd C dX4_comesPerson_79 ?_
    refine s_iload_n C rfl dX4_comesPerson_80 ?_
    refine s_iadd C dX4_comesPerson_81 ?_
    refine s_iald C (heM_19 B g) dX4_comesPerson_82 ?_
    refine s_iast C (heM_4 B g) (fun _ _ _ => rfl) dX4_comesPerson_83 ?_
    refine s_iinc C (by decide) (by decide) dX4_comesPerson_84 ?_
    refine s_goto C (tgt := 56) (by decide) dX4_comesPerson_87 ?_
    exact s_keep _ hK56
def I_cp (g : Nat → Nat) (q P : Nat) (fin : MS) (n : Nat) (L : Lc) (st : List Value) (s : MS) : Prop := ∃ (h : Nat), n + h = 4 ∧ mS 15 s = nI P ∧ P < 7 ∧ st = [] ∧ L = [some (.ref (g 30)), some (.int (nI q)), some (.int (nI h))] ∧ cpL q P h n s = fin
theorem k_X4_comesPerson (B : Bx) (g : Nat → Nat) : MtF (gx B) yX4_comesPerson wsX4_comesPerson (rmD 0) (encM B g) (F_X4_comesPerson g) := by
  refine cf_RI_i (fun l M p h => ?_)
  obtain ⟨hp, q, hq, rfl⟩ := h
  have cq : (nI q).toNatClampNeg = q := nI_clamp (by omega)
  rw [cq]
  obtain ⟨ep, hp7⟩ := ppB_c hp
  have e1 : 6 < mA 26 M q → uCp M q = (false, M) := fun z => if_pos z
  have e2 : ¬ 6 < mA 26 M q → mS 15 M = 7 → uCp M q = (false, M) := fun z y => by unfold uCp; rw [if_neg z, if_pos y]
  have e3 : ¬ 6 < mA 26 M q → ¬ mS 15 M = 7 → uCp M q = (true, msS 15 (uCp0 M q) (mS 15 (uCp0 M q) + 1)) := fun z y => by unfold uCp; rw [if_neg z, if_neg y]
  generalize uCp M q = r at e1 e2 e3
  generalize hfin : uCp0 M q = fin at e3
  unfold uCp0 at hfin
  generalize uPeople M = P at hp7 ep hfin
  refine Mt.of (P := bk_X4_comesPerson_0 g (fun o u => o = some (.int (b2i r.1)) ∧ u = r.2) (fun L st s => (¬ 6 < mA 26 M q ∧ ¬ mS 15 M = 7) ∧ ∃ n, I_cp g q P fin n L st s)) (by decide) rfl (Nat.le_of_ble_eq_true rfl) rfl (fun X C R => s_X4_comesPerson_0 B g C R (Snd.imp (fun hc => snd_loop _ (I_cp g q P fin) (fun K hK => s_X4_comesPerson_56 B g C R hK) ?_))) ?_
  · rintro K n L st s ⟨i, hn, hs, hP, rfl, rfl, hf⟩ hK
    rw [e3 hc.1 hc.2]
    have ew : (4 : Int32) * nI P = nI (4 * P) := pk_mul 4 P
    have ew2 : nI (4 * P) + nI i = nI (4 * P + i) := nI_add _ _
    have eq2 : nI q + 2 = nI (q + 2) := nI_add _ 2
    have eq3 : nI (q + 2) + nI i = nI (q + 2 + i) := nI_add _ _
    simp only [wIload, wAload, wLload, wK, wB, wDv, wU, wLB, wLU, wLS, wL2i, wLcmp, wIf1, wIf2, wKeep, wInc, wIst, wAst, wLst, wDup, wPop, wDup2, wGet, wPut, wPutZ, wIald, wLald, wIast, wLast, wLen, wRetI, wRetZ, wRetL, wRetA, wRetV, wM1, wM2, wCpy, wTab, tabW, nth, stL, stL2, dropL, keepL, mkL, padL, restOK, restOKn, tl_some, tl_none, id_eq, eq_self, true_and, and_true, bk_X4_comesPerson_20, bk_X4_comesPerson_0, bk_X4_comesPerson_56, mS_S, mA_A, mS_A, mA_S, mS_a, mA_a, Nat.reduceEqDiff, reduceIte, hs, ew, ew2, eq2, eq3]
    rcases Nat.lt_or_ge i 4 with hlt | hge
    · have h2 : ¬ (4 : Int32) ≤ nI i := nI_ge (a := i) (b := 4) hlt (by omega)
      obtain ⟨n, rfl⟩ : ∃ m, n = m + 1 := ⟨n - 1, by omega⟩
      rw [cpL_s] at hf
      have w1 : vp_in (nI (4 * P + i)) 28 := vp_in_nI (by omega) (by decide)
      have w2 : vp_in (nI (q + 2 + i)) 192 := vp_in_nI (by omega) (by decide)
      have c1 : (nI (4 * P + i)).toNatClampNeg = 4 * P + i := nI_clamp (by omega)
      have c2 : (nI (q + 2 + i)).toNatClampNeg = q + 2 + i := nI_clamp (by omega)
      simp only [h2, w1, w2, c1, c2, false_implies, true_implies, not_true_eq_false, not_false_eq_true, true_and, and_true, implies_true, eq_self, ne_eq, true_or, or_true, false_or, or_false, and_self]
      rw [nI_1]
      exact hK n _ _ _ (by omega) ⟨i + 1, by omega, hs, hP, rfl, rfl, hf⟩
    · have h2 : (4 : Int32) ≤ nI i := nI_le (a := 4) hge (by omega)
      have h0 : n = 0 := by omega
      subst h0
      have hf : s = fin := hf
      subst hf
      simp only [h2, false_implies, true_implies, not_true_eq_false, not_false_eq_true, true_and, and_true, implies_true, eq_self, ne_eq, true_or, or_true, false_or, or_false, and_self]
      rw [hs]
      exact ⟨rfl, rfl⟩
  · have wq : vp_in (nI q) 192 := vp_in_nI (by omega) (by decide)
    have wq1 : vp_in (nI (q + 1)) 192 := vp_in_nI (by omega) (by decide)
    have cq1 : (nI (q + 1)).toNatClampNeg = q + 1 := nI_clamp (by omega)
    have cP : (nI P).toNatClampNeg = P := nI_clamp (by omega)
    have eq1 : nI q + 1 = nI (q + 1) := nI_add _ 1
    simp only [wIload, wAload, wLload, wK, wB, wDv, wU, wLB, wLU, wLS, wL2i, wLcmp, wIf1, wIf2, wKeep, wInc, wIst, wAst, wLst, wDup, wPop, wDup2, wGet, wPut, wPutZ, wIald, wLald, wIast, wLast, wLen, wRetI, wRetZ, wRetL, wRetA, wRetV, wM1, wM2, wCpy, wTab, tabW, nth, stL, stL2, dropL, keepL, mkL, padL, restOK, restOKn, tl_some, tl_none, id_eq, eq_self, true_and, and_true, bk_X4_comesPerson_20, bk_X4_comesPerson_0, bk_X4_comesPerson_56, mS_S, mA_A, mS_A, mA_S, mS_a, mA_a, Nat.reduceEqDiff, reduceIte, ep, wq, cq, eq1, wq1, cq1, cP]
    by_cases h1 : 6 < mA 26 M q
    · rw [e1 h1]
      simp only [h1, false_implies, true_implies, not_true_eq_false, not_false_eq_true, true_and, and_true, implies_true, eq_self, ne_eq, true_or, or_true, false_or, or_false, and_self]
      all_goals first | done | exact ⟨rfl, rfl⟩ | exact rfl | exact b2i_01 _ | exact ⟨b2i_01 _, rfl, rfl⟩ | exact ⟨b2i_01 _, rfl⟩ | exact ⟨rfl, rfl, rfl⟩ | exact trivial
    · by_cases h2 : mS 15 M = 7
      · rw [e2 h1 h2]
        rw [ep] at h2
        simp only [h1, h2, false_implies, true_implies, not_true_eq_false, not_false_eq_true, true_and, and_true, implies_true, eq_self, ne_eq, true_or, or_true, false_or, or_false, and_self]
        all_goals first | done | exact ⟨rfl, rfl⟩ | exact rfl | exact b2i_01 _ | exact ⟨b2i_01 _, rfl, rfl⟩ | exact ⟨b2i_01 _, rfl⟩ | exact ⟨rfl, rfl, rfl⟩ | exact trivial
      · have h3 : ¬ nI P = 7 := by rw [← ep]; exact h2
        have hP7 : P < 7 := Nat.lt_of_le_of_ne hp7 (fun z => h3 (by rw [z]; rfl))
        have wP : vp_in (nI P) 7 := vp_in_nI hP7 (by decide)
        simp only [h1, h3, wP, false_implies, true_implies, not_true_eq_false, not_false_eq_true, true_and, and_true, implies_true, eq_self, ne_eq, true_or, or_true, false_or, or_false, and_self]
        exact ⟨4, 0, rfl, ep, hP7, rfl, rfl, hfin⟩
def uCn0 (M : MS) (q : Nat) : MS := msS 16 (maA 9 (maA 8 (maA 7 (maA 6 (maA 5 (maA 4 M (uNeeds M) (mA 26 M q)) (uNeeds M) (mA 26 M (q + 1))) (uNeeds M) (mA 26 M (q + 2))) (uNeeds M) (mA 26 M (q + 3))) (uNeeds M) (mA 26 M (q + 4))) (uNeeds M) 0) (mS 16 M + 1)
def uCnB (M : MS) (q : Nat) : Bool := uOne M (mA 26 M q) && (!decide (3 < mA 26 M (q + 1)) && (!decide (mA 26 M (q + 2) = 0) && (uIn (mA 26 M (q + 3)) 1 3 && !decide (mS 16 M = 12))))
def uCn (M : MS) (q : Nat) : Bool × MS := if uCnB M q = true then (true, uCn0 M q) else (false, M)
def F_X4_comesNeed (g : Nat → Nat) : CF MS := cf_RI (g 30) (fun M p => nnB M ∧ ∃ q, q + 5 < 192 ∧ p = nI q) (fun M p => some (.int (b2i (uCn M p.toNatClampNeg).1))) (fun M p => (uCn M p.toNatClampNeg).2)
theorem inw_X4_comesNeed_X4 : ∀ w ∈ u_ws RX4 TX4 45, w ∈ wsX4_comesNeed := by decide +kernel
def bk_X4_comesNeed_61 (g : Nat → Nat) (Post : Option Value → MS → Prop)  (L : Lc) (st : List Value) (s : MS) : Prop :=
  (wK (.int 0) <| wRetZ Post) L st s
set_option maxRecDepth 20000 in
theorem s_X4_comesNeed_61 {X : Cx} (B : Bx) (g : Nat → Nat) {Post : Option Value → MS → Prop} (C : OkX X (gx B) cX4_comesNeed 2 wsX4_comesNeed RX4 (rmD 1)) (R : RtX X (gx B) (some .boolean) (encM B g) Post)  : Snd X (gx B) 2 (encM B g) 61 (bk_X4_comesNeed_61 g Post ) := by
  unfold bk_X4_comesNeed_61
  refine s_iconst C (by decide) dX4_comesNeed_61 ?_
  exact s_zret C R dX4_comesNeed_62
def bk_X4_comesNeed_0 (g : Nat → Nat) (Post : Option Value → MS → Prop)  (L : Lc) (st : List Value) (s : MS) : Prop :=
  (wAload 0 <| wAload 0 <| wGet (g 30) (fun _ => .ref (g 57)) <| wIload 1 <| wIald (g 57) 192 (mA 26) <| wCallR 2 (F_X4_isOne g) id (fun _ u => u) <| wIf1 (fun x => x = 0) (bk_X4_comesNeed_61 g Post ) (wAload 0 <| wGet (g 30) (fun _ => .ref (g 57)) <| wIload 1 <| wK (.int 1) <| wB (fun x y => x + y) <| wIald (g 57) 192 (mA 26) <| wK (.int 3) <| wIf2 (fun x y => y < x) (bk_X4_comesNeed_61 g Post ) (wAload 0 <| wGet (g 30) (fun _ => .ref (g 57)) <| wIload 1 <| wK (.int 2) <| wB (fun x y => x + y) <| wIald (g 57) 192 (mA 26) <| wIf1 (fun x => x = 0) (bk_X4_comesNeed_61 g Post ) (wAload 0 <| wGet (g 30) (fun _ => .ref (g 57)) <| wIload 1 <| wK (.int 3) <| wB (fun x y => x + y) <| wIald (g 57) 192 (mA 26) <| wK (.int 1) <| wK (.int 3) <| wCallR 3 (F_X4_isIn) (fun _ => ()) (fun s _ => s) <| wIf1 (fun x => x = 0) (bk_X4_comesNeed_61 g Post ) (wAload 0 <| wGet (g 30) (fun s => .int (mS 16 s)) <| wK (.int 12) <| wIf2 (fun x y => x = y) (bk_X4_comesNeed_61 g Post ) (wAload 0 <| wGet (g 30) (fun _ => .ref (g 35)) <| wAload 0 <| wGet (g 30) (fun s => .int (mS 16 s)) <| wAload 0 <| wGet (g 30) (fun _ => .ref (g 57)) <| wIload 1 <| wIald (g 57) 192 (mA 26) <| wIast (g 35) 13 (maA 4) <| wAload 0 <| wGet (g 30) (fun _ => .ref (g 36)) <| wAload 0 <| wGet (g 30) (fun s => .int (mS 16 s)) <| wAload 0 <| wGet (g 30) (fun _ => .ref (g 57)) <| wIload 1 <| wK (.int 1) <| wB (fun x y => x + y) <| wIald (g 57) 192 (mA 26) <| wIast (g 36) 13 (maA 5) <| wAload 0 <| wGet (g 30) (fun _ => .ref (g 37)) <| wAload 0 <| wGet (g 30) (fun s => .int (mS 16 s)) <| wAload 0 <| wGet (g 30) (fun _ => .ref (g 57)) <| wIload 1 <| wK (.int 2) <| wB (fun x y => x + y) <| wIald (g 57) 192 (mA 26) <| wIast (g 37) 13 (maA 6) <| wAload 0 <| wGet (g 30) (fun _ => .ref (g 38)) <| wAload 0 <| wGet (g 30) (fun s => .int (mS 16 s)) <| wAload 0 <| wGet (g 30) (fun _ => .ref (g 57)) <| wIload 1 <| wK (.int 3) <| wB (fun x y => x + y) <| wIald (g 57) 192 (mA 26) <| wIast (g 38) 13 (maA 7) <| wAload 0 <| wGet (g 30) (fun _ => .ref (g 39)) <| wAload 0 <| wGet (g 30) (fun s => .int (mS 16 s)) <| wAload 0 <| wGet (g 30) (fun _ => .ref (g 57)) <| wIload 1 <| wK (.int 4) <| wB (fun x y => x + y) <| wIald (g 57) 192 (mA 26) <| wIast (g 39) 13 (maA 8) <| wAload 0 <| wGet (g 30) (fun _ => .ref (g 40)) <| wAload 0 <| wGet (g 30) (fun s => .int (mS 16 s)) <| wK (.int 0) <| wIast (g 40) 13 (maA 9) <| wAload 0 <| wDup <| wGet (g 30) (fun s => .int (mS 16 s)) <| wK (.int 1) <| wB (fun x y => x + y) <| wPut (g 30) (msS 16) <| wK (.int 1) <| wRetZ Post)))))) L st s
set_option maxRecDepth 20000 in
theorem s_X4_comesNeed_0 {X : Cx} (B : Bx) (g : Nat → Nat) {Post : Option Value → MS → Prop} (C : OkX X (gx B) cX4_comesNeed 2 wsX4_comesNeed RX4 (rmD 1)) (R : RtX X (gx B) (some .boolean) (encM B g) Post)  : Snd X (gx B) 2 (encM B g) 0 (bk_X4_comesNeed_0 g Post ) := by
  unfold bk_X4_comesNeed_0
  refine s_aload_n C rfl dX4_comesNeed_0 ?_
  refine s_aload_n C rfl dX4_comesNeed_1 ?_
  refine s_get C inw_X4_comesNeed_X4 rfl (k := 26) (by decide) (by decide +kernel) (heM_0 B g) (fun _ => rfl) dX4_comesNeed_2 ?_
  refine s_iload_n C rfl dX4_comesNeed_5 ?_
  refine s_iald C (heM_19 B g) dX4_comesNeed_6 ?_
  refine s_callV C (fr_M_M B g) (k_X4_isOne B g) gX4_comesNeed_X4_isOne rfl (by decide +kernel) ⟨rfl, rfl⟩ (by decide) rfl (fun s => ⟨_, heM_0 B g s⟩) (cf_RI_r _ _ _ _) dX4_comesNeed_7 ?_
  refine s_if_eq C (tgt := 61) (by decide) dX4_comesNeed_10 ?_ ?_
  · exact s_X4_comesNeed_61 B g C R 
  · refine s_aload_n C rfl dX4_comesNeed_13 ?_
    refine s_get C inw_X4_comesNeed_X4 rfl (k := 26) (by decide) (by decide +kernel) (heM_0 B g) (fun _ => rfl) dX4_comesNeed_14 ?_
    refine s_iload_n C rfl dX4_comesNeed_17 ?_
    refine s_iconst C (by decide) dX4_comesNeed_18 ?_
    refine s_iadd C dX4_comesNeed_19 ?_
    refine s_iald C (heM_19 B g) dX4_comesNeed_20 ?_
    refine s_iconst C (by decide) dX4_comesNeed_21 ?_
    refine s_icmp_gt C (tgt := 61) (by decide) dX4_comesNeed_22 ?_ ?_
    · exact s_X4_comesNeed_61 B g C R 
    · refine s_aload_n C rfl dX4_comesNeed_25 ?_
      refine s_get C inw_X4_comesNeed_X4 rfl (k := 26) (by decide) (by decide +kernel) (heM_0 B g) (fun _ => rfl) dX4_comesNeed_26 ?_
      refine s_iload_n C rfl dX4_comesNeed_29 ?_
      refine s_iconst C (by decide) dX4_comesNeed_30 ?_
      refine s_iadd C dX4_comesNeed_31 ?_
      refine s_iald C (heM_19 B g) dX4_comesNeed_32 ?_
      refine s_if_eq C (tgt := 61) (by decide) dX4_comesNeed_33 ?_ ?_
      · exact s_X4_comesNeed_61 B g C R 
      · refine s_aload_n C rfl dX4_comesNeed_36 ?_
        refine s_get C inw_X4_comesNeed_X4 rfl (k := 26) (by decide) (by decide +kernel) (heM_0 B g) (fun _ => rfl) dX4_comesNeed_37 ?_
        refine s_iload_n C rfl dX4_comesNeed_40 ?_
        refine s_iconst C (by decide) dX4_comesNeed_41 ?_
        refine s_iadd C dX4_comesNeed_42 ?_
        refine s_iald C (heM_19 B g) dX4_comesNeed_43 ?_
        refine s_iconst C (by decide) dX4_comesNeed_44 ?_
        refine s_iconst C (by decide) dX4_comesNeed_45 ?_
        refine s_callS C (fr_M_E B g) (k_X4_isIn B) gX4_comesNeed_X4_isIn rfl (by decide +kernel) ⟨rfl, rfl⟩ (by decide) (cf_III_r _ _ _) dX4_comesNeed_46 ?_
        refine s_if_eq C (tgt := 61) (by decide) dX4_comesNeed_49 ?_ ?_
        · exact s_X4_comesNeed_61 B g C R 
        · refine s_aload_n C rfl dX4_comesNeed_52 ?_
          refine s_get C inw_X4_comesNeed_X4 rfl (k := 16) (by decide) (by decide +kernel) (heM_0 B g) (fun _ => rfl) dX4_comesNeed_53 ?_
          refine s_bipush C (by decide) dX4_comesNeed_56 ?_
          refine s_icmp_ne C (tgt := 63) (by decide) dX4_comesNeed_58 ?_ ?_
          · refine s_aload_n C rfl dX4_comesNeed_63 ?_
            refine s_get C inw_X4_comesNeed_X4 rfl (k := 4) (by decide) (by decide +kernel) (heM_0 B g) (fun _ => rfl) dX4_comesNeed_64 ?_
            refine s_aload_n C rfl dX4_comesNeed_67 ?_
            refine s_get C inw_X4_comesNeed_X4 rfl (k := 16) (by decide) (by decide +kernel) (heM_0 B g) (fun _ => rfl) dX4_comesNeed_68 ?_
            refine s_aload_n C rfl dX4_comesNeed_71 ?_
            refine s_get C inw_X4_comesNeed_X4 rfl (k := 26) (by decide) (by decide +kernel) (heM_0 B g) (fun _ => rfl) dX4_comesNeed_72 ?_
            refine s_iload_n C rfl dX4_comesNeed_75 ?_
            refine s_iald C (heM_19 B g) dX4_comesNeed_76 ?_
            refine s_iast C (heM_5 B g) (fun _ _ _ => rfl) dX4_comesNeed_77 ?_
            refine s_aload_n C rfl dX4_comesNeed_78 ?_
            refine s_get C inw_X4_comesNeed_X4 rfl (k := 5) (by decide) (by decide +kernel) (heM_0 B g) (fun _ => rfl) dX4_comesNeed_79 ?_
            refine s_aload_n C rfl dX4_comesNeed_82 ?_
            refine s_get C inw_X4_comesNeed_X4 rfl (k := 16) (by decide) (by decide +kernel) (heM_0 B g) (fun _ => rfl) dX4_comesNeed_83 ?_
            refine s_aload_n C rfl dX4_comesNeed_86 ?_
            refine s_get C inw_X4_comesNeed_X4 rfl (k := 26) (by decide) (by decide +kernel) (heM_0 B g) (fun _ => rfl) dX4_comesNeed_87 ?_
            refine s_iload_n C rfl dX4_comesNeed_90 ?_
            refine s_iconst C (by decide) dX4_comesNeed_91 ?_
            refine s_iadd C dX4_comesNeed_92 ?_
            refine s_iald C (heM_19 B g) dX4_comesNeed_93 ?_
            refine s_iast C (heM_6 B g) (fun _ _ _ => rfl) dX4_comesNeed_94 ?_
            refine s_aload_n C rfl dX4_comesNeed_95 ?_
            refine s_get C inw_X4_comesNeed_X4 rfl (k := 6) (by decide) (by decide +kernel) (heM_0 B g) (fun _ => rfl) dX4_comesNeed_96 ?_
            refine s_aload_n C rfl dX4_comesNeed_99 ?_
            refine s_get C inw_X4_comesNeed_X4 rfl (k := 16) (by decide) (by decide +kernel) (heM_0 B g) (fun _ => rfl) dX4_comesNeed_100 ?_
            refine s_aload_n C rfl dX4_comesNeed_103 ?_
            refine s_get C inw_X4_comesNeed_X4 rfl (k := 26) (by decide) (by decide +kernel) (heM_0 B g) (fun _ => rfl) dX4_comesNeed_104 ?_
            refine s_iload_n C rfl dX4_comesNeed_107 ?_
            refine s_iconst C (by decide) dX4_comesNeed_108 ?_
            refine s_iadd C dX4_comesNeed_109 ?_
            refine s_iald C (heM_19 B g) dX4_comesNeed_110 ?_
            refine s_iast C (heM_7 B g) (fun _ _ _ => rfl) dX4_comesNeed_111 ?_
            refine s_aload_n C rfl dX4_comesNeed_112 ?_
            refine s_get C inw_X4_comesNeed_X4 rfl (k := 7) (by decide) (by decide +kernel) (heM_0 B g) (fun _ => rfl) dX4_comesNeed_113 ?_
            refine s_aload_n C rfl dX4_comesNeed_116 ?_
            refine s_get C inw_X4_comesNeed_X4 rfl (k := 16) (by decide) (by decide +kernel) (heM_0 B g) (fun _ => rfl) dX4_comesNeed_117 ?_
            refine s_aload_n C rfl dX4_comesNeed_120 ?_
            refine s_get C inw_X4_comesNeed_X4 rfl (k := 26) (by decide) (by decide +kernel) (heM_0 B g) (fun _ => rfl) dX4_comesNeed_121 ?_
            refine s_iload_n C rfl dX4_comesNeed_124 ?_
            refine s_iconst C (by decide) dX4_comesNeed_125 ?_
            refine s_iadd C dX4_comesNeed_126 ?_
            refine s_iald C (heM_19 B g) dX4_comesNeed_127 ?_
            refine s_iast C (heM_8 B g) (fun _ _ _ => rfl) dX4_comesNeed_128 ?_
            refine s_aload_n C rfl dX4_comesNeed_129 ?_
            refine s_get C inw_X4_comesNeed_X4 rfl (k := 8) (by decide) (by decide +kernel) (heM_0 B g) (fun _ => rfl) dX4_comesNeed_130 ?_
            refine s_aload_n C rfl dX4_comesNeed_133 ?_
            refine s_get C inw_X4_comesNeed_X4 rfl (k := 16) (by decide) (by decide +kernel) (heM_0 B g) (fun _ => rfl) dX4_comesNeed_134 ?_
            refine s_aload_n C rfl dX4_comesNeed_137 ?_
            refine s_get C inw_X4_comesNeed_X4 rfl (k := 26) (by decide) (by decide +kernel) (heM_0 B g) (fun _ => rfl) dX4_comesNeed_138 ?_
            refine s_iload_n C rfl dX4_comesNeed_141 ?_
            refine s_iconst C (by decide) dX4_comesNeed_142 ?_
            refine s_iadd C dX4_comesNeed_143 ?_
            refine s_iald C (heM_19 B g) dX4_comesNeed_144 ?_
            refine s_iast C (heM_9 B g) (fun _ _ _ => rfl) dX4_comesNeed_145 ?_
            refine s_aload_n C rfl dX4_comesNeed_146 ?_
            refine s_get C inw_X4_comesNeed_X4 rfl (k := 9) (by decide) (by decide +kernel) (heM_0 B g) (fun _ => rfl) dX4_comesNeed_147 ?_
            refine s_aload_n C rfl dX4_comesNeed_150 ?_
            refine s_get C inw_X4_comesNeed_X4 rfl (k := 16) (by decide) (by decide +kernel) (heM_0 B g) (fun _ => rfl) dX4_comesNeed_151 ?_
            refine s_iconst C (by decide) dX4_comesNeed_154 ?_
            refine s_iast C (heM_10 B g) (fun _ _ _ => rfl) dX4_comesNeed_155 ?_
            refine s_aload_n C rfl dX4_comesNeed_156 ?_
            refine s_dup C dX4_comesNeed_157 ?_
            refine s_get C inw_X4_comesNeed_X4 rfl (k := 16) (by decide) (by decide +kernel) (heM_0 B g) (fun _ => rfl) dX4_comesNeed_158 ?_
            refine s_iconst C (by decide) dX4_comesNeed_161 ?_
            refine s_iadd C dX4_comesNeed_162 ?_
            refine s_put C inw_X4_comesNeed_X4 rfl (k := 16) (by decide) (by decide +kernel) tyX4_ok nmX4 (by decide +kernel) (by decide +kernel) (heM_0 B g) (fun _ => Nat.le_of_ble_eq_true rfl) (fun _ _ => rfl) dX4_comesNeed_163 ?_
            refine s_iconst C (by decide) dX4_comesNeed_166 ?_
            exact s_zret C R dX4_comesNeed_167
          · exact s_X4_comesNeed_61 B g C R 
theorem k_X4_comesNeed (B : Bx) (g : Nat → Nat) : MtF (gx B) yX4_comesNeed wsX4_comesNeed (rmD 1) (encM B g) (F_X4_comesNeed g) := by
  refine cf_RI_i (fun l M p h => Mt.of (by decide) rfl (Nat.le_of_ble_eq_true rfl) rfl (fun X C R => s_X4_comesNeed_0 B g C R) ?_)
  obtain ⟨hp, q, hq, rfl⟩ := h
  have cq : (nI q).toNatClampNeg = q := nI_clamp (by omega)
  rw [cq]
  obtain ⟨ep, hp7⟩ := nnB_c hp
  have wq : vp_in (nI q) 192 := vp_in_nI (by omega) (by decide)
  have wq1 : vp_in (nI (q + 1)) 192 := vp_in_nI (by omega) (by decide)
  have cq1 : (nI (q + 1)).toNatClampNeg = q + 1 := nI_clamp (by omega)
  have wq2 : vp_in (nI (q + 2)) 192 := vp_in_nI (by omega) (by decide)
  have cq2 : (nI (q + 2)).toNatClampNeg = q + 2 := nI_clamp (by omega)
  have wq3 : vp_in (nI (q + 3)) 192 := vp_in_nI (by omega) (by decide)
  have cq3 : (nI (q + 3)).toNatClampNeg = q + 3 := nI_clamp (by omega)
  have wq4 : vp_in (nI (q + 4)) 192 := vp_in_nI (by omega) (by decide)
  have cq4 : (nI (q + 4)).toNatClampNeg = q + 4 := nI_clamp (by omega)
  have eq1 : nI q + 1 = nI (q + 1) := nI_add _ 1
  have eq2 : nI q + 2 = nI (q + 2) := nI_add _ 2
  have eq3 : nI q + 3 = nI (q + 3) := nI_add _ 3
  have eq4 : nI q + 4 = nI (q + 4) := nI_add _ 4
  have wn : vp_in (mS 16 M) 13 := by rw [ep]; exact vp_in_nI (by omega) (by decide)
  have cn : (mS 16 M).toNatClampNeg = uNeeds M := rfl
  simp only [wIload, wAload, wLload, wK, wB, wDv, wU, wLB, wLU, wLS, wL2i, wLcmp, wIf1, wIf2, wKeep, wInc, wIst, wAst, wLst, wDup, wPop, wDup2, wGet, wPut, wPutZ, wIald, wLald, wIast, wLast, wLen, wRetI, wRetZ, wRetL, wRetA, wRetV, wM1, wM2, wCpy, wTab, tabW, nth, stL, stL2, dropL, keepL, mkL, padL, restOK, restOKn, tl_some, tl_none, id_eq, eq_self, true_and, and_true, bk_X4_comesNeed_61, bk_X4_comesNeed_0, F_X4_isIn, F_X4_isOne, cf_III_e, cf_RI_e, mS_S, mA_A, mS_A, mA_S, mS_a, mA_a, Nat.reduceEqDiff, reduceIte, b2i_eq0, wq, cq, eq1, wq1, cq1, eq2, wq2, cq2, eq3, wq3, cq3, eq4, wq4, cq4, wn, cn]
  have e1 : uCnB M q = false → uCn M q = (false, M) := fun z => if_neg (by rw [z]; exact Bool.noConfusion)
  have e2 : uCnB M q = true → uCn M q = (true, uCn0 M q) := fun z => if_pos z
  cases hc : uCnB M q
  · rw [e1 hc]
    unfold uCnB at hc
    simp only [Bool.and_eq_false_iff, Bool.not_eq_false', decide_eq_true_eq] at hc
    repeat' first | refine And.intro ?_ ?_ | intro _
    all_goals grind [b2i]
  · rw [e2 hc]
    unfold uCnB at hc
    simp only [Bool.and_eq_true, Bool.not_eq_true', decide_eq_false_iff_not] at hc
    obtain ⟨c1, c2, c3, c4, c5⟩ := hc
    simp only [c1, c2, c3, c4, c5, Bool.true_eq_false, false_implies, true_implies, not_true_eq_false, not_false_eq_true, true_and, and_true, implies_true, eq_self, ne_eq, true_or, or_true, false_or, or_false, and_self]
    all_goals first | done | exact ⟨rfl, rfl⟩ | exact rfl | exact b2i_01 _ | exact ⟨b2i_01 _, rfl, rfl⟩ | exact ⟨b2i_01 _, rfl⟩ | exact ⟨rfl, rfl, rfl⟩ | exact trivial
def uCl (M : MS) (k : Nat) : Bool × MS := if 3 < mA 26 M (6 * k) then (false, M) else if mA 26 M (6 * k + 1) = 0 then (false, M) else (true, msS 20 (msS 19 (msS 18 M (mA 26 M (6 * k))) (mA 26 M (6 * k + 1))) (mA 26 M (6 * k + 2)))
def uCm (M : MS) (k : Nat) : Bool × MS := if mA 24 M k = 112 then uCp M (6 * k) else if mA 24 M k = 110 then uCn M (6 * k) else uCl M k
def F_X4_comes (g : Nat → Nat) : CF MS := cf_RI (g 30) (fun M p => ppB M ∧ nnB M ∧ ixB 32 p) (fun M p => some (.int (b2i (uCm M p.toNatClampNeg).1))) (fun M p => (uCm M p.toNatClampNeg).2)
theorem inw_X4_comes_X4 : ∀ w ∈ u_ws RX4 TX4 45, w ∈ wsX4_comes := by decide +kernel
def bk_X4_comes_67 (g : Nat → Nat) (Post : Option Value → MS → Prop)  (L : Lc) (st : List Value) (s : MS) : Prop :=
  (wK (.int 0) <| wRetZ Post) L st s
set_option maxRecDepth 20000 in
theorem s_X4_comes_67 {X : Cx} (B : Bx) (g : Nat → Nat) {Post : Option Value → MS → Prop} (C : OkX X (gx B) cX4_comes 2 wsX4_comes RX4 (rmD 2)) (R : RtX X (gx B) (some .boolean) (encM B g) Post)  : Snd X (gx B) 2 (encM B g) 67 (bk_X4_comes_67 g Post ) := by
  unfold bk_X4_comes_67
  refine s_iconst C (by decide) dX4_comes_67 ?_
  exact s_zret C R dX4_comes_68
def bk_X4_comes_0 (g : Nat → Nat) (Post : Option Value → MS → Prop)  (L : Lc) (st : List Value) (s : MS) : Prop :=
  (wAload 0 <| wGet (g 30) (fun _ => .ref (g 55)) <| wIload 1 <| wIald (g 55) 32 (mA 24) <| wK (.int 112) <| wIf2 (fun x y => x = y) (wAload 0 <| wK (.int 6) <| wIload 1 <| wB (fun x y => x * y) <| wCallR 2 (F_X4_comesPerson g) id (fun _ u => u) <| wRetZ Post) (wAload 0 <| wGet (g 30) (fun _ => .ref (g 55)) <| wIload 1 <| wIald (g 55) 32 (mA 24) <| wK (.int 110) <| wIf2 (fun x y => x = y) (wAload 0 <| wK (.int 6) <| wIload 1 <| wB (fun x y => x * y) <| wCallR 2 (F_X4_comesNeed g) id (fun _ u => u) <| wRetZ Post) (wAload 0 <| wGet (g 30) (fun _ => .ref (g 57)) <| wK (.int 6) <| wIload 1 <| wB (fun x y => x * y) <| wIald (g 57) 192 (mA 26) <| wK (.int 3) <| wIf2 (fun x y => y < x) (bk_X4_comes_67 g Post ) (wAload 0 <| wGet (g 30) (fun _ => .ref (g 57)) <| wK (.int 6) <| wIload 1 <| wB (fun x y => x * y) <| wK (.int 1) <| wB (fun x y => x + y) <| wIald (g 57) 192 (mA 26) <| wIf1 (fun x => x = 0) (bk_X4_comes_67 g Post ) (wAload 0 <| wAload 0 <| wGet (g 30) (fun _ => .ref (g 57)) <| wK (.int 6) <| wIload 1 <| wB (fun x y => x * y) <| wIald (g 57) 192 (mA 26) <| wPut (g 30) (msS 18) <| wAload 0 <| wAload 0 <| wGet (g 30) (fun _ => .ref (g 57)) <| wK (.int 6) <| wIload 1 <| wB (fun x y => x * y) <| wK (.int 1) <| wB (fun x y => x + y) <| wIald (g 57) 192 (mA 26) <| wPut (g 30) (msS 19) <| wAload 0 <| wAload 0 <| wGet (g 30) (fun _ => .ref (g 57)) <| wK (.int 6) <| wIload 1 <| wB (fun x y => x * y) <| wK (.int 2) <| wB (fun x y => x + y) <| wIald (g 57) 192 (mA 26) <| wPut (g 30) (msS 20) <| wK (.int 1) <| wRetZ Post))))) L st s
set_option maxRecDepth 20000 in
theorem s_X4_comes_0 {X : Cx} (B : Bx) (g : Nat → Nat) {Post : Option Value → MS → Prop} (C : OkX X (gx B) cX4_comes 2 wsX4_comes RX4 (rmD 2)) (R : RtX X (gx B) (some .boolean) (encM B g) Post)  : Snd X (gx B) 2 (encM B g) 0 (bk_X4_comes_0 g Post ) := by
  unfold bk_X4_comes_0
  refine s_aload_n C rfl dX4_comes_0 ?_
  refine s_get C inw_X4_comes_X4 rfl (k := 24) (by decide) (by decide +kernel) (heM_0 B g) (fun _ => rfl) dX4_comes_1 ?_
  refine s_iload_n C rfl dX4_comes_4 ?_
  refine s_iald C (heM_17 B g) dX4_comes_5 ?_
  refine s_bipush C (by decide) dX4_comes_6 ?_
  refine s_icmp_ne C (tgt := 20) (by decide) dX4_comes_8 ?_ ?_
  · refine s_aload_n C rfl dX4_comes_20 ?_
    refine s_get C inw_X4_comes_X4 rfl (k := 24) (by decide) (by decide +kernel) (heM_0 B g) (fun _ => rfl) dX4_comes_21 ?_
    refine s_iload_n C rfl dX4_comes_24 ?_
    refine s_iald C (heM_17 B g) dX4_comes_25 ?_
    refine s_bipush C (by decide) dX4_comes_26 ?_
    refine s_icmp_ne C (tgt := 40) (by decide) dX4_comes_28 ?_ ?_
    · refine s_aload_n C rfl dX4_comes_40 ?_
      refine s_get C inw_X4_comes_X4 rfl (k := 26) (by decide) (by decide +kernel) (heM_0 B g) (fun _ => rfl) dX4_comes_41 ?_
      refine s_bipush C (by decide) dX4_comes_44 ?_
      refine s_iload_n C rfl dX4_comes_46 ?_
      refine s_imul C dX4_comes_47 ?_
      refine s_iald C (heM_19 B g) dX4_comes_48 ?_
      refine s_iconst C (by decide) dX4_comes_49 ?_
      refine s_icmp_gt C (tgt := 67) (by decide) dX4_comes_50 ?_ ?_
      · exact s_X4_comes_67 B g C R 
      · refine s_aload_n C rfl dX4_comes_53 ?_
        refine s_get C inw_X4_comes_X4 rfl (k := 26) (by decide) (by decide +kernel) (heM_0 B g) (fun _ => rfl) dX4_comes_54 ?_
        refine s_bipush C (by decide) dX4_comes_57 ?_
        refine s_iload_n C rfl dX4_comes_59 ?_
        refine s_imul C dX4_comes_60 ?_
        refine s_iconst C (by decide) dX4_comes_61 ?_
        refine s_iadd C dX4_comes_62 ?_
        refine s_iald C (heM_19 B g) dX4_comes_63 ?_
        refine s_if_ne C (tgt := 69) (by decide) dX4_comes_64 ?_ ?_
        · refine s_aload_n C rfl dX4_comes_69 ?_
          refine s_aload_n C rfl dX4_comes_70 ?_
          refine s_get C inw_X4_comes_X4 rfl (k := 26) (by decide) (by decide +kernel) (heM_0 B g) (fun _ => rfl) dX4_comes_71 ?_
          refine s_bipush C (by decide) dX4_comes_74 ?_
          refine s_iload_n C rfl dX4_comes_76 ?_
          refine s_imul C dX4_comes_77 ?_
          refine s_iald C (heM_19 B g) dX4_comes_78 ?_
          refine s_put C inw_X4_comes_X4 rfl (k := 18) (by decide) (by decide +kernel) tyX4_ok nmX4 (by decide +kernel) (by decide +kernel) (heM_0 B g) (fun _ => Nat.le_of_ble_eq_true rfl) (fun _ _ => rfl) dX4_comes_79 ?_
          refine s_aload_n C rfl dX4_comes_82 ?_
          refine s_aload_n C rfl dX4_comes_83 ?_
          refine s_get C inw_X4_comes_X4 rfl (k := 26) (by decide) (by decide +kernel) (heM_0 B g) (fun _ => rfl) dX4_comes_84 ?_
          refine s_bipush C (by decide) dX4_comes_87 ?_
          refine s_iload_n C rfl dX4_comes_89 ?_
          refine s_imul C dX4_comes_90 ?_
          refine s_iconst C (by decide) dX4_comes_91 ?_
          refine s_iadd C dX4_comes_92 ?_
          refine s_iald C (heM_19 B g) dX4_comes_93 ?_
          refine s_put C inw_X4_comes_X4 rfl (k := 19) (by decide) (by decide +kernel) tyX4_ok nmX4 (by decide +kernel) (by decide +kernel) (heM_0 B g) (fun _ => Nat.le_of_ble_eq_true rfl) (fun _ _ => rfl) dX4_comes_94 ?_
          refine s_aload_n C rfl dX4_comes_97 ?_
          refine s_aload_n C rfl dX4_comes_98 ?_
          refine s_get C inw_X4_comes_X4 rfl (k := 26) (by decide) (by decide +kernel) (heM_0 B g) (fun _ => rfl) dX4_comes_99 ?_
          refine s_bipush C (by decide) dX4_comes_102 ?_
          refine s_iload_n C rfl dX4_comes_104 ?_
          refine s_imul C dX4_comes_105 ?_
          refine s_iconst C (by decide) dX4_comes_106 ?_
          refine s_iadd C dX4_comes_107 ?_
          refine s_iald C (heM_19 B g) dX4_comes_108 ?_
          refine s_put C inw_X4_comes_X4 rfl (k := 20) (by decide) (by decide +kernel) tyX4_ok nmX4 (by decide +kernel) (by decide +kernel) (heM_0 B g) (fun _ => Nat.le_of_ble_eq_true rfl) (fun _ _ => rfl) dX4_comes_109 ?_
          refine s_iconst C (by decide) dX4_comes_112 ?_
          exact s_zret C R dX4_comes_113
        · exact s_X4_comes_67 B g C R 
    · refine s_aload_n C rfl dX4_comes_31 ?_
      refine s_bipush C (by decide) dX4_comes_32 ?_
      refine s_iload_n C rfl dX4_comes_34 ?_
      refine s_imul C dX4_comes_35 ?_
      refine s_callV C (fr_M_M B g) (k_X4_comesNeed B g) gX4_comes_X4_comesNeed rfl (by decide +kernel) ⟨rfl, rfl⟩ (by decide) rfl (fun s => ⟨_, heM_0 B g s⟩) (cf_RI_r _ _ _ _) dX4_comes_36 ?_
      exact s_zret C R dX4_comes_39
  · refine s_aload_n C rfl dX4_comes_11 ?_
    refine s_bipush C (by decide) dX4_comes_12 ?_
    refine s_iload_n C rfl dX4_comes_14 ?_
    refine s_imul C dX4_comes_15 ?_
    refine s_callV C (fr_M_M B g) (k_X4_comesPerson B g) gX4_comes_X4_comesPerson rfl (by decide +kernel) ⟨rfl, rfl⟩ (by decide) rfl (fun s => ⟨_, heM_0 B g s⟩) (cf_RI_r _ _ _ _) dX4_comes_16 ?_
    exact s_zret C R dX4_comes_19
theorem k_X4_comes (B : Bx) (g : Nat → Nat) : MtF (gx B) yX4_comes wsX4_comes (rmD 2) (encM B g) (F_X4_comes g) := by
  refine cf_RI_i (fun l M p h => Mt.of (by decide) rfl (Nat.le_of_ble_eq_true rfl) rfl (fun X C R => s_X4_comes_0 B g C R) ?_)
  obtain ⟨hp, hn, q, hq, rfl⟩ := h
  have cq : (nI q).toNatClampNeg = q := nI_clamp (by omega)
  rw [cq]
  have wq : vp_in (nI q) 32 := vp_in_nI (by omega) (by decide)
  have e6 : (6 : Int32) * nI q = nI (6 * q) := pk_mul 6 q
  have w6 : vp_in (nI (6 * q)) 192 := vp_in_nI (by omega) (by decide)
  have c6 : (nI (6 * q)).toNatClampNeg = 6 * q := nI_clamp (by omega)
  have w61 : vp_in (nI (6 * q + 1)) 192 := vp_in_nI (by omega) (by decide)
  have c61 : (nI (6 * q + 1)).toNatClampNeg = 6 * q + 1 := nI_clamp (by omega)
  have w62 : vp_in (nI (6 * q + 2)) 192 := vp_in_nI (by omega) (by decide)
  have c62 : (nI (6 * q + 2)).toNatClampNeg = 6 * q + 2 := nI_clamp (by omega)
  have e61 : nI (6 * q) + 1 = nI (6 * q + 1) := nI_add _ 1
  have e62 : nI (6 * q) + 2 = nI (6 * q + 2) := nI_add _ 2
  have pr : ∃ r, r + 5 < 192 ∧ nI (6 * q) = nI r := ⟨6 * q, by omega, rfl⟩
  simp only [wIload, wAload, wLload, wK, wB, wDv, wU, wLB, wLU, wLS, wL2i, wLcmp, wIf1, wIf2, wKeep, wInc, wIst, wAst, wLst, wDup, wPop, wDup2, wGet, wPut, wPutZ, wIald, wLald, wIast, wLast, wLen, wRetI, wRetZ, wRetL, wRetA, wRetV, wM1, wM2, wCpy, wTab, tabW, nth, stL, stL2, dropL, keepL, mkL, padL, restOK, restOKn, tl_some, tl_none, id_eq, eq_self, true_and, and_true, bk_X4_comes_67, bk_X4_comes_0, F_X4_comesNeed, F_X4_comesPerson, cf_RI_e, mS_S, mA_A, mS_A, mA_S, mS_a, mA_a, Nat.reduceEqDiff, reduceIte, wq, cq, e6, w6, c6, e61, w61, c61, e62, w62, c62, pr, hp, hn]
  by_cases h1 : mA 24 M q = 112
  · have e : uCm M q = uCp M (6 * q) := if_pos h1
    rw [e]
    simp only [h1, false_implies, true_implies, not_true_eq_false, not_false_eq_true, true_and, and_true, implies_true, eq_self, ne_eq, true_or, or_true, false_or, or_false, and_self]
    all_goals first | done | exact ⟨rfl, rfl⟩ | exact rfl | exact b2i_01 _ | exact ⟨b2i_01 _, rfl, rfl⟩ | exact ⟨b2i_01 _, rfl⟩ | exact ⟨rfl, rfl, rfl⟩ | exact trivial
  · by_cases h2 : mA 24 M q = 110
    · have e : uCm M q = uCn M (6 * q) := by unfold uCm; rw [if_neg h1, if_pos h2]
      have h3 : ¬ (110 : Int32) = 112 := by decide
      rw [e]
      simp only [h2, h3, false_implies, true_implies, not_true_eq_false, not_false_eq_true, true_and, and_true, implies_true, eq_self, ne_eq, true_or, or_true, false_or, or_false, and_self]
      all_goals first | done | exact ⟨rfl, rfl⟩ | exact rfl | exact b2i_01 _ | exact ⟨b2i_01 _, rfl, rfl⟩ | exact ⟨b2i_01 _, rfl⟩ | exact ⟨rfl, rfl, rfl⟩ | exact trivial
    · have e : uCm M q = uCl M q := by unfold uCm; rw [if_neg h1, if_neg h2]
      rw [e]
      simp only [h1, h2, false_implies, true_implies, not_true_eq_false, not_false_eq_true, true_and, and_true, implies_true, eq_self, ne_eq, true_or, or_true, false_or, or_false, and_self]
      by_cases h3 : 3 < mA 26 M (6 * q)
      · have e : uCl M q = (false, M) := if_pos h3
        rw [e]
        simp only [h3, false_implies, true_implies, not_true_eq_false, not_false_eq_true, true_and, and_true, implies_true, eq_self, ne_eq, true_or, or_true, false_or, or_false, and_self]
        all_goals first | done | exact ⟨rfl, rfl⟩ | exact rfl | exact b2i_01 _ | exact ⟨b2i_01 _, rfl, rfl⟩ | exact ⟨b2i_01 _, rfl⟩ | exact ⟨rfl, rfl, rfl⟩ | exact trivial
      · by_cases h4 : mA 26 M (6 * q + 1) = 0
        · have e : uCl M q = (false, M) := by unfold uCl; rw [if_neg h3, if_pos h4]
          rw [e]
          simp only [h3, h4, false_implies, true_implies, not_true_eq_false, not_false_eq_true, true_and, and_true, implies_true, eq_self, ne_eq, true_or, or_true, false_or, or_false, and_self]
          all_goals first | done | exact ⟨rfl, rfl⟩ | exact rfl | exact b2i_01 _ | exact ⟨b2i_01 _, rfl, rfl⟩ | exact ⟨b2i_01 _, rfl⟩ | exact ⟨rfl, rfl, rfl⟩ | exact trivial
        · have e : uCl M q = (true, msS 20 (msS 19 (msS 18 M (mA 26 M (6 * q))) (mA 26 M (6 * q + 1))) (mA 26 M (6 * q + 2))) := by unfold uCl; rw [if_neg h3, if_neg h4]
          rw [e]
          simp only [h3, h4, false_implies, true_implies, not_true_eq_false, not_false_eq_true, true_and, and_true, implies_true, eq_self, ne_eq, true_or, or_true, false_or, or_false, and_self]
          all_goals first | done | exact ⟨rfl, rfl⟩ | exact rfl | exact b2i_01 _ | exact ⟨b2i_01 _, rfl, rfl⟩ | exact ⟨b2i_01 _, rfl⟩ | exact ⟨rfl, rfl, rfl⟩ | exact trivial
end
