noncomputable section
def lStOk (S : LtS) (p : Int32) (T : TS) : Bool := if lLet S p = 110 then nnOk S p T else if lLet S p = 112 then pnOk S p T else lawAll S p
def lStT (S : LtS) (p : Int32) (T : TS) : TS := if lStOk S p T = true then (if lLet S p = 110 then nnAll S p T else if lLet S p = 112 then pnAll S p T else lawT S p T 3) else T
def F_X0_tellStatement (g : Nat → Nat) (t : Nat) : CF LT := cf_RRI (g 22) (g t) (fun _ _ => True) (fun S p => some (.int (b2i (lStOk (mL S) p (mT S))))) (fun S p => msT S (lStT (mL S) p (mT S)))
theorem inw_X0_tellStatement_X0 : ∀ w ∈ u_ws RX0 TX0 2, w ∈ wsX0_tellStatement := by decide +kernel
theorem inw_X0_tellStatement_X2 : ∀ w ∈ u_ws RX2 TX2 8, w ∈ wsX0_tellStatement := by decide +kernel
def bk_X0_tellStatement_0 (g : Nat → Nat) (t : Nat) (Post : Option Value → LT → Prop)  (L : Lc) (st : List Value) (s : LT) : Prop :=
  (wAload 0 <| wIload 2 <| wCallR 2 (F_X0_letterAt g) mL msL <| wTab [(110, wAload 0 <| wAload 1 <| wIload 2 <| wCallR 3 (F_X0_tellNeed g t) id (fun _ u => u) <| wRetZ Post), (112, wAload 0 <| wAload 1 <| wIload 2 <| wCallR 3 (F_X0_tellPerson g t) id (fun _ u => u) <| wRetZ Post)] (wAload 0 <| wAload 1 <| wIload 2 <| wCallR 3 (F_X0_tellLaw g t) id (fun _ u => u) <| wRetZ Post)) L st s
set_option maxRecDepth 20000 in
theorem s_X0_tellStatement_0 {X : Cx} (B : Bx) (g : Nat → Nat) (t : Nat) {Post : Option Value → LT → Prop} (C : OkX X (gx B) cX0_tellStatement 3 wsX0_tellStatement RX0 (rmD 4)) (R : RtX X (gx B) (some .boolean) (encLT B g t) Post)  : Snd X (gx B) 3 (encLT B g t) 0 (bk_X0_tellStatement_0 g t Post ) := by
  unfold bk_X0_tellStatement_0
  refine s_aload_n C rfl dX0_tellStatement_0 ?_
  refine s_iload_n C rfl dX0_tellStatement_1 ?_
  refine s_callV C (fr_LT_L B g t) (k_X0_letterAt B g) gX0_tellStatement_X0_letterAt rfl (by decide +kernel) ⟨rfl, rfl⟩ (by decide) rfl (fun s => ⟨_, heLT_0 B g t s⟩) (cf_RI_r _ _ _ _) dX0_tellStatement_2 ?_
  refine s_look2 C 39 32 46 dX0_tellStatement_5 rfl rfl (by decide) (by decide) (by decide) (by decide) ?_ ?_ ?_
  · refine s_aload_n C rfl dX0_tellStatement_39 ?_
    refine s_aload_n C rfl dX0_tellStatement_40 ?_
    refine s_iload_n C rfl dX0_tellStatement_41 ?_
    refine s_callV C (fr_LT_LT B g t) (k_X0_tellNeed B g t) gX0_tellStatement_X0_tellNeed rfl (by decide +kernel) ⟨rfl, rfl⟩ (by decide) rfl (fun s => ⟨_, heLT_0 B g t s⟩) (cf_RRI_r _ _ _ _ _) dX0_tellStatement_42 ?_
    exact s_zret C R dX0_tellStatement_45
  · refine s_aload_n C rfl dX0_tellStatement_32 ?_
    refine s_aload_n C rfl dX0_tellStatement_33 ?_
    refine s_iload_n C rfl dX0_tellStatement_34 ?_
    refine s_callV C (fr_LT_LT B g t) (k_X0_tellPerson B g t) gX0_tellStatement_X0_tellPerson rfl (by decide +kernel) ⟨rfl, rfl⟩ (by decide) rfl (fun s => ⟨_, heLT_0 B g t s⟩) (cf_RRI_r _ _ _ _ _) dX0_tellStatement_35 ?_
    exact s_zret C R dX0_tellStatement_38
  · refine s_aload_n C rfl dX0_tellStatement_46 ?_
    refine s_aload_n C rfl dX0_tellStatement_47 ?_
    refine s_iload_n C rfl dX0_tellStatement_48 ?_
    refine s_callV C (fr_LT_LT B g t) (k_X0_tellLaw B g t) gX0_tellStatement_X0_tellLaw rfl (by decide +kernel) ⟨rfl, rfl⟩ (by decide) rfl (fun s => ⟨_, heLT_0 B g t s⟩) (cf_RRI_r _ _ _ _ _) dX0_tellStatement_49 ?_
    exact s_zret C R dX0_tellStatement_52
theorem msT_if (S : LT) (c : Bool) (T : TS) : (if c = true then msT S T else S) = msT S (if c = true then T else mT S) := by cases c <;> rfl
theorem k_X0_tellStatement (B : Bx) (g : Nat → Nat) (t : Nat) : MtF (gx B) yX0_tellStatement wsX0_tellStatement (rmD 4) (encLT B g t) (F_X0_tellStatement g t) := by
  refine cf_RRI_i (fun l S p _ => Mt.of (by decide) rfl (Nat.le_of_ble_eq_true rfl) rfl (fun X C R => s_X0_tellStatement_0 B g t C R) ?_)
  simp only [wIload, wAload, wLload, wK, wB, wDv, wU, wLB, wLU, wLS, wL2i, wLcmp, wIf1, wIf2, wKeep, wInc, wIst, wAst, wLst, wDup, wPop, wDup2, wGet, wPut, wPutZ, wIald, wLald, wIast, wLast, wLen, wRetI, wRetZ, wRetL, wRetA, wRetV, wM1, wM2, wCpy, wTab, tabW, nth, stL, stL2, dropL, keepL, mkL, padL, restOK, restOKn, tl_some, tl_none, id_eq, eq_self, true_and, and_true, bk_X0_tellStatement_0, F_X0_letterAt, F_X0_tellLaw, F_X0_tellNeed, F_X0_tellPerson, cf_RI_e, cf_RRI_e, mg_L_L, mg_L_T, mg_T_L, mg_T_T, me_L, mo_L, me_T, mo_T, msT_if]
  refine ⟨fun h => ⟨b2i_01 _, ?_, ?_⟩, fun h => ⟨fun h2 => ⟨b2i_01 _, ?_, ?_⟩, fun h2 => ⟨b2i_01 _, ?_, ?_⟩⟩⟩
  · unfold lStOk; rw [if_pos h]
  · unfold lStT lStOk; simp only [if_pos h]
  · unfold lStOk; rw [if_neg h, if_pos h2]
  · unfold lStT lStOk; simp only [if_neg h, if_pos h2]
  · unfold lStOk; rw [if_neg h, if_neg h2]
  · unfold lStT lStOk; simp only [if_neg h, if_neg h2]
def lTe (S : LtS) (N : Nat) : Nat → Nat → Nat → TS → Int32 × TS
  | 0, _, c, T => (nI c, T)
  | m + 1, p, c, T => if p < N then (if lStOk S (nI p) T = true then lTe S N m (p + (1 + lenS.getD (lRi S (nI p)) 0)) (c + 1) (lStT S (nI p) T) else (-2000 - nI p, lStT S (nI p) T)) else (nI c, T)
theorem lTe_s (S : LtS) (N m p c : Nat) (T : TS) : lTe S N (m + 1) p c T = if p < N then (if lStOk S (nI p) T = true then lTe S N m (p + (1 + lenS.getD (lRi S (nI p)) 0)) (c + 1) (lStT S (nI p) T) else (-2000 - nI p, lStT S (nI p) T)) else (nI c, T) := rfl
theorem lenS_le : ∀ i, i < 5 → lenS.getD i 0 ≤ 9 := by decide
def lTell (S : LtS) (T : TS) : Int32 × TS := lTe S (lLn S).toNatClampNeg 65 0 0 T
def F_X0_tell (g : Nat → Nat) (t : Nat) : CF LT := cf_RR (g 22) (g t) (fun S => ∃ k, k ≤ 64 ∧ lLn (mL S) = nI k) (fun S => some (.int (lTell (mL S) (mT S)).1)) (fun S => msT S (lTell (mL S) (mT S)).2)
theorem inw_X0_tell_X0 : ∀ w ∈ u_ws RX0 TX0 2, w ∈ wsX0_tell := by decide +kernel
theorem inw_X0_tell_X2 : ∀ w ∈ u_ws RX2 TX2 8, w ∈ wsX0_tell := by decide +kernel
def bk_X0_tell_0 (B : Bx) (g : Nat → Nat) (t : Nat) (Post : Option Value → LT → Prop) (K4 : PT LT) (L : Lc) (st : List Value) (s : LT) : Prop :=
  (wK (.int 0) <| wIst 2 <| wK (.int 0) <| wIst 3 <| wKeep [true, true, true, true] K4) L st s
set_option maxRecDepth 20000 in
theorem s_X0_tell_0 {X : Cx} (B : Bx) (g : Nat → Nat) (t : Nat) {Post : Option Value → LT → Prop} (C : OkX X (gx B) cX0_tell 4 wsX0_tell RX0 (rmD 5)) (R : RtX X (gx B) (some .int) (encLT B g t) Post) {K4 : PT LT} (hK4 : Snd X (gx B) 4 (encLT B g t) 4 K4) : Snd X (gx B) 4 (encLT B g t) 0 (bk_X0_tell_0 B g t Post K4) := by
  unfold bk_X0_tell_0
  refine s_iconst C (by decide) dX0_tell_0 ?_
  refine s_istore_n C rfl (by decide) dX0_tell_1 ?_
  refine s_iconst C (by decide) dX0_tell_2 ?_
  refine s_istore_n C rfl (by decide) dX0_tell_3 ?_
  exact s_keep _ hK4
def bk_X0_tell_4 (B : Bx) (g : Nat → Nat) (t : Nat) (Post : Option Value → LT → Prop) (K4 : PT LT) (L : Lc) (st : List Value) (s : LT) : Prop :=
  (wIload 3 <| wAload 0 <| wGet (g 22) (fun s => .int (mLLn s)) <| wIf2 (fun x y => y ≤ x) (wIload 2 <| wRetI Post) (wAload 0 <| wAload 1 <| wIload 3 <| wCallR 3 (F_X0_tellStatement g t) id (fun _ u => u) <| wIf1 (fun x => x = 0) (wK (.int (-2000)) <| wIload 3 <| wB (fun x y => x - y) <| wRetI Post) (wInc 2 1 <| wIload 3 <| wK (.int 1) <| wAload 0 <| wIload 3 <| wCallR 2 (F_X0_restOf B g) mL msL <| wStr 1 (F_J0_length_8abf5 B) <| wB (fun x y => x + y) <| wB (fun x y => x + y) <| wIst 3 <| wKeep [true, true, true, true] K4))) L st s
set_option maxRecDepth 20000 in
theorem s_X0_tell_4 {X : Cx} (B : Bx) (g : Nat → Nat) (t : Nat) {Post : Option Value → LT → Prop} (C : OkX X (gx B) cX0_tell 4 wsX0_tell RX0 (rmD 5)) (R : RtX X (gx B) (some .int) (encLT B g t) Post) {K4 : PT LT} (hK4 : Snd X (gx B) 4 (encLT B g t) 4 K4) : Snd X (gx B) 4 (encLT B g t) 4 (bk_X0_tell_4 B g t Post K4) := by
  unfold bk_X0_tell_4
  refine s_iload_n C rfl dX0_tell_4 ?_
  refine s_aload_n C rfl dX0_tell_5 ?_
  refine s_get C inw_X0_tell_X0 rfl (k := 1) (by decide) (by decide +kernel) (heLT_0 B g t) (fun _ => rfl) dX0_tell_6 ?_
  refine s_icmp_ge C (tgt := 46) (by decide) dX0_tell_9 ?_ ?_
  · refine s_iload_n C rfl dX0_tell_46 ?_
    exact s_iret C R dX0_tell_47
  · refine s_aload_n C rfl dX0_tell_12 ?_
    refine s_aload_n C rfl dX0_tell_13 ?_
    refine s_iload_n C rfl dX0_tell_14 ?_
    refine s_callV C (fr_LT_LT B g t) (k_X0_tellStatement B g t) gX0_tell_X0_tellStatement rfl (by decide +kernel) ⟨rfl, rfl⟩ (by decide) rfl (fun s => ⟨_, heLT_0 B g t s⟩) (cf_RRI_r _ _ _ _ _) dX0_tell_15 ?_
    refine s_if_ne C (tgt := 27) (by decide) dX0_tell_18 ?_ ?_
    · refine s_iinc C (by decide) (by decide) dX0_tell_27 ?_
      refine s_iload_n C rfl dX0_tell_30 ?_
      refine s_iconst C (by decide) dX0_tell_31 ?_
      refine s_aload_n C rfl dX0_tell_32 ?_
      refine s_iload_n C rfl dX0_tell_33 ?_
      refine s_callV C (fr_LT_L B g t) (k_X0_restOf B g) gX0_tell_X0_restOf rfl (by decide +kernel) ⟨rfl, rfl⟩ (by decide) rfl (fun s => ⟨_, heLT_0 B g t s⟩) (cf_RI_r _ _ _ _) dX0_tell_34 ?_
      refine s_strK C (fr_LT_E B g t) (k_J0_length_8abf5 B) gX0_tell_J0_length_8abf5 rfl (by decide +kernel) ⟨rfl, rfl⟩ (by decide) (hK_J0_length_8abf5 B) dX0_tell_37 ?_
      refine s_iadd C dX0_tell_40 ?_
      refine s_iadd C dX0_tell_41 ?_
      refine s_istore_n C rfl (by decide) dX0_tell_42 ?_
      refine s_goto C (tgt := 4) (by decide) dX0_tell_43 ?_
      exact s_keep _ hK4
    · refine s_sipush C (by decide) dX0_tell_21 ?_
      refine s_iload_n C rfl dX0_tell_24 ?_
      refine s_isub C dX0_tell_25 ?_
      exact s_iret C R dX0_tell_26
def I_te (g : Nat → Nat) (t : Nat) (S : LT) (N : Nat) (fin : Int32 × TS) (n : Nat) (L : Lc) (st : List Value) (s : LT) : Prop := ∃ (p c : Nat) (T : TS), N < p + n ∧ p < N + 20 ∧ st = [] ∧ s = msT S T ∧ L = [some (.ref (g 22)), some (.ref (g t)), some (.int (nI c)), some (.int (nI p))] ∧ lTe (mL S) N n p c T = fin
theorem k_X0_tell (B : Bx) (g : Nat → Nat) (t : Nat) : MtF (gx B) yX0_tell wsX0_tell (rmD 5) (encLT B g t) (F_X0_tell g t) := by
  refine cf_RR_i (fun l S hN => ?_)
  obtain ⟨N, hN, eN⟩ := hN
  have eT : lTell (mL S) (mT S) = lTe (mL S) N 65 0 0 (mT S) := by unfold lTell; rw [eN, nI_clamp (by omega)]
  rw [eT]
  generalize hfin : lTe (mL S) N 65 0 0 (mT S) = fin
  refine Mt.of (P := bk_X0_tell_0 B g t (fun o u => o = some (.int fin.1) ∧ u = msT S fin.2) (fun L st s => ∃ n, I_te g t S N fin n L st s)) (by decide) rfl (Nat.le_of_ble_eq_true rfl) rfl (fun X C R => s_X0_tell_0 B g t C R (snd_loop _ (I_te g t S N fin) (fun K hK => s_X0_tell_4 B g t C R hK) ?_)) ?_
  · rintro K n L st s ⟨p, c, T, hn, hp, rfl, rfl, rfl, hf⟩ hK
    have eN' : mLLn S = nI N := eN
    simp only [wIload, wAload, wLload, wK, wB, wDv, wU, wLB, wLU, wLS, wL2i, wLcmp, wIf1, wIf2, wKeep, wInc, wIst, wAst, wLst, wDup, wPop, wDup2, wGet, wPut, wPutZ, wIald, wLald, wIast, wLast, wLen, wRetI, wRetZ, wRetL, wRetA, wRetV, wM1, wM2, wCpy, wTab, tabW, nth, stL, stL2, dropL, keepL, mkL, padL, restOK, restOKn, tl_some, tl_none, id_eq, eq_self, true_and, and_true, bk_X0_tell_0, bk_X0_tell_4, F_J0_length_8abf5, F_X0_restOf, F_X0_tellStatement, cf_RI_e, cf_RRI_e, cf_R_e, mg_L_L, mg_L_T, mg_T_L, mg_T_T, me_L, mo_L, me_T, mo_T, b2i_eq0, wStr, F_J0_length_8abf5, mLLn, eN]
    rcases Nat.lt_or_ge p N with hlt | hge
    · have h1 : ¬ nI N ≤ nI p := nI_ge hlt (by omega)
      obtain ⟨n, rfl⟩ : ∃ m, n = m + 1 := ⟨n - 1, by omega⟩
      have hri := lRi_lt (mL S) (nI p)
      have hle := lenS_le _ hri
      rw [lTe_s, if_pos hlt] at hf
      cases ho : lStOk (mL S) (nI p) T
      · rw [if_neg (by rw [ho]; exact Bool.noConfusion)] at hf
        rw [← hf]
        simp only [h1, ho, false_implies, true_implies, not_true_eq_false, not_false_eq_true, true_and, and_true, implies_true, eq_self, ne_eq, true_or, or_true, false_or, or_false, and_self]
        all_goals first | exact ⟨rfl, rfl⟩ | rfl
      · rw [if_pos ho] at hf
        simp only [h1, ho, Bool.true_eq_false, false_implies, true_implies, not_true_eq_false, not_false_eq_true, true_and, and_true, implies_true, eq_self, ne_eq, true_or, or_true, false_or, or_false, and_self]
        refine ⟨lRi (mL S) (nI p), hri, rfl, ?_⟩
        rw [nI_1, show (1 : Int32) + nI (lenS.getD (lRi (mL S) (nI p)) 0) = nI (1 + lenS.getD (lRi (mL S) (nI p)) 0) from nI_add 1 _, nI_add]
        exact hK n _ _ _ (by omega) ⟨p + (1 + lenS.getD (lRi (mL S) (nI p)) 0), c + 1, _, by omega, by omega, rfl, rfl, rfl, hf⟩
    · have h1 : nI N ≤ nI p := nI_le hge (by omega)
      have e : lTe (mL S) N n p c T = (nI c, T) := by
        cases n with
        | zero => rfl
        | succ n => rw [lTe_s, if_neg (by omega)]
      rw [e] at hf
      rw [← hf]
      simp only [h1, false_implies, true_implies, not_true_eq_false, not_false_eq_true, true_and, and_true, implies_true, eq_self, ne_eq, true_or, or_true, false_or, or_false, and_self]
      all_goals first | exact ⟨rfl, rfl⟩ | rfl
  · simp only [wIload, wAload, wLload, wK, wB, wDv, wU, wLB, wLU, wLS, wL2i, wLcmp, wIf1, wIf2, wKeep, wInc, wIst, wAst, wLst, wDup, wPop, wDup2, wGet, wPut, wPutZ, wIald, wLald, wIast, wLast, wLen, wRetI, wRetZ, wRetL, wRetA, wRetV, wM1, wM2, wCpy, wTab, tabW, nth, stL, stL2, dropL, keepL, mkL, padL, restOK, restOKn, tl_some, tl_none, id_eq, eq_self, true_and, and_true, bk_X0_tell_0, bk_X0_tell_4, F_J0_length_8abf5, F_X0_restOf, F_X0_tellStatement, cf_RI_e, cf_RRI_e, cf_R_e]
    exact ⟨65, 0, 0, mT S, by omega, by omega, rfl, rfl, rfl, hfin⟩
end
