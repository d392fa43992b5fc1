noncomputable section
/-- the row against the hands of one need: (stopped, place, town) -/
def jH (ro : Nat → Int32) (N : Nat) (n : Int32) : Nat → Nat → TS → Bool × Nat × TS
  | 0, p, T => (false, p, T)
  | m + 1, p, T => if p < N ∧ tMayW T (ro p) n = true then jH ro N n m (p + 1) (tDo T (ro p) n) else (true, p, T)
theorem jH_s (ro : Nat → Int32) (N : Nat) (n : Int32) (m p : Nat) (T : TS) : jH ro N n (m + 1) p T = if p < N ∧ tMayW T (ro p) n = true then jH ro N n m (p + 1) (tDo T (ro p) n) else (true, p, T) := rfl
def jN (ro : Nat → Int32) (N : Nat) : Nat → Nat → Nat → TS → Bool × Nat × TS
  | _, 0, p, T => (false, p, T)
  | k, m + 1, p, T => if (jH ro N (nI k) (hHd T (nI k)).toNatClampNeg p T).1 = true then jH ro N (nI k) (hHd T (nI k)).toNatClampNeg p T else jN ro N (k + 1) m (jH ro N (nI k) (hHd T (nI k)).toNatClampNeg p T).2.1 (jH ro N (nI k) (hHd T (nI k)).toNatClampNeg p T).2.2
theorem jN_s (ro : Nat → Int32) (N k m p : Nat) (T : TS) : jN ro N k (m + 1) p T = if (jH ro N (nI k) (hHd T (nI k)).toNatClampNeg p T).1 = true then jH ro N (nI k) (hHd T (nI k)).toNatClampNeg p T else jN ro N (k + 1) m (jH ro N (nI k) (hHd T (nI k)).toNatClampNeg p T).2.1 (jH ro N (nI k) (hHd T (nI k)).toNatClampNeg p T).2.2 := rfl
theorem jH_le {ro : Nat → Int32} {N : Nat} {n : Int32} : ∀ (m p : Nat) (T : TS), p ≤ N → (jH ro N n m p T).2.1 ≤ N := by
  intro m
  induction m with
  | zero => intro p T h; exact h
  | succ m ih =>
    intro p T h
    rw [jH_s]
    by_cases c : p < N ∧ tMayW T (ro p) n = true
    · rw [if_pos c]; exact ih _ _ c.1
    · rw [if_neg c]; exact h
theorem jH_nn {ro : Nat → Int32} {N : Nat} {n : Int32} : ∀ (m p : Nat) (T : TS), tNn (jH ro N n m p T).2.2 = tNn T := by
  intro m
  induction m with
  | zero => intro p T; rfl
  | succ m ih =>
    intro p T
    rw [jH_s]
    by_cases c : p < N ∧ tMayW T (ro p) n = true
    · rw [if_pos c, ih, tNn_do]
    · rw [if_neg c]
def jRes (rl : Int32) (r : Bool × Nat × TS) : Int32 := if r.1 = true then nI r.2.1 else if nI r.2.1 < rl then nI r.2.1 else -9
def F_X3_judgedRow (g : Nat → Nat) (t : Nat) : CF CS := cf_RR (g 0) (g t) (fun _ => True) (fun S => some (.int (jRes (cRl S) (jN (cRo S) (rowN (cRl S)) 0 (tNeeds (cT S)) 0 (cT S))))) (fun S => csT S (jN (cRo S) (rowN (cRl S)) 0 (tNeeds (cT S)) 0 (cT S)).2.2)
theorem inw_X3_judgedRow_X2 : ∀ w ∈ u_ws RX2 TX2 8, w ∈ wsX3_judgedRow := by decide +kernel
theorem inw_X3_judgedRow_X3 : ∀ w ∈ u_ws RX3 TX3 9, w ∈ wsX3_judgedRow := by decide +kernel
def bk_X3_judgedRow_0 (g : Nat → Nat) (t : Nat) (Post : Option Value → CS → Prop) (K4 : PT CS) (L : Lc) (st : List Value) (s : CS) : Prop :=
  (wK (.int 0) <| wIst 2 <| wK (.int 0) <| wIst 3 <| wKeep [true, true, true, true, false, false] K4) L st s
set_option maxRecDepth 20000 in
theorem s_X3_judgedRow_0 {X : Cx} (B : Bx) (g : Nat → Nat) (t : Nat) {Post : Option Value → CS → Prop} (C : OkX X (gx B) cX3_judgedRow 6 wsX3_judgedRow RX3 (rmD 4)) (R : RtX X (gx B) (some .int) (encC B g t) Post) {K4 : PT CS} (hK4 : Snd X (gx B) 6 (encC B g t) 4 K4) : Snd X (gx B) 6 (encC B g t) 0 (bk_X3_judgedRow_0 g t Post K4) := by
  unfold bk_X3_judgedRow_0
  refine s_iconst C (by decide) dX3_judgedRow_0 ?_
  refine s_istore_n C rfl (by decide) dX3_judgedRow_1 ?_
  refine s_iconst C (by decide) dX3_judgedRow_2 ?_
  refine s_istore_n C rfl (by decide) dX3_judgedRow_3 ?_
  exact s_keep _ hK4
def bk_X3_judgedRow_29 (g : Nat → Nat) (t : Nat) (Post : Option Value → CS → Prop) (K34 : PT CS) (L : Lc) (st : List Value) (s : CS) : Prop :=
  (wIst 4 <| wK (.int 0) <| wIst 5 <| wKeep [true, true, true, true, true, true] K34) L st s
set_option maxRecDepth 20000 in
theorem s_X3_judgedRow_29 {X : Cx} (B : Bx) (g : Nat → Nat) (t : Nat) {Post : Option Value → CS → Prop} (C : OkX X (gx B) cX3_judgedRow 6 wsX3_judgedRow RX3 (rmD 4)) (R : RtX X (gx B) (some .int) (encC B g t) Post) {K34 : PT CS} (hK34 : Snd X (gx B) 6 (encC B g t) 34 K34) : Snd X (gx B) 6 (encC B g t) 29 (bk_X3_judgedRow_29 g t Post K34) := by
  unfold bk_X3_judgedRow_29
  refine s_istore C (by decide) dX3_judgedRow_29 ?_
  refine s_iconst C (by decide) dX3_judgedRow_31 ?_
  refine s_istore C (by decide) dX3_judgedRow_32 ?_
  exact s_keep _ hK34
def bk_X3_judgedRow_114 (g : Nat → Nat) (t : Nat) (Post : Option Value → CS → Prop)  (L : Lc) (st : List Value) (s : CS) : Prop :=
  (wRetI Post) L st s
set_option maxRecDepth 20000 in
theorem s_X3_judgedRow_114 {X : Cx} (B : Bx) (g : Nat → Nat) (t : Nat) {Post : Option Value → CS → Prop} (C : OkX X (gx B) cX3_judgedRow 6 wsX3_judgedRow RX3 (rmD 4)) (R : RtX X (gx B) (some .int) (encC B g t) Post)  : Snd X (gx B) 6 (encC B g t) 114 (bk_X3_judgedRow_114 g t Post ) := by
  unfold bk_X3_judgedRow_114
  exact s_iret C R dX3_judgedRow_114
def bk_X3_judgedRow_4 (g : Nat → Nat) (t : Nat) (Post : Option Value → CS → Prop) (K34 : PT CS) (L : Lc) (st : List Value) (s : CS) : Prop :=
  (wIload 3 <| wAload 1 <| wGet (g t) (fun s => .int (cTNn s)) <| wIf2 (fun x y => y ≤ x) (wIload 2 <| wAload 0 <| wGet (g 0) (fun s => .int (cRl s)) <| wIf2 (fun x y => y ≤ x) (wK (.int (-9)) <| bk_X3_judgedRow_114 g t Post ) (wIload 2 <| bk_X3_judgedRow_114 g t Post )) (wAload 1 <| wIload 3 <| wCallR 2 (F_X2_isOpen g t) cT csT <| wIf1 (fun x => x = 0) (wK (.int 0) <| bk_X3_judgedRow_29 g t Post K34) (wAload 1 <| wIload 3 <| wCallR 2 (F_X2_handsLeft g t) cT csT <| bk_X3_judgedRow_29 g t Post K34))) L st s
set_option maxRecDepth 20000 in
theorem s_X3_judgedRow_4 {X : Cx} (B : Bx) (g : Nat → Nat) (t : Nat) {Post : Option Value → CS → Prop} (C : OkX X (gx B) cX3_judgedRow 6 wsX3_judgedRow RX3 (rmD 4)) (R : RtX X (gx B) (some .int) (encC B g t) Post) {K34 : PT CS} (hK34 : Snd X (gx B) 6 (encC B g t) 34 K34) : Snd X (gx B) 6 (encC B g t) 4 (bk_X3_judgedRow_4 g t Post K34) := by
  unfold bk_X3_judgedRow_4
  refine s_iload_n C rfl dX3_judgedRow_4 ?_
  refine s_aload_n C rfl dX3_judgedRow_5 ?_
  refine s_get C inw_X3_judgedRow_X2 rfl (k := 3) (by decide) (by decide +kernel) (heC_2 B g t) (fun _ => rfl) dX3_judgedRow_6 ?_
  refine s_icmp_ge C (tgt := 100) (by decide) dX3_judgedRow_9 ?_ ?_
  · refine s_iload_n C rfl dX3_judgedRow_100 ?_
    refine s_aload_n C rfl dX3_judgedRow_101 ?_
    refine s_get C inw_X3_judgedRow_X3 rfl (k := 7) (by decide) (by decide +kernel) (heC_0 B g t) (fun _ => rfl) dX3_judgedRow_102 ?_
    refine s_icmp_ge C (tgt := 112) (by decide) dX3_judgedRow_105 ?_ ?_
    · refine s_bipush C (by decide) dX3_judgedRow_112 ?_
      exact s_X3_judgedRow_114 B g t C R 
    · refine s_iload_n C rfl dX3_judgedRow_108 ?_
      refine s_goto C (tgt := 114) (by decide) dX3_judgedRow_109 ?_
      exact s_X3_judgedRow_114 B g t C R 
  · refine s_aload_n C rfl dX3_judgedRow_12 ?_
    refine s_iload_n C rfl dX3_judgedRow_13 ?_
    refine s_callV C (fr_C_T B g t) (k_X2_isOpen B g t) gX3_judgedRow_X2_isOpen rfl (by decide +kernel) ⟨rfl, rfl⟩ (by decide) rfl (fun s => ⟨_, heC_2 B g t s⟩) (cf_RI_r _ _ _ _) dX3_judgedRow_14 ?_
    refine s_if_eq C (tgt := 28) (by decide) dX3_judgedRow_17 ?_ ?_
    · refine s_iconst C (by decide) dX3_judgedRow_28 ?_
      exact s_X3_judgedRow_29 B g t C R hK34
    · refine s_aload_n C rfl dX3_judgedRow_20 ?_
      refine s_iload_n C rfl dX3_judgedRow_21 ?_
      refine s_callV C (fr_C_T B g t) (k_X2_handsLeft B g t) gX3_judgedRow_X2_handsLeft rfl (by decide +kernel) ⟨rfl, rfl⟩ (by decide) rfl (fun s => ⟨_, heC_2 B g t s⟩) (cf_RI_r _ _ _ _) dX3_judgedRow_22 ?_
      refine s_goto C (tgt := 29) (by decide) dX3_judgedRow_25 ?_
      exact s_X3_judgedRow_29 B g t C R hK34
def bk_X3_judgedRow_72 (g : Nat → Nat) (t : Nat) (Post : Option Value → CS → Prop)  (L : Lc) (st : List Value) (s : CS) : Prop :=
  (wIload 2 <| wRetI Post) L st s
set_option maxRecDepth 20000 in
theorem s_X3_judgedRow_72 {X : Cx} (B : Bx) (g : Nat → Nat) (t : Nat) {Post : Option Value → CS → Prop} (C : OkX X (gx B) cX3_judgedRow 6 wsX3_judgedRow RX3 (rmD 4)) (R : RtX X (gx B) (some .int) (encC B g t) Post)  : Snd X (gx B) 6 (encC B g t) 72 (bk_X3_judgedRow_72 g t Post ) := by
  unfold bk_X3_judgedRow_72
  refine s_iload_n C rfl dX3_judgedRow_72 ?_
  exact s_iret C R dX3_judgedRow_73
def bk_X3_judgedRow_34 (g : Nat → Nat) (t : Nat) (Post : Option Value → CS → Prop) (K4 : PT CS) (K34 : PT CS) (L : Lc) (st : List Value) (s : CS) : Prop :=
  (wIload 5 <| wIload 4 <| wIf2 (fun x y => y ≤ x) (wInc 3 1 <| wKeep [true, true, true, true, false, false] K4) (wIload 2 <| wAload 0 <| wGet (g 0) (fun s => .int (cRl s)) <| wIf2 (fun x y => y ≤ x) (bk_X3_judgedRow_72 g t Post ) (wIload 2 <| wAload 0 <| wGet (g 0) (fun _ => .ref (g 24)) <| wLen (g 24) 10 <| wIf2 (fun x y => y ≤ x) (bk_X3_judgedRow_72 g t Post ) (wAload 1 <| wAload 0 <| wGet (g 0) (fun _ => .ref (g 24)) <| wIload 2 <| wIald (g 24) 10 cRo <| wIload 3 <| wCallR 3 (F_X2_mayHelpWith g t) cT csT <| wIf1 (fun x => x = 0) (bk_X3_judgedRow_72 g t Post ) (wAload 1 <| wAload 0 <| wGet (g 0) (fun _ => .ref (g 24)) <| wIload 2 <| wIald (g 24) 10 cRo <| wIload 3 <| wCallR 3 (F_X2_doHelp g t) cT csT <| wInc 2 1 <| wInc 5 1 <| wKeep [true, true, true, true, true, true] K34))))) L st s
set_option maxRecDepth 20000 in
theorem s_X3_judgedRow_34 {X : Cx} (B : Bx) (g : Nat → Nat) (t : Nat) {Post : Option Value → CS → Prop} (C : OkX X (gx B) cX3_judgedRow 6 wsX3_judgedRow RX3 (rmD 4)) (R : RtX X (gx B) (some .int) (encC B g t) Post) {K4 : PT CS} (hK4 : Snd X (gx B) 6 (encC B g t) 4 K4) {K34 : PT CS} (hK34 : Snd X (gx B) 6 (encC B g t) 34 K34) : Snd X (gx B) 6 (encC B g t) 34 (bk_X3_judgedRow_34 g t Post K4 K34) := by
  unfold bk_X3_judgedRow_34
  refine s_iload C dX3_judgedRow_34 ?_
  refine s_iload C dX3_judgedRow_36 ?_
  refine s_icmp_ge C (tgt := 94) (by decide) dX3_judgedRow_38 ?_ ?_
  · refine s_iinc C (by decide) (by decide) dX3_judgedRow_94 ?_
    refine s_goto C (tgt := 4) (by decide) dX3_judgedRow_97 ?_
    exact s_keep _ hK4
  · refine s_iload_n C rfl dX3_judgedRow_41 ?_
    refine s_aload_n C rfl dX3_judgedRow_42 ?_
    refine s_get C inw_X3_judgedRow_X3 rfl (k := 7) (by decide) (by decide +kernel) (heC_0 B g t) (fun _ => rfl) dX3_judgedRow_43 ?_
    refine s_icmp_ge C (tgt := 72) (by decide) dX3_judgedRow_46 ?_ ?_
    · exact s_X3_judgedRow_72 B g t C R 
    · refine s_iload_n C rfl dX3_judgedRow_49 ?_
      refine s_aload_n C rfl dX3_judgedRow_50 ?_
      refine s_get C inw_X3_judgedRow_X3 rfl (k := 6) (by decide) (by decide +kernel) (heC_0 B g t) (fun _ => rfl) dX3_judgedRow_51 ?_
      refine s_alen C (t0 := 0) (heC_1 B g t) rfl (fun _ => rfl) dX3_judgedRow_54 ?_
      refine s_icmp_ge C (tgt := 72) (by decide) dX3_judgedRow_55 ?_ ?_
      · exact s_X3_judgedRow_72 B g t C R 
      · refine s_aload_n C rfl dX3_judgedRow_58 ?_
        refine s_aload_n C rfl dX3_judgedRow_59 ?_
        refine s_get C inw_X3_judgedRow_X3 rfl (k := 6) (by decide) (by decide +kernel) (heC_0 B g t) (fun _ => rfl) dX3_judgedRow_60 ?_
        refine s_iload_n C rfl dX3_judgedRow_63 ?_
        refine s_iald C (heC_1 B g t) dX3_judgedRow_64 ?_
        refine s_iload_n C rfl dX3_judgedRow_65 ?_
        refine s_callV C (fr_C_T B g t) (k_X2_mayHelpWith B g t) gX3_judgedRow_X2_mayHelpWith rfl (by decide +kernel) ⟨rfl, rfl⟩ (by decide) rfl (fun s => ⟨_, heC_2 B g t s⟩) (cf_RII_r _ _ _ _) dX3_judgedRow_66 ?_
        refine s_if_ne C (tgt := 74) (by decide) dX3_judgedRow_69 ?_ ?_
        · refine s_aload_n C rfl dX3_judgedRow_74 ?_
          refine s_aload_n C rfl dX3_judgedRow_75 ?_
          refine s_get C inw_X3_judgedRow_X3 rfl (k := 6) (by decide) (by decide +kernel) (heC_0 B g t) (fun _ => rfl) dX3_judgedRow_76 ?_
          refine s_iload_n C rfl dX3_judgedRow_79 ?_
          refine s_iald C (heC_1 B g t) dX3_judgedRow_80 ?_
          refine s_iload_n C rfl dX3_judgedRow_81 ?_
          refine s_callV C (fr_C_T B g t) (k_X2_doHelp B g t) gX3_judgedRow_X2_doHelp rfl (by decide +kernel) ⟨rfl, rfl⟩ (by decide) rfl (fun s => ⟨_, heC_2 B g t s⟩) (cf_RII_r _ _ _ _) dX3_judgedRow_82 ?_
          refine s_iinc C (by decide) (by decide) dX3_judgedRow_85 ?_
          refine s_iinc C (by decide) (by decide) dX3_judgedRow_88 ?_
          refine s_goto C (tgt := 34) (by decide) dX3_judgedRow_91 ?_
          exact s_keep _ hK34
        · exact s_X3_judgedRow_72 B g t C R 
abbrev JPost (S : CS) (fin : Bool × Nat × TS) : Option Value → CS → Prop := fun o u => o = some (.int (jRes (cRl S) fin)) ∧ u = csT S fin.2.2
def I_j34 (g : Nat → Nat) (t : Nat) (S : CS) (fin : Bool × Nat × TS) (need : Nat) (K : PT CS) (n : Nat) (L : Lc) (st : List Value) (s : CS) : Prop := ∃ (p : Nat) (T : TS) (j : Nat) (hd : Int32), p ≤ rowN (cRl S) ∧ n + j = hd.toNatClampNeg ∧ st = [] ∧ s = csT S T ∧ L = [some (.ref (g 0)), some (.ref (g t)), some (.int (nI p)), some (.int (nI need)), some (.int hd), some (.int (nI j))] ∧
  ∀ r, jH (cRo S) (rowN (cRl S)) (nI need) n p T = r → (r.1 = true → r = fin) ∧ (r.1 = false → K [some (.ref (g 0)), some (.ref (g t)), some (.int (nI r.2.1)), some (.int (nI (need + 1))), none, none] [] (csT S r.2.2))
def J34 (g : Nat → Nat) (t : Nat) (S : CS) (fin : Bool × Nat × TS) (K : PT CS) : PT CS := fun L st s => ∃ need, ∃ n, I_j34 g t S fin need K n L st s
def I_j4 (g : Nat → Nat) (t : Nat) (S : CS) (fin : Bool × Nat × TS) (n : Nat) (L : Lc) (st : List Value) (s : CS) : Prop := ∃ (p : Nat) (T : TS) (k : Nat), p ≤ rowN (cRl S) ∧ n + k = tNeeds T ∧ st = [] ∧ s = csT S T ∧ L = [some (.ref (g 0)), some (.ref (g t)), some (.int (nI p)), some (.int (nI k)), none, none] ∧ jN (cRo S) (rowN (cRl S)) k n p T = fin
theorem judge34 {X : Cx} (B : Bx) (g : Nat → Nat) (t : Nat) (S : CS) (fin : Bool × Nat × TS) (C : OkX X (gx B) cX3_judgedRow 6 wsX3_judgedRow RX3 (rmD 4)) (R : RtX X (gx B) (some .int) (encC B g t) (JPost S fin)) {K4 : PT CS} (hK4 : Snd X (gx B) 6 (encC B g t) 4 K4) : Snd X (gx B) 6 (encC B g t) 34 (J34 g t S fin K4) := by
  refine Snd.ex (fun need => snd_loop _ (I_j34 g t S fin need K4) (fun K hK => s_X3_judgedRow_34 B g t C R hK4 hK) ?_)
  rintro K n L st s ⟨p, T, j, hd, hp, hn, rfl, rfl, rfl, hr⟩ hK
  simp only [wIload, wAload, wLload, wK, wB, wDv, wU, wLB, wLU, wLS, wL2i, wLcmp, wIf1, wIf2, wKeep, wInc, wIst, wAst, wLst, wDup, wPop, wDup2, wGet, wPut, wPutZ, wIald, wLald, wIast, wLast, wLen, wRetI, wRetZ, wRetL, wRetA, wRetV, wM1, wM2, wCpy, wTab, tabW, nth, stL, stL2, dropL, keepL, mkL, padL, restOK, restOKn, tl_some, tl_none, id_eq, eq_self, true_and, and_true, bk_X3_judgedRow_0, bk_X3_judgedRow_29, bk_X3_judgedRow_114, bk_X3_judgedRow_4, bk_X3_judgedRow_72, bk_X3_judgedRow_34, F_X2_doHelp, F_X2_handsLeft, F_X2_isOpen, F_X2_mayHelpWith, cf_RII_e, cf_RI_e, cg_Im_Im, cg_Im_Ro, cg_Im_Rl, cg_Im_T, cg_Ro_Im, cg_Ro_Ro, cg_Ro_Rl, cg_Ro_T, cg_Rl_Im, cg_Rl_Ro, cg_Rl_Rl, cg_Rl_T, cg_T_Im, cg_T_Ro, cg_T_Rl, cg_T_T, ce_Im, co_Im, ce_Ro, co_Ro, ce_Rl, co_Rl, ce_T, co_T, b2i_eq0]
  have hb := clamp_lt hd
  have hrl := clamp_lt (cRl S)
  unfold rowN at hp
  rcases Nat.lt_or_ge j hd.toNatClampNeg with hlt | hge
  · have h1 : ¬ hd ≤ nI j := by rw [le_nI (by omega)]; omega
    obtain ⟨n, rfl⟩ : ∃ m, n = m + 1 := ⟨n - 1, by omega⟩
    by_cases hpl : p < rowN (cRl S)
    · have hpl2 := hpl
      unfold rowN at hpl2
      have h2 : ¬ cRl S ≤ nI p := by rw [le_nI (by omega)]; omega
      have h3 : ¬ (10 : Int32) ≤ nI p := nI_ge (a := p) (b := 10) (by omega) (by decide)
      have c0 : (nI p).toNatClampNeg = p := nI_clamp (by omega)
      have w0 : vp_in (nI p) 10 := vp_in_nI (by omega) (by decide)
      cases ho : tMayW T (cRo S p) (nI need)
      · have e : jH (cRo S) (rowN (cRl S)) (nI need) (n + 1) p T = (true, p, T) := by rw [jH_s, if_neg (fun z => by rw [ho] at z; exact Bool.noConfusion z.2)]
        have hf := (hr _ e).1 rfl
        subst hf
        simp only [h1, h2, h3, c0, w0, ho, false_implies, true_implies, not_true_eq_false, not_false_eq_true, true_and, and_true, implies_true, eq_self, ne_eq, true_or, or_true, false_or, or_false, and_self]
        exact ⟨rfl, rfl⟩
      · have e : jH (cRo S) (rowN (cRl S)) (nI need) (n + 1) p T = jH (cRo S) (rowN (cRl S)) (nI need) n (p + 1) (tDo T (cRo S p) (nI need)) := by rw [jH_s, if_pos ⟨hpl, ho⟩]
        simp only [h1, h2, h3, c0, w0, ho, Bool.true_eq_false, false_implies, true_implies, not_true_eq_false, not_false_eq_true, true_and, and_true, implies_true, eq_self, ne_eq, true_or, or_true, false_or, or_false, and_self]
        rw [nI_1, nI_1]
        exact hK n _ _ _ (by omega) ⟨p + 1, _, j + 1, hd, hpl, by omega, rfl, rfl, rfl, fun r h => hr r (e.trans h)⟩
    · have e : jH (cRo S) (rowN (cRl S)) (nI need) (n + 1) p T = (true, p, T) := by rw [jH_s, if_neg (fun z => hpl z.1)]
      have hf := (hr _ e).1 rfl
      subst hf
      have hx : cRl S ≤ nI p ∨ (10 : Int32) ≤ nI p := by
        unfold rowN at hpl
        rcases Nat.lt_or_ge p 10 with h | h
        · exact Or.inl ((le_nI (by omega)).mpr (by omega))
        · exact Or.inr (nI_le (a := 10) h (by omega))
      by_cases hy : cRl S ≤ nI p
      · simp only [h1, hy, false_implies, true_implies, not_true_eq_false, not_false_eq_true, true_and, and_true, implies_true, eq_self, ne_eq, true_or, or_true, false_or, or_false, and_self]
        exact ⟨rfl, rfl⟩
      · have hx := hx.resolve_left hy
        simp only [h1, hx, hy, false_implies, true_implies, not_true_eq_false, not_false_eq_true, true_and, and_true, implies_true, eq_self, ne_eq, true_or, or_true, false_or, or_false, and_self]
        exact ⟨rfl, rfl⟩
  · have h1 : hd ≤ nI j := (le_nI (by omega)).mpr hge
    have h0 : n = 0 := by omega
    subst h0
    simp only [h1, false_implies, true_implies, not_true_eq_false, not_false_eq_true, true_and, and_true, implies_true, eq_self, ne_eq, true_or, or_true, false_or, or_false, and_self]
    rw [nI_1]
    exact (hr (false, p, T) rfl).2 rfl
theorem k_X3_judgedRow (B : Bx) (g : Nat → Nat) (t : Nat) : MtF (gx B) yX3_judgedRow wsX3_judgedRow (rmD 4) (encC B g t) (F_X3_judgedRow g t) := by
  refine cf_RR_i (fun l S _ => ?_)
  generalize hfin : jN (cRo S) (rowN (cRl S)) 0 (tNeeds (cT S)) 0 (cT S) = fin
  refine Mt.of (P := bk_X3_judgedRow_0 g t (JPost S fin) (fun L st s => ∃ n, I_j4 g t S fin n L st s)) (by decide) rfl (Nat.le_of_ble_eq_true rfl) rfl (fun X C R => s_X3_judgedRow_0 B g t C R (snd_loop (fun K => bk_X3_judgedRow_4 g t (JPost S fin) (J34 g t S fin K)) (I_j4 g t S fin) (fun K hK => s_X3_judgedRow_4 B g t C R (judge34 B g t S fin C R hK)) ?_)) ?_
  · rintro K n L st s ⟨p, T, k, hp, hn, rfl, rfl, rfl, hf⟩ hK
    simp only [wIload, wAload, wLload, wK, wB, wDv, wU, wLB, wLU, wLS, wL2i, wLcmp, wIf1, wIf2, wKeep, wInc, wIst, wAst, wLst, wDup, wPop, wDup2, wGet, wPut, wPutZ, wIald, wLald, wIast, wLast, wLen, wRetI, wRetZ, wRetL, wRetA, wRetV, wM1, wM2, wCpy, wTab, tabW, nth, stL, stL2, dropL, keepL, mkL, padL, restOK, restOKn, tl_some, tl_none, id_eq, eq_self, true_and, and_true, bk_X3_judgedRow_0, bk_X3_judgedRow_29, bk_X3_judgedRow_114, bk_X3_judgedRow_4, bk_X3_judgedRow_72, bk_X3_judgedRow_34, F_X2_doHelp, F_X2_handsLeft, F_X2_isOpen, F_X2_mayHelpWith, cf_RII_e, cf_RI_e, cg_Im_Im, cg_Im_Ro, cg_Im_Rl, cg_Im_T, cg_Ro_Im, cg_Ro_Ro, cg_Ro_Rl, cg_Ro_T, cg_Rl_Im, cg_Rl_Ro, cg_Rl_Rl, cg_Rl_T, cg_T_Im, cg_T_Ro, cg_T_Rl, cg_T_T, ce_Im, co_Im, ce_Ro, co_Ro, ce_Rl, co_Rl, ce_T, co_T, cTNn, b2i_eq0]
    have hb := clamp_lt (tNn T)
    unfold tNeeds at hn
    rcases Nat.lt_or_ge k (tNn T).toNatClampNeg with hlt | hge
    · have h1 : ¬ tNn T ≤ nI k := by rw [le_nI (by omega)]; omega
      obtain ⟨n, rfl⟩ : ∃ m, n = m + 1 := ⟨n - 1, by omega⟩
      rw [jN_s] at hf
      have hj : ∀ hd : Int32, hHd T (nI k) = hd → J34 g t S fin K [some (.ref (g 0)), some (.ref (g t)), some (.int (nI p)), some (.int (nI k)), some (.int hd), some (.int 0)] [] (csT S T) := by
        rintro hd rfl
        refine ⟨k, (hHd T (nI k)).toNatClampNeg, p, T, 0, hHd T (nI k), hp, Nat.add_zero _, rfl, rfl, rfl, ?_⟩
        intro r hr
        have hle := jH_le (ro := cRo S) (n := nI k) (hHd T (nI k)).toNatClampNeg p T hp
        have hnn := jH_nn (ro := cRo S) (N := rowN (cRl S)) (n := nI k) (hHd T (nI k)).toNatClampNeg p T
        rw [hr] at hf
        rw [hr] at hle
        rw [hr] at hnn
        refine ⟨fun h => ?_, fun h => ?_⟩
        · rw [if_pos h] at hf; exact hf
        · rw [if_neg (by rw [h]; exact Bool.false_ne_true)] at hf
          exact hK n _ _ _ (by omega) ⟨r.2.1, r.2.2, k + 1, hle, by unfold tNeeds; rw [hnn]; omega, rfl, rfl, rfl, hf⟩
      cases ho : tOpen T (nI k)
      · have := hj 0 (by unfold hHd; rw [ho]; rfl)
        simp only [h1, ho, false_implies, true_implies, not_true_eq_false, not_false_eq_true, true_and, and_true, implies_true, eq_self, ne_eq, true_or, or_true, false_or, or_false, and_self]
        exact this
      · have := hj (tHL T (nI k)) (by unfold hHd; rw [ho]; rfl)
        simp only [h1, ho, Bool.true_eq_false, false_implies, true_implies, not_true_eq_false, not_false_eq_true, true_and, and_true, implies_true, eq_self, ne_eq, true_or, or_true, false_or, or_false, and_self]
        exact this
    · have h1 : tNn T ≤ nI k := (le_nI (by omega)).mpr hge
      have h0 : n = 0 := by omega
      subst h0
      have hf : (false, p, T) = fin := hf
      subst hf
      simp only [h1, false_implies, true_implies, not_true_eq_false, not_false_eq_true, true_and, and_true, implies_true, eq_self, ne_eq, true_or, or_true, false_or, or_false, and_self]
      by_cases h2 : nI p < cRl S
      · have h3 : ¬ cRl S ≤ nI p := Int32.not_le.mpr h2
        simp only [h3, false_implies, true_implies, not_true_eq_false, not_false_eq_true, true_and, and_true, implies_true, eq_self, ne_eq, true_or, or_true, false_or, or_false, and_self]
        refine ⟨?_, rfl⟩
        show some (Value.int (nI p)) = some (Value.int (if false = true then nI p else if nI p < cRl S then nI p else -9))
        rw [if_neg Bool.false_ne_true, if_pos h2]
      · have h3 : cRl S ≤ nI p := Int32.not_lt.mp h2
        simp only [h3, false_implies, true_implies, not_true_eq_false, not_false_eq_true, true_and, and_true, implies_true, eq_self, ne_eq, true_or, or_true, false_or, or_false, and_self]
        refine ⟨?_, rfl⟩
        show some (Value.int (-9)) = some (Value.int (if false = true then nI p else if nI p < cRl S then nI p else -9))
        rw [if_neg Bool.false_ne_true, if_neg h2]
  · simp only [wIload, wAload, wLload, wK, wB, wDv, wU, wLB, wLU, wLS, wL2i, wLcmp, wIf1, wIf2, wKeep, wInc, wIst, wAst, wLst, wDup, wPop, wDup2, wGet, wPut, wPutZ, wIald, wLald, wIast, wLast, wLen, wRetI, wRetZ, wRetL, wRetA, wRetV, wM1, wM2, wCpy, wTab, tabW, nth, stL, stL2, dropL, keepL, mkL, padL, restOK, restOKn, tl_some, tl_none, id_eq, eq_self, true_and, and_true, bk_X3_judgedRow_0, bk_X3_judgedRow_29, bk_X3_judgedRow_114, bk_X3_judgedRow_4, bk_X3_judgedRow_72, bk_X3_judgedRow_34, F_X2_doHelp, F_X2_handsLeft, F_X2_isOpen, F_X2_mayHelpWith, cf_RII_e, cf_RI_e]
    exact ⟨tNeeds (cT S), 0, cT S, 0, Nat.zero_le _, by omega, rfl, rfl, rfl, hfin⟩
end
