noncomputable section
def F_X3_runSum (g : Nat → Nat) (t : Nat) : CF CS := cf_RRII (g 0) (g t) (fun S _ _ => ∃ a, a < 1000 ∧ cTYr S = nI a) (fun S r x => some (.int (runF (cRo S) (rowN (cRl S)) r x (cT S)).1)) (fun S r x => csT S (runF (cRo S) (rowN (cRl S)) r x (cT S)).2.2)
theorem inw_X3_runSum_X2 : ∀ w ∈ u_ws RX2 TX2 8, w ∈ wsX3_runSum := by decide +kernel
theorem inw_X3_runSum_X3 : ∀ w ∈ u_ws RX3 TX3 9, w ∈ wsX3_runSum := by decide +kernel
def bk_X3_runSum_0 (g : Nat → Nat) (t : Nat) (Post : Option Value → CS → Prop) (K12 : PT CS) (L : Lc) (st : List Value) (s : CS) : Prop :=
  (wK (.int 0) <| wIst 4 <| wIload 3 <| wIst 5 <| wAload 1 <| wGet (g t) (fun s => .int (cTYr s)) <| wIst 6 <| wKeep [true, true, true, false, true, true, true, false, false, false, false] K12) L st s
set_option maxRecDepth 20000 in
theorem s_X3_runSum_0 {X : Cx} (B : Bx) (g : Nat → Nat) (t : Nat) {Post : Option Value → CS → Prop} (C : OkX X (gx B) cX3_runSum 11 wsX3_runSum RX3 (rmD 6)) (R : RtX X (gx B) (some .int) (encC B g t) Post) {K12 : PT CS} (hK12 : Snd X (gx B) 11 (encC B g t) 12 K12) : Snd X (gx B) 11 (encC B g t) 0 (bk_X3_runSum_0 g t Post K12) := by
  unfold bk_X3_runSum_0
  refine s_iconst C (by decide) dX3_runSum_0 ?_
  refine s_istore C (by decide) dX3_runSum_1 ?_
  refine s_iload_n C rfl dX3_runSum_3 ?_
  refine s_istore C (by decide) dX3_runSum_4 ?_
  refine s_aload_n C rfl dX3_runSum_6 ?_
  refine s_get C inw_X3_runSum_X2 rfl (k := 7) (by decide) (by decide +kernel) (heC_2 B g t) (fun _ => rfl) dX3_runSum_7 ?_
  refine s_istore C (by decide) dX3_runSum_10 ?_
  exact s_keep _ hK12
def bk_X3_runSum_12 (g : Nat → Nat) (t : Nat) (Post : Option Value → CS → Prop) (K28 : PT CS) (L : Lc) (st : List Value) (s : CS) : Prop :=
  (wIload 6 <| wK (.int 9) <| wIf2 (fun x y => y < x) (wIload 4 <| wRetI Post) (wAload 1 <| wIload 6 <| wPut (g t) csTYr <| wK (.int 0) <| wIst 7 <| wKeep [true, true, true, false, true, true, true, true, false, false, false] K28)) L st s
set_option maxRecDepth 20000 in
theorem s_X3_runSum_12 {X : Cx} (B : Bx) (g : Nat → Nat) (t : Nat) {Post : Option Value → CS → Prop} (C : OkX X (gx B) cX3_runSum 11 wsX3_runSum RX3 (rmD 6)) (R : RtX X (gx B) (some .int) (encC B g t) Post) {K28 : PT CS} (hK28 : Snd X (gx B) 11 (encC B g t) 28 K28) : Snd X (gx B) 11 (encC B g t) 12 (bk_X3_runSum_12 g t Post K28) := by
  unfold bk_X3_runSum_12
  refine s_iload C dX3_runSum_12 ?_
  refine s_bipush C (by decide) dX3_runSum_14 ?_
  refine s_icmp_gt C (tgt := 147) (by decide) dX3_runSum_16 ?_ ?_
  · refine s_iload C dX3_runSum_147 ?_
    exact s_iret C R dX3_runSum_149
  · refine s_aload_n C rfl dX3_runSum_19 ?_
    refine s_iload C dX3_runSum_20 ?_
    refine s_put C inw_X3_runSum_X2 rfl (k := 7) (by decide) (by decide +kernel) tyX2_ok nmX2 (by decide +kernel) (by decide +kernel) (heC_2 B g t) (fun _ => Nat.le_of_ble_eq_true rfl) (fun _ _ => rfl) dX3_runSum_22 ?_
    refine s_iconst C (by decide) dX3_runSum_25 ?_
    refine s_istore C (by decide) dX3_runSum_26 ?_
    exact s_keep _ hK28
def bk_X3_runSum_56 (g : Nat → Nat) (t : Nat) (Post : Option Value → CS → Prop) (K61 : PT CS) (L : Lc) (st : List Value) (s : CS) : Prop :=
  (wIst 8 <| wK (.int 0) <| wIst 9 <| wKeep [true, true, true, false, true, true, true, true, true, true, false] K61) L st s
set_option maxRecDepth 20000 in
theorem s_X3_runSum_56 {X : Cx} (B : Bx) (g : Nat → Nat) (t : Nat) {Post : Option Value → CS → Prop} (C : OkX X (gx B) cX3_runSum 11 wsX3_runSum RX3 (rmD 6)) (R : RtX X (gx B) (some .int) (encC B g t) Post) {K61 : PT CS} (hK61 : Snd X (gx B) 11 (encC B g t) 61 K61) : Snd X (gx B) 11 (encC B g t) 56 (bk_X3_runSum_56 g t Post K61) := by
  unfold bk_X3_runSum_56
  refine s_istore C (by decide) dX3_runSum_56 ?_
  refine s_iconst C (by decide) dX3_runSum_58 ?_
  refine s_istore C (by decide) dX3_runSum_59 ?_
  exact s_keep _ hK61
def bk_X3_runSum_28 (g : Nat → Nat) (t : Nat) (Post : Option Value → CS → Prop) (K12 : PT CS) (K61 : PT CS) (L : Lc) (st : List Value) (s : CS) : Prop :=
  (wIload 7 <| wAload 1 <| wGet (g t) (fun s => .int (cTNn s)) <| wIf2 (fun x y => y ≤ x) (wInc 6 1 <| wKeep [true, true, true, false, true, true, true, false, false, false, false] K12) (wAload 1 <| wIload 7 <| wCallR 2 (F_X2_isOpen g t) cT csT <| wIf1 (fun x => x = 0) (wK (.int 0) <| bk_X3_runSum_56 g t Post K61) (wAload 1 <| wIload 7 <| wCallR 2 (F_X2_handsLeft g t) cT csT <| bk_X3_runSum_56 g t Post K61))) L st s
set_option maxRecDepth 20000 in
theorem s_X3_runSum_28 {X : Cx} (B : Bx) (g : Nat → Nat) (t : Nat) {Post : Option Value → CS → Prop} (C : OkX X (gx B) cX3_runSum 11 wsX3_runSum RX3 (rmD 6)) (R : RtX X (gx B) (some .int) (encC B g t) Post) {K12 : PT CS} (hK12 : Snd X (gx B) 11 (encC B g t) 12 K12) {K61 : PT CS} (hK61 : Snd X (gx B) 11 (encC B g t) 61 K61) : Snd X (gx B) 11 (encC B g t) 28 (bk_X3_runSum_28 g t Post K12 K61) := by
  unfold bk_X3_runSum_28
  refine s_iload C dX3_runSum_28 ?_
  refine s_aload_n C rfl dX3_runSum_30 ?_
  refine s_get C inw_X3_runSum_X2 rfl (k := 3) (by decide) (by decide +kernel) (heC_2 B g t) (fun _ => rfl) dX3_runSum_31 ?_
  refine s_icmp_ge C (tgt := 141) (by decide) dX3_runSum_34 ?_ ?_
  · refine s_iinc C (by decide) (by decide) dX3_runSum_141 ?_
    refine s_goto C (tgt := 12) (by decide) dX3_runSum_144 ?_
    exact s_keep _ hK12
  · refine s_aload_n C rfl dX3_runSum_37 ?_
    refine s_iload C dX3_runSum_38 ?_
    refine s_callV C (fr_C_T B g t) (k_X2_isOpen B g t) gX3_runSum_X2_isOpen rfl (by decide +kernel) ⟨rfl, rfl⟩ (by decide) rfl (fun s => ⟨_, heC_2 B g t s⟩) (cf_RI_r _ _ _ _) dX3_runSum_40 ?_
    refine s_if_eq C (tgt := 55) (by decide) dX3_runSum_43 ?_ ?_
    · refine s_iconst C (by decide) dX3_runSum_55 ?_
      exact s_X3_runSum_56 B g t C R hK61
    · refine s_aload_n C rfl dX3_runSum_46 ?_
      refine s_iload C dX3_runSum_47 ?_
      refine s_callV C (fr_C_T B g t) (k_X2_handsLeft B g t) gX3_runSum_X2_handsLeft rfl (by decide +kernel) ⟨rfl, rfl⟩ (by decide) rfl (fun s => ⟨_, heC_2 B g t s⟩) (cf_RI_r _ _ _ _) dX3_runSum_49 ?_
      refine s_goto C (tgt := 56) (by decide) dX3_runSum_52 ?_
      exact s_X3_runSum_56 B g t C R hK61
def bk_X3_runSum_129 (g : Nat → Nat) (t : Nat) (Post : Option Value → CS → Prop) (K61 : PT CS) (L : Lc) (st : List Value) (s : CS) : Prop :=
  (wInc 9 1 <| wKeep [true, true, true, false, true, true, true, true, true, true, false] K61) L st s
set_option maxRecDepth 20000 in
theorem s_X3_runSum_129 {X : Cx} (B : Bx) (g : Nat → Nat) (t : Nat) {Post : Option Value → CS → Prop} (C : OkX X (gx B) cX3_runSum 11 wsX3_runSum RX3 (rmD 6)) (R : RtX X (gx B) (some .int) (encC B g t) Post) {K61 : PT CS} (hK61 : Snd X (gx B) 11 (encC B g t) 61 K61) : Snd X (gx B) 11 (encC B g t) 129 (bk_X3_runSum_129 g t Post K61) := by
  unfold bk_X3_runSum_129
  refine s_iinc C (by decide) (by decide) dX3_runSum_129 ?_
  refine s_goto C (tgt := 61) (by decide) dX3_runSum_132 ?_
  exact s_keep _ hK61
def bk_X3_runSum_61 (g : Nat → Nat) (t : Nat) (Post : Option Value → CS → Prop) (K28 : PT CS) (K61 : PT CS) (L : Lc) (st : List Value) (s : CS) : Prop :=
  (wIload 9 <| wIload 8 <| wIf2 (fun x y => y ≤ x) (wInc 7 1 <| wKeep [true, true, true, false, true, true, true, true, false, false, false] K28) (wAload 0 <| wAload 1 <| wIload 2 <| wIload 7 <| wCallR 4 (F_X3_chosenBy g t) id (fun _ u => u) <| wIst 10 <| wIload 10 <| wIf1 (fun x => x < 0) (wIload 5 <| wIf1 (fun x => x ≤ 0) (bk_X3_runSum_129 g t Post K61) (wIload 4 <| wK (.int 3) <| wAload 1 <| wIload 7 <| wK (.int 2) <| wCallR 3 (F_X2_ofNeed g t) cT csT <| wB (fun x y => x * y) <| wB (fun x y => x + y) <| wIst 4 <| wInc 5 (-1) <| bk_X3_runSum_129 g t Post K61)) (wIload 4 <| wAload 1 <| wIload 10 <| wIload 7 <| wCallR 3 (F_X2_goodOf g t) cT csT <| wB (fun x y => x + y) <| wIst 4 <| wAload 1 <| wIload 10 <| wIload 7 <| wCallR 3 (F_X2_doHelp g t) cT csT <| bk_X3_runSum_129 g t Post K61))) L st s
set_option maxRecDepth 20000 in
theorem s_X3_runSum_61 {X : Cx} (B : Bx) (g : Nat → Nat) (t : Nat) {Post : Option Value → CS → Prop} (C : OkX X (gx B) cX3_runSum 11 wsX3_runSum RX3 (rmD 6)) (R : RtX X (gx B) (some .int) (encC B g t) Post) {K28 : PT CS} (hK28 : Snd X (gx B) 11 (encC B g t) 28 K28) {K61 : PT CS} (hK61 : Snd X (gx B) 11 (encC B g t) 61 K61) : Snd X (gx B) 11 (encC B g t) 61 (bk_X3_runSum_61 g t Post K28 K61) := by
  unfold bk_X3_runSum_61
  refine s_iload C dX3_runSum_61 ?_
  refine s_iload C dX3_runSum_63 ?_
  refine s_icmp_ge C (tgt := 135) (by decide) dX3_runSum_65 ?_ ?_
  · refine s_iinc C (by decide) (by decide) dX3_runSum_135 ?_
    refine s_goto C (tgt := 28) (by decide) dX3_runSum_138 ?_
    exact s_keep _ hK28
  · refine s_aload_n C rfl dX3_runSum_68 ?_
    refine s_aload_n C rfl dX3_runSum_69 ?_
    refine s_iload_n C rfl dX3_runSum_70 ?_
    refine s_iload C dX3_runSum_71 ?_
    refine s_callV C (fr_C_C B g t) (k_X3_chosenBy B g t) gX3_runSum_X3_chosenBy rfl (by decide +kernel) ⟨rfl, rfl⟩ (by decide) rfl (fun s => ⟨_, heC_0 B g t s⟩) (cf_RRII_r _ _ _ _ _) dX3_runSum_73 ?_
    refine s_istore C (by decide) dX3_runSum_76 ?_
    refine s_iload C dX3_runSum_78 ?_
    refine s_if_lt C (tgt := 107) (by decide) dX3_runSum_80 ?_ ?_
    · refine s_iload C dX3_runSum_107 ?_
      refine s_if_le C (tgt := 129) (by decide) dX3_runSum_109 ?_ ?_
      · exact s_X3_runSum_129 B g t C R hK61
      · refine s_iload C dX3_runSum_112 ?_
        refine s_iconst C (by decide) dX3_runSum_114 ?_
        refine s_aload_n C rfl dX3_runSum_115 ?_
        refine s_iload C dX3_runSum_116 ?_
        refine s_iconst C (by decide) dX3_runSum_118 ?_
        refine s_callV C (fr_C_T B g t) (k_X2_ofNeed B g t) gX3_runSum_X2_ofNeed rfl (by decide +kernel) ⟨rfl, rfl⟩ (by decide) rfl (fun s => ⟨_, heC_2 B g t s⟩) (cf_RII_r _ _ _ _) dX3_runSum_119 ?_
        refine s_imul C dX3_runSum_122 ?_
        refine s_iadd C dX3_runSum_123 ?_
        refine s_istore C (by decide) dX3_runSum_124 ?_
        refine s_iinc C (by decide) (by decide) dX3_runSum_126 ?_
        exact s_X3_runSum_129 B g t C R hK61
    · refine s_iload C dX3_runSum_83 ?_
      refine s_aload_n C rfl dX3_runSum_85 ?_
      refine s_iload C dX3_runSum_86 ?_
      refine s_iload C dX3_runSum_88 ?_
      refine s_callV C (fr_C_T B g t) (k_X2_goodOf B g t) gX3_runSum_X2_goodOf rfl (by decide +kernel) ⟨rfl, rfl⟩ (by decide) rfl (fun s => ⟨_, heC_2 B g t s⟩) (cf_RII_r _ _ _ _) dX3_runSum_90 ?_
      refine s_iadd C dX3_runSum_93 ?_
      refine s_istore C (by decide) dX3_runSum_94 ?_
      refine s_aload_n C rfl dX3_runSum_96 ?_
      refine s_iload C dX3_runSum_97 ?_
      refine s_iload C dX3_runSum_99 ?_
      refine s_callV C (fr_C_T B g t) (k_X2_doHelp B g t) gX3_runSum_X2_doHelp rfl (by decide +kernel) ⟨rfl, rfl⟩ (by decide) rfl (fun s => ⟨_, heC_2 B g t s⟩) (cf_RII_r _ _ _ _) dX3_runSum_101 ?_
      refine s_goto C (tgt := 129) (by decide) dX3_runSum_104 ?_
      exact s_X3_runSum_129 B g t C R hK61
abbrev L12 (g : Nat → Nat) (t : Nat) (rule sum left year : Int32) : Lc := [some (.ref (g 0)), some (.ref (g t)), some (.int rule), none, some (.int sum), some (.int left), some (.int year), none, none, none, none]
abbrev L28 (g : Nat → Nat) (t : Nat) (rule sum left year need : Int32) : Lc := [some (.ref (g 0)), some (.ref (g t)), some (.int rule), none, some (.int sum), some (.int left), some (.int year), some (.int need), none, none, none]
abbrev L61 (g : Nat → Nat) (t : Nat) (rule sum left year need hands hand : Int32) : Lc := [some (.ref (g 0)), some (.ref (g t)), some (.int rule), none, some (.int sum), some (.int left), some (.int year), some (.int need), some (.int hands), some (.int hand), none]
def I61 (g : Nat → Nat) (t : Nat) (S : CS) (rule year : Int32) (need : Nat) (K : PT CS) (n : Nat) (L : Lc) (st : List Value) (s : CS) : Prop := ∃ (r : RS) (j : Nat) (hd : Int32), n + j = hd.toNatClampNeg ∧ st = [] ∧ s = csT S r.2.2 ∧ L = L61 g t rule r.1 r.2.1 year (nI need) hd (nI j) ∧
  K (L28 g t rule (iterN (hStep (cRo S) (rowN (cRl S)) rule (nI need)) n r).1 (iterN (hStep (cRo S) (rowN (cRl S)) rule (nI need)) n r).2.1 year (nI (need + 1))) [] (csT S (iterN (hStep (cRo S) (rowN (cRl S)) rule (nI need)) n r).2.2)
def J61 (g : Nat → Nat) (t : Nat) (S : CS) (rule : Int32) (K : PT CS) : PT CS := fun L st s => ∃ (year : Int32) (need : Nat), need + 1 < 2 ^ 31 ∧ ∃ n, I61 g t S rule year need K n L st s
def I28 (g : Nat → Nat) (t : Nat) (S : CS) (rule : Int32) (y : Nat) (K : PT CS) (n : Nat) (L : Lc) (st : List Value) (s : CS) : Prop := ∃ (r : RS) (k : Nat), n + k = tNeeds r.2.2 ∧ st = [] ∧ s = csT S r.2.2 ∧ L = L28 g t rule r.1 r.2.1 (nI y) (nI k) ∧
  K (L12 g t rule (upto (fun k => nStep (cRo S) (rowN (cRl S)) rule (nI k)) k n r).1 (upto (fun k => nStep (cRo S) (rowN (cRl S)) rule (nI k)) k n r).2.1 (nI (y + 1))) [] (csT S (upto (fun k => nStep (cRo S) (rowN (cRl S)) rule (nI k)) k n r).2.2)
def J28 (g : Nat → Nat) (t : Nat) (S : CS) (rule : Int32) (K : PT CS) : PT CS := fun L st s => ∃ y : Nat, ∃ n, I28 g t S rule y K n L st s
def I12 (g : Nat → Nat) (t : Nat) (S : CS) (rule : Int32) (fin : RS) (n : Nat) (L : Lc) (st : List Value) (s : CS) : Prop := ∃ (r : RS) (y : Nat), y < 2000 ∧ n = 10 - y ∧ st = [] ∧ s = csT S r.2.2 ∧ L = L12 g t rule r.1 r.2.1 (nI y) ∧ upto (yStep (cRo S) (rowN (cRl S)) rule) y n r = fin
theorem Snd.ex {σ α : Type} {X : Cx} {G : Gx} {nL pc : Nat} {enc : σ → va_W} {P : α → PT σ} (h : ∀ a, Snd X G nL enc pc (P a)) : Snd X G nL enc pc (fun L st s => ∃ a, P a L st s) :=
  fun H locs ls L st s hl hP hD hS hw => h hw.choose H locs ls L st s hl hP hD hS hw.choose_spec
theorem run61 {X : Cx} (B : Bx) (g : Nat → Nat) (t : Nat) {Post : Option Value → CS → Prop} (C : OkX X (gx B) cX3_runSum 11 wsX3_runSum RX3 (rmD 6)) (R : RtX X (gx B) (some .int) (encC B g t) Post) (S : CS) (rule : Int32) {K28 : PT CS} (hK28 : Snd X (gx B) 11 (encC B g t) 28 K28) : Snd X (gx B) 11 (encC B g t) 61 (J61 g t S rule K28) := by
  refine Snd.ex (fun year => Snd.ex (fun need => Snd.imp (fun hneed => snd_loop _ (I61 g t S rule year need K28) (fun K hK => s_X3_runSum_61 B g t C R hK28 hK) ?_)))
  rintro K n L st s ⟨⟨sm, lf, T⟩, j, hd, hn, rfl, rfl, rfl, hk⟩ hK
  simp only [wIload, wAload, wLload, wK, wB, wDv, wU, wLB, wLU, wLS, wL2i, wLcmp, wIf1, wIf2, wKeep, wInc, wIst, wAst, wLst, wDup, wPop, wDup2, wGet, wPut, wPutZ, wIald, wLald, wIast, wLast, wLen, wRetI, wRetZ, wRetL, wRetA, wRetV, wM1, wM2, wCpy, wTab, tabW, nth, stL, stL2, dropL, keepL, mkL, padL, restOK, restOKn, tl_some, tl_none, id_eq, eq_self, true_and, and_true, bk_X3_runSum_0, bk_X3_runSum_12, bk_X3_runSum_56, bk_X3_runSum_28, bk_X3_runSum_129, bk_X3_runSum_61, F_X2_doHelp, F_X2_goodOf, F_X2_handsLeft, F_X2_isOpen, F_X2_ofNeed, F_X3_chosenBy, cf_RII_e, cf_RI_e, cf_RRII_e, cg_Im_Im, cg_Im_Ro, cg_Im_Rl, cg_Im_T, cg_Ro_Im, cg_Ro_Ro, cg_Ro_Rl, cg_Ro_T, cg_Rl_Im, cg_Rl_Ro, cg_Rl_Rl, cg_Rl_T, cg_T_Im, cg_T_Ro, cg_T_Rl, cg_T_T, ce_Im, co_Im, ce_Ro, co_Ro, ce_Rl, co_Rl, ce_T, co_T, isN]
  have hb := clamp_lt hd
  have hN : ∃ k, k + 1 < 2 ^ 31 ∧ nI need = nI k := ⟨need, hneed, rfl⟩
  rcases Nat.lt_or_ge j hd.toNatClampNeg with hlt | hge
  · have h1 : ¬ hd ≤ nI j := by rw [le_nI (by omega)]; omega
    obtain ⟨n, rfl⟩ : ∃ m, n = m + 1 := ⟨n - 1, by omega⟩
    have hc : ∀ r, hStep (cRo S) (rowN (cRl S)) rule (nI need) (sm, lf, T) = r → K (L61 g t rule r.1 r.2.1 year (nI need) hd (nI j + 1)) [] (csT S r.2.2) := by
      rintro r rfl
      rw [nI_1]
      exact hK n _ _ _ (by omega) ⟨_, j + 1, hd, by omega, rfl, rfl, rfl, hk⟩
    by_cases h2 : cChose (cRo S) (rowN (cRl S)) T rule (nI need) < 0
    · by_cases h3 : 0 < lf
      · have hc := hc _ (hS_1 _ _ _ _ _ _ _ h2 h3)
        have h4 : ¬ lf ≤ 0 := Int32.not_le.mpr h3
        simp only [h1, h2, h4, hN, false_implies, true_implies, not_true_eq_false, not_false_eq_true, true_and, and_true, implies_true, eq_self, ne_eq, true_or, or_true, false_or, or_false, and_self]
        exact hc
      · have hc := hc _ (hS_2 _ _ _ _ _ _ _ h2 h3)
        have h4 : lf ≤ 0 := Int32.not_lt.mp h3
        simp only [h1, h2, h4, hN, false_implies, true_implies, not_true_eq_false, not_false_eq_true, true_and, and_true, implies_true, eq_self, ne_eq, true_or, or_true, false_or, or_false, and_self]
        exact hc
    · have hc := hc _ (hS_3 _ _ _ _ _ _ _ h2)
      simp only [h1, h2, hN, false_implies, true_implies, not_true_eq_false, not_false_eq_true, true_and, and_true, implies_true, eq_self, ne_eq, true_or, or_true, false_or, or_false, and_self]
      exact hc
  · have h1 : hd ≤ nI j := (le_nI (by omega)).mpr hge
    have h0 : n = 0 := by omega
    subst h0
    simp only [h1, false_implies, true_implies, not_true_eq_false, not_false_eq_true, true_and, and_true, implies_true, eq_self, ne_eq, true_or, or_true, false_or, or_false, and_self]
    rw [nI_1]
    exact hk
theorem run28 {X : Cx} (B : Bx) (g : Nat → Nat) (t : Nat) {Post : Option Value → CS → Prop} (C : OkX X (gx B) cX3_runSum 11 wsX3_runSum RX3 (rmD 6)) (R : RtX X (gx B) (some .int) (encC B g t) Post) (S : CS) (rule : Int32) {K12 : PT CS} (hK12 : Snd X (gx B) 11 (encC B g t) 12 K12) : Snd X (gx B) 11 (encC B g t) 28 (J28 g t S rule K12) := by
  refine Snd.ex (fun y => snd_loop (fun K => bk_X3_runSum_28 g t Post K12 (J61 g t S rule K)) (I28 g t S rule y K12) (fun K hK => s_X3_runSum_28 B g t C R hK12 (run61 B g t C R S rule hK)) ?_)
  rintro K n L st s ⟨⟨sm, lf, T⟩, k, hn, rfl, rfl, rfl, hk⟩ hK
  simp only [wIload, wAload, wLload, wK, wB, wDv, wU, wLB, wLU, wLS, wL2i, wLcmp, wIf1, wIf2, wKeep, wInc, wIst, wAst, wLst, wDup, wPop, wDup2, wGet, wPut, wPutZ, wIald, wLald, wIast, wLast, wLen, wRetI, wRetZ, wRetL, wRetA, wRetV, wM1, wM2, wCpy, wTab, tabW, nth, stL, stL2, dropL, keepL, mkL, padL, restOK, restOKn, tl_some, tl_none, id_eq, eq_self, true_and, and_true, bk_X3_runSum_0, bk_X3_runSum_12, bk_X3_runSum_56, bk_X3_runSum_28, bk_X3_runSum_129, bk_X3_runSum_61, F_X2_doHelp, F_X2_goodOf, F_X2_handsLeft, F_X2_isOpen, F_X2_ofNeed, F_X3_chosenBy, cf_RII_e, cf_RI_e, cf_RRII_e, cg_Im_Im, cg_Im_Ro, cg_Im_Rl, cg_Im_T, cg_Ro_Im, cg_Ro_Ro, cg_Ro_Rl, cg_Ro_T, cg_Rl_Im, cg_Rl_Ro, cg_Rl_Rl, cg_Rl_T, cg_T_Im, cg_T_Ro, cg_T_Rl, cg_T_T, ce_Im, co_Im, ce_Ro, co_Ro, ce_Rl, co_Rl, ce_T, co_T, cTNn, b2i_eq0]
  have hb := clamp_lt (tNn T)
  unfold tNeeds at hn
  dsimp only at hn
  rcases Nat.lt_or_ge k (tNn T).toNatClampNeg with hlt | hge
  · have h1 : ¬ tNn T ≤ nI k := by rw [le_nI (by omega)]; omega
    obtain ⟨n, rfl⟩ : ∃ m, n = m + 1 := ⟨n - 1, by omega⟩
    have hc := hK n (L28 g t rule (nStep (cRo S) (rowN (cRl S)) rule (nI k) (sm, lf, T)).1 (nStep (cRo S) (rowN (cRl S)) rule (nI k) (sm, lf, T)).2.1 (nI y) (nI (k + 1))) [] (csT S (nStep (cRo S) (rowN (cRl S)) rule (nI k) (sm, lf, T)).2.2) (by omega) ⟨_, k + 1, by unfold tNeeds; rw [tNn_nStep]; dsimp only; omega, rfl, rfl, rfl, hk⟩
    have hj : ∀ hd : Int32, hHd T (nI k) = hd → J61 g t S rule K [some (.ref (g 0)), some (.ref (g t)), some (.int rule), none, some (.int sm), some (.int lf), some (.int (nI y)), some (.int (nI k)), some (.int hd), some (.int 0), none] [] (csT S T) := by
      rintro hd rfl
      exact ⟨nI y, k, by omega, _, (sm, lf, T), 0, hHd T (nI k), rfl, rfl, rfl, rfl, hc⟩
    cases ho : tOpen T (nI k)
    · have := hj 0 (by unfold hHd; rw [ho]; rfl)
      simp only [h1, ho, false_implies, true_implies, not_true_eq_false, not_false_eq_true, true_and, and_true, implies_true, eq_self, ne_eq, true_or, or_true, false_or, or_false, and_self]
      exact this
    · have := hj (tHL T (nI k)) (by unfold hHd; rw [ho]; rfl)
      simp only [h1, ho, Bool.true_eq_false, false_implies, true_implies, not_true_eq_false, not_false_eq_true, true_and, and_true, implies_true, eq_self, ne_eq, true_or, or_true, false_or, or_false, and_self]
      exact this
  · have h1 : tNn T ≤ nI k := (le_nI (by omega)).mpr hge
    have h0 : n = 0 := by omega
    subst h0
    simp only [h1, false_implies, true_implies, not_true_eq_false, not_false_eq_true, true_and, and_true, implies_true, eq_self, ne_eq, true_or, or_true, false_or, or_false, and_self]
    rw [nI_1]
    exact hk
theorem k_X3_runSum (B : Bx) (g : Nat → Nat) (t : Nat) : MtF (gx B) yX3_runSum wsX3_runSum (rmD 6) (encC B g t) (F_X3_runSum g t) := by
  refine cf_RRII_i (fun l S rule x hy => ?_)
  obtain ⟨a, ha, ea⟩ := hy
  refine Mt.of (P := bk_X3_runSum_0 g t _ (fun L st s => ∃ n, I12 g t S rule (runF (cRo S) (rowN (cRl S)) rule x (cT S)) n L st s)) (by decide) rfl (Nat.le_of_ble_eq_true rfl) rfl (fun X C R => s_X3_runSum_0 B g t C R (snd_loop (fun K => bk_X3_runSum_12 g t _ (J28 g t S rule K)) (I12 g t S rule (runF (cRo S) (rowN (cRl S)) rule x (cT S))) (fun K hK => s_X3_runSum_12 B g t C R (run28 B g t C R S rule hK)) ?_)) ?_
  · rintro K n L st s ⟨⟨sm, lf, T⟩, y, hy, hn, rfl, rfl, rfl, hf⟩ hK
    simp only [wIload, wAload, wLload, wK, wB, wDv, wU, wLB, wLU, wLS, wL2i, wLcmp, wIf1, wIf2, wKeep, wInc, wIst, wAst, wLst, wDup, wPop, wDup2, wGet, wPut, wPutZ, wIald, wLald, wIast, wLast, wLen, wRetI, wRetZ, wRetL, wRetA, wRetV, wM1, wM2, wCpy, wTab, tabW, nth, stL, stL2, dropL, keepL, mkL, padL, restOK, restOKn, tl_some, tl_none, id_eq, eq_self, true_and, and_true, bk_X3_runSum_0, bk_X3_runSum_12, bk_X3_runSum_56, bk_X3_runSum_28, bk_X3_runSum_129, bk_X3_runSum_61, F_X2_doHelp, F_X2_goodOf, F_X2_handsLeft, F_X2_isOpen, F_X2_ofNeed, F_X3_chosenBy, cf_RII_e, cf_RI_e, cf_RRII_e, cg_Im_Im, cg_Im_Ro, cg_Im_Rl, cg_Im_T, cg_Ro_Im, cg_Ro_Ro, cg_Ro_Rl, cg_Ro_T, cg_Rl_Im, cg_Rl_Ro, cg_Rl_Rl, cg_Rl_T, cg_T_Im, cg_T_Ro, cg_T_Rl, cg_T_T, ce_Im, co_Im, ce_Ro, co_Ro, ce_Rl, co_Rl, ce_T, co_T, cTYr, csTYr]
    rcases Nat.lt_or_ge 9 y with hlt | hge
    · have h1 : (9 : Int32) < nI y := nI_lt (a := 9) hlt (by omega)
      have h0 : n = 0 := by omega
      subst h0
      have hf : (sm, lf, T) = _ := hf
      simp only [h1, false_implies, true_implies, not_true_eq_false, not_false_eq_true, true_and, and_true, implies_true, eq_self, ne_eq, true_or, or_true, false_or, or_false, and_self]
      rw [← hf]
      exact ⟨rfl, rfl⟩
    · have h1 : ¬ (9 : Int32) < nI y := nI_nlt (a := 9) hge (by decide)
      obtain ⟨n, rfl⟩ : ∃ m, n = m + 1 := ⟨n - 1, by omega⟩
      have hc := hK n (L12 g t rule (yStep (cRo S) (rowN (cRl S)) rule y (sm, lf, T)).1 (yStep (cRo S) (rowN (cRl S)) rule y (sm, lf, T)).2.1 (nI (y + 1))) [] (csT S (yStep (cRo S) (rowN (cRl S)) rule y (sm, lf, T)).2.2) (by omega) ⟨_, y + 1, by omega, by omega, rfl, rfl, rfl, hf⟩
      simp only [h1, false_implies, true_implies, not_true_eq_false, not_false_eq_true, true_and, and_true, implies_true, eq_self, ne_eq, true_or, or_true, false_or, or_false, and_self]
      exact ⟨y, tNeeds T, (sm, lf, tsYr T (nI y)), 0, rfl, rfl, rfl, rfl, hc⟩
  · simp only [wIload, wAload, wLload, wK, wB, wDv, wU, wLB, wLU, wLS, wL2i, wLcmp, wIf1, wIf2, wKeep, wInc, wIst, wAst, wLst, wDup, wPop, wDup2, wGet, wPut, wPutZ, wIald, wLald, wIast, wLast, wLen, wRetI, wRetZ, wRetL, wRetA, wRetV, wM1, wM2, wCpy, wTab, tabW, nth, stL, stL2, dropL, keepL, mkL, padL, restOK, restOKn, tl_some, tl_none, id_eq, eq_self, true_and, and_true, bk_X3_runSum_0, bk_X3_runSum_12, bk_X3_runSum_56, bk_X3_runSum_28, bk_X3_runSum_129, bk_X3_runSum_61, F_X2_doHelp, F_X2_goodOf, F_X2_handsLeft, F_X2_isOpen, F_X2_ofNeed, F_X3_chosenBy, cf_RII_e, cf_RI_e, cf_RRII_e]
    refine ⟨10 - a, (0, x, cT S), a, by omega, rfl, rfl, rfl, ?_, ?_⟩
    · rw [ea]
    · unfold runF
      rw [show (tYr (cT S)).toNatClampNeg = a by rw [show tYr (cT S) = nI a from ea]; exact nI_clamp (by omega)]
end
