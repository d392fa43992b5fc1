noncomputable section
theorem lcmp0 (x y : Int64) : (lg_cmp x y = 0) = (x = y) := by
  apply propext
  have h1 := lg_cmp_ge x y
  have h2 := lg_cmp_le x y
  refine ⟨fun h => ?_, fun h => ?_⟩
  · rw [h] at h1 h2
    exact Int64.le_antisymm (h2.mp (by decide)) (h1.mp (by decide))
  · subst h
    exact Int32.le_antisymm (h2.mpr (Int64.le_refl _)) (h1.mpr (Int64.le_refl _))
theorem n10 : ((1 : Int32) = 0) = False := by decide
theorem fTST (s : ET) (a c : TS) (b : SS) : fsT (fsS (fsT s a) b) c = fsT (fsS s b) c := rfl
def fsAt (h i : Nat) : Nat := h * 7 + i
def fsStep (h i : Nat) (q : Int32) (may : Int64) (E : ET) : ET := if may &&& sBit (nI h) (nI i) = 0 then E else
  fsT (fsS E (eaSm (eaGo (fS E) (fsAt h i) (tGood (tsYr (fT E) (tOfN (fT E) q 4)) (nI i) q)) (fsAt h i) (sMayB (eaGo (fS E) (fsAt h i) (tGood (tsYr (fT E) (tOfN (fT E) q 4)) (nI i) q)) (tDo (tsYr (fT E) (tOfN (fT E) q 4)) (nI i) q) (nI h + 1)))) (tBack (sMayT (eaGo (fS E) (fsAt h i) (tGood (tsYr (fT E) (tOfN (fT E) q 4)) (nI i) q)) (tDo (tsYr (fT E) (tOfN (fT E) q 4)) (nI i) q) (nI h + 1)))
def fsN (h : Nat) (q : Int32) (may : Int64) : Nat → Nat → ET → ET
  | _, 0, E => E
  | i, n + 1, E => fsN h q may (i + 1) n (fsStep h i q may E)
theorem fsN_s (h : Nat) (q : Int32) (may : Int64) (i n : Nat) (E : ET) : fsN h q may i (n + 1) E = fsN h q may (i + 1) n (fsStep h i q may E) := rfl
def sFore (E : ET) (h : Int32) (may : Int64) : ET := fsN h.toNatClampNeg (sNeed (fS E) h) may 0 7 E
theorem fsStep_hd (h i : Nat) (q : Int32) (may : Int64) (E : ET) : eHd (fS (fsStep h i q may E)) = eHd (fS E) := by
  unfold fsStep
  by_cases e : may &&& sBit (nI h) (nI i) = 0
  · rw [if_pos e]
  · rw [if_neg e]; rfl
def F_X1_foresee (g : Nat → Nat) (t : Nat) : CF ET := cf_RRIJ (g 16) (g t) (fun S h _ => sOkH (fS S) ∧ ∃ k, k < 8 ∧ h = nI k) (fun _ _ _ => none) (fun S h m => sFore S h m)
theorem inw_X1_foresee_X1 : ∀ w ∈ u_ws RX1 TX1 7, w ∈ wsX1_foresee := by decide +kernel
theorem inw_X1_foresee_X2 : ∀ w ∈ u_ws RX2 TX2 8, w ∈ wsX1_foresee := by decide +kernel
def bk_X1_foresee_0 (g : Nat → Nat) (t : Nat) (Post : Option Value → ET → Prop) (K10 : PT ET) (L : Lc) (st : List Value) (s : ET) : Prop :=
  (wAload 0 <| wIload 2 <| wCallR 2 (F_X1_needOf g) fS fsS <| wIst 5 <| wK (.int 0) <| wIst 6 <| wKeep [true, true, true, true, false, true, true, false, false] K10) L st s
set_option maxRecDepth 20000 in
theorem s_X1_foresee_0 {X : Cx} (B : Bx) (g : Nat → Nat) (t : Nat) {Post : Option Value → ET → Prop} (C : OkX X (gx B) cX1_foresee 9 wsX1_foresee RX1 (rmD 5)) (R : RtX X (gx B) none (encST B g t) Post) {K10 : PT ET} (hK10 : Snd X (gx B) 9 (encST B g t) 10 K10) : Snd X (gx B) 9 (encST B g t) 0 (bk_X1_foresee_0 g t Post K10) := by
  unfold bk_X1_foresee_0
  refine s_aload_n C rfl dX1_foresee_0 ?_
  refine s_iload_n C rfl dX1_foresee_1 ?_
  refine s_callV C (fr_ST_S B g t) (k_X1_needOf B g) gX1_foresee_X1_needOf rfl (by decide +kernel) ⟨rfl, rfl⟩ (by decide) rfl (fun s => ⟨_, heST_0 B g t s⟩) (cf_RI_r _ _ _ _) dX1_foresee_2 ?_
  refine s_istore C (by decide) dX1_foresee_5 ?_
  refine s_iconst C (by decide) dX1_foresee_7 ?_
  refine s_istore C (by decide) dX1_foresee_8 ?_
  exact s_keep _ hK10
def bk_X1_foresee_129 (g : Nat → Nat) (t : Nat) (Post : Option Value → ET → Prop) (K10 : PT ET) (L : Lc) (st : List Value) (s : ET) : Prop :=
  (wInc 6 1 <| wKeep [true, true, true, true, false, true, true, false, false] K10) L st s
set_option maxRecDepth 20000 in
theorem s_X1_foresee_129 {X : Cx} (B : Bx) (g : Nat → Nat) (t : Nat) {Post : Option Value → ET → Prop} (C : OkX X (gx B) cX1_foresee 9 wsX1_foresee RX1 (rmD 5)) (R : RtX X (gx B) none (encST B g t) Post) {K10 : PT ET} (hK10 : Snd X (gx B) 9 (encST B g t) 10 K10) : Snd X (gx B) 9 (encST B g t) 129 (bk_X1_foresee_129 g t Post K10) := by
  unfold bk_X1_foresee_129
  refine s_iinc C (by decide) (by decide) dX1_foresee_129 ?_
  refine s_goto C (tgt := 10) (by decide) dX1_foresee_132 ?_
  exact s_keep _ hK10
def bk_X1_foresee_56 (g : Nat → Nat) (t : Nat) (Post : Option Value → ET → Prop) (K10 : PT ET) (L : Lc) (st : List Value) (s : ET) : Prop :=
  (wIst 8 <| wIload 8 <| wIf1 (fun x => x = 0) (bk_X1_foresee_129 g t Post K10) (wLload 3 <| wIload 2 <| wIload 6 <| wCallR 2 (F_X1_bitOf) (fun _ => ()) (fun s _ => s) <| wLB (fun x y => x &&& y) <| wK (.long 0) <| wLcmp <| wIf1 (fun x => x = 0) (bk_X1_foresee_129 g t Post K10) (wAload 1 <| wAload 1 <| wIload 5 <| wK (.int 4) <| wCallR 3 (F_X2_ofNeed g t) fT fsT <| wPut (g t) fsTYr <| wAload 0 <| wGet (g 16) (fun _ => .ref (g 18)) <| wIload 7 <| wAload 1 <| wIload 6 <| wIload 5 <| wCallR 3 (F_X2_goodOf g t) fT fsT <| wIast (g 18) 56 faSGo <| wAload 1 <| wIload 6 <| wIload 5 <| wCallR 3 (F_X2_doHelp g t) fT fsT <| wAload 0 <| wGet (g 16) (fun _ => .ref (g 19)) <| wIload 7 <| wAload 0 <| wAload 1 <| wIload 2 <| wK (.int 1) <| wB (fun x y => x + y) <| wCallR 3 (F_X1_mayFrom g t) id (fun _ u => u) <| wLast (g 19) 56 faSSm <| wAload 1 <| wCallR 1 (F_X2_takeBack g t) fT fsT <| bk_X1_foresee_129 g t Post K10))) L st s
set_option maxRecDepth 20000 in
theorem s_X1_foresee_56 {X : Cx} (B : Bx) (g : Nat → Nat) (t : Nat) {Post : Option Value → ET → Prop} (C : OkX X (gx B) cX1_foresee 9 wsX1_foresee RX1 (rmD 5)) (R : RtX X (gx B) none (encST B g t) Post) {K10 : PT ET} (hK10 : Snd X (gx B) 9 (encST B g t) 10 K10) : Snd X (gx B) 9 (encST B g t) 56 (bk_X1_foresee_56 g t Post K10) := by
  unfold bk_X1_foresee_56
  refine s_istore C (by decide) dX1_foresee_56 ?_
  refine s_iload C dX1_foresee_58 ?_
  refine s_if_eq C (tgt := 129) (by decide) dX1_foresee_60 ?_ ?_
  · exact s_X1_foresee_129 B g t C R hK10
  · refine s_lload_n C rfl dX1_foresee_63 ?_
    refine s_iload_n C rfl dX1_foresee_64 ?_
    refine s_iload C dX1_foresee_65 ?_
    refine s_callS C (fr_ST_E B g t) (k_X1_bitOf B) gX1_foresee_X1_bitOf rfl (by decide +kernel) ⟨rfl, rfl⟩ (by decide) (cf_II_r _ _ _) dX1_foresee_67 ?_
    refine s_land C dX1_foresee_70 ?_
    refine s_lconst C (by decide) dX1_foresee_71 ?_
    refine s_lcmp C dX1_foresee_72 ?_
    refine s_if_eq C (tgt := 129) (by decide) dX1_foresee_73 ?_ ?_
    · exact s_X1_foresee_129 B g t C R hK10
    · refine s_aload_n C rfl dX1_foresee_76 ?_
      refine s_aload_n C rfl dX1_foresee_77 ?_
      refine s_iload C dX1_foresee_78 ?_
      refine s_iconst C (by decide) dX1_foresee_80 ?_
      refine s_callV C (fr_ST_T B g t) (k_X2_ofNeed B g t) gX1_foresee_X2_ofNeed rfl (by decide +kernel) ⟨rfl, rfl⟩ (by decide) rfl (fun s => ⟨_, heST_6 B g t s⟩) (cf_RII_r _ _ _ _) dX1_foresee_81 ?_
      refine s_put C inw_X1_foresee_X2 rfl (k := 7) (by decide) (by decide +kernel) tyX2_ok nmX2 (by decide +kernel) (by decide +kernel) (heST_6 B g t) (fun _ => Nat.le_of_ble_eq_true rfl) (fun _ _ => rfl) dX1_foresee_84 ?_
      refine s_aload_n C rfl dX1_foresee_87 ?_
      refine s_get C inw_X1_foresee_X1 rfl (k := 2) (by decide) (by decide +kernel) (heST_0 B g t) (fun _ => rfl) dX1_foresee_88 ?_
      refine s_iload C dX1_foresee_91 ?_
      refine s_aload_n C rfl dX1_foresee_93 ?_
      refine s_iload C dX1_foresee_94 ?_
      refine s_iload C dX1_foresee_96 ?_
      refine s_callV C (fr_ST_T B g t) (k_X2_goodOf B g t) gX1_foresee_X2_goodOf rfl (by decide +kernel) ⟨rfl, rfl⟩ (by decide) rfl (fun s => ⟨_, heST_6 B g t s⟩) (cf_RII_r _ _ _ _) dX1_foresee_98 ?_
      refine s_iast C (heST_2 B g t) (fun _ _ _ => rfl) dX1_foresee_101 ?_
      refine s_aload_n C rfl dX1_foresee_102 ?_
      refine s_iload C dX1_foresee_103 ?_
      refine s_iload C dX1_foresee_105 ?_
      refine s_callV C (fr_ST_T B g t) (k_X2_doHelp B g t) gX1_foresee_X2_doHelp rfl (by decide +kernel) ⟨rfl, rfl⟩ (by decide) rfl (fun s => ⟨_, heST_6 B g t s⟩) (cf_RII_r _ _ _ _) dX1_foresee_107 ?_
      refine s_aload_n C rfl dX1_foresee_110 ?_
      refine s_get C inw_X1_foresee_X1 rfl (k := 3) (by decide) (by decide +kernel) (heST_0 B g t) (fun _ => rfl) dX1_foresee_111 ?_
      refine s_iload C dX1_foresee_114 ?_
      refine s_aload_n C rfl dX1_foresee_116 ?_
      refine s_aload_n C rfl dX1_foresee_117 ?_
      refine s_iload_n C rfl dX1_foresee_118 ?_
      refine s_iconst C (by decide) dX1_foresee_119 ?_
      refine s_iadd C dX1_foresee_120 ?_
      refine s_callV C (fr_ST_ST B g t) (k_X1_mayFrom B g t) gX1_foresee_X1_mayFrom rfl (by decide +kernel) ⟨rfl, rfl⟩ (by decide) rfl (fun s => ⟨_, heST_0 B g t s⟩) (cf_RRI_r _ _ _ _ _) dX1_foresee_121 ?_
      refine s_last C (heST_3 B g t) (fun _ _ _ => rfl) dX1_foresee_124 ?_
      refine s_aload_n C rfl dX1_foresee_125 ?_
      refine s_callV C (fr_ST_T B g t) (k_X2_takeBack B g t) gX1_foresee_X2_takeBack rfl (by decide +kernel) ⟨rfl, rfl⟩ (by decide) rfl (fun s => ⟨_, heST_6 B g t s⟩) (cf_R_r _ _ _ _) dX1_foresee_126 ?_
      exact s_X1_foresee_129 B g t C R hK10
def bk_X1_foresee_55 (g : Nat → Nat) (t : Nat) (Post : Option Value → ET → Prop) (K10 : PT ET) (L : Lc) (st : List Value) (s : ET) : Prop :=
  (wK (.int 0) <| bk_X1_foresee_56 g t Post K10) L st s
set_option maxRecDepth 20000 in
theorem s_X1_foresee_55 {X : Cx} (B : Bx) (g : Nat → Nat) (t : Nat) {Post : Option Value → ET → Prop} (C : OkX X (gx B) cX1_foresee 9 wsX1_foresee RX1 (rmD 5)) (R : RtX X (gx B) none (encST B g t) Post) {K10 : PT ET} (hK10 : Snd X (gx B) 9 (encST B g t) 10 K10) : Snd X (gx B) 9 (encST B g t) 55 (bk_X1_foresee_55 g t Post K10) := by
  unfold bk_X1_foresee_55
  refine s_iconst C (by decide) dX1_foresee_55 ?_
  exact s_X1_foresee_56 B g t C R hK10
def bk_X1_foresee_10 (g : Nat → Nat) (t : Nat) (Post : Option Value → ET → Prop) (K10 : PT ET) (L : Lc) (st : List Value) (s : ET) : Prop :=
  (wIload 6 <| wK (.int 7) <| wIf2 (fun x y => y ≤ x) (wRetV Post) (wIload 2 <| wK (.int 7) <| wB (fun x y => x * y) <| wIload 6 <| wB (fun x y => x + y) <| wIst 7 <| wIload 7 <| wIf1 (fun x => x < 0) (bk_X1_foresee_55 g t Post K10) (wIload 7 <| wAload 0 <| wGet (g 16) (fun _ => .ref (g 18)) <| wLen (g 18) 56 <| wIf2 (fun x y => y ≤ x) (bk_X1_foresee_55 g t Post K10) (wIload 7 <| wAload 0 <| wGet (g 16) (fun _ => .ref (g 19)) <| wLen (g 19) 56 <| wIf2 (fun x y => y ≤ x) (bk_X1_foresee_55 g t Post K10) (wK (.int 1) <| bk_X1_foresee_56 g t Post K10))))) L st s
set_option maxRecDepth 20000 in
theorem s_X1_foresee_10 {X : Cx} (B : Bx) (g : Nat → Nat) (t : Nat) {Post : Option Value → ET → Prop} (C : OkX X (gx B) cX1_foresee 9 wsX1_foresee RX1 (rmD 5)) (R : RtX X (gx B) none (encST B g t) Post) {K10 : PT ET} (hK10 : Snd X (gx B) 9 (encST B g t) 10 K10) : Snd X (gx B) 9 (encST B g t) 10 (bk_X1_foresee_10 g t Post K10) := by
  unfold bk_X1_foresee_10
  refine s_iload C dX1_foresee_10 ?_
  refine s_bipush C (by decide) dX1_foresee_12 ?_
  refine s_icmp_ge C (tgt := 135) (by decide) dX1_foresee_14 ?_ ?_
  · exact s_vret C R dX1_foresee_135
  · refine s_iload_n C rfl dX1_foresee_17 ?_
    refine s_bipush C (by decide) dX1_foresee_18 ?_
    refine s_imul C dX1_foresee_20 ?_
    refine s_iload C dX1_foresee_21 ?_
    refine s_iadd C dX1_foresee_23 ?_
    refine s_istore C (by decide) dX1_foresee_24 ?_
    refine s_iload C dX1_foresee_26 ?_
    refine s_if_lt C (tgt := 55) (by decide) dX1_foresee_28 ?_ ?_
    · exact s_X1_foresee_55 B g t C R hK10
    · refine s_iload C dX1_foresee_31 ?_
      refine s_aload_n C rfl dX1_foresee_33 ?_
      refine s_get C inw_X1_foresee_X1 rfl (k := 2) (by decide) (by decide +kernel) (heST_0 B g t) (fun _ => rfl) dX1_foresee_34 ?_
      refine s_alen C (t0 := 0) (heST_2 B g t) rfl (fun _ => rfl) dX1_foresee_37 ?_
      refine s_icmp_ge C (tgt := 55) (by decide) dX1_foresee_38 ?_ ?_
      · exact s_X1_foresee_55 B g t C R hK10
      · refine s_iload C dX1_foresee_41 ?_
        refine s_aload_n C rfl dX1_foresee_43 ?_
        refine s_get C inw_X1_foresee_X1 rfl (k := 3) (by decide) (by decide +kernel) (heST_0 B g t) (fun _ => rfl) dX1_foresee_44 ?_
        refine s_alen C (t0 := 1) (heST_3 B g t) rfl (fun _ => rfl) dX1_foresee_47 ?_
        refine s_icmp_ge C (tgt := 55) (by decide) dX1_foresee_48 ?_ ?_
        · exact s_X1_foresee_55 B g t C R hK10
        · refine s_iconst C (by decide) dX1_foresee_51 ?_
          refine s_goto C (tgt := 56) (by decide) dX1_foresee_52 ?_
          exact s_X1_foresee_56 B g t C R hK10
def I_f10 (g : Nat → Nat) (t : Nat) (h : Nat) (q : Int32) (may : Int64) (fin : ET) (n : Nat) (L : Lc) (st : List Value) (s : ET) : Prop := ∃ (i : Nat), n + i = 7 ∧ st = [] ∧ sOkH (fS s) ∧ L = [some (.ref (g 16)), some (.ref (g t)), some (.int (nI h)), some (.long may), none, some (.int q), some (.int (nI i)), none, none] ∧ fsN h q may i n s = fin
def QPost {σ : Type} (fin : σ) : Option Value → σ → Prop := fun o u => o = none ∧ u = fin
theorem k_X1_foresee (B : Bx) (g : Nat → Nat) (t : Nat) : MtF (gx B) yX1_foresee wsX1_foresee (rmD 5) (encST B g t) (F_X1_foresee g t) := by
  refine cf_RRIJ_i (fun l S0 x may hp => ?_)
  obtain ⟨hS, h, hh, rfl⟩ := hp
  have c1 : (nI h).toNatClampNeg = h := nI_clamp (by omega)
  generalize hfin : sFore S0 (nI h) may = fin
  unfold sFore at hfin
  rw [c1] at hfin
  generalize hq : sNeed (fS S0) (nI h) = q at hfin
  refine Mt.of (P := bk_X1_foresee_0 g t (QPost fin) (fun L st s => ∃ n, I_f10 g t h q may fin n L st s)) (by decide) rfl (Nat.le_of_ble_eq_true rfl) rfl (fun X C R => s_X1_foresee_0 B g t C R (snd_loop (fun K => bk_X1_foresee_10 g t (QPost fin) K) (I_f10 g t h q may fin) (fun K hK => s_X1_foresee_10 B g t C R hK) ?_)) ?_
  · rintro K n L st s ⟨i, hn, rfl, hs, rfl, hr⟩ hK
    simp only [wIload, wAload, wLload, wK, wB, wDv, wU, wLB, wLU, wLS, wL2i, wLcmp, wIf1, wIf2, wKeep, wInc, wIst, wAst, wLst, wDup, wPop, wDup2, wGet, wPut, wPutZ, wIald, wLald, wIast, wLast, wLen, wRetI, wRetZ, wRetL, wRetA, wRetV, wM1, wM2, wCpy, wTab, tabW, nth, stL, stL2, dropL, keepL, mkL, padL, restOK, restOKn, tl_some, tl_none, id_eq, eq_self, true_and, and_true, bk_X1_foresee_0, bk_X1_foresee_129, bk_X1_foresee_56, bk_X1_foresee_55, bk_X1_foresee_10, F_X1_bitOf, F_X1_mayFrom, F_X1_needOf, F_X2_doHelp, F_X2_goodOf, F_X2_ofNeed, F_X2_takeBack, cf_II_e, cf_RII_e, cf_RI_e, cf_RRI_e, cf_R_e, fg_S_S, fg_S_T, fg_T_S, fg_T_T, fe_S, fo_S, fe_T, fo_T, fTYr, fsTYr, faSGo, faSSm, QPost, lcmp0]
    rcases Nat.lt_or_ge i 7 with hlt | hge
    · have h1 : ¬ (7 : Int32) ≤ nI i := nI_ge (a := i) (b := 7) hlt (by decide)
      obtain ⟨n, rfl⟩ : ∃ m, n = m + 1 := ⟨n - 1, by omega⟩
      have e7 : nI h * 7 + nI i = nI (fsAt h i) := by unfold fsAt; rw [show (7 : Int32) = nI 7 from rfl, pk_mul, nI_add]
      have hat : fsAt h i < 56 := by unfold fsAt; omega
      have h2 : ¬ nI (fsAt h i) < 0 := Int32.not_lt.mpr (nI_le (a := 0) (b := fsAt h i) (by omega) (by omega))
      have h3 : ¬ (56 : Int32) ≤ nI (fsAt h i) := nI_ge (a := fsAt h i) (b := 56) hat (by decide)
      have c2 : (nI (fsAt h i)).toNatClampNeg = fsAt h i := nI_clamp (by omega)
      have w0 : vp_in (nI (fsAt h i)) 56 := vp_in_nI hat (by decide)
      rw [fsN_s] at hr
      have hc := hK n _ _ _ (by omega) ⟨i + 1, by omega, rfl, by unfold sOkH; rw [fsStep_hd]; exact hs, rfl, hr⟩
      rw [← nI_1] at hc
      rw [e7]
      simp only [h1, h2, h3, w0, c2, n10, false_implies, true_implies, not_true_eq_false, not_false_eq_true, true_and, and_true, implies_true, eq_self, ne_eq, true_or, or_true, false_or, or_false, and_self]
      unfold fsStep at hc
      by_cases hb : may &&& sBit (nI h) (nI i) = 0
      · rw [if_pos hb] at hc
        simp only [hb, false_implies, true_implies, not_true_eq_false, not_false_eq_true, true_and, and_true, implies_true, eq_self, ne_eq, true_or, or_true, false_or, or_false, and_self]
        exact hc
      · rw [if_neg hb] at hc
        simp only [hb, false_implies, true_implies, not_true_eq_false, not_false_eq_true, true_and, and_true, implies_true, eq_self, ne_eq, true_or, or_true, false_or, or_false, and_self]
        rw [fTST, fo_S, fTST]
        exact ⟨⟨hs, ⟨h + 1, by omega, nI_1 h⟩⟩, hc⟩
    · have h1 : (7 : Int32) ≤ nI i := nI_le (a := 7) (b := i) hge (by omega)
      have h0 : n = 0 := by omega
      subst h0
      have hr : s = fin := hr
      subst hr
      simp only [h1, false_implies, true_implies, not_true_eq_false, not_false_eq_true, true_and, and_true, implies_true, eq_self, ne_eq, true_or, or_true, false_or, or_false, and_self]
  · simp only [wIload, wAload, wLload, wK, wB, wDv, wU, wLB, wLU, wLS, wL2i, wLcmp, wIf1, wIf2, wKeep, wInc, wIst, wAst, wLst, wDup, wPop, wDup2, wGet, wPut, wPutZ, wIald, wLald, wIast, wLast, wLen, wRetI, wRetZ, wRetL, wRetA, wRetV, wM1, wM2, wCpy, wTab, tabW, nth, stL, stL2, dropL, keepL, mkL, padL, restOK, restOKn, tl_some, tl_none, id_eq, eq_self, true_and, and_true, bk_X1_foresee_0, bk_X1_foresee_129, bk_X1_foresee_56, bk_X1_foresee_55, bk_X1_foresee_10, F_X1_bitOf, F_X1_mayFrom, F_X1_needOf, F_X2_doHelp, F_X2_goodOf, F_X2_ofNeed, F_X2_takeBack, cf_II_e, cf_RII_e, cf_RI_e, cf_RRI_e, cf_R_e, fg_S_S, fg_S_T, fg_T_S, fg_T_T, fe_S, fo_S, fe_T, fo_T]
    rw [hq]
    exact ⟨7, 0, rfl, rfl, hS, rfl, hfin⟩
end
