noncomputable section
def tWrite (T : TS) (p q gr n : Int32) : TS := if tHh T < 0 ∨ 270 ≤ tHh T then T else
  tsHh (tsBt T (upd (upd (upd (upd (upd (tBt T) ((tHh T).toNatClampNeg * 5) p) ((tHh T).toNatClampNeg * 5 + 1) q) ((tHh T).toNatClampNeg * 5 + 2) (tYr T)) ((tHh T).toNatClampNeg * 5 + 3) gr) ((tHh T).toNatClampNeg * 5 + 4) n)) (tHh T + 1)
def F_X2_write (g : Nat → Nat) (t : Nat) : CF TS := cf_RIIII (g t) (fun _ _ _ _ _ => True) (fun _ _ _ _ _ => none) (fun T p q gr n => tWrite T p q gr n)
theorem inw_X2_write_X2 : ∀ w ∈ u_ws RX2 TX2 8, w ∈ wsX2_write := by decide +kernel
def bk_X2_write_17 (g : Nat → Nat) (t : Nat) (Post : Option Value → TS → Prop)  (L : Lc) (st : List Value) (s : TS) : Prop :=
  (wRetV Post) L st s
set_option maxRecDepth 20000 in
theorem s_X2_write_17 {X : Cx} (B : Bx) (g : Nat → Nat) (t : Nat) {Post : Option Value → TS → Prop} (C : OkX X (gx B) cX2_write 6 wsX2_write RX2 (rmD 0)) (R : RtX X (gx B) none (encT B g t) Post)  : Snd X (gx B) 6 (encT B g t) 17 (bk_X2_write_17 g t Post ) := by
  unfold bk_X2_write_17
  exact s_vret C R dX2_write_17
def bk_X2_write_0 (g : Nat → Nat) (t : Nat) (Post : Option Value → TS → Prop)  (L : Lc) (st : List Value) (s : TS) : Prop :=
  (wAload 0 <| wGet (g t) (fun s => .int (tHh s)) <| wIf1 (fun x => x < 0) (bk_X2_write_17 g t Post ) (wAload 0 <| wGet (g t) (fun s => .int (tHh s)) <| wK (.int 270) <| wIf2 (fun x y => x < y) (wAload 0 <| wGet (g t) (fun s => .int (tHh s)) <| wK (.int 5) <| wB (fun x y => x * y) <| wIst 5 <| wAload 0 <| wGet (g t) (fun _ => .ref (g (t + 3))) <| wIload 5 <| wK (.int 0) <| wB (fun x y => x + y) <| wIload 1 <| wIast (g (t + 3)) 1350 taBt <| wAload 0 <| wGet (g t) (fun _ => .ref (g (t + 3))) <| wIload 5 <| wK (.int 1) <| wB (fun x y => x + y) <| wIload 2 <| wIast (g (t + 3)) 1350 taBt <| wAload 0 <| wGet (g t) (fun _ => .ref (g (t + 3))) <| wIload 5 <| wK (.int 2) <| wB (fun x y => x + y) <| wAload 0 <| wGet (g t) (fun s => .int (tYr s)) <| wIast (g (t + 3)) 1350 taBt <| wAload 0 <| wGet (g t) (fun _ => .ref (g (t + 3))) <| wIload 5 <| wK (.int 3) <| wB (fun x y => x + y) <| wIload 3 <| wIast (g (t + 3)) 1350 taBt <| wAload 0 <| wGet (g t) (fun _ => .ref (g (t + 3))) <| wIload 5 <| wK (.int 4) <| wB (fun x y => x + y) <| wIload 4 <| wIast (g (t + 3)) 1350 taBt <| wAload 0 <| wDup <| wGet (g t) (fun s => .int (tHh s)) <| wK (.int 1) <| wB (fun x y => x + y) <| wPut (g t) tsHh <| wRetV Post) (bk_X2_write_17 g t Post ))) L st s
set_option maxRecDepth 20000 in
theorem s_X2_write_0 {X : Cx} (B : Bx) (g : Nat → Nat) (t : Nat) {Post : Option Value → TS → Prop} (C : OkX X (gx B) cX2_write 6 wsX2_write RX2 (rmD 0)) (R : RtX X (gx B) none (encT B g t) Post)  : Snd X (gx B) 6 (encT B g t) 0 (bk_X2_write_0 g t Post ) := by
  unfold bk_X2_write_0
  refine s_aload_n C rfl dX2_write_0 ?_
  refine s_get C inw_X2_write_X2 rfl (k := 5) (by decide) (by decide +kernel) (heT_0 B g t) (fun _ => rfl) dX2_write_1 ?_
  refine s_if_lt C (tgt := 17) (by decide) dX2_write_4 ?_ ?_
  · exact s_X2_write_17 B g t C R 
  · refine s_aload_n C rfl dX2_write_7 ?_
    refine s_get C inw_X2_write_X2 rfl (k := 5) (by decide) (by decide +kernel) (heT_0 B g t) (fun _ => rfl) dX2_write_8 ?_
    refine s_sipush C (by decide) dX2_write_11 ?_
    refine s_icmp_lt C (tgt := 18) (by decide) dX2_write_14 ?_ ?_
    · refine s_aload_n C rfl dX2_write_18 ?_
      refine s_get C inw_X2_write_X2 rfl (k := 5) (by decide) (by decide +kernel) (heT_0 B g t) (fun _ => rfl) dX2_write_19 ?_
      refine s_iconst C (by decide) dX2_write_22 ?_
      refine s_imul C dX2_write_23 ?_
      refine s_istore C (by decide) dX2_write_24 ?_
      refine s_aload_n C rfl dX2_write_26 ?_
      refine s_get C inw_X2_write_X2 rfl (k := 4) (by decide) (by decide +kernel) (heT_0 B g t) (fun _ => rfl) dX2_write_27 ?_
      refine s_iload C dX2_write_30 ?_
      refine s_iconst C (by decide) dX2_write_32 ?_
      refine s_iadd C dX2_write_33 ?_
      refine s_iload_n C rfl dX2_write_34 ?_
      refine s_iast C (heT_3 B g t) (fun _ _ _ => rfl) dX2_write_35 ?_
      refine s_aload_n C rfl dX2_write_36 ?_
      refine s_get C inw_X2_write_X2 rfl (k := 4) (by decide) (by decide +kernel) (heT_0 B g t) (fun _ => rfl) dX2_write_37 ?_
      refine s_iload C dX2_write_40 ?_
      refine s_iconst C (by decide) dX2_write_42 ?_
      refine s_iadd C dX2_write_43 ?_
      refine s_iload_n C rfl dX2_write_44 ?_
      refine s_iast C (heT_3 B g t) (fun _ _ _ => rfl) dX2_write_45 ?_
      refine s_aload_n C rfl dX2_write_46 ?_
      refine s_get C inw_X2_write_X2 rfl (k := 4) (by decide) (by decide +kernel) (heT_0 B g t) (fun _ => rfl) dX2_write_47 ?_
      refine s_iload C dX2_write_50 ?_
      refine s_iconst C (by decide) dX2_write_52 ?_
      refine s_iadd C dX2_write_53 ?_
      refine s_aload_n C rfl dX2_write_54 ?_
      refine s_get C inw_X2_write_X2 rfl (k := 7) (by decide) (by decide +kernel) (heT_0 B g t) (fun _ => rfl) dX2_write_55 ?_
      refine s_iast C (heT_3 B g t) (fun _ _ _ => rfl) dX2_write_58 ?_
      refine s_aload_n C rfl dX2_write_59 ?_
      refine s_get C inw_X2_write_X2 rfl (k := 4) (by decide) (by decide +kernel) (heT_0 B g t) (fun _ => rfl) dX2_write_60 ?_
      refine s_iload C dX2_write_63 ?_
      refine s_iconst C (by decide) dX2_write_65 ?_
      refine s_iadd C dX2_write_66 ?_
      refine s_iload_n C rfl dX2_write_67 ?_
      refine s_iast C (heT_3 B g t) (fun _ _ _ => rfl) dX2_write_68 ?_
      refine s_aload_n C rfl dX2_write_69 ?_
      refine s_get C inw_X2_write_X2 rfl (k := 4) (by decide) (by decide +kernel) (heT_0 B g t) (fun _ => rfl) dX2_write_70 ?_
      refine s_iload C dX2_write_73 ?_
      refine s_iconst C (by decide) dX2_write_75 ?_
      refine s_iadd C dX2_write_76 ?_
      refine s_iload C dX2_write_77 ?_
      refine s_iast C (heT_3 B g t) (fun _ _ _ => rfl) dX2_write_79 ?_
      refine s_aload_n C rfl dX2_write_80 ?_
      refine s_dup C dX2_write_81 ?_
      refine s_get C inw_X2_write_X2 rfl (k := 5) (by decide) (by decide +kernel) (heT_0 B g t) (fun _ => rfl) dX2_write_82 ?_
      refine s_iconst C (by decide) dX2_write_85 ?_
      refine s_iadd C dX2_write_86 ?_
      refine s_put C inw_X2_write_X2 rfl (k := 5) (by decide) (by decide +kernel) tyX2_ok nmX2 (by decide +kernel) (by decide +kernel) (heT_0 B g t) (fun _ => Nat.le_of_ble_eq_true rfl) (fun _ _ => rfl) dX2_write_87 ?_
      exact s_vret C R dX2_write_90
    · exact s_X2_write_17 B g t C R 
theorem k_X2_write (B : Bx) (g : Nat → Nat) (t : Nat) : MtF (gx B) yX2_write wsX2_write (rmD 0) (encT B g t) (F_X2_write g t) := by
  refine cf_RIIII_i (fun l T p q gr n _ => Mt.of (by decide) rfl (Nat.le_of_ble_eq_true rfl) rfl (fun X C R => s_X2_write_0 B g t C R) ?_)
  simp only [wIload, wAload, wLload, wK, wB, wDv, wU, wLB, wLU, wLS, wL2i, wLcmp, wIf1, wIf2, wKeep, wInc, wIst, wAst, wLst, wDup, wPop, wDup2, wGet, wPut, wPutZ, wIald, wLald, wIast, wLast, wLen, wRetI, wRetZ, wRetL, wRetA, wRetV, wM1, wM2, wCpy, wTab, tabW, nth, stL, stL2, dropL, keepL, mkL, padL, restOK, restOKn, tl_some, tl_none, id_eq, eq_self, true_and, and_true, bk_X2_write_17, bk_X2_write_0, taBt, tg_Pt_Pt, tg_Pt_Pp, tg_Pt_Nt, tg_Pt_Nn, tg_Pt_Bt, tg_Pt_Hh, tg_Pt_Se, tg_Pt_Yr, tg_Pp_Pt, tg_Pp_Pp, tg_Pp_Nt, tg_Pp_Nn, tg_Pp_Bt, tg_Pp_Hh, tg_Pp_Se, tg_Pp_Yr, tg_Nt_Pt, tg_Nt_Pp, tg_Nt_Nt, tg_Nt_Nn, tg_Nt_Bt, tg_Nt_Hh, tg_Nt_Se, tg_Nt_Yr, tg_Nn_Pt, tg_Nn_Pp, tg_Nn_Nt, tg_Nn_Nn, tg_Nn_Bt, tg_Nn_Hh, tg_Nn_Se, tg_Nn_Yr, tg_Bt_Pt, tg_Bt_Pp, tg_Bt_Nt, tg_Bt_Nn, tg_Bt_Bt, tg_Bt_Hh, tg_Bt_Se, tg_Bt_Yr, tg_Hh_Pt, tg_Hh_Pp, tg_Hh_Nt, tg_Hh_Nn, tg_Hh_Bt, tg_Hh_Hh, tg_Hh_Se, tg_Hh_Yr, tg_Se_Pt, tg_Se_Pp, tg_Se_Nt, tg_Se_Nn, tg_Se_Bt, tg_Se_Hh, tg_Se_Se, tg_Se_Yr, tg_Yr_Pt, tg_Yr_Pp, tg_Yr_Nt, tg_Yr_Nn, tg_Yr_Bt, tg_Yr_Hh, tg_Yr_Se, tg_Yr_Yr, te_Pt, to_Pt, te_Pp, to_Pp, te_Nt, to_Nt, te_Nn, to_Nn, te_Bt, to_Bt, te_Hh, to_Hh, te_Se, to_Se, te_Yr, to_Yr]
  by_cases h0 : tHh T < 0
  · have e : tWrite T p q gr n = T := by unfold tWrite; rw [if_pos (Or.inl h0)]
    simp only [h0, e, false_implies, true_implies, not_true_eq_false, not_false_eq_true, true_and, and_true, implies_true, eq_self, ne_eq, true_or, or_true, false_or, or_false, and_self]
  by_cases h1 : (270 : Int32) ≤ tHh T
  · have e : tWrite T p q gr n = T := by unfold tWrite; rw [if_pos (Or.inr h1)]
    have h2 : ¬ tHh T < 270 := Int32.not_lt.mpr h1
    simp only [h0, h2, e, false_implies, true_implies, not_true_eq_false, not_false_eq_true, true_and, and_true, implies_true, eq_self, ne_eq, true_or, or_true, false_or, or_false, and_self]
  obtain ⟨k, hk, ek⟩ := ixN (n := 270) rfl h0 h1
  have h2 : tHh T < 270 := Int32.not_le.mp h1
  have e : tWrite T p q gr n = tsHh (tsBt T (upd (upd (upd (upd (upd (tBt T) (k * 5) p) (k * 5 + 1) q) (k * 5 + 2) (tYr T)) (k * 5 + 3) gr) (k * 5 + 4) n)) (tHh T + 1) := by
    unfold tWrite
    rw [if_neg (fun z => z.elim h0 h1), show (tHh T).toNatClampNeg = k by rw [ek]; exact nI_clamp (by omega)]
  simp only [h0, h2, e, false_implies, true_implies, not_true_eq_false, not_false_eq_true, true_and, and_true, implies_true, eq_self, ne_eq, true_or, or_true, false_or, or_false, and_self]
  rw [ek]
  have c0 : (nI k * 5 + 0).toNatClampNeg = k * 5 := ix_ma (b := 5) (c := 0) (by omega)
  have c1 : (nI k * 5 + 1).toNatClampNeg = k * 5 + 1 := ix_ma (b := 5) (c := 1) (by omega)
  have c2 : (nI k * 5 + 2).toNatClampNeg = k * 5 + 2 := ix_ma (b := 5) (c := 2) (by omega)
  have c3 : (nI k * 5 + 3).toNatClampNeg = k * 5 + 3 := ix_ma (b := 5) (c := 3) (by omega)
  have c4 : (nI k * 5 + 4).toNatClampNeg = k * 5 + 4 := ix_ma (b := 5) (c := 4) (by omega)
  have w0 : vp_in (nI k * 5 + 0) 1350 := vp_ma (b := 5) (c := 0) (by omega) (by decide)
  have w1 : vp_in (nI k * 5 + 1) 1350 := vp_ma (b := 5) (c := 1) (by omega) (by decide)
  have w2 : vp_in (nI k * 5 + 2) 1350 := vp_ma (b := 5) (c := 2) (by omega) (by decide)
  have w3 : vp_in (nI k * 5 + 3) 1350 := vp_ma (b := 5) (c := 3) (by omega) (by decide)
  have w4 : vp_in (nI k * 5 + 4) 1350 := vp_ma (b := 5) (c := 4) (by omega) (by decide)
  simp only [c0, c1, c2, c3, c4, w0, w1, w2, w3, w4, true_and]
def tBack (T : TS) : TS := if tHh T ≤ 0 ∨ 270 < tHh T then T else
  tPutN (tsHh T (tHh T - 1)) (tBt T ((tHh T - 1).toNatClampNeg * 5 + 4)) 5 (tOfN T (tBt T ((tHh T - 1).toNatClampNeg * 5 + 4)) 5 &&& (tBit (tBt T ((tHh T - 1).toNatClampNeg * 5)) ^^^ (-1)))
def F_X2_takeBack (g : Nat → Nat) (t : Nat) : CF TS := cf_R (g t) (fun _ => True) (fun _ => none) (fun T => tBack T)
theorem inw_X2_takeBack_X2 : ∀ w ∈ u_ws RX2 TX2 8, w ∈ wsX2_takeBack := by decide +kernel
def bk_X2_takeBack_17 (g : Nat → Nat) (t : Nat) (Post : Option Value → TS → Prop)  (L : Lc) (st : List Value) (s : TS) : Prop :=
  (wRetV Post) L st s
set_option maxRecDepth 20000 in
theorem s_X2_takeBack_17 {X : Cx} (B : Bx) (g : Nat → Nat) (t : Nat) {Post : Option Value → TS → Prop} (C : OkX X (gx B) cX2_takeBack 3 wsX2_takeBack RX2 (rmD 1)) (R : RtX X (gx B) none (encT B g t) Post)  : Snd X (gx B) 3 (encT B g t) 17 (bk_X2_takeBack_17 g t Post ) := by
  unfold bk_X2_takeBack_17
  exact s_vret C R dX2_takeBack_17
def bk_X2_takeBack_0 (g : Nat → Nat) (t : Nat) (Post : Option Value → TS → Prop)  (L : Lc) (st : List Value) (s : TS) : Prop :=
  (wAload 0 <| wGet (g t) (fun s => .int (tHh s)) <| wIf1 (fun x => x ≤ 0) (bk_X2_takeBack_17 g t Post ) (wAload 0 <| wGet (g t) (fun s => .int (tHh s)) <| wK (.int 270) <| wIf2 (fun x y => x ≤ y) (wAload 0 <| wDup <| wGet (g t) (fun s => .int (tHh s)) <| wK (.int 1) <| wB (fun x y => x - y) <| wPut (g t) tsHh <| wAload 0 <| wGet (g t) (fun s => .int (tHh s)) <| wK (.int 5) <| wB (fun x y => x * y) <| wIst 1 <| wAload 0 <| wGet (g t) (fun _ => .ref (g (t + 3))) <| wIload 1 <| wK (.int 4) <| wB (fun x y => x + y) <| wIald (g (t + 3)) 1350 tBt <| wIst 2 <| wAload 0 <| wIload 2 <| wK (.int 5) <| wAload 0 <| wIload 2 <| wK (.int 5) <| wCallR 3 (F_X2_ofNeed g t) id (fun _ u => u) <| wAload 0 <| wGet (g t) (fun _ => .ref (g (t + 3))) <| wIload 1 <| wK (.int 0) <| wB (fun x y => x + y) <| wIald (g (t + 3)) 1350 tBt <| wCallR 1 (F_X2_bitOf) (fun _ => ()) (fun s _ => s) <| wK (.int (-1)) <| wB (fun x y => x ^^^ y) <| wB (fun x y => x &&& y) <| wCallR 4 (F_X2_putNeed g t) id (fun _ u => u) <| wRetV Post) (bk_X2_takeBack_17 g t Post ))) L st s
set_option maxRecDepth 20000 in
theorem s_X2_takeBack_0 {X : Cx} (B : Bx) (g : Nat → Nat) (t : Nat) {Post : Option Value → TS → Prop} (C : OkX X (gx B) cX2_takeBack 3 wsX2_takeBack RX2 (rmD 1)) (R : RtX X (gx B) none (encT B g t) Post)  : Snd X (gx B) 3 (encT B g t) 0 (bk_X2_takeBack_0 g t Post ) := by
  unfold bk_X2_takeBack_0
  refine s_aload_n C rfl dX2_takeBack_0 ?_
  refine s_get C inw_X2_takeBack_X2 rfl (k := 5) (by decide) (by decide +kernel) (heT_0 B g t) (fun _ => rfl) dX2_takeBack_1 ?_
  refine s_if_le C (tgt := 17) (by decide) dX2_takeBack_4 ?_ ?_
  · exact s_X2_takeBack_17 B g t C R 
  · refine s_aload_n C rfl dX2_takeBack_7 ?_
    refine s_get C inw_X2_takeBack_X2 rfl (k := 5) (by decide) (by decide +kernel) (heT_0 B g t) (fun _ => rfl) dX2_takeBack_8 ?_
    refine s_sipush C (by decide) dX2_takeBack_11 ?_
    refine s_icmp_le C (tgt := 18) (by decide) dX2_takeBack_14 ?_ ?_
    · refine s_aload_n C rfl dX2_takeBack_18 ?_
      refine s_dup C dX2_takeBack_19 ?_
      refine s_get C inw_X2_takeBack_X2 rfl (k := 5) (by decide) (by decide +kernel) (heT_0 B g t) (fun _ => rfl) dX2_takeBack_20 ?_
      refine s_iconst C (by decide) dX2_takeBack_23 ?_
      refine s_isub C dX2_takeBack_24 ?_
      refine s_put C inw_X2_takeBack_X2 rfl (k := 5) (by decide) (by decide +kernel) tyX2_ok nmX2 (by decide +kernel) (by decide +kernel) (heT_0 B g t) (fun _ => Nat.le_of_ble_eq_true rfl) (fun _ _ => rfl) dX2_takeBack_25 ?_
      refine s_aload_n C rfl dX2_takeBack_28 ?_
      refine s_get C inw_X2_takeBack_X2 rfl (k := 5) (by decide) (by decide +kernel) (heT_0 B g t) (fun _ => rfl) dX2_takeBack_29 ?_
      refine s_iconst C (by decide) dX2_takeBack_32 ?_
      refine s_imul C dX2_takeBack_33 ?_
      refine s_istore_n C rfl (by decide) dX2_takeBack_34 ?_
      refine s_aload_n C rfl dX2_takeBack_35 ?_
      refine s_get C inw_X2_takeBack_X2 rfl (k := 4) (by decide) (by decide +kernel) (heT_0 B g t) (fun _ => rfl) dX2_takeBack_36 ?_
      refine s_iload_n C rfl dX2_takeBack_39 ?_
      refine s_iconst C (by decide) dX2_takeBack_40 ?_
      refine s_iadd C dX2_takeBack_41 ?_
      refine s_iald C (heT_3 B g t) dX2_takeBack_42 ?_
      refine s_istore_n C rfl (by decide) dX2_takeBack_43 ?_
      refine s_aload_n C rfl dX2_takeBack_44 ?_
      refine s_iload_n C rfl dX2_takeBack_45 ?_
      refine s_iconst C (by decide) dX2_takeBack_46 ?_
      refine s_aload_n C rfl dX2_takeBack_47 ?_
      refine s_iload_n C rfl dX2_takeBack_48 ?_
      refine s_iconst C (by decide) dX2_takeBack_49 ?_
      refine s_callV C (fr_T_T B g t) (k_X2_ofNeed B g t) gX2_takeBack_X2_ofNeed rfl (by decide +kernel) ⟨rfl, rfl⟩ (by decide) rfl (fun s => ⟨_, heT_0 B g t s⟩) (cf_RII_r _ _ _ _) dX2_takeBack_50 ?_
      refine s_aload_n C rfl dX2_takeBack_53 ?_
      refine s_get C inw_X2_takeBack_X2 rfl (k := 4) (by decide) (by decide +kernel) (heT_0 B g t) (fun _ => rfl) dX2_takeBack_54 ?_
      refine s_iload_n C rfl dX2_takeBack_57 ?_
      refine s_iconst C (by decide) dX2_takeBack_58 ?_
      refine s_iadd C dX2_takeBack_59 ?_
      refine s_iald C (heT_3 B g t) dX2_takeBack_60 ?_
      refine s_callS C (fr_T_E B g t) (k_X2_bitOf B) gX2_takeBack_X2_bitOf rfl (by decide +kernel) ⟨rfl, rfl⟩ (by decide) (cf_I_r _ _ _) dX2_takeBack_61 ?_
      refine s_iconst C (by decide) dX2_takeBack_64 ?_
      refine s_ixor C dX2_takeBack_65 ?_
      refine s_iand C dX2_takeBack_66 ?_
      refine s_callV C (fr_T_T B g t) (k_X2_putNeed B g t) gX2_takeBack_X2_putNeed rfl (by decide +kernel) ⟨rfl, rfl⟩ (by decide) rfl (fun s => ⟨_, heT_0 B g t s⟩) (cf_RIII_r _ _ _ _) dX2_takeBack_67 ?_
      exact s_vret C R dX2_takeBack_70
    · exact s_X2_takeBack_17 B g t C R 
theorem tOfN_Hh (T : TS) (v n k : Int32) : tOfN (tsHh T v) n k = tOfN T n k := rfl
theorem k_X2_takeBack (B : Bx) (g : Nat → Nat) (t : Nat) : MtF (gx B) yX2_takeBack wsX2_takeBack (rmD 1) (encT B g t) (F_X2_takeBack g t) := by
  refine cf_R_i (fun l T _ => Mt.of (by decide) rfl (Nat.le_of_ble_eq_true rfl) rfl (fun X C R => s_X2_takeBack_0 B g t C R) ?_)
  simp only [wIload, wAload, wLload, wK, wB, wDv, wU, wLB, wLU, wLS, wL2i, wLcmp, wIf1, wIf2, wKeep, wInc, wIst, wAst, wLst, wDup, wPop, wDup2, wGet, wPut, wPutZ, wIald, wLald, wIast, wLast, wLen, wRetI, wRetZ, wRetL, wRetA, wRetV, wM1, wM2, wCpy, wTab, tabW, nth, stL, stL2, dropL, keepL, mkL, padL, restOK, restOKn, tl_some, tl_none, id_eq, eq_self, true_and, and_true, bk_X2_takeBack_17, bk_X2_takeBack_0, F_X2_bitOf, F_X2_ofNeed, F_X2_putNeed, cf_I_e, cf_RIII_e, cf_RII_e, tg_Pt_Pt, tg_Pt_Pp, tg_Pt_Nt, tg_Pt_Nn, tg_Pt_Bt, tg_Pt_Hh, tg_Pt_Se, tg_Pt_Yr, tg_Pp_Pt, tg_Pp_Pp, tg_Pp_Nt, tg_Pp_Nn, tg_Pp_Bt, tg_Pp_Hh, tg_Pp_Se, tg_Pp_Yr, tg_Nt_Pt, tg_Nt_Pp, tg_Nt_Nt, tg_Nt_Nn, tg_Nt_Bt, tg_Nt_Hh, tg_Nt_Se, tg_Nt_Yr, tg_Nn_Pt, tg_Nn_Pp, tg_Nn_Nt, tg_Nn_Nn, tg_Nn_Bt, tg_Nn_Hh, tg_Nn_Se, tg_Nn_Yr, tg_Bt_Pt, tg_Bt_Pp, tg_Bt_Nt, tg_Bt_Nn, tg_Bt_Bt, tg_Bt_Hh, tg_Bt_Se, tg_Bt_Yr, tg_Hh_Pt, tg_Hh_Pp, tg_Hh_Nt, tg_Hh_Nn, tg_Hh_Bt, tg_Hh_Hh, tg_Hh_Se, tg_Hh_Yr, tg_Se_Pt, tg_Se_Pp, tg_Se_Nt, tg_Se_Nn, tg_Se_Bt, tg_Se_Hh, tg_Se_Se, tg_Se_Yr, tg_Yr_Pt, tg_Yr_Pp, tg_Yr_Nt, tg_Yr_Nn, tg_Yr_Bt, tg_Yr_Hh, tg_Yr_Se, tg_Yr_Yr, te_Pt, to_Pt, te_Pp, to_Pp, te_Nt, to_Nt, te_Nn, to_Nn, te_Bt, to_Bt, te_Hh, to_Hh, te_Se, to_Se, te_Yr, to_Yr, tOfN_Hh]
  by_cases h0 : tHh T ≤ 0
  · have e : tBack T = T := by unfold tBack; rw [if_pos (Or.inl h0)]
    simp only [h0, e, false_implies, true_implies, not_true_eq_false, not_false_eq_true, true_and, and_true, implies_true, eq_self, ne_eq, true_or, or_true, false_or, or_false, and_self]
  by_cases h1 : (270 : Int32) < tHh T
  · have e : tBack T = T := by unfold tBack; rw [if_pos (Or.inr h1)]
    have h2 : ¬ tHh T ≤ 270 := Int32.not_le.mpr h1
    simp only [h0, h2, e, false_implies, true_implies, not_true_eq_false, not_false_eq_true, true_and, and_true, implies_true, eq_self, ne_eq, true_or, or_true, false_or, or_false, and_self]
  have h2 : tHh T ≤ 270 := Int32.not_lt.mp h1
  obtain ⟨k, hk, ek⟩ : ∃ k, k < 270 ∧ tHh T - 1 = nI k := by
    obtain ⟨j, hj, ej⟩ := nI_of2 (M := 270) (n := 270) rfl (fun z => h0 (Int32.le_of_lt z)) h2
    rcases j with _ | j
    · rw [ej] at h0; exact absurd (by decide) h0
    · exact ⟨j, by omega, by rw [ej]; exact nI_pred j⟩
  have e : tBack T = tPutN (tsHh T (tHh T - 1)) (tBt T (k * 5 + 4)) 5 (tOfN T (tBt T (k * 5 + 4)) 5 &&& (tBit (tBt T (k * 5)) ^^^ (-1))) := by
    unfold tBack
    rw [if_neg (fun z => z.elim h0 h1), show (tHh T - 1).toNatClampNeg = k by rw [ek]; exact nI_clamp (by omega)]
  simp only [h0, h2, e, false_implies, true_implies, not_true_eq_false, not_false_eq_true, true_and, and_true, implies_true, eq_self, ne_eq, true_or, or_true, false_or, or_false, and_self]
  rw [ek]
  have c0 : (nI k * 5 + 0).toNatClampNeg = k * 5 := ix_ma (b := 5) (c := 0) (by omega)
  have c4 : (nI k * 5 + 4).toNatClampNeg = k * 5 + 4 := ix_ma (b := 5) (c := 4) (by omega)
  have w0 : vp_in (nI k * 5 + 0) 1350 := vp_ma (b := 5) (c := 0) (by omega) (by decide)
  have w4 : vp_in (nI k * 5 + 4) 1350 := vp_ma (b := 5) (c := 4) (by omega) (by decide)
  simp only [c0, c4, w0, w4, true_and]
def tDo (T : TS) (p n : Int32) : TS := tPutN (tWrite T p (tOfN T n 0) (tOfN T n 2) n) n 5 (tOfN (tWrite T p (tOfN T n 0) (tOfN T n 2) n) n 5 ||| tBit p)
def F_X2_doHelp (g : Nat → Nat) (t : Nat) : CF TS := cf_RII (g t) (fun _ _ _ => True) (fun _ _ _ => none) (fun T p n => tDo T p n)
theorem inw_X2_doHelp_X2 : ∀ w ∈ u_ws RX2 TX2 8, w ∈ wsX2_doHelp := by decide +kernel
def bk_X2_doHelp_0 (g : Nat → Nat) (t : Nat) (Post : Option Value → TS → Prop)  (L : Lc) (st : List Value) (s : TS) : Prop :=
  (wAload 0 <| wIload 1 <| wAload 0 <| wIload 2 <| wK (.int 0) <| wCallR 3 (F_X2_ofNeed g t) id (fun _ u => u) <| wAload 0 <| wIload 2 <| wK (.int 2) <| wCallR 3 (F_X2_ofNeed g t) id (fun _ u => u) <| wIload 2 <| wCallR 5 (F_X2_write g t) id (fun _ u => u) <| wAload 0 <| wIload 2 <| wK (.int 5) <| wAload 0 <| wIload 2 <| wK (.int 5) <| wCallR 3 (F_X2_ofNeed g t) id (fun _ u => u) <| wIload 1 <| wCallR 1 (F_X2_bitOf) (fun _ => ()) (fun s _ => s) <| wB (fun x y => x ||| y) <| wCallR 4 (F_X2_putNeed g t) id (fun _ u => u) <| wRetV Post) L st s
set_option maxRecDepth 20000 in
theorem s_X2_doHelp_0 {X : Cx} (B : Bx) (g : Nat → Nat) (t : Nat) {Post : Option Value → TS → Prop} (C : OkX X (gx B) cX2_doHelp 3 wsX2_doHelp RX2 (rmD 1)) (R : RtX X (gx B) none (encT B g t) Post)  : Snd X (gx B) 3 (encT B g t) 0 (bk_X2_doHelp_0 g t Post ) := by
  unfold bk_X2_doHelp_0
  refine s_aload_n C rfl dX2_doHelp_0 ?_
  refine s_iload_n C rfl dX2_doHelp_1 ?_
  refine s_aload_n C rfl dX2_doHelp_2 ?_
  refine s_iload_n C rfl dX2_doHelp_3 ?_
  refine s_iconst C (by decide) dX2_doHelp_4 ?_
  refine s_callV C (fr_T_T B g t) (k_X2_ofNeed B g t) gX2_doHelp_X2_ofNeed rfl (by decide +kernel) ⟨rfl, rfl⟩ (by decide) rfl (fun s => ⟨_, heT_0 B g t s⟩) (cf_RII_r _ _ _ _) dX2_doHelp_5 ?_
  refine s_aload_n C rfl dX2_doHelp_8 ?_
  refine s_iload_n C rfl dX2_doHelp_9 ?_
  refine s_iconst C (by decide) dX2_doHelp_10 ?_
  refine s_callV C (fr_T_T B g t) (k_X2_ofNeed B g t) gX2_doHelp_X2_ofNeed rfl (by decide +kernel) ⟨rfl, rfl⟩ (by decide) rfl (fun s => ⟨_, heT_0 B g t s⟩) (cf_RII_r _ _ _ _) dX2_doHelp_11 ?_
  refine s_iload_n C rfl dX2_doHelp_14 ?_
  refine s_callV C (fr_T_T B g t) (k_X2_write B g t) gX2_doHelp_X2_write rfl (by decide +kernel) ⟨rfl, rfl⟩ (by decide) rfl (fun s => ⟨_, heT_0 B g t s⟩) (cf_RIIII_r _ _ _ _) dX2_doHelp_15 ?_
  refine s_aload_n C rfl dX2_doHelp_18 ?_
  refine s_iload_n C rfl dX2_doHelp_19 ?_
  refine s_iconst C (by decide) dX2_doHelp_20 ?_
  refine s_aload_n C rfl dX2_doHelp_21 ?_
  refine s_iload_n C rfl dX2_doHelp_22 ?_
  refine s_iconst C (by decide) dX2_doHelp_23 ?_
  refine s_callV C (fr_T_T B g t) (k_X2_ofNeed B g t) gX2_doHelp_X2_ofNeed rfl (by decide +kernel) ⟨rfl, rfl⟩ (by decide) rfl (fun s => ⟨_, heT_0 B g t s⟩) (cf_RII_r _ _ _ _) dX2_doHelp_24 ?_
  refine s_iload_n C rfl dX2_doHelp_27 ?_
  refine s_callS C (fr_T_E B g t) (k_X2_bitOf B) gX2_doHelp_X2_bitOf rfl (by decide +kernel) ⟨rfl, rfl⟩ (by decide) (cf_I_r _ _ _) dX2_doHelp_28 ?_
  refine s_ior C dX2_doHelp_31 ?_
  refine s_callV C (fr_T_T B g t) (k_X2_putNeed B g t) gX2_doHelp_X2_putNeed rfl (by decide +kernel) ⟨rfl, rfl⟩ (by decide) rfl (fun s => ⟨_, heT_0 B g t s⟩) (cf_RIII_r _ _ _ _) dX2_doHelp_32 ?_
  exact s_vret C R dX2_doHelp_35
theorem k_X2_doHelp (B : Bx) (g : Nat → Nat) (t : Nat) : MtF (gx B) yX2_doHelp wsX2_doHelp (rmD 1) (encT B g t) (F_X2_doHelp g t) := by
  refine cf_RII_i (fun l T p n _ => Mt.of (by decide) rfl (Nat.le_of_ble_eq_true rfl) rfl (fun X C R => s_X2_doHelp_0 B g t C R) ?_)
  simp only [wIload, wAload, wLload, wK, wB, wDv, wU, wLB, wLU, wLS, wL2i, wLcmp, wIf1, wIf2, wKeep, wInc, wIst, wAst, wLst, wDup, wPop, wDup2, wGet, wPut, wPutZ, wIald, wLald, wIast, wLast, wLen, wRetI, wRetZ, wRetL, wRetA, wRetV, wM1, wM2, wCpy, wTab, tabW, nth, stL, stL2, dropL, keepL, mkL, padL, restOK, restOKn, tl_some, tl_none, id_eq, eq_self, true_and, and_true, bk_X2_doHelp_0, F_X2_bitOf, F_X2_ofNeed, F_X2_putNeed, F_X2_write, cf_I_e, cf_RIIII_e, cf_RIII_e, cf_RII_e]
  exact rfl
def tCopy (A O : TS) : TS := (va_cpy (tPt O) (tPt A) 0 0 42, tPp O, va_cpy (tNt O) (tNt A) 0 0 72, tNn O, va_cpy (tBt O) (tBt A) 0 0 ((imax 0 (if 270 < tHh O then 270 else tHh O)) * 5).toNatClampNeg, tHh O, va_cpy (tSe O) (tSe A) 0 0 4, tYr O)
def F_X2_copyFrom (g : Nat → Nat) (t t2 : Nat) : CF DT := cf_RR (g t) (g t2) (fun _ => True) (fun _ => none) (fun D => (tCopy (dA D) (dO D), dO D))
theorem inw_X2_copyFrom_X2 : ∀ w ∈ u_ws RX2 TX2 8, w ∈ wsX2_copyFrom := by decide +kernel
def bk_X2_copyFrom_0 (g : Nat → Nat) (t t2 : Nat) (Post : Option Value → DT → Prop)  (L : Lc) (st : List Value) (s : DT) : Prop :=
  (wAload 1 <| wGet (g t2) (fun _ => .ref (g (t2 + 1))) <| wK (.int 0) <| wAload 0 <| wGet (g t) (fun _ => .ref (g (t + 1))) <| wK (.int 0) <| wAload 0 <| wGet (g t) (fun _ => .ref (g (t + 1))) <| wLen (g (t + 1)) 42 <| wCpy (g (t2 + 1)) (g (t + 1)) 42 42 dOPt dAPt dsAPt <| wAload 0 <| wAload 1 <| wGet (g t2) (fun s => .int (dOPp s)) <| wPut (g t) dsAPp <| wAload 1 <| wGet (g t2) (fun _ => .ref (g (t2 + 2))) <| wK (.int 0) <| wAload 0 <| wGet (g t) (fun _ => .ref (g (t + 2))) <| wK (.int 0) <| wAload 0 <| wGet (g t) (fun _ => .ref (g (t + 2))) <| wLen (g (t + 2)) 72 <| wCpy (g (t2 + 2)) (g (t + 2)) 72 72 dONt dANt dsANt <| wAload 0 <| wAload 1 <| wGet (g t2) (fun s => .int (dONn s)) <| wPut (g t) dsANn <| wK (.int 0) <| wAload 1 <| wGet (g t2) (fun s => .int (dOHh s)) <| wK (.int 270) <| wM2 (fun x y => if y < x then y else x) <| wM2 (fun x y => if x < y then y else x) <| wK (.int 5) <| wB (fun x y => x * y) <| wIst 2 <| wAload 1 <| wGet (g t2) (fun _ => .ref (g (t2 + 3))) <| wK (.int 0) <| wAload 0 <| wGet (g t) (fun _ => .ref (g (t + 3))) <| wK (.int 0) <| wIload 2 <| wCpy (g (t2 + 3)) (g (t + 3)) 1350 1350 dOBt dABt dsABt <| wAload 0 <| wAload 1 <| wGet (g t2) (fun s => .int (dOHh s)) <| wPut (g t) dsAHh <| wAload 1 <| wGet (g t2) (fun _ => .ref (g (t2 + 4))) <| wK (.int 0) <| wAload 0 <| wGet (g t) (fun _ => .ref (g (t + 4))) <| wK (.int 0) <| wAload 0 <| wGet (g t) (fun _ => .ref (g (t + 4))) <| wLen (g (t + 4)) 4 <| wCpy (g (t2 + 4)) (g (t + 4)) 4 4 dOSe dASe dsASe <| wAload 0 <| wAload 1 <| wGet (g t2) (fun s => .int (dOYr s)) <| wPut (g t) dsAYr <| wRetV Post) L st s
set_option maxRecDepth 20000 in
theorem s_X2_copyFrom_0 {X : Cx} (B : Bx) (g : Nat → Nat) (t t2 : Nat) {Post : Option Value → DT → Prop} (C : OkX X (gx B) cX2_copyFrom 3 wsX2_copyFrom RX2 (rmD 1)) (R : RtX X (gx B) none (encDT B g t t2) Post)  : Snd X (gx B) 3 (encDT B g t t2) 0 (bk_X2_copyFrom_0 g t t2 Post ) := by
  unfold bk_X2_copyFrom_0
  refine s_aload_n C rfl dX2_copyFrom_0 ?_
  refine s_get C inw_X2_copyFrom_X2 rfl (k := 0) (by decide) (by decide +kernel) (heDT_5 B g t t2) (fun _ => rfl) dX2_copyFrom_1 ?_
  refine s_iconst C (by decide) dX2_copyFrom_4 ?_
  refine s_aload_n C rfl dX2_copyFrom_5 ?_
  refine s_get C inw_X2_copyFrom_X2 rfl (k := 0) (by decide) (by decide +kernel) (heDT_0 B g t t2) (fun _ => rfl) dX2_copyFrom_6 ?_
  refine s_iconst C (by decide) dX2_copyFrom_9 ?_
  refine s_aload_n C rfl dX2_copyFrom_10 ?_
  refine s_get C inw_X2_copyFrom_X2 rfl (k := 0) (by decide) (by decide +kernel) (heDT_0 B g t t2) (fun _ => rfl) dX2_copyFrom_11 ?_
  refine s_alen C (t0 := 0) (heDT_1 B g t t2) rfl (fun _ => rfl) dX2_copyFrom_14 ?_
  refine s_copyi C (by decide +kernel) (by decide +kernel) (by decide +kernel) (by decide +kernel) (by decide) (heDT_6 B g t t2) (heDT_1 B g t t2) (fun _ _ => rfl) dX2_copyFrom_15 ?_
  refine s_aload_n C rfl dX2_copyFrom_18 ?_
  refine s_aload_n C rfl dX2_copyFrom_19 ?_
  refine s_get C inw_X2_copyFrom_X2 rfl (k := 1) (by decide) (by decide +kernel) (heDT_5 B g t t2) (fun _ => rfl) dX2_copyFrom_20 ?_
  refine s_put C inw_X2_copyFrom_X2 rfl (k := 1) (by decide) (by decide +kernel) tyX2_ok nmX2 (by decide +kernel) (by decide +kernel) (heDT_0 B g t t2) (fun _ => Nat.le_of_ble_eq_true rfl) (fun _ _ => rfl) dX2_copyFrom_23 ?_
  refine s_aload_n C rfl dX2_copyFrom_26 ?_
  refine s_get C inw_X2_copyFrom_X2 rfl (k := 2) (by decide) (by decide +kernel) (heDT_5 B g t t2) (fun _ => rfl) dX2_copyFrom_27 ?_
  refine s_iconst C (by decide) dX2_copyFrom_30 ?_
  refine s_aload_n C rfl dX2_copyFrom_31 ?_
  refine s_get C inw_X2_copyFrom_X2 rfl (k := 2) (by decide) (by decide +kernel) (heDT_0 B g t t2) (fun _ => rfl) dX2_copyFrom_32 ?_
  refine s_iconst C (by decide) dX2_copyFrom_35 ?_
  refine s_aload_n C rfl dX2_copyFrom_36 ?_
  refine s_get C inw_X2_copyFrom_X2 rfl (k := 2) (by decide) (by decide +kernel) (heDT_0 B g t t2) (fun _ => rfl) dX2_copyFrom_37 ?_
  refine s_alen C (t0 := 0) (heDT_2 B g t t2) rfl (fun _ => rfl) dX2_copyFrom_40 ?_
  refine s_copyi C (by decide +kernel) (by decide +kernel) (by decide +kernel) (by decide +kernel) (by decide) (heDT_7 B g t t2) (heDT_2 B g t t2) (fun _ _ => rfl) dX2_copyFrom_41 ?_
  refine s_aload_n C rfl dX2_copyFrom_44 ?_
  refine s_aload_n C rfl dX2_copyFrom_45 ?_
  refine s_get C inw_X2_copyFrom_X2 rfl (k := 3) (by decide) (by decide +kernel) (heDT_5 B g t t2) (fun _ => rfl) dX2_copyFrom_46 ?_
  refine s_put C inw_X2_copyFrom_X2 rfl (k := 3) (by decide) (by decide +kernel) tyX2_ok nmX2 (by decide +kernel) (by decide +kernel) (heDT_0 B g t t2) (fun _ => Nat.le_of_ble_eq_true rfl) (fun _ _ => rfl) dX2_copyFrom_49 ?_
  refine s_iconst C (by decide) dX2_copyFrom_52 ?_
  refine s_aload_n C rfl dX2_copyFrom_53 ?_
  refine s_get C inw_X2_copyFrom_X2 rfl (k := 5) (by decide) (by decide +kernel) (heDT_5 B g t t2) (fun _ => rfl) dX2_copyFrom_54 ?_
  refine s_sipush C (by decide) dX2_copyFrom_57 ?_
  refine s_mmin C (by decide +kernel) (by decide +kernel) (by decide +kernel) (by decide +kernel) (by decide) dX2_copyFrom_60 ?_
  refine s_mmax C (by decide +kernel) (by decide +kernel) (by decide +kernel) (by decide +kernel) (by decide) dX2_copyFrom_63 ?_
  refine s_iconst C (by decide) dX2_copyFrom_66 ?_
  refine s_imul C dX2_copyFrom_67 ?_
  refine s_istore_n C rfl (by decide) dX2_copyFrom_68 ?_
  refine s_aload_n C rfl dX2_copyFrom_69 ?_
  refine s_get C inw_X2_copyFrom_X2 rfl (k := 4) (by decide) (by decide +kernel) (heDT_5 B g t t2) (fun _ => rfl) dX2_copyFrom_70 ?_
  refine s_iconst C (by decide) dX2_copyFrom_73 ?_
  refine s_aload_n C rfl dX2_copyFrom_74 ?_
  refine s_get C inw_X2_copyFrom_X2 rfl (k := 4) (by decide) (by decide +kernel) (heDT_0 B g t t2) (fun _ => rfl) dX2_copyFrom_75 ?_
  refine s_iconst C (by decide) dX2_copyFrom_78 ?_
  refine s_iload_n C rfl dX2_copyFrom_79 ?_
  refine s_copyi C (by decide +kernel) (by decide +kernel) (by decide +kernel) (by decide +kernel) (by decide) (heDT_8 B g t t2) (heDT_3 B g t t2) (fun _ _ => rfl) dX2_copyFrom_80 ?_
  refine s_aload_n C rfl dX2_copyFrom_83 ?_
  refine s_aload_n C rfl dX2_copyFrom_84 ?_
  refine s_get C inw_X2_copyFrom_X2 rfl (k := 5) (by decide) (by decide +kernel) (heDT_5 B g t t2) (fun _ => rfl) dX2_copyFrom_85 ?_
  refine s_put C inw_X2_copyFrom_X2 rfl (k := 5) (by decide) (by decide +kernel) tyX2_ok nmX2 (by decide +kernel) (by decide +kernel) (heDT_0 B g t t2) (fun _ => Nat.le_of_ble_eq_true rfl) (fun _ _ => rfl) dX2_copyFrom_88 ?_
  refine s_aload_n C rfl dX2_copyFrom_91 ?_
  refine s_get C inw_X2_copyFrom_X2 rfl (k := 6) (by decide) (by decide +kernel) (heDT_5 B g t t2) (fun _ => rfl) dX2_copyFrom_92 ?_
  refine s_iconst C (by decide) dX2_copyFrom_95 ?_
  refine s_aload_n C rfl dX2_copyFrom_96 ?_
  refine s_get C inw_X2_copyFrom_X2 rfl (k := 6) (by decide) (by decide +kernel) (heDT_0 B g t t2) (fun _ => rfl) dX2_copyFrom_97 ?_
  refine s_iconst C (by decide) dX2_copyFrom_100 ?_
  refine s_aload_n C rfl dX2_copyFrom_101 ?_
  refine s_get C inw_X2_copyFrom_X2 rfl (k := 6) (by decide) (by decide +kernel) (heDT_0 B g t t2) (fun _ => rfl) dX2_copyFrom_102 ?_
  refine s_alen C (t0 := 0) (heDT_4 B g t t2) rfl (fun _ => rfl) dX2_copyFrom_105 ?_
  refine s_copyi C (by decide +kernel) (by decide +kernel) (by decide +kernel) (by decide +kernel) (by decide) (heDT_9 B g t t2) (heDT_4 B g t t2) (fun _ _ => rfl) dX2_copyFrom_106 ?_
  refine s_aload_n C rfl dX2_copyFrom_109 ?_
  refine s_aload_n C rfl dX2_copyFrom_110 ?_
  refine s_get C inw_X2_copyFrom_X2 rfl (k := 7) (by decide) (by decide +kernel) (heDT_5 B g t t2) (fun _ => rfl) dX2_copyFrom_111 ?_
  refine s_put C inw_X2_copyFrom_X2 rfl (k := 7) (by decide) (by decide +kernel) tyX2_ok nmX2 (by decide +kernel) (by decide +kernel) (heDT_0 B g t t2) (fun _ => Nat.le_of_ble_eq_true rfl) (fun _ _ => rfl) dX2_copyFrom_114 ?_
  exact s_vret C R dX2_copyFrom_117
theorem k_X2_copyFrom (B : Bx) (g : Nat → Nat) (t t2 : Nat) : MtF (gx B) yX2_copyFrom wsX2_copyFrom (rmD 1) (encDT B g t t2) (F_X2_copyFrom g t t2) := by
  refine cf_RR_i (fun l D _ => Mt.of (by decide) rfl (Nat.le_of_ble_eq_true rfl) rfl (fun X C R => s_X2_copyFrom_0 B g t t2 C R) ?_)
  simp only [wIload, wAload, wLload, wK, wB, wDv, wU, wLB, wLU, wLS, wL2i, wLcmp, wIf1, wIf2, wKeep, wInc, wIst, wAst, wLst, wDup, wPop, wDup2, wGet, wPut, wPutZ, wIald, wLald, wIast, wLast, wLen, wRetI, wRetZ, wRetL, wRetA, wRetV, wM1, wM2, wCpy, wTab, tabW, nth, stL, stL2, dropL, keepL, mkL, padL, restOK, restOKn, tl_some, tl_none, id_eq, eq_self, true_and, and_true, bk_X2_copyFrom_0]
  obtain ⟨⟨a1, a2, a3, a4, a5, a6, a7, a8⟩, ⟨o1, o2, o3, o4, o5, o6, o7, o8⟩⟩ := D
  have z0 : (0 : Int32).toNatClampNeg = 0 := rfl
  have z42 : (42 : Int32).toNatClampNeg = 42 := rfl
  have z72 : (72 : Int32).toNatClampNeg = 72 := rfl
  have z4 : (4 : Int32).toNatClampNeg = 4 := rfl
  have y1 : ¬ (0 : Int32) < 0 := by decide
  have y2 : ¬ (42 : Int32) < 0 := by decide
  have y3 : ¬ (72 : Int32) < 0 := by decide
  have y4 : ¬ (4 : Int32) < 0 := by decide
  have fin : ∀ w : Int32, (∃ k, k ≤ 270 ∧ w = nI k) → ¬ w * 5 < 0 ∧ 0 + (w * 5).toNatClampNeg ≤ 1350 := by
    rintro w ⟨k, hk, rfl⟩
    rw [show nI k * 5 = nI (k * 5) from pk_mul k 5, nI_clamp (by omega)]
    exact ⟨nI_pos (by omega), by omega⟩
  dsimp only [dA, dsA, dO, dsO, tPt, tsPt, tPp, tsPp, tNt, tsNt, tNn, tsNn, tBt, tsBt, tHh, tsHh, tSe, tsSe, tYr, tsYr, taPt, taNt, taBt, taSe, dAPt, dsAPt, dAPp, dsAPp, dANt, dsANt, dANn, dsANn, dABt, dsABt, dAHh, dsAHh, dASe, dsASe, dAYr, dsAYr, daAPt, daANt, daABt, daASe, dOPt, dsOPt, dOPp, dsOPp, dONt, dsONt, dONn, dsONn, dOBt, dsOBt, dOHh, dsOHh, dOSe, dsOSe, dOYr, dsOYr, daOPt, daONt, daOBt, daOSe, tCopy]
  by_cases h : (270 : Int32) < o6
  · have hp : (0 : Int32) < 270 := by decide
    have := fin 270 ⟨270, by omega, rfl⟩
    simp only [h, hp, if_true, z0, z42, z72, z4, y1, y2, y3, y4, imax, not_false_eq_true, true_and, and_true, Nat.zero_add, Nat.le_refl]
    simp only [Nat.zero_add] at this
    exact ⟨this.1, this.2, this.2⟩
  · by_cases h2 : (0 : Int32) < o6
    · obtain ⟨j, hj, ej⟩ := nI_of2 (M := 270) (n := 270) rfl (fun z => (Int32.lt_irrefl (a := o6)) (Int32.lt_trans z h2)) (Int32.not_lt.mp h)
      have := fin o6 ⟨j, hj, ej⟩
      simp only [h, h2, if_true, if_false, z0, z42, z72, z4, y1, y2, y3, y4, imax, not_false_eq_true, true_and, and_true, Nat.zero_add, Nat.le_refl]
      simp only [Nat.zero_add] at this
      exact ⟨this.1, this.2, this.2⟩
    · have := fin 0 ⟨0, by omega, rfl⟩
      simp only [h, h2, if_true, if_false, z0, z42, z72, z4, y1, y2, y3, y4, imax, not_false_eq_true, true_and, and_true, Nat.zero_add, Nat.le_refl]
      simp only [Nat.zero_add] at this
      exact ⟨this.1, this.2, this.2⟩
end
