noncomputable section
def sPush (S : SS) (q : Int32) : SS := if eHd S < 8 then esHd (eaNh S (eHd S).toNatClampNeg q) (eHd S + 1) else S
def sPushN (q : Int32) : Nat → SS → SS
  | 0, S => S
  | n + 1, S => sPushN q n (sPush S q)
theorem sPushN_s (q : Int32) (n : Nat) (S : SS) : sPushN q (n + 1) S = sPushN q n (sPush S q) := rfl
theorem sPushN_full (q : Int32) : ∀ n S, ¬ eHd S < 8 → sPushN q n S = S := by
  intro n
  induction n with
  | zero => intro S _; rfl
  | succ n ih =>
    intro S h
    have e : sPush S q = S := by unfold sPush; rw [if_neg h]
    rw [sPushN_s, e]
    exact ih S h
theorem eHd_aNh (S : SS) (i : Nat) (v : Int32) : eHd (eaNh S i v) = eHd S := rfl
def sOkH (S : SS) : Prop := ∃ m, m ≤ 8 ∧ eHd S = nI m
theorem sPush_ok {S : SS} (h : sOkH S) (q : Int32) : sOkH (sPush S q) := by
  obtain ⟨m, hm, e⟩ := h
  unfold sPush
  by_cases h8 : eHd S < 8
  · rw [if_pos h8]
    have : m < 8 := by
      rw [e] at h8
      exact Nat.lt_of_not_le (fun z => absurd h8 (Int32.not_lt.mpr (nI_le (a := 8) z (by omega))))
    refine ⟨m + 1, by omega, ?_⟩
    rw [← nI_1, ← e]
    rfl
  · rw [if_neg h8]
    exact ⟨m, hm, e⟩
theorem sPushN_ok (q : Int32) : ∀ n S, sOkH S → sOkH (sPushN q n S) := by
  intro n
  induction n with
  | zero => exact fun S h => h
  | succ n ih => exact fun S h => ih _ (sPush_ok h q)
def lhC (T : TS) (y k : Int32) : Int32 := if tOfN T k 4 = y then tHL T k else 0
def lhK (T : TS) (y : Int32) : Nat → Nat → SS → SS
  | _, 0, S => S
  | k, n + 1, S => lhK T y (k + 1) n (sPushN (nI k) (lhC T y (nI k)).toNatClampNeg S)
theorem lhK_s (T : TS) (y : Int32) (k n : Nat) (S : SS) : lhK T y k (n + 1) S = lhK T y (k + 1) n (sPushN (nI k) (lhC T y (nI k)).toNatClampNeg S) := rfl
def lhY (T : TS) : Nat → Nat → SS → SS
  | _, 0, S => S
  | y, n + 1, S => lhY T (y + 1) n (lhK T (nI y) 0 (tNeeds T) S)
theorem lhY_s (T : TS) (y n : Nat) (S : SS) : lhY T y (n + 1) S = lhY T (y + 1) n (lhK T (nI y) 0 (tNeeds T) S) := rfl
theorem lhK_ok (T : TS) (y : Int32) : ∀ n k S, sOkH S → sOkH (lhK T y k n S) := by
  intro n
  induction n with
  | zero => exact fun k S h => h
  | succ n ih => exact fun k S h => by rw [lhK_s]; exact ih _ _ (sPushN_ok _ _ _ h)
theorem lhY_ok (T : TS) : ∀ n y S, sOkH S → sOkH (lhY T y n S) := by
  intro n
  induction n with
  | zero => exact fun k S h => h
  | succ n ih => exact fun k S h => by rw [lhY_s]; exact ih _ _ (lhK_ok _ _ _ _ _ h)
def sList (T : TS) (S : SS) : SS := lhY T (tYr T).toNatClampNeg (10 - (tYr T).toNatClampNeg) (esHd S 0)
theorem sList_ok (T : TS) (S : SS) : sOkH (sList T S) := lhY_ok _ _ _ _ ⟨0, by omega, rfl⟩
def yOk (T : TS) : Prop := ∃ a, a < 1000 ∧ tYr T = nI a
def F_X1_listHands (g : Nat → Nat) (t : Nat) : CF ET := cf_RR (g 16) (g t) (fun S => yOk (fT S)) (fun _ => none) (fun S => fsS S (sList (fT S) (fS S)))
theorem inw_X1_listHands_X1 : ∀ w ∈ u_ws RX1 TX1 7, w ∈ wsX1_listHands := by decide +kernel
theorem inw_X1_listHands_X2 : ∀ w ∈ u_ws RX2 TX2 8, w ∈ wsX1_listHands := by decide +kernel
def bk_X1_listHands_0 (g : Nat → Nat) (t : Nat) (Post : Option Value → ET → Prop) (K10 : PT ET) (L : Lc) (st : List Value) (s : ET) : Prop :=
  (wAload 0 <| wK (.int 0) <| wPut (g 16) fsSHd <| wAload 1 <| wGet (g t) (fun s => .int (fTYr s)) <| wIst 2 <| wKeep [true, true, true, false, false, false] K10) L st s
set_option maxRecDepth 20000 in
theorem s_X1_listHands_0 {X : Cx} (B : Bx) (g : Nat → Nat) (t : Nat) {Post : Option Value → ET → Prop} (C : OkX X (gx B) cX1_listHands 6 wsX1_listHands RX1 (rmD 2)) (R : RtX X (gx B) none (encST B g t) Post) {K10 : PT ET} (hK10 : Snd X (gx B) 6 (encST B g t) 10 K10) : Snd X (gx B) 6 (encST B g t) 0 (bk_X1_listHands_0 g t Post K10) := by
  unfold bk_X1_listHands_0
  refine s_aload_n C rfl dX1_listHands_0 ?_
  refine s_iconst C (by decide) dX1_listHands_1 ?_
  refine s_put C inw_X1_listHands_X1 rfl (k := 1) (by decide) (by decide +kernel) tyX1_ok nmX1 (by decide +kernel) (by decide +kernel) (heST_0 B g t) (fun _ => Nat.le_of_ble_eq_true rfl) (fun _ _ => rfl) dX1_listHands_2 ?_
  refine s_aload_n C rfl dX1_listHands_5 ?_
  refine s_get C inw_X1_listHands_X2 rfl (k := 7) (by decide) (by decide +kernel) (heST_6 B g t) (fun _ => rfl) dX1_listHands_6 ?_
  refine s_istore_n C rfl (by decide) dX1_listHands_9 ?_
  exact s_keep _ hK10
def bk_X1_listHands_10 (g : Nat → Nat) (t : Nat) (Post : Option Value → ET → Prop) (K18 : PT ET) (L : Lc) (st : List Value) (s : ET) : Prop :=
  (wIload 2 <| wK (.int 9) <| wIf2 (fun x y => y < x) (wRetV Post) (wK (.int 0) <| wIst 3 <| wKeep [true, true, true, true, false, false] K18)) L st s
set_option maxRecDepth 20000 in
theorem s_X1_listHands_10 {X : Cx} (B : Bx) (g : Nat → Nat) (t : Nat) {Post : Option Value → ET → Prop} (C : OkX X (gx B) cX1_listHands 6 wsX1_listHands RX1 (rmD 2)) (R : RtX X (gx B) none (encST B g t) Post) {K18 : PT ET} (hK18 : Snd X (gx B) 6 (encST B g t) 18 K18) : Snd X (gx B) 6 (encST B g t) 10 (bk_X1_listHands_10 g t Post K18) := by
  unfold bk_X1_listHands_10
  refine s_iload_n C rfl dX1_listHands_10 ?_
  refine s_bipush C (by decide) dX1_listHands_11 ?_
  refine s_icmp_gt C (tgt := 107) (by decide) dX1_listHands_13 ?_ ?_
  · exact s_vret C R dX1_listHands_107
  · refine s_iconst C (by decide) dX1_listHands_16 ?_
    refine s_istore_n C rfl (by decide) dX1_listHands_17 ?_
    exact s_keep _ hK18
def bk_X1_listHands_45 (g : Nat → Nat) (t : Nat) (Post : Option Value → ET → Prop) (K50 : PT ET) (L : Lc) (st : List Value) (s : ET) : Prop :=
  (wIst 4 <| wK (.int 0) <| wIst 5 <| wKeep [true, true, true, true, true, true] K50) L st s
set_option maxRecDepth 20000 in
theorem s_X1_listHands_45 {X : Cx} (B : Bx) (g : Nat → Nat) (t : Nat) {Post : Option Value → ET → Prop} (C : OkX X (gx B) cX1_listHands 6 wsX1_listHands RX1 (rmD 2)) (R : RtX X (gx B) none (encST B g t) Post) {K50 : PT ET} (hK50 : Snd X (gx B) 6 (encST B g t) 50 K50) : Snd X (gx B) 6 (encST B g t) 45 (bk_X1_listHands_45 g t Post K50) := by
  unfold bk_X1_listHands_45
  refine s_istore C (by decide) dX1_listHands_45 ?_
  refine s_iconst C (by decide) dX1_listHands_47 ?_
  refine s_istore C (by decide) dX1_listHands_48 ?_
  exact s_keep _ hK50
def bk_X1_listHands_18 (g : Nat → Nat) (t : Nat) (Post : Option Value → ET → Prop) (K10 : PT ET) (K50 : PT ET) (L : Lc) (st : List Value) (s : ET) : Prop :=
  (wIload 3 <| wAload 1 <| wGet (g t) (fun s => .int (fTNn s)) <| wIf2 (fun x y => y ≤ x) (wInc 2 1 <| wKeep [true, true, true, false, false, false] K10) (wAload 1 <| wIload 3 <| wK (.int 4) <| wCallR 3 (F_X2_ofNeed g t) fT fsT <| wIload 2 <| wIf2 (fun x y => x = y) (wAload 1 <| wIload 3 <| wCallR 2 (F_X2_handsLeft g t) fT fsT <| bk_X1_listHands_45 g t Post K50) (wK (.int 0) <| bk_X1_listHands_45 g t Post K50))) L st s
set_option maxRecDepth 20000 in
theorem s_X1_listHands_18 {X : Cx} (B : Bx) (g : Nat → Nat) (t : Nat) {Post : Option Value → ET → Prop} (C : OkX X (gx B) cX1_listHands 6 wsX1_listHands RX1 (rmD 2)) (R : RtX X (gx B) none (encST B g t) Post) {K10 : PT ET} (hK10 : Snd X (gx B) 6 (encST B g t) 10 K10) {K50 : PT ET} (hK50 : Snd X (gx B) 6 (encST B g t) 50 K50) : Snd X (gx B) 6 (encST B g t) 18 (bk_X1_listHands_18 g t Post K10 K50) := by
  unfold bk_X1_listHands_18
  refine s_iload_n C rfl dX1_listHands_18 ?_
  refine s_aload_n C rfl dX1_listHands_19 ?_
  refine s_get C inw_X1_listHands_X2 rfl (k := 3) (by decide) (by decide +kernel) (heST_6 B g t) (fun _ => rfl) dX1_listHands_20 ?_
  refine s_icmp_ge C (tgt := 101) (by decide) dX1_listHands_23 ?_ ?_
  · refine s_iinc C (by decide) (by decide) dX1_listHands_101 ?_
    refine s_goto C (tgt := 10) (by decide) dX1_listHands_104 ?_
    exact s_keep _ hK10
  · refine s_aload_n C rfl dX1_listHands_26 ?_
    refine s_iload_n C rfl dX1_listHands_27 ?_
    refine s_iconst C (by decide) dX1_listHands_28 ?_
    refine s_callV C (fr_ST_T B g t) (k_X2_ofNeed B g t) gX1_listHands_X2_ofNeed rfl (by decide +kernel) ⟨rfl, rfl⟩ (by decide) rfl (fun s => ⟨_, heST_6 B g t s⟩) (cf_RII_r _ _ _ _) dX1_listHands_29 ?_
    refine s_iload_n C rfl dX1_listHands_32 ?_
    refine s_icmp_ne C (tgt := 44) (by decide) dX1_listHands_33 ?_ ?_
    · refine s_iconst C (by decide) dX1_listHands_44 ?_
      exact s_X1_listHands_45 B g t C R hK50
    · refine s_aload_n C rfl dX1_listHands_36 ?_
      refine s_iload_n C rfl dX1_listHands_37 ?_
      refine s_callV C (fr_ST_T B g t) (k_X2_handsLeft B g t) gX1_listHands_X2_handsLeft rfl (by decide +kernel) ⟨rfl, rfl⟩ (by decide) rfl (fun s => ⟨_, heST_6 B g t s⟩) (cf_RI_r _ _ _ _) dX1_listHands_38 ?_
      refine s_goto C (tgt := 45) (by decide) dX1_listHands_41 ?_
      exact s_X1_listHands_45 B g t C R hK50
def bk_X1_listHands_95 (g : Nat → Nat) (t : Nat) (Post : Option Value → ET → Prop) (K18 : PT ET) (L : Lc) (st : List Value) (s : ET) : Prop :=
  (wInc 3 1 <| wKeep [true, true, true, true, false, false] K18) L st s
set_option maxRecDepth 20000 in
theorem s_X1_listHands_95 {X : Cx} (B : Bx) (g : Nat → Nat) (t : Nat) {Post : Option Value → ET → Prop} (C : OkX X (gx B) cX1_listHands 6 wsX1_listHands RX1 (rmD 2)) (R : RtX X (gx B) none (encST B g t) Post) {K18 : PT ET} (hK18 : Snd X (gx B) 6 (encST B g t) 18 K18) : Snd X (gx B) 6 (encST B g t) 95 (bk_X1_listHands_95 g t Post K18) := by
  unfold bk_X1_listHands_95
  refine s_iinc C (by decide) (by decide) dX1_listHands_95 ?_
  refine s_goto C (tgt := 18) (by decide) dX1_listHands_98 ?_
  exact s_keep _ hK18
def bk_X1_listHands_50 (g : Nat → Nat) (t : Nat) (Post : Option Value → ET → Prop) (K18 : PT ET) (K50 : PT ET) (L : Lc) (st : List Value) (s : ET) : Prop :=
  (wIload 5 <| wIload 4 <| wIf2 (fun x y => y ≤ x) (bk_X1_listHands_95 g t Post K18) (wAload 0 <| wGet (g 16) (fun s => .int (fSHd s)) <| wAload 0 <| wGet (g 16) (fun _ => .ref (g 17)) <| wLen (g 17) 8 <| wIf2 (fun x y => y ≤ x) (bk_X1_listHands_95 g t Post K18) (wAload 0 <| wGet (g 16) (fun _ => .ref (g 17)) <| wAload 0 <| wGet (g 16) (fun s => .int (fSHd s)) <| wIload 3 <| wIast (g 17) 8 faSNh <| wAload 0 <| wDup <| wGet (g 16) (fun s => .int (fSHd s)) <| wK (.int 1) <| wB (fun x y => x + y) <| wPut (g 16) fsSHd <| wInc 5 1 <| wKeep [true, true, true, true, true, true] K50))) L st s
set_option maxRecDepth 20000 in
theorem s_X1_listHands_50 {X : Cx} (B : Bx) (g : Nat → Nat) (t : Nat) {Post : Option Value → ET → Prop} (C : OkX X (gx B) cX1_listHands 6 wsX1_listHands RX1 (rmD 2)) (R : RtX X (gx B) none (encST B g t) Post) {K18 : PT ET} (hK18 : Snd X (gx B) 6 (encST B g t) 18 K18) {K50 : PT ET} (hK50 : Snd X (gx B) 6 (encST B g t) 50 K50) : Snd X (gx B) 6 (encST B g t) 50 (bk_X1_listHands_50 g t Post K18 K50) := by
  unfold bk_X1_listHands_50
  refine s_iload C dX1_listHands_50 ?_
  refine s_iload C dX1_listHands_52 ?_
  refine s_icmp_ge C (tgt := 95) (by decide) dX1_listHands_54 ?_ ?_
  · exact s_X1_listHands_95 B g t C R hK18
  · refine s_aload_n C rfl dX1_listHands_57 ?_
    refine s_get C inw_X1_listHands_X1 rfl (k := 1) (by decide) (by decide +kernel) (heST_0 B g t) (fun _ => rfl) dX1_listHands_58 ?_
    refine s_aload_n C rfl dX1_listHands_61 ?_
    refine s_get C inw_X1_listHands_X1 rfl (k := 0) (by decide) (by decide +kernel) (heST_0 B g t) (fun _ => rfl) dX1_listHands_62 ?_
    refine s_alen C (t0 := 0) (heST_1 B g t) rfl (fun _ => rfl) dX1_listHands_65 ?_
    refine s_icmp_ge C (tgt := 95) (by decide) dX1_listHands_66 ?_ ?_
    · exact s_X1_listHands_95 B g t C R hK18
    · refine s_aload_n C rfl dX1_listHands_69 ?_
      refine s_get C inw_X1_listHands_X1 rfl (k := 0) (by decide) (by decide +kernel) (heST_0 B g t) (fun _ => rfl) dX1_listHands_70 ?_
      refine s_aload_n C rfl dX1_listHands_73 ?_
      refine s_get C inw_X1_listHands_X1 rfl (k := 1) (by decide) (by decide +kernel) (heST_0 B g t) (fun _ => rfl) dX1_listHands_74 ?_
      refine s_iload_n C rfl dX1_listHands_77 ?_
      refine s_iast C (heST_1 B g t) (fun _ _ _ => rfl) dX1_listHands_78 ?_
      refine s_aload_n C rfl dX1_listHands_79 ?_
      refine s_dup C dX1_listHands_80 ?_
      refine s_get C inw_X1_listHands_X1 rfl (k := 1) (by decide) (by decide +kernel) (heST_0 B g t) (fun _ => rfl) dX1_listHands_81 ?_
      refine s_iconst C (by decide) dX1_listHands_84 ?_
      refine s_iadd C dX1_listHands_85 ?_
      refine s_put C inw_X1_listHands_X1 rfl (k := 1) (by decide) (by decide +kernel) tyX1_ok nmX1 (by decide +kernel) (by decide +kernel) (heST_0 B g t) (fun _ => Nat.le_of_ble_eq_true rfl) (fun _ _ => rfl) dX1_listHands_86 ?_
      refine s_iinc C (by decide) (by decide) dX1_listHands_89 ?_
      refine s_goto C (tgt := 50) (by decide) dX1_listHands_92 ?_
      exact s_keep _ hK50
def LPost (S0 : ET) (fin : SS) : Option Value → ET → Prop := fun o u => o = none ∧ u = fsS S0 fin
def I_h50 (g : Nat → Nat) (t : Nat) (S0 : ET) (a : Nat × Nat × Int32) (K18 : PT ET) (n : Nat) (L : Lc) (st : List Value) (s : ET) : Prop := ∃ (S : SS) (j : Nat), sOkH S ∧ n + j = a.2.2.toNatClampNeg ∧ st = [] ∧ s = fsS S0 S ∧ L = [some (.ref (g 16)), some (.ref (g t)), some (.int (nI a.1)), some (.int (nI a.2.1)), some (.int a.2.2), some (.int (nI j))] ∧ K18 [some (.ref (g 16)), some (.ref (g t)), some (.int (nI a.1)), some (.int (nI (a.2.1 + 1))), none, none] [] (fsS S0 (sPushN (nI a.2.1) n S))
def J50 (g : Nat → Nat) (t : Nat) (S0 : ET) (K18 : PT ET) : PT ET := fun L st s => ∃ a, ∃ n, I_h50 g t S0 a K18 n L st s
theorem hands50 {X : Cx} (B : Bx) (g : Nat → Nat) (t : Nat) (S0 : ET) {Post : Option Value → ET → Prop} (C : OkX X (gx B) cX1_listHands 6 wsX1_listHands RX1 (rmD 2)) (R : RtX X (gx B) none (encST B g t) Post) {K18 : PT ET} (hK18 : Snd X (gx B) 6 (encST B g t) 18 K18) : Snd X (gx B) 6 (encST B g t) 50 (J50 g t S0 K18) := by
  refine Snd.ex (fun a => snd_loop (fun K => bk_X1_listHands_50 g t Post K18 K) (I_h50 g t S0 a K18) (fun K hK => s_X1_listHands_50 B g t C R hK18 hK) ?_)
  obtain ⟨y, k, hd⟩ := a
  rintro K n L st s ⟨S, j, ⟨m, hm, hS⟩, hn, rfl, rfl, rfl, hr⟩ hK
  dsimp only at hn hr hK ⊢
  simp only [wIload, wAload, wLload, wK, wB, wDv, wU, wLB, wLU, wLS, wL2i, wLcmp, wIf1, wIf2, wKeep, wInc, wIst, wAst, wLst, wDup, wPop, wDup2, wGet, wPut, wPutZ, wIald, wLald, wIast, wLast, wLen, wRetI, wRetZ, wRetL, wRetA, wRetV, wM1, wM2, wCpy, wTab, tabW, nth, stL, stL2, dropL, keepL, mkL, padL, restOK, restOKn, tl_some, tl_none, id_eq, eq_self, true_and, and_true, bk_X1_listHands_0, bk_X1_listHands_10, bk_X1_listHands_45, bk_X1_listHands_18, bk_X1_listHands_95, bk_X1_listHands_50, F_X2_handsLeft, F_X2_ofNeed, cf_RII_e, cf_RI_e, fg_S_S, fg_S_T, fg_T_S, fg_T_T, fe_S, fo_S, fe_T, fo_T, fSHd, fsSHd, faSNh, eHd_aNh]
  have hb := clamp_lt hd
  rcases Nat.lt_or_ge j hd.toNatClampNeg with hlt | hge
  · have h1 : ¬ hd ≤ nI j := by rw [le_nI (by omega)]; omega
    obtain ⟨n, rfl⟩ : ∃ m, n = m + 1 := ⟨n - 1, by omega⟩
    by_cases h8 : m < 8
    · have h2 : ¬ (8 : Int32) ≤ eHd S := by rw [hS]; exact nI_ge (a := m) (b := 8) h8 (by decide)
      have w0 : vp_in (eHd S) 8 := by rw [hS]; exact vp_in_nI h8 (by decide)
      have e : sPush S (nI k) = esHd (eaNh S (eHd S).toNatClampNeg (nI k)) (eHd S + 1) := by unfold sPush; rw [if_pos (Int32.not_le.mp h2)]
      rw [sPushN_s] at hr
      have hc := hK n _ _ _ (by omega) ⟨sPush S (nI k), j + 1, sPush_ok ⟨m, hm, hS⟩ _, (by show n + (j + 1) = hd.toNatClampNeg; omega), rfl, rfl, rfl, hr⟩
      rw [e, ← nI_1] at hc
      simp only [h1, h2, w0, false_implies, true_implies, not_true_eq_false, not_false_eq_true, true_and, and_true, implies_true, eq_self, ne_eq, true_or, or_true, false_or, or_false, and_self]
      exact hc
    · have h2 : (8 : Int32) ≤ eHd S := by rw [hS]; exact nI_le (a := 8) (by omega) (by omega)
      rw [sPushN_full _ _ _ (Int32.not_lt.mpr h2), ← nI_1] at hr
      simp only [h1, h2, false_implies, true_implies, not_true_eq_false, not_false_eq_true, true_and, and_true, implies_true, eq_self, ne_eq, true_or, or_true, false_or, or_false, and_self]
      exact hr
  · have h1 : hd ≤ nI j := (le_nI (by omega)).mpr hge
    have h0 : n = 0 := by omega
    subst h0
    have hr : K18 [some (.ref (g 16)), some (.ref (g t)), some (.int (nI y)), some (.int (nI (k + 1))), none, none] [] (fsS S0 S) := hr
    rw [← nI_1] at hr
    simp only [h1, false_implies, true_implies, not_true_eq_false, not_false_eq_true, true_and, and_true, implies_true, eq_self, ne_eq, true_or, or_true, false_or, or_false, and_self]
    exact hr
def I_h18 (g : Nat → Nat) (t : Nat) (S0 : ET) (y : Nat) (K10 : PT ET) (n : Nat) (L : Lc) (st : List Value) (s : ET) : Prop := ∃ (S : SS) (k : Nat), sOkH S ∧ n + k = tNeeds (fT S0) ∧ st = [] ∧ s = fsS S0 S ∧ L = [some (.ref (g 16)), some (.ref (g t)), some (.int (nI y)), some (.int (nI k)), none, none] ∧ K10 [some (.ref (g 16)), some (.ref (g t)), some (.int (nI (y + 1))), none, none, none] [] (fsS S0 (lhK (fT S0) (nI y) k n S))
def J18 (g : Nat → Nat) (t : Nat) (S0 : ET) (K10 : PT ET) : PT ET := fun L st s => ∃ y, ∃ n, I_h18 g t S0 y K10 n L st s
theorem hands18 {X : Cx} (B : Bx) (g : Nat → Nat) (t : Nat) (S0 : ET) {Post : Option Value → ET → Prop} (C : OkX X (gx B) cX1_listHands 6 wsX1_listHands RX1 (rmD 2)) (R : RtX X (gx B) none (encST B g t) Post) {K10 : PT ET} (hK10 : Snd X (gx B) 6 (encST B g t) 10 K10) : Snd X (gx B) 6 (encST B g t) 18 (J18 g t S0 K10) := by
  refine Snd.ex (fun y => snd_loop (fun K => bk_X1_listHands_18 g t Post K10 (J50 g t S0 K)) (I_h18 g t S0 y K10) (fun K hK => s_X1_listHands_18 B g t C R hK10 (hands50 B g t S0 C R hK)) ?_)
  rintro K n L st s ⟨S, k, hS, hn, rfl, rfl, rfl, hr⟩ hK
  simp only [wIload, wAload, wLload, wK, wB, wDv, wU, wLB, wLU, wLS, wL2i, wLcmp, wIf1, wIf2, wKeep, wInc, wIst, wAst, wLst, wDup, wPop, wDup2, wGet, wPut, wPutZ, wIald, wLald, wIast, wLast, wLen, wRetI, wRetZ, wRetL, wRetA, wRetV, wM1, wM2, wCpy, wTab, tabW, nth, stL, stL2, dropL, keepL, mkL, padL, restOK, restOKn, tl_some, tl_none, id_eq, eq_self, true_and, and_true, bk_X1_listHands_0, bk_X1_listHands_10, bk_X1_listHands_45, bk_X1_listHands_18, bk_X1_listHands_95, bk_X1_listHands_50, F_X2_handsLeft, F_X2_ofNeed, cf_RII_e, cf_RI_e, fg_S_S, fg_S_T, fg_T_S, fg_T_T, fe_S, fo_S, fe_T, fo_T, fTNn]
  have hb := clamp_lt (tNn (fT S0))
  unfold tNeeds at hn
  rcases Nat.lt_or_ge k (tNn (fT S0)).toNatClampNeg with hlt | hge
  · have h1 : ¬ tNn (fT S0) ≤ nI k := by rw [le_nI (by omega)]; omega
    obtain ⟨n, rfl⟩ : ∃ m, n = m + 1 := ⟨n - 1, by omega⟩
    rw [lhK_s] at hr
    have hj : ∀ hd : Int32, lhC (fT S0) (nI y) (nI k) = hd → J50 g t S0 K [some (.ref (g 16)), some (.ref (g t)), some (.int (nI y)), some (.int (nI k)), some (.int hd), some (.int 0)] [] (fsS S0 S) := by
      rintro hd rfl
      exact ⟨(y, k, lhC (fT S0) (nI y) (nI k)), (lhC (fT S0) (nI y) (nI k)).toNatClampNeg, S, 0, hS, Nat.add_zero _, rfl, rfl, rfl, hK n _ _ _ (by omega) ⟨_, k + 1, sPushN_ok _ _ _ hS, by unfold tNeeds; omega, rfl, rfl, rfl, hr⟩⟩
    by_cases ho : tOfN (fT S0) (nI k) 4 = nI y
    · have := hj (tHL (fT S0) (nI k)) (by unfold lhC; rw [if_pos ho])
      simp only [h1, ho, false_implies, true_implies, not_true_eq_false, not_false_eq_true, true_and, and_true, implies_true, eq_self, ne_eq, true_or, or_true, false_or, or_false, and_self]
      exact this
    · have := hj 0 (by unfold lhC; rw [if_neg ho])
      simp only [h1, ho, false_implies, true_implies, not_true_eq_false, not_false_eq_true, true_and, and_true, implies_true, eq_self, ne_eq, true_or, or_true, false_or, or_false, and_self]
      exact this
  · have h1 : tNn (fT S0) ≤ nI k := (le_nI (by omega)).mpr hge
    have h0 : n = 0 := by omega
    subst h0
    have hr : K10 [some (.ref (g 16)), some (.ref (g t)), some (.int (nI (y + 1))), none, none, none] [] (fsS S0 S) := hr
    rw [← nI_1] at hr
    simp only [h1, false_implies, true_implies, not_true_eq_false, not_false_eq_true, true_and, and_true, implies_true, eq_self, ne_eq, true_or, or_true, false_or, or_false, and_self]
    exact hr
def I_h10 (g : Nat → Nat) (t : Nat) (S0 : ET) (fin : SS) (n : Nat) (L : Lc) (st : List Value) (s : ET) : Prop := ∃ (S : SS) (y : Nat), sOkH S ∧ y < 1000 ∧ n = 10 - y ∧ st = [] ∧ s = fsS S0 S ∧ L = [some (.ref (g 16)), some (.ref (g t)), some (.int (nI y)), none, none, none] ∧ lhY (fT S0) y n S = fin
theorem k_X1_listHands (B : Bx) (g : Nat → Nat) (t : Nat) : MtF (gx B) yX1_listHands wsX1_listHands (rmD 2) (encST B g t) (F_X1_listHands g t) := by
  refine cf_RR_i (fun l S0 hp => ?_)
  generalize hfin : sList (fT S0) (fS S0) = fin
  refine Mt.of (P := bk_X1_listHands_0 g t (LPost S0 fin) (fun L st s => ∃ n, I_h10 g t S0 fin n L st s)) (by decide) rfl (Nat.le_of_ble_eq_true rfl) rfl (fun X C R => s_X1_listHands_0 B g t C R (snd_loop (fun K => bk_X1_listHands_10 g t (LPost S0 fin) (J18 g t S0 K)) (I_h10 g t S0 fin) (fun K hK => s_X1_listHands_10 B g t C R (hands18 B g t S0 C R hK)) ?_)) ?_
  · rintro K n L st s ⟨S, y, hS, hy, hn, rfl, rfl, rfl, hf⟩ hK
    simp only [wIload, wAload, wLload, wK, wB, wDv, wU, wLB, wLU, wLS, wL2i, wLcmp, wIf1, wIf2, wKeep, wInc, wIst, wAst, wLst, wDup, wPop, wDup2, wGet, wPut, wPutZ, wIald, wLald, wIast, wLast, wLen, wRetI, wRetZ, wRetL, wRetA, wRetV, wM1, wM2, wCpy, wTab, tabW, nth, stL, stL2, dropL, keepL, mkL, padL, restOK, restOKn, tl_some, tl_none, id_eq, eq_self, true_and, and_true, bk_X1_listHands_0, bk_X1_listHands_10, bk_X1_listHands_45, bk_X1_listHands_18, bk_X1_listHands_95, bk_X1_listHands_50, F_X2_handsLeft, F_X2_ofNeed, cf_RII_e, cf_RI_e, LPost]
    rcases Nat.lt_or_ge y 10 with hlt | hge
    · have h1 : ¬ (9 : Int32) < nI y := Int32.not_lt.mpr (nI_le (b := 9) (a := y) (by omega) (by decide))
      obtain ⟨n, rfl⟩ : ∃ m, n = m + 1 := ⟨n - 1, by omega⟩
      rw [lhY_s] at hf
      simp only [h1, false_implies, true_implies, not_true_eq_false, not_false_eq_true, true_and, and_true, implies_true, eq_self, ne_eq, true_or, or_true, false_or, or_false, and_self]
      exact ⟨y, tNeeds (fT S0), S, 0, hS, Nat.add_zero _, rfl, rfl, rfl, hK n _ _ _ (by omega) ⟨_, y + 1, lhK_ok _ _ _ _ _ hS, by omega, by omega, rfl, rfl, rfl, hf⟩⟩
    · have h1 : (9 : Int32) < nI y := Int32.not_le.mp (nI_ge (a := 9) (b := y) (by omega) (by omega))
      have h0 : n = 0 := by omega
      subst h0
      have hf : S = fin := hf
      subst hf
      simp only [h1, false_implies, true_implies, not_true_eq_false, not_false_eq_true, true_and, and_true, implies_true, eq_self, ne_eq, true_or, or_true, false_or, or_false, and_self]
  · simp only [wIload, wAload, wLload, wK, wB, wDv, wU, wLB, wLU, wLS, wL2i, wLcmp, wIf1, wIf2, wKeep, wInc, wIst, wAst, wLst, wDup, wPop, wDup2, wGet, wPut, wPutZ, wIald, wLald, wIast, wLast, wLen, wRetI, wRetZ, wRetL, wRetA, wRetV, wM1, wM2, wCpy, wTab, tabW, nth, stL, stL2, dropL, keepL, mkL, padL, restOK, restOKn, tl_some, tl_none, id_eq, eq_self, true_and, and_true, bk_X1_listHands_0, bk_X1_listHands_10, bk_X1_listHands_45, bk_X1_listHands_18, bk_X1_listHands_95, bk_X1_listHands_50, F_X2_handsLeft, F_X2_ofNeed, cf_RII_e, cf_RI_e, fTYr, fsSHd]
    obtain ⟨a, ha, e⟩ := hp
    have c0 : (nI a).toNatClampNeg = a := nI_clamp (by omega)
    unfold sList at hfin
    rw [e, c0] at hfin
    exact ⟨10 - a, _, a, ⟨0, by omega, rfl⟩, ha, rfl, rfl, rfl, by rw [show tYr (fT (fsS S0 (esHd (fS S0) 0))) = nI a from e], hfin⟩
end
