noncomputable section
def chR (ri i : Nat) : Int32 := (bytS.getD ri []).getD i 0
def lFits (S : LtS) (ri i : Nat) (p : Int32) : Bool := if chR ri i = 100 then lDig S p else decide (lLet S p = chR ri i)
def lIn (S : LtS) (ri : Nat) : Nat → Nat → Nat → Bool × Nat
  | _, 0, p => (true, p)
  | i, m + 1, p => if lFits S ri i (nI (p + 1)) = true then lIn S ri (i + 1) m (p + 1) else (false, p + 1)
theorem lIn_s (S : LtS) (ri i m p : Nat) : lIn S ri i (m + 1) p = if lFits S ri i (nI (p + 1)) = true then lIn S ri (i + 1) m (p + 1) else (false, p + 1) := rfl
def lFl (S : LtS) : Nat → Nat → Int32
  | 0, _ => 0
  | m + 1, p => if lRi S (nI p) = 4 then -1000 - nI p else if (lIn S (lRi S (nI p)) 0 (lenS.getD (lRi S (nI p)) 0) p).1 = false then -1000 - nI (lIn S (lRi S (nI p)) 0 (lenS.getD (lRi S (nI p)) 0) p).2 else if lLn S ≤ nI ((lIn S (lRi S (nI p)) 0 (lenS.getD (lRi S (nI p)) 0) p).2 + 1) then 0 else lFl S m ((lIn S (lRi S (nI p)) 0 (lenS.getD (lRi S (nI p)) 0) p).2 + 1)
theorem lFl_s (S : LtS) (m p : Nat) : lFl S (m + 1) p = if lRi S (nI p) = 4 then -1000 - nI p else if (lIn S (lRi S (nI p)) 0 (lenS.getD (lRi S (nI p)) 0) p).1 = false then -1000 - nI (lIn S (lRi S (nI p)) 0 (lenS.getD (lRi S (nI p)) 0) p).2 else if lLn S ≤ nI ((lIn S (lRi S (nI p)) 0 (lenS.getD (lRi S (nI p)) 0) p).2 + 1) then 0 else lFl S m ((lIn S (lRi S (nI p)) 0 (lenS.getD (lRi S (nI p)) 0) p).2 + 1) := rfl
theorem lRi_lt (S : LtS) (p : Int32) : lRi S p < 5 := by unfold lRi; split <;> (try split) <;> (try split) <;> omega
theorem len_4 : ∀ i, i < 5 → (lenS.getD i 0 = 0 ↔ i = 4) := by decide
def F_X0_fault (g : Nat → Nat) : CF LtS := cf_R (g 22) (fun _ => True) (fun S => some (.int (lFl S 64 0))) (fun S => S)
theorem inw_X0_fault_X0 : ∀ w ∈ u_ws RX0 TX0 2, w ∈ wsX0_fault := by decide +kernel
def bk_X0_fault_0 (B : Bx) (g : Nat → Nat) (Post : Option Value → LtS → Prop) (K4 : PT LtS) (L : Lc) (st : List Value) (s : LtS) : Prop :=
  (wK (.int 0) <| wIst 1 <| wK (.int 0) <| wIst 2 <| wKeep [true, true, true, false, false, false] K4) L st s
set_option maxRecDepth 20000 in
theorem s_X0_fault_0 {X : Cx} (B : Bx) (g : Nat → Nat) {Post : Option Value → LtS → Prop} (C : OkX X (gx B) cX0_fault 6 wsX0_fault RX0 (rmD 4)) (R : RtX X (gx B) (some .int) (encL B g) Post) {K4 : PT LtS} (hK4 : Snd X (gx B) 6 (encL B g) 4 K4) : Snd X (gx B) 6 (encL B g) 0 (bk_X0_fault_0 B g Post K4) := by
  unfold bk_X0_fault_0
  refine s_iconst C (by decide) dX0_fault_0 ?_
  refine s_istore_n C rfl (by decide) dX0_fault_1 ?_
  refine s_iconst C (by decide) dX0_fault_2 ?_
  refine s_istore_n C rfl (by decide) dX0_fault_3 ?_
  exact s_keep _ hK4
def bk_X0_fault_4 (B : Bx) (g : Nat → Nat) (Post : Option Value → LtS → Prop) (K32 : PT LtS) (L : Lc) (st : List Value) (s : LtS) : Prop :=
  (wIload 2 <| wK (.int 64) <| wIf2 (fun x y => y ≤ x) (wK (.int 0) <| wRetI Post) (wAload 0 <| wIload 1 <| wCallR 2 (F_X0_restOf B g) id (fun _ u => u) <| wAst 3 <| wAload 3 <| wStr 1 (F_J0_isEmpty_aae02 B) <| wIf1 (fun x => x = 0) (wK (.int 0) <| wIst 4 <| wKeep [true, true, true, true, true, false] K32) (wK (.int (-1000)) <| wIload 1 <| wB (fun x y => x - y) <| wRetI Post))) L st s
set_option maxRecDepth 20000 in
theorem s_X0_fault_4 {X : Cx} (B : Bx) (g : Nat → Nat) {Post : Option Value → LtS → Prop} (C : OkX X (gx B) cX0_fault 6 wsX0_fault RX0 (rmD 4)) (R : RtX X (gx B) (some .int) (encL B g) Post) {K32 : PT LtS} (hK32 : Snd X (gx B) 6 (encL B g) 32 K32) : Snd X (gx B) 6 (encL B g) 4 (bk_X0_fault_4 B g Post K32) := by
  unfold bk_X0_fault_4
  refine s_iload_n C rfl dX0_fault_4 ?_
  refine s_bipush C (by decide) dX0_fault_5 ?_
  refine s_icmp_ge C (tgt := 120) (by decide) dX0_fault_7 ?_ ?_
  · refine s_iconst C (by decide) dX0_fault_120 ?_
    exact s_iret C R dX0_fault_121
  · refine s_aload_n C rfl dX0_fault_10 ?_
    refine s_iload_n C rfl dX0_fault_11 ?_
    refine s_callV C (fr_L_L B g) (k_X0_restOf B g) gX0_fault_X0_restOf rfl (by decide +kernel) ⟨rfl, rfl⟩ (by decide) rfl (fun s => ⟨_, heL_0 B g s⟩) (cf_RI_r _ _ _ _) dX0_fault_12 ?_
    refine s_astore_n C rfl (by decide) dX0_fault_15 ?_
    refine s_aload_n C rfl dX0_fault_16 ?_
    refine s_strK C (fr_L_E B g) (k_J0_isEmpty_aae02 B) gX0_fault_J0_isEmpty_aae02 rfl (by decide +kernel) ⟨rfl, rfl⟩ (by decide) (hK_J0_isEmpty_aae02 B) dX0_fault_17 ?_
    refine s_if_eq C (tgt := 29) (by decide) dX0_fault_20 ?_ ?_
    · refine s_iconst C (by decide) dX0_fault_29 ?_
      refine s_istore C (by decide) dX0_fault_30 ?_
      exact s_keep _ hK32
    · refine s_sipush C (by decide) dX0_fault_23 ?_
      refine s_iload_n C rfl dX0_fault_26 ?_
      refine s_isub C dX0_fault_27 ?_
      exact s_iret C R dX0_fault_28
def bk_X0_fault_82 (B : Bx) (g : Nat → Nat) (Post : Option Value → LtS → Prop) (K32 : PT LtS) (L : Lc) (st : List Value) (s : LtS) : Prop :=
  (wIst 5 <| wIload 5 <| wIf1 (fun x => x = 0) (wK (.int (-1000)) <| wIload 1 <| wB (fun x y => x - y) <| wRetI Post) (wInc 4 1 <| wKeep [true, true, true, true, true, false] K32)) L st s
set_option maxRecDepth 20000 in
theorem s_X0_fault_82 {X : Cx} (B : Bx) (g : Nat → Nat) {Post : Option Value → LtS → Prop} (C : OkX X (gx B) cX0_fault 6 wsX0_fault RX0 (rmD 4)) (R : RtX X (gx B) (some .int) (encL B g) Post) {K32 : PT LtS} (hK32 : Snd X (gx B) 6 (encL B g) 32 K32) : Snd X (gx B) 6 (encL B g) 82 (bk_X0_fault_82 B g Post K32) := by
  unfold bk_X0_fault_82
  refine s_istore C (by decide) dX0_fault_82 ?_
  refine s_iload C dX0_fault_84 ?_
  refine s_if_ne C (tgt := 95) (by decide) dX0_fault_86 ?_ ?_
  · refine s_iinc C (by decide) (by decide) dX0_fault_95 ?_
    refine s_goto C (tgt := 32) (by decide) dX0_fault_98 ?_
    exact s_keep _ hK32
  · refine s_sipush C (by decide) dX0_fault_89 ?_
    refine s_iload_n C rfl dX0_fault_92 ?_
    refine s_isub C dX0_fault_93 ?_
    exact s_iret C R dX0_fault_94
def bk_X0_fault_32 (B : Bx) (g : Nat → Nat) (Post : Option Value → LtS → Prop) (K4 : PT LtS) (K32 : PT LtS) (L : Lc) (st : List Value) (s : LtS) : Prop :=
  (wIload 4 <| wAload 3 <| wStr 1 (F_J0_length_8abf5 B) <| wIf2 (fun x y => y ≤ x) (wInc 1 1 <| wIload 1 <| wAload 0 <| wGet (g 22) (fun s => .int (lLn s)) <| wIf2 (fun x y => x < y) (wInc 2 1 <| wKeep [true, true, true, false, false, false] K4) (wK (.int 0) <| wRetI Post)) (wInc 1 1 <| wAload 3 <| wIload 4 <| wStr 2 (F_J0_charAt_5068e B) <| wK (.int 100) <| wIf2 (fun x y => x = y) (wAload 0 <| wIload 1 <| wCallR 2 (F_X0_isDigit g) id (fun _ u => u) <| bk_X0_fault_82 B g Post K32) (wAload 0 <| wIload 1 <| wCallR 2 (F_X0_letterAt g) id (fun _ u => u) <| wAload 3 <| wIload 4 <| wStr 2 (F_J0_charAt_5068e B) <| wIf2 (fun x y => x = y) (wK (.int 1) <| bk_X0_fault_82 B g Post K32) (wK (.int 0) <| bk_X0_fault_82 B g Post K32)))) L st s
set_option maxRecDepth 20000 in
theorem s_X0_fault_32 {X : Cx} (B : Bx) (g : Nat → Nat) {Post : Option Value → LtS → Prop} (C : OkX X (gx B) cX0_fault 6 wsX0_fault RX0 (rmD 4)) (R : RtX X (gx B) (some .int) (encL B g) Post) {K4 : PT LtS} (hK4 : Snd X (gx B) 6 (encL B g) 4 K4) {K32 : PT LtS} (hK32 : Snd X (gx B) 6 (encL B g) 32 K32) : Snd X (gx B) 6 (encL B g) 32 (bk_X0_fault_32 B g Post K4 K32) := by
  unfold bk_X0_fault_32
  refine s_iload C dX0_fault_32 ?_
  refine s_aload_n C rfl dX0_fault_34 ?_
  refine s_strK C (fr_L_E B g) (k_J0_length_8abf5 B) gX0_fault_J0_length_8abf5 rfl (by decide +kernel) ⟨rfl, rfl⟩ (by decide) (hK_J0_length_8abf5 B) dX0_fault_35 ?_
  refine s_icmp_ge C (tgt := 101) (by decide) dX0_fault_38 ?_ ?_
  · refine s_iinc C (by decide) (by decide) dX0_fault_101 ?_
    refine s_iload_n C rfl dX0_fault_104 ?_
    refine s_aload_n C rfl dX0_fault_105 ?_
    refine s_get C inw_X0_fault_X0 rfl (k := 1) (by decide) (by decide +kernel) (heL_0 B g) (fun _ => rfl) dX0_fault_106 ?_
    refine s_icmp_lt C (tgt := 114) (by decide) dX0_fault_109 ?_ ?_
    · refine s_iinc C (by decide) (by decide) dX0_fault_114 ?_
      refine s_goto C (tgt := 4) (by decide) dX0_fault_117 ?_
      exact s_keep _ hK4
    · refine s_iconst C (by decide) dX0_fault_112 ?_
      exact s_iret C R dX0_fault_113
  · refine s_iinc C (by decide) (by decide) dX0_fault_41 ?_
    refine s_aload_n C rfl dX0_fault_44 ?_
    refine s_iload C dX0_fault_45 ?_
    refine s_strK C (fr_L_E B g) (k_J0_charAt_5068e B) gX0_fault_J0_charAt_5068e rfl (by decide +kernel) ⟨rfl, rfl⟩ (by decide) (hK_J0_charAt_5068e B) dX0_fault_47 ?_
    refine s_bipush C (by decide) dX0_fault_50 ?_
    refine s_icmp_ne C (tgt := 63) (by decide) dX0_fault_52 ?_ ?_
    · refine s_aload_n C rfl dX0_fault_63 ?_
      refine s_iload_n C rfl dX0_fault_64 ?_
      refine s_callV C (fr_L_L B g) (k_X0_letterAt B g) gX0_fault_X0_letterAt rfl (by decide +kernel) ⟨rfl, rfl⟩ (by decide) rfl (fun s => ⟨_, heL_0 B g s⟩) (cf_RI_r _ _ _ _) dX0_fault_65 ?_
      refine s_aload_n C rfl dX0_fault_68 ?_
      refine s_iload C dX0_fault_69 ?_
      refine s_strK C (fr_L_E B g) (k_J0_charAt_5068e B) gX0_fault_J0_charAt_5068e rfl (by decide +kernel) ⟨rfl, rfl⟩ (by decide) (hK_J0_charAt_5068e B) dX0_fault_71 ?_
      refine s_icmp_ne C (tgt := 81) (by decide) dX0_fault_74 ?_ ?_
      · refine s_iconst C (by decide) dX0_fault_81 ?_
        exact s_X0_fault_82 B g C R hK32
      · refine s_iconst C (by decide) dX0_fault_77 ?_
        refine s_goto C (tgt := 82) (by decide) dX0_fault_78 ?_
        exact s_X0_fault_82 B g C R hK32
    · refine s_aload_n C rfl dX0_fault_55 ?_
      refine s_iload_n C rfl dX0_fault_56 ?_
      refine s_callV C (fr_L_L B g) (k_X0_isDigit B g) gX0_fault_X0_isDigit rfl (by decide +kernel) ⟨rfl, rfl⟩ (by decide) rfl (fun s => ⟨_, heL_0 B g s⟩) (cf_RI_r _ _ _ _) dX0_fault_57 ?_
      refine s_goto C (tgt := 82) (by decide) dX0_fault_60 ?_
      exact s_X0_fault_82 B g C R hK32
abbrev FPost (S : LtS) (fin : Int32) : Option Value → LtS → Prop := fun o u => o = some (.int fin) ∧ u = S
def I_f32 (B : Bx) (g : Nat → Nat) (S : LtS) (fin : Int32) (K : PT LtS) (n : Nat) (L : Lc) (st : List Value) (s : LtS) : Prop := ∃ p stm ri i : Nat, n + i = lenS.getD ri 0 ∧ ri < 5 ∧ st = [] ∧ s = S ∧ L = [some (.ref (g 22)), some (.int (nI p)), some (.int (nI stm)), some (.ref (aK B ri)), some (.int (nI i)), none] ∧
  ∀ r, lIn S ri i n p = r → (r.1 = false → -1000 - nI r.2 = fin) ∧ (r.1 = true → (lLn S ≤ nI (r.2 + 1) → 0 = fin) ∧ (¬ lLn S ≤ nI (r.2 + 1) → K [some (.ref (g 22)), some (.int (nI (r.2 + 1))), some (.int (nI (stm + 1))), none, none, none] [] S))
def I_f4 (g : Nat → Nat) (S : LtS) (fin : Int32) (n : Nat) (L : Lc) (st : List Value) (s : LtS) : Prop := ∃ p stm : Nat, n + stm = 64 ∧ st = [] ∧ s = S ∧ L = [some (.ref (g 22)), some (.int (nI p)), some (.int (nI stm)), none, none, none] ∧ lFl S n p = fin
theorem fault32 {X : Cx} (B : Bx) (g : Nat → Nat) (S : LtS) (fin : Int32) (C : OkX X (gx B) cX0_fault 6 wsX0_fault RX0 (rmD 4)) (R : RtX X (gx B) (some .int) (encL B g) (FPost S fin)) {K4 : PT LtS} (hK4 : Snd X (gx B) 6 (encL B g) 4 K4) : Snd X (gx B) 6 (encL B g) 32 (fun L st s => ∃ n, I_f32 B g S fin K4 n L st s) := by
  refine snd_loop _ (I_f32 B g S fin K4) (fun K hK => s_X0_fault_32 B g C R hK4 hK) ?_
  rintro K n L st s ⟨p, stm, ri, i, hn, hri, rfl, rfl, rfl, hr⟩ hK
  have hL := lenS_lt ri hri
  simp only [wIload, wAload, wLload, wK, wB, wDv, wU, wLB, wLU, wLS, wL2i, wLcmp, wIf1, wIf2, wKeep, wInc, wIst, wAst, wLst, wDup, wPop, wDup2, wGet, wPut, wPutZ, wIald, wLald, wIast, wLast, wLen, wRetI, wRetZ, wRetL, wRetA, wRetV, wM1, wM2, wCpy, wTab, tabW, nth, stL, stL2, dropL, keepL, mkL, padL, restOK, restOKn, tl_some, tl_none, id_eq, eq_self, true_and, and_true, bk_X0_fault_0, bk_X0_fault_4, bk_X0_fault_82, bk_X0_fault_32, F_J0_charAt_5068e, F_J0_isEmpty_aae02, F_J0_length_8abf5, F_X0_isDigit, F_X0_letterAt, F_X0_restOf, cf_RI_e, cf_R_e, b2i_eq0, wStr, F_J0_length_8abf5, F_J0_charAt_5068e]
  refine ⟨ri, hri, rfl, ?_⟩
  rcases Nat.lt_or_ge i (lenS.getD ri 0) with hlt | hge
  · have h1 : ¬ nI (lenS.getD ri 0) ≤ nI i := nI_ge hlt hL
    have c0 : (nI i).toNatClampNeg = i := nI_clamp (by omega)
    obtain ⟨n, rfl⟩ : ∃ m, n = m + 1 := ⟨n - 1, by omega⟩
    simp only [h1, c0, false_implies, true_implies, not_true_eq_false, not_false_eq_true, true_and, and_true, implies_true, eq_self, ne_eq, true_or, or_true, false_or, or_false, and_self]
    rw [nI_1]
    refine ⟨ri, hri, ⟨rfl, i, hlt, rfl⟩, ?_⟩
    have hc : lFits s ri i (nI (p + 1)) = true → K [some (.ref (g 22)), some (.int (nI (p + 1))), some (.int (nI stm)), some (.ref (aK B ri)), some (.int (nI i + 1)), none] [] s := fun h => by
      rw [nI_1]
      exact hK n _ _ _ (by omega) ⟨p + 1, stm, ri, i + 1, by omega, hri, rfl, rfl, rfl, fun r hr2 => hr r (by rw [lIn_s, if_pos h]; exact hr2)⟩
    have hx : lFits s ri i (nI (p + 1)) = false → -1000 - nI (p + 1) = fin := fun h => (hr (false, p + 1) (by rw [lIn_s, if_neg (by rw [h]; exact Bool.noConfusion)])).1 rfl
    refine ⟨fun h => ?_, fun h => ?_⟩
    · have e : lFits s ri i (nI (p + 1)) = lDig s (nI (p + 1)) := by unfold lFits chR; rw [if_pos h]
      rw [e] at hc hx
      exact ⟨fun z => by rw [hx z]; first | exact ⟨rfl, rfl⟩ | trivial, fun z => hc (by simpa using z)⟩
    · refine ⟨ri, hri, ⟨rfl, i, hlt, rfl⟩, ?_⟩
      have e : lFits s ri i (nI (p + 1)) = decide (lLet s (nI (p + 1)) = chR ri i) := by unfold lFits; rw [if_neg (show ¬ chR ri i = 100 from h)]
      rw [e] at hc hx
      have d1 : ¬ (1 : Int32) = 0 := by decide
      refine ⟨fun z => ?_, fun z => ?_⟩
      · have hc := hc (decide_eq_true z)
        simp only [d1, false_implies, true_implies, not_true_eq_false, not_false_eq_true, true_and, and_true, implies_true, eq_self, ne_eq, true_or, or_true, false_or, or_false, and_self]
        exact hc
      · have hx := hx (decide_eq_false z)
        try simp only [false_implies, true_implies, not_true_eq_false, not_false_eq_true, true_and, and_true, implies_true, eq_self, ne_eq, true_or, or_true, false_or, or_false, and_self]
        rw [hx]
        first | exact ⟨rfl, rfl⟩ | trivial
  · have h1 : nI (lenS.getD ri 0) ≤ nI i := nI_le hge (by omega)
    have h0 : n = 0 := by omega
    subst h0
    have hr := (hr (true, p) rfl).2 rfl
    simp only [h1, false_implies, true_implies, not_true_eq_false, not_false_eq_true, true_and, and_true, implies_true, eq_self, ne_eq, true_or, or_true, false_or, or_false, and_self]
    rw [nI_1, nI_1]
    by_cases h2 : lLn s ≤ nI (p + 1)
    · have h3 : ¬ nI (p + 1) < lLn s := Int32.not_lt.mpr h2
      have := hr.1 h2
      simp only [h3, this, false_implies, true_implies, not_true_eq_false, not_false_eq_true, true_and, and_true, implies_true, eq_self, ne_eq, true_or, or_true, false_or, or_false, and_self]
      exact ⟨rfl, rfl⟩
    · have h3 : nI (p + 1) < lLn s := Int32.not_le.mp h2
      have := hr.2 h2
      simp only [h3, false_implies, true_implies, not_true_eq_false, not_false_eq_true, true_and, and_true, implies_true, eq_self, ne_eq, true_or, or_true, false_or, or_false, and_self]
      exact this
theorem k_X0_fault (B : Bx) (g : Nat → Nat) : MtF (gx B) yX0_fault wsX0_fault (rmD 4) (encL B g) (F_X0_fault g) := by
  refine cf_R_i (fun l S _ => ?_)
  generalize hfin : lFl S 64 0 = fin
  refine Mt.of (P := bk_X0_fault_0 B g (FPost S fin) (fun L st s => ∃ n, I_f4 g S fin n L st s)) (by decide) rfl (Nat.le_of_ble_eq_true rfl) rfl (fun X C R => s_X0_fault_0 B g C R (snd_loop (fun K => bk_X0_fault_4 B g (FPost S fin) (fun L st s => ∃ n, I_f32 B g S fin K n L st s)) (I_f4 g S fin) (fun K hK => s_X0_fault_4 B g C R (fault32 B g S fin C R hK)) ?_)) ?_
  · rintro K n L st s ⟨p, stm, hn, rfl, rfl, rfl, hf⟩ hK
    simp only [wIload, wAload, wLload, wK, wB, wDv, wU, wLB, wLU, wLS, wL2i, wLcmp, wIf1, wIf2, wKeep, wInc, wIst, wAst, wLst, wDup, wPop, wDup2, wGet, wPut, wPutZ, wIald, wLald, wIast, wLast, wLen, wRetI, wRetZ, wRetL, wRetA, wRetV, wM1, wM2, wCpy, wTab, tabW, nth, stL, stL2, dropL, keepL, mkL, padL, restOK, restOKn, tl_some, tl_none, id_eq, eq_self, true_and, and_true, bk_X0_fault_0, bk_X0_fault_4, bk_X0_fault_82, bk_X0_fault_32, F_J0_charAt_5068e, F_J0_isEmpty_aae02, F_J0_length_8abf5, F_X0_isDigit, F_X0_letterAt, F_X0_restOf, cf_RI_e, cf_R_e, b2i_eq0, wStr, F_J0_isEmpty_aae02]
    rcases Nat.lt_or_ge stm 64 with hlt | hge
    · have h1 : ¬ (64 : Int32) ≤ nI stm := nI_ge (a := stm) (b := 64) hlt (by decide)
      obtain ⟨n, rfl⟩ : ∃ m, n = m + 1 := ⟨n - 1, by omega⟩
      rw [lFl_s] at hf
      have hri := lRi_lt s (nI p)
      generalize hq : lRi s (nI p) = ri at hf hri ⊢
      simp only [h1, false_implies, true_implies, not_true_eq_false, not_false_eq_true, true_and, and_true, implies_true, eq_self, ne_eq, true_or, or_true, false_or, or_false, and_self]
      refine ⟨ri, hri, rfl, ?_⟩
      by_cases h4 : ri = 4
      · rw [if_pos h4] at hf
        have h0 : lenS.getD ri 0 = 0 := (len_4 ri hri).mpr h4
        have d1 : ¬ (1 : Int32) = 0 := by decide
        simp only [h0, if_true]
        refine ⟨fun h => absurd h d1, fun _ => ?_⟩
        rw [hf]
        exact ⟨rfl, rfl⟩
      · rw [if_neg h4] at hf
        have h0 : ¬ lenS.getD ri 0 = 0 := fun z => h4 ((len_4 ri hri).mp z)
        simp only [h0, if_false]
        refine ⟨fun _ => ?_, fun h => absurd trivial h⟩
        refine ⟨lenS.getD ri 0, p, stm, ri, 0, rfl, hri, rfl, rfl, rfl, ?_⟩
        intro r hr
        rw [hr] at hf
        refine ⟨fun h => ?_, fun h => ⟨fun h2 => ?_, fun h2 => ?_⟩⟩
        · rw [if_pos h] at hf; exact hf
        · rw [if_neg (by rw [h]; exact Bool.noConfusion), if_pos h2] at hf; exact hf
        · rw [if_neg (by rw [h]; exact Bool.noConfusion), if_neg h2] at hf
          exact hK n _ _ _ (by omega) ⟨r.2 + 1, stm + 1, by omega, rfl, rfl, rfl, hf⟩
    · have h1 : (64 : Int32) ≤ nI stm := nI_le (a := 64) hge (by omega)
      have h0 : n = 0 := by omega
      subst h0
      have hf : 0 = fin := hf
      subst hf
      simp only [h1, false_implies, true_implies, not_true_eq_false, not_false_eq_true, true_and, and_true, implies_true, eq_self, ne_eq, true_or, or_true, false_or, or_false, and_self]
      all_goals first | exact ⟨rfl, rfl⟩ | trivial
  · simp only [wIload, wAload, wLload, wK, wB, wDv, wU, wLB, wLU, wLS, wL2i, wLcmp, wIf1, wIf2, wKeep, wInc, wIst, wAst, wLst, wDup, wPop, wDup2, wGet, wPut, wPutZ, wIald, wLald, wIast, wLast, wLen, wRetI, wRetZ, wRetL, wRetA, wRetV, wM1, wM2, wCpy, wTab, tabW, nth, stL, stL2, dropL, keepL, mkL, padL, restOK, restOKn, tl_some, tl_none, id_eq, eq_self, true_and, and_true, bk_X0_fault_0, bk_X0_fault_4, bk_X0_fault_82, bk_X0_fault_32, F_J0_charAt_5068e, F_J0_isEmpty_aae02, F_J0_length_8abf5, F_X0_isDigit, F_X0_letterAt, F_X0_restOf, cf_RI_e, cf_R_e]
    exact ⟨64, 0, 0, rfl, rfl, rfl, rfl, hfin⟩
end
