noncomputable section
theorem heLT_0 (B : Bx) (g : Nat → Nat) (t : Nat) : ∀ s : LT, (encLT B g t s)[0]? = some (g 22, .inr (0, [.ref (g 23), .int (mLLn s)])) := fun _ => rfl
theorem heLT_1 (B : Bx) (g : Nat → Nat) (t : Nat) : ∀ s : LT, (encLT B g t s)[1]? = some (g 23, .inl (B.2.1, 64, .inl (mLFd s))) := fun _ => rfl
theorem heLT_2 (B : Bx) (g : Nat → Nat) (t : Nat) : ∀ s : LT, (encLT B g t s)[2]? = some (g t, .inr (2, [.ref (g (t + 1)), .int (mTPp s), .ref (g (t + 2)), .int (mTNn s), .ref (g (t + 3)), .int (mTHh s), .ref (g (t + 4)), .int (mTYr s)])) := fun _ => rfl
theorem heLT_3 (B : Bx) (g : Nat → Nat) (t : Nat) : ∀ s : LT, (encLT B g t s)[3]? = some (g (t + 1), .inl (B.2.1, 42, .inl (mTPt s))) := fun _ => rfl
theorem heLT_4 (B : Bx) (g : Nat → Nat) (t : Nat) : ∀ s : LT, (encLT B g t s)[4]? = some (g (t + 2), .inl (B.2.1, 72, .inl (mTNt s))) := fun _ => rfl
theorem heLT_5 (B : Bx) (g : Nat → Nat) (t : Nat) : ∀ s : LT, (encLT B g t s)[5]? = some (g (t + 3), .inl (B.2.1, 1350, .inl (mTBt s))) := fun _ => rfl
theorem heLT_6 (B : Bx) (g : Nat → Nat) (t : Nat) : ∀ s : LT, (encLT B g t s)[6]? = some (g (t + 4), .inl (B.2.1, 4, .inl (mTSe s))) := fun _ => rfl
theorem s_look2 {σ : Type} {X : Cx} {G : Gx} {nL : Nat} {enc : σ → va_W} {cc : ByteArray} {Ts : List Cond} {own : String} {rm : Room} (C : OkX X G cc nL Ts own rm) {pc len : Nat} {dflt a1 o1 a2 o2 : Int} {k1 k2 : Int32} {P1 P2 D : PT σ} (t1 t2 t0 : Nat)
    (hd : decode cc pc = .ok (.lookupswitch dflt #[(a1, o1), (a2, o2)], len)) (h1 : k1.toInt = a1) (h2 : k2.toInt = a2) (hlt : a1 < a2) (e1 : (pc : Int) + o1 = (t1 : Int)) (e2 : (pc : Int) + o2 = (t2 : Int)) (e0 : (pc : Int) + dflt = (t0 : Int)) (hp1 : Snd X G nL enc t1 P1) (hp2 : Snd X G nL enc t2 P2) (hp0 : Snd X G nL enc t0 D) : Snd X G nL enc pc (wTab [(k1, P1), (k2, P2)] D) := by
  intro H locs ls L st s hl hP hD hS hw
  unfold wTab at hw
  split at hw
  · rename_i x r
    have hz : (([(a1, o1), (a2, o2)] : List (Int × Int)).zip (([(a1, o1), (a2, o2)] : List (Int × Int)).drop 1)).all (fun (a, next) => a.1 < next.1) = true := by simpa using hlt
    simp only [tabW] at hw
    by_cases c1 : x = k1
    · refine lv_lookup C.1 C.2.1 hd hz (off := o1) ?_ e1 (hp1 H locs ls L _ s hl hP hD hS (hw.1 c1))
      rw [c1]
      simp only [Op.lookupswitch.offset_cons]
      rw [if_pos h1.symm]
    · have hw := hw.2 c1
      by_cases c2 : x = k2
      · refine lv_lookup C.1 C.2.1 hd hz (off := o2) ?_ e2 (hp2 H locs ls L _ s hl hP hD hS (hw.1 c2))
        rw [show (#[(a1, o1), (a2, o2)] : Array (Int × Int)).toList = [(a1, o1), (a2, o2)] from rfl, lv_osw c1 h1, c2]
        simp only [Op.lookupswitch.offset_cons]
        rw [if_pos h2.symm]
      · refine lv_lookup C.1 C.2.1 hd hz (off := dflt) ?_ e0 (hp0 H locs ls L _ s hl hP hD hS (hw.2 c2))
        rw [show (#[(a1, o1), (a2, o2)] : Array (Int × Int)).toList = [(a1, o1), (a2, o2)] from rfl, lv_osw c1 h1, lv_osw c2 h2]
        rfl
  · exact hw.elim
def lV (S : LtS) (p w : Int32) : Int32 := lDg S (p + 1 + w)
def lawOk (S : LtS) (p : Int32) (k : Nat) : Bool := !decide (lV S p (nI k) < (if nI k = 1 then 1 else 0)) && !decide ((if nI k = 0 then 3 else 9) < lV S p (nI k))
def lawT (S : LtS) (p : Int32) (T : TS) : Nat → TS
  | 0 => T
  | k + 1 => tSettle (lawT S p T k) (nI k) (lV S p (nI k))
def lawAll (S : LtS) (p : Int32) : Bool := (List.range 3).all (fun k => lawOk S p k)
def F_X0_tellLaw (g : Nat → Nat) (t : Nat) : CF LT := cf_RRI (g 22) (g t) (fun _ _ => True) (fun S p => some (.int (b2i (lawAll (mL S) p)))) (fun S p => if lawAll (mL S) p = true then msT S (lawT (mL S) p (mT S) 3) else S)
theorem inw_X0_tellLaw_X0 : ∀ w ∈ u_ws RX0 TX0 2, w ∈ wsX0_tellLaw := by decide +kernel
def bk_X0_tellLaw_0 (g : Nat → Nat) (t : Nat) (Post : Option Value → LT → Prop) (K2 : PT LT) (L : Lc) (st : List Value) (s : LT) : Prop :=
  (wK (.int 0) <| wIst 3 <| wKeep [true, true, true, true, false] K2) L st s
set_option maxRecDepth 20000 in
theorem s_X0_tellLaw_0 {X : Cx} (B : Bx) (g : Nat → Nat) (t : Nat) {Post : Option Value → LT → Prop} (C : OkX X (gx B) cX0_tellLaw 5 wsX0_tellLaw RX0 (rmD 3)) (R : RtX X (gx B) (some .boolean) (encLT B g t) Post) {K2 : PT LT} (hK2 : Snd X (gx B) 5 (encLT B g t) 2 K2) : Snd X (gx B) 5 (encLT B g t) 0 (bk_X0_tellLaw_0 g t Post K2) := by
  unfold bk_X0_tellLaw_0
  refine s_iconst C (by decide) dX0_tellLaw_0 ?_
  refine s_istore_n C rfl (by decide) dX0_tellLaw_1 ?_
  exact s_keep _ hK2
def bk_X0_tellLaw_36 (g : Nat → Nat) (t : Nat) (Post : Option Value → LT → Prop)  (L : Lc) (st : List Value) (s : LT) : Prop :=
  (wK (.int 0) <| wRetZ Post) L st s
set_option maxRecDepth 20000 in
theorem s_X0_tellLaw_36 {X : Cx} (B : Bx) (g : Nat → Nat) (t : Nat) {Post : Option Value → LT → Prop} (C : OkX X (gx B) cX0_tellLaw 5 wsX0_tellLaw RX0 (rmD 3)) (R : RtX X (gx B) (some .boolean) (encLT B g t) Post)  : Snd X (gx B) 5 (encLT B g t) 36 (bk_X0_tellLaw_36 g t Post ) := by
  unfold bk_X0_tellLaw_36
  refine s_iconst C (by decide) dX0_tellLaw_36 ?_
  exact s_zret C R dX0_tellLaw_37
def bk_X0_tellLaw_2 (g : Nat → Nat) (t : Nat) (Post : Option Value → LT → Prop) (K2 : PT LT) (K46 : PT LT) (L : Lc) (st : List Value) (s : LT) : Prop :=
  (wIload 3 <| wK (.int 2) <| wIf2 (fun x y => y < x) (wK (.int 0) <| wIst 3 <| wKeep [true, true, true, true, false] K46) (wAload 0 <| wIload 2 <| wK (.int 1) <| wB (fun x y => x + y) <| wIload 3 <| wB (fun x y => x + y) <| wCallR 2 (F_X0_digit g) mL msL <| wIst 4 <| wIload 4 <| wIload 3 <| wCallR 1 (F_X3_leastSetting) (fun _ => ()) (fun s _ => s) <| wIf2 (fun x y => x < y) (bk_X0_tellLaw_36 g t Post ) (wIload 4 <| wIload 3 <| wCallR 1 (F_X3_greatestSetting) (fun _ => ()) (fun s _ => s) <| wIf2 (fun x y => x ≤ y) (wInc 3 1 <| wKeep [true, true, true, true, false] K2) (bk_X0_tellLaw_36 g t Post )))) L st s
set_option maxRecDepth 20000 in
theorem s_X0_tellLaw_2 {X : Cx} (B : Bx) (g : Nat → Nat) (t : Nat) {Post : Option Value → LT → Prop} (C : OkX X (gx B) cX0_tellLaw 5 wsX0_tellLaw RX0 (rmD 3)) (R : RtX X (gx B) (some .boolean) (encLT B g t) Post) {K2 : PT LT} (hK2 : Snd X (gx B) 5 (encLT B g t) 2 K2) {K46 : PT LT} (hK46 : Snd X (gx B) 5 (encLT B g t) 46 K46) : Snd X (gx B) 5 (encLT B g t) 2 (bk_X0_tellLaw_2 g t Post K2 K46) := by
  unfold bk_X0_tellLaw_2
  refine s_iload_n C rfl dX0_tellLaw_2 ?_
  refine s_iconst C (by decide) dX0_tellLaw_3 ?_
  refine s_icmp_gt C (tgt := 44) (by decide) dX0_tellLaw_4 ?_ ?_
  · refine s_iconst C (by decide) dX0_tellLaw_44 ?_
    refine s_istore_n C rfl (by decide) dX0_tellLaw_45 ?_
    exact s_keep _ hK46
  · refine s_aload_n C rfl dX0_tellLaw_7 ?_
    refine s_iload_n C rfl dX0_tellLaw_8 ?_
    refine s_iconst C (by decide) dX0_tellLaw_9 ?_
    refine s_iadd C dX0_tellLaw_10 ?_
    refine s_iload_n C rfl dX0_tellLaw_11 ?_
    refine s_iadd C dX0_tellLaw_12 ?_
    refine s_callV C (fr_LT_L B g t) (k_X0_digit B g) gX0_tellLaw_X0_digit rfl (by decide +kernel) ⟨rfl, rfl⟩ (by decide) rfl (fun s => ⟨_, heLT_0 B g t s⟩) (cf_RI_r _ _ _ _) dX0_tellLaw_13 ?_
    refine s_istore C (by decide) dX0_tellLaw_16 ?_
    refine s_iload C dX0_tellLaw_18 ?_
    refine s_iload_n C rfl dX0_tellLaw_20 ?_
    refine s_callSN C (fr_LT_E B g t) (k_X3_leastSetting B) gX0_tellLaw_X3_leastSetting_n88 (by decide +kernel) (by decide +kernel) (by decide +kernel) rfl (by decide +kernel) ⟨rfl, rfl⟩ (by decide) (cf_I_r _ _ _) dX0_tellLaw_21 ?_
    refine s_icmp_lt C (tgt := 36) (by decide) dX0_tellLaw_24 ?_ ?_
    · exact s_X0_tellLaw_36 B g t C R 
    · refine s_iload C dX0_tellLaw_27 ?_
      refine s_iload_n C rfl dX0_tellLaw_29 ?_
      refine s_callSN C (fr_LT_E B g t) (k_X3_greatestSetting B) gX0_tellLaw_X3_greatestSetting_n91 (by decide +kernel) (by decide +kernel) (by decide +kernel) rfl (by decide +kernel) ⟨rfl, rfl⟩ (by decide) (cf_I_r _ _ _) dX0_tellLaw_30 ?_
      refine s_icmp_le C (tgt := 38) (by decide) dX0_tellLaw_33 ?_ ?_
      · refine s_iinc C (by decide) (by decide) dX0_tellLaw_38 ?_
        refine s_goto C (tgt := 2) (by decide) dX0_tellLaw_41 ?_
        exact s_keep _ hK2
      · exact s_X0_tellLaw_36 B g t C R 
def bk_X0_tellLaw_46 (g : Nat → Nat) (t : Nat) (Post : Option Value → LT → Prop) (K46 : PT LT) (L : Lc) (st : List Value) (s : LT) : Prop :=
  (wIload 3 <| wK (.int 2) <| wIf2 (fun x y => y < x) (wK (.int 1) <| wRetZ Post) (wAload 1 <| wIload 3 <| wAload 0 <| wIload 2 <| wK (.int 1) <| wB (fun x y => x + y) <| wIload 3 <| wB (fun x y => x + y) <| wCallR 2 (F_X0_digit g) mL msL <| wCallR 3 (F_X2_settle g t) mT msT <| wInc 3 1 <| wKeep [true, true, true, true, false] K46)) L st s
set_option maxRecDepth 20000 in
theorem s_X0_tellLaw_46 {X : Cx} (B : Bx) (g : Nat → Nat) (t : Nat) {Post : Option Value → LT → Prop} (C : OkX X (gx B) cX0_tellLaw 5 wsX0_tellLaw RX0 (rmD 3)) (R : RtX X (gx B) (some .boolean) (encLT B g t) Post) {K46 : PT LT} (hK46 : Snd X (gx B) 5 (encLT B g t) 46 K46) : Snd X (gx B) 5 (encLT B g t) 46 (bk_X0_tellLaw_46 g t Post K46) := by
  unfold bk_X0_tellLaw_46
  refine s_iload_n C rfl dX0_tellLaw_46 ?_
  refine s_iconst C (by decide) dX0_tellLaw_47 ?_
  refine s_icmp_gt C (tgt := 71) (by decide) dX0_tellLaw_48 ?_ ?_
  · refine s_iconst C (by decide) dX0_tellLaw_71 ?_
    exact s_zret C R dX0_tellLaw_72
  · refine s_aload_n C rfl dX0_tellLaw_51 ?_
    refine s_iload_n C rfl dX0_tellLaw_52 ?_
    refine s_aload_n C rfl dX0_tellLaw_53 ?_
    refine s_iload_n C rfl dX0_tellLaw_54 ?_
    refine s_iconst C (by decide) dX0_tellLaw_55 ?_
    refine s_iadd C dX0_tellLaw_56 ?_
    refine s_iload_n C rfl dX0_tellLaw_57 ?_
    refine s_iadd C dX0_tellLaw_58 ?_
    refine s_callV C (fr_LT_L B g t) (k_X0_digit B g) gX0_tellLaw_X0_digit rfl (by decide +kernel) ⟨rfl, rfl⟩ (by decide) rfl (fun s => ⟨_, heLT_0 B g t s⟩) (cf_RI_r _ _ _ _) dX0_tellLaw_59 ?_
    refine s_callV C (fr_LT_T B g t) (k_X2_settle B g t) gX0_tellLaw_X2_settle rfl (by decide +kernel) ⟨rfl, rfl⟩ (by decide) rfl (fun s => ⟨_, heLT_2 B g t s⟩) (cf_RII_r _ _ _ _) dX0_tellLaw_62 ?_
    refine s_iinc C (by decide) (by decide) dX0_tellLaw_65 ?_
    refine s_goto C (tgt := 46) (by decide) dX0_tellLaw_68 ?_
    exact s_keep _ hK46
def I_tl2 (g : Nat → Nat) (t : Nat) (S : LT) (p : Int32) (n : Nat) (L : Lc) (st : List Value) (s : LT) : Prop := ∃ k, n + k = 3 ∧ st = [] ∧ s = S ∧ L = [some (.ref (g 22)), some (.ref (g t)), some (.int p), some (.int (nI k)), none] ∧ ∀ j, j < k → lawOk (mL S) p j = true
def I_tl46 (g : Nat → Nat) (t : Nat) (S : LT) (p : Int32) (n : Nat) (L : Lc) (st : List Value) (s : LT) : Prop := lawAll (mL S) p = true ∧ ∃ k, n + k = 3 ∧ st = [] ∧ s = msT S (lawT (mL S) p (mT S) k) ∧ L = [some (.ref (g 22)), some (.ref (g t)), some (.int p), some (.int (nI k)), none]
theorem mg1 (S : LT) (T : TS) : mL (msT S T) = mL S := rfl
theorem nI_3 {k : Nat} (h : k < 3) : k = 0 ∨ k = 1 ∨ k = 2 := by omega
theorem lawAll_of {S : LtS} {p : Int32} (h : ∀ j, j < 3 → lawOk S p j = true) : lawAll S p = true := by
  unfold lawAll
  rw [List.all_eq_true]
  exact fun j hj => h j (List.mem_range.mp hj)
theorem lawAll_no {S : LtS} {p : Int32} {j : Nat} (hj : j < 3) (h : lawOk S p j = false) : lawAll S p = false := by
  unfold lawAll
  rw [List.all_eq_false]
  exact ⟨j, List.mem_range.mpr hj, by rw [h]; exact Bool.noConfusion⟩
theorem k_X0_tellLaw (B : Bx) (g : Nat → Nat) (t : Nat) : MtF (gx B) yX0_tellLaw wsX0_tellLaw (rmD 3) (encLT B g t) (F_X0_tellLaw g t) := by
  refine cf_RRI_i (fun l S p _ => Mt.of (P := bk_X0_tellLaw_0 g t (fun o u => o = some (.int (b2i (lawAll (mL S) p))) ∧ u = if lawAll (mL S) p = true then msT S (lawT (mL S) p (mT S) 3) else S) (fun L st s => ∃ n, I_tl2 g t S p n L st s)) (by decide) rfl (Nat.le_of_ble_eq_true rfl) rfl
    (fun X C R => s_X0_tellLaw_0 B g t C R (snd_loop (fun K => bk_X0_tellLaw_2 g t (fun o u => o = some (.int (b2i (lawAll (mL S) p))) ∧ u = if lawAll (mL S) p = true then msT S (lawT (mL S) p (mT S) 3) else S) K (fun L st s => ∃ n, I_tl46 g t S p n L st s)) (I_tl2 g t S p) (fun K hK => s_X0_tellLaw_2 B g t C R hK (snd_loop _ (I_tl46 g t S p) (fun K2 hK2 => s_X0_tellLaw_46 B g t C R hK2) ?_)) ?_)) ?_)
  · rintro K2 n L st s ⟨hall, k, hn, rfl, rfl, rfl⟩ hK2
    simp only [wIload, wAload, wLload, wK, wB, wDv, wU, wLB, wLU, wLS, wL2i, wLcmp, wIf1, wIf2, wKeep, wInc, wIst, wAst, wLst, wDup, wPop, wDup2, wGet, wPut, wPutZ, wIald, wLald, wIast, wLast, wLen, wRetI, wRetZ, wRetL, wRetA, wRetV, wM1, wM2, wCpy, wTab, tabW, nth, stL, stL2, dropL, keepL, mkL, padL, restOK, restOKn, tl_some, tl_none, id_eq, eq_self, true_and, and_true, bk_X0_tellLaw_0, bk_X0_tellLaw_36, bk_X0_tellLaw_2, bk_X0_tellLaw_46, F_X0_digit, F_X2_settle, F_X3_greatestSetting, F_X3_leastSetting, cf_I_e, cf_RII_e, cf_RI_e, mg_L_L, mg_L_T, mg_T_L, mg_T_T, me_L, mo_L, me_T, mo_T]
    rcases Nat.lt_or_ge k 3 with hlt | hge
    · have h1 : ¬ (2 : Int32) < nI k := nI_nlt (a := 2) (by omega) (by decide)
      simp only [h1, false_implies, true_implies, not_true_eq_false, not_false_eq_true, true_and, and_true, implies_true, eq_self, ne_eq, true_or, or_true, false_or, or_false, and_self]
      rw [nI_1]
      exact hK2 (n - 1) _ _ _ (by omega) ⟨hall, k + 1, by omega, rfl, rfl, rfl⟩
    · have h1 : (2 : Int32) < nI k := nI_lt (a := 2) (by omega) (by omega)
      have hk : k = 3 := by omega
      subst hk
      simp only [h1, hall, if_true, b2i_t, false_implies, true_implies, not_true_eq_false, not_false_eq_true, true_and, and_true, implies_true, eq_self, ne_eq, true_or, or_true, false_or, or_false, and_self]
  · rintro K3 n L st s ⟨k, hn, rfl, rfl, rfl, hh⟩ hK3
    have d1 : ¬ (1 : Int32) = 0 := by decide
    simp only [wIload, wAload, wLload, wK, wB, wDv, wU, wLB, wLU, wLS, wL2i, wLcmp, wIf1, wIf2, wKeep, wInc, wIst, wAst, wLst, wDup, wPop, wDup2, wGet, wPut, wPutZ, wIald, wLald, wIast, wLast, wLen, wRetI, wRetZ, wRetL, wRetA, wRetV, wM1, wM2, wCpy, wTab, tabW, nth, stL, stL2, dropL, keepL, mkL, padL, restOK, restOKn, tl_some, tl_none, id_eq, eq_self, true_and, and_true, bk_X0_tellLaw_0, bk_X0_tellLaw_36, bk_X0_tellLaw_2, bk_X0_tellLaw_46, F_X0_digit, F_X2_settle, F_X3_greatestSetting, F_X3_leastSetting, cf_I_e, cf_RII_e, cf_RI_e, mg_L_L, mg_L_T, mg_T_L, mg_T_T, me_L, mo_L, me_T, mo_T]
    rcases Nat.lt_or_ge k 3 with hlt | hge
    · have h1 : ¬ (2 : Int32) < nI k := nI_nlt (a := 2) (by omega) (by decide)
      simp only [h1, false_implies, true_implies, not_true_eq_false, not_false_eq_true, true_and, and_true, implies_true, eq_self, ne_eq, true_or, or_true, false_or, or_false, and_self]
      have hc : lawOk (mL s) p k = true → K3 [some (.ref (g 22)), some (.ref (g t)), some (.int p), some (.int (nI k + 1)), none] [] s := fun h => by
        rw [nI_1]
        exact hK3 (n - 1) _ _ _ (by omega) ⟨k + 1, by omega, rfl, rfl, rfl, fun j hj => by rcases Nat.lt_succ_iff_lt_or_eq.mp hj with h' | rfl; exact hh j h'; exact h⟩
      have hx : lawOk (mL s) p k = false → lawAll (mL s) p = false := fun h => lawAll_no hlt h
      have e1 : ∀ x : Int32, x = lDg (mL s) (p + 1 + nI k) → lawOk (mL s) p k = (!decide (x < (if nI k = 1 then 1 else 0)) && !decide ((if nI k = 0 then 3 else 9) < x)) := by rintro x rfl; rfl
      have e1 := e1 _ rfl
      generalize lDg (mL s) (p + 1 + nI k) = v at e1 ⊢
      refine ⟨fun h => ?_, fun h => ⟨fun h2 => ?_, fun h2 => ?_⟩⟩
      · have hf := hx (by rw [e1]; simp [h])
        rw [hf, b2i_f, if_neg Bool.false_ne_true]
        first | exact ⟨Or.inl rfl, rfl, rfl⟩ | exact ⟨rfl, rfl⟩ | trivial
      · exact hc (by rw [e1]; simp [Int32.not_lt.mp h, h2])
      · have hf := hx (by rw [e1]; simp [Int32.not_le.mp h2])
        rw [hf, b2i_f, if_neg Bool.false_ne_true]
        first | exact ⟨Or.inl rfl, rfl, rfl⟩ | exact ⟨rfl, rfl⟩ | trivial
    · have h1 : (2 : Int32) < nI k := nI_lt (a := 2) (by omega) (by omega)
      simp only [h1, false_implies, true_implies, not_true_eq_false, not_false_eq_true, true_and, and_true, implies_true, eq_self, ne_eq, true_or, or_true, false_or, or_false, and_self]
      have hall : lawAll (mL s) p = true := lawAll_of (fun j hj => hh j (by omega))
      exact ⟨3, hall, 0, rfl, rfl, rfl, rfl⟩
  · simp only [wIload, wAload, wLload, wK, wB, wDv, wU, wLB, wLU, wLS, wL2i, wLcmp, wIf1, wIf2, wKeep, wInc, wIst, wAst, wLst, wDup, wPop, wDup2, wGet, wPut, wPutZ, wIald, wLald, wIast, wLast, wLen, wRetI, wRetZ, wRetL, wRetA, wRetV, wM1, wM2, wCpy, wTab, tabW, nth, stL, stL2, dropL, keepL, mkL, padL, restOK, restOKn, tl_some, tl_none, id_eq, eq_self, true_and, and_true, bk_X0_tellLaw_0, bk_X0_tellLaw_36, bk_X0_tellLaw_2, bk_X0_tellLaw_46, F_X0_digit, F_X2_settle, F_X3_greatestSetting, F_X3_leastSetting, cf_I_e, cf_RII_e, cf_RI_e]
    exact ⟨3, 0, rfl, rfl, rfl, rfl, fun j hj => absurd hj (Nat.not_lt_zero j)⟩
end
