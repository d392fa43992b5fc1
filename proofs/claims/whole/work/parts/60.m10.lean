noncomputable section
theorem rI_Yr {a b : Nat} (hb : b ≤ 60) (r sm : Int32) {M : MS} (h : rI a b M) : rI a b (uYr r (sm, M)).2 ∧ (∀ i, ¬ i = 17 → ¬ i = 22 → ¬ i = 36 → ¬ i = 37 → mS i (uYr r (sm, M)).2 = mS i M) ∧ ∀ i, (i < 9 ∨ 14 < i) → mA i (uYr r (sm, M)).2 = mA i M := by
  obtain ⟨o1, o2, o3⟩ := rI_upto hb r (uNeeds M) 0 sm M h (by have := (nnB_c h.1.2.1).2; omega)
  rw [uYr_e r sm M rfl]
  generalize upto (uNd r) 0 (uNeeds M) (sm, M) = z at o1 o2 o3 ⊢
  exact ⟨rI_yr o1 _, fun i h1 h2 h3 h4 => by dsimp only; rw [mS_ne h2, o2 i h1 h3 h4], fun i hi => by dsimp only; rw [mA_S, o3 i hi]⟩
theorem rI_iterY {a b : Nat} (hb : b ≤ 60) (r : Int32) : ∀ (n : Nat) (sm : Int32) (M : MS), rI a b M → rI a b (iterN (uYr r) n (sm, M)).2 ∧ (∀ i, ¬ i = 17 → ¬ i = 22 → ¬ i = 36 → ¬ i = 37 → mS i (iterN (uYr r) n (sm, M)).2 = mS i M) ∧ ∀ i, (i < 9 ∨ 14 < i) → mA i (iterN (uYr r) n (sm, M)).2 = mA i M := by
  intro n
  induction n with
  | zero => exact fun sm M h => ⟨h, fun _ _ _ _ _ => rfl, fun _ _ => rfl⟩
  | succ n ih =>
    intro sm M h
    rw [iterN_s]
    obtain ⟨o1, o2, o3⟩ := rI_Yr hb r sm h
    generalize uYr r (sm, M) = z at o1 o2 o3 ⊢
    obtain ⟨sm', M'⟩ := z
    obtain ⟨i1, i2, i3⟩ := ih sm' M' o1
    exact ⟨i1, fun i h1 h2 h3 h4 => (i2 i h1 h2 h3 h4).trans (o2 i h1 h2 h3 h4), fun i hi => (i3 i hi).trans (o3 i hi)⟩
/-- M' is M behind what was only thought -/
def pEq (M M' : MS) : Prop := ((∀ i, (i = 27 ∨ i = 31 ∨ i = 35) → mS i M' = mS i M) ∧ (∀ i, (i = 0 ∨ i = 23 ∨ i = 34) → mA i M' = mA i M)) ∧ eqT M' M ∧ (∀ j, j < 500 → mA 30 M' j = mA 30 M j) ∧ nwB M' ∧ haB M'
theorem back_pEq {M Z : MS} (hk : kpt 1 M (mA 30 Z)) (hk2 : ∀ j, j < 500 → mA 30 Z j = mA 30 M j) (hS : ∀ i, (i = 27 ∨ i = 31 ∨ i = 35) → mS i Z = mS i M) (hA : ∀ i, (i = 0 ∨ i = 23 ∨ i = 34) → mA i Z = mA i M) (hw : nwB Z) (hh : haB Z) (hwM : nwB M) (hhM : haB M) : pEq M (uPA Z 1 0) := by
  obtain ⟨b1, b2, b3, b4⟩ := uPA_back (show 1 ≤ 1 by omega) Z
  obtain ⟨e1, e2⟩ := uPA_eqT (show 1 ≤ 1 by omega) hk
  rw [show (nI 1 : Int32) = 1 from rfl] at b1 b2 b3 b4 e1 e2
  refine ⟨⟨fun i hi => by rw [b1 i (by omega) (by omega) (by omega), hS i hi], fun i hi => by rw [b2 i (by omega), hA i hi]⟩, e1, fun j hj => by rw [b2 30 (by omega), hk2 j hj], ?_, ?_⟩
  · intro n hn
    rcases Nat.lt_or_eq_of_le (Nat.le_of_lt_succ hn) with h | h
    · rw [e1.1 (4, 12) (by decide) n h, e1.1 (5, 12) (by decide) n h]
      exact hwM n hn
    · rw [e2 (4, 12) (by decide) n (by omega), e2 (5, 12) (by decide) n (by omega)]
      exact hw n hn
  · intro n hn
    rcases Nat.lt_or_eq_of_le (Nat.le_of_lt_succ hn) with h | h
    · rw [e1.1 (7, 12) (by decide) n h, e1.1 (9, 12) (by decide) n h]
      exact hhM n hn
    · rw [e2 (7, 12) (by decide) n (by omega), e2 (9, 12) (by decide) n (by omega)]
      exact hh n hn
theorem pEq_S {M M' : MS} (h : pEq M M') (i : Nat) (hi : 15 ≤ i ∧ i ≤ 22) : mS i M' = mS i M := by
  have := h.2.1.2 (i - 15) (by omega)
  rw [show 15 + (i - 15) = i by omega] at this
  exact this
theorem pEq_pub {M M' : MS} (h : mPub M) (e : pEq M M') : mPub M' := by
  obtain ⟨h1, h2, h3, h4, h5⟩ := h
  have eh := pEq_S e 17 (by omega)
  have eu : uHelps M' = uHelps M := by unfold uHelps; rw [eh]
  refine ⟨⟨hpB_of h1.1 eh, e.2.2.2.1, nnB_of h1.2.2.1 (pEq_S e 16 (by omega)), ppB_of h1.2.2.2.1 (pEq_S e 15 (by omega)), rwB_of h1.2.2.2.2 (e.1.1 35 (by omega))⟩, e.2.2.2.2, ?_, ?_, ?_⟩
  · unfold yrB; rw [pEq_S e 22 (by omega)]; exact h3
  · intro k hk
    rw [eu] at hk
    have hb := (hpB_c h1.1 (by decide)).2
    rw [e.2.1.1 (14, 60) (by decide) k (by omega)]
    exact h4 k hk
  · unfold tpB; rw [e.1.1 27 (by omega)]; exact h5
theorem mPub_rn {M : MS} (h : mPub M) : rnPre M := ⟨h.1, h.2.1, h.2.2.1⟩
theorem uR0_S (i : Nat) (h1 : ¬ i = 32) (h2 : ¬ i = 33) (h3 : ¬ i = 36) (h4 : ¬ i = 37) (M : MS) (f : Int32) : mS i (uR0 M f) = mS i M := by
  have := (uPA_keep (show 1 ≤ 1 by omega) M).1 i h1 h2
  unfold uR0
  rw [mS_ne h4, mS_ne h3]
  exact this
theorem uR0_A (i : Nat) (h1 : ¬ i = 30) (M : MS) (f : Int32) : mA i (uR0 M f) = mA i M := by
  have := (uPA_keep (show 1 ≤ 1 by omega) M).2.1 i h1
  unfold uR0
  rw [mA_S, mA_S]
  exact this
theorem uR0_k (M : MS) (f : Int32) : mA 30 (uR0 M f) = mA 30 (uPA M 1 1) := by
  unfold uR0
  rw [mA_S, mA_S]
theorem uR0_rI {M : MS} (h : rnPre M) (f : Int32) : rI (cntH M) (uHelps M) (uR0 M f) := by
  obtain ⟨hok, hha, -⟩ := h
  refine ⟨⟨nwB_of hok.2.1 (uR0_A 4 (by decide) M f) (uR0_A 5 (by decide) M f), nnB_of hok.2.2.1 (uR0_S 16 (by decide) (by decide) (by decide) (by decide) M f), ppB_of hok.2.2.2.1 (uR0_S 15 (by decide) (by decide) (by decide) (by decide) M f), rwB_of hok.2.2.2.2 (uR0_S 35 (by decide) (by decide) (by decide) (by decide) M f)⟩, ?_, uHelps M, ?_, ?_⟩
  · intro n hn
    rw [uR0_A 7 (by decide), uR0_A 9 (by decide)]
    exact hha n hn
  · rw [uR0_S 17 (by decide) (by decide) (by decide) (by decide)]
    exact (hpB_c hok.1 (by decide)).1
  · unfold cntH
    rw [uR0_A 9 (by decide), Nat.add_comm]
/-- a run is only thought -/
theorem uRun_pEq {M : MS} (h : rnPre M) (r f : Int32) : pEq M (uRun M r f).2 := by
  have hb : uHelps M ≤ 60 := (hpB_c h.1.1 (by decide)).2
  obtain ⟨z1, z2, z3⟩ := rI_iterY hb r (10 - (mS 22 M).toNatClampNeg) 0 (uR0 M f) (uR0_rI h f)
  obtain ⟨-, -, k1, k2⟩ := uPA_keep (show 1 ≤ 1 by omega) M
  rw [show (nI 1 : Int32) = 1 from rfl] at k1 k2
  unfold uRun uRz
  dsimp only
  generalize iterN (uYr r) (10 - (mS 22 M).toNatClampNeg) (0, uR0 M f) = z at z1 z2 z3 ⊢
  have ek : mA 30 z.2 = mA 30 (uPA M 1 1) := by rw [z3 30 (by omega), uR0_k]
  refine back_pEq (by rw [ek]; exact k1) (fun j hj => by rw [ek, k2 j (Or.inl (by omega))]) (fun i hi => ?_) (fun i hi => ?_) z1.1.1 z1.2.1 h.1.2.1 h.2.1
  · rw [z2 i (by omega) (by omega) (by omega) (by omega), uR0_S i (by omega) (by omega) (by omega) (by omega)]
  · rw [z3 i (by omega), uR0_A i (by omega)]
def v_without (M : MS) (r : Int32) : Int32 × MS := if 0 ≤ r ∧ r < 6 then (mS 36 (uRun M r 0).2, (uRun M r 0).2) else (-2, uNo M (-2))
def F_X4_without (g : Nat → Nat) : CF MS := cf_RI (g 30) (fun M _ => rnPre M) (fun M p => some (.int (v_without M p).1)) (fun M p => (v_without M p).2)
theorem inw_X4_without_X4 : ∀ w ∈ u_ws RX4 TX4 45, w ∈ wsX4_without := by decide +kernel
def bk_X4_without_0 (g : Nat → Nat) (Post : Option Value → MS → Prop)  (L : Lc) (st : List Value) (s : MS) : Prop :=
  (wIload 1 <| wCallR 1 (F_X4_isRule) (fun _ => ()) (fun s _ => s) <| wIf1 (fun x => x = 0) (wAload 0 <| wK (.int (-2)) <| wCallR 2 (F_X4_no g) id (fun _ u => u) <| wRetI Post) (wAload 0 <| wIload 1 <| wK (.int 0) <| wCallR 3 (F_X4_runOf g) id (fun _ u => u) <| wPop <| wAload 0 <| wGet (g 30) (fun s => .int (mS 36 s)) <| wRetI Post)) L st s
set_option maxRecDepth 20000 in
theorem s_X4_without_0 {X : Cx} (B : Bx) (g : Nat → Nat) {Post : Option Value → MS → Prop} (C : OkX X (gx B) cX4_without 2 wsX4_without RX4 (rmD 8)) (R : RtX X (gx B) (some .int) (encM B g) Post)  : Snd X (gx B) 2 (encM B g) 0 (bk_X4_without_0 g Post ) := by
  unfold bk_X4_without_0
  refine s_iload_n C rfl dX4_without_0 ?_
  refine s_callS C (fr_M_E B g) (k_X4_isRule B) gX4_without_X4_isRule rfl (by decide +kernel) ⟨rfl, rfl⟩ (by decide) (cf_I_r _ _ _) dX4_without_1 ?_
  refine s_if_ne C (tgt := 14) (by decide) dX4_without_4 ?_ ?_
  · refine s_aload_n C rfl dX4_without_14 ?_
    refine s_iload_n C rfl dX4_without_15 ?_
    refine s_iconst C (by decide) dX4_without_16 ?_
    refine s_callV C (fr_M_M B g) (k_X4_runOf B g) gX4_without_X4_runOf rfl (by decide +kernel) ⟨rfl, rfl⟩ (by decide) rfl (fun s => ⟨_, heM_0 B g s⟩) (cf_RII_r _ _ _ _) dX4_without_17 ?_
    refine s_pop C dX4_without_20 ?_
    refine s_aload_n C rfl dX4_without_21 ?_
    refine s_get C inw_X4_without_X4 rfl (k := 36) (by decide) (by decide +kernel) (heM_0 B g) (fun _ => rfl) dX4_without_22 ?_
    exact s_iret C R dX4_without_25
  · refine s_aload_n C rfl dX4_without_7 ?_
    refine s_bipush C (by decide) dX4_without_8 ?_
    refine s_callV C (fr_M_M B g) (k_X4_no B g) gX4_without_X4_no rfl (by decide +kernel) ⟨rfl, rfl⟩ (by decide) rfl (fun s => ⟨_, heM_0 B g s⟩) (cf_RI_r _ _ _ _) dX4_without_10 ?_
    exact s_iret C R dX4_without_13
theorem k_X4_without (B : Bx) (g : Nat → Nat) : MtF (gx B) yX4_without wsX4_without (rmD 8) (encM B g) (F_X4_without g) := by
  refine cf_RI_i (fun l M r h => Mt.of (by decide) rfl (Nat.le_of_ble_eq_true rfl) rfl (fun X C R => s_X4_without_0 B g C R) ?_)
  simp only [wIload, wAload, wLload, wK, wB, wDv, wU, wLB, wLU, wLS, wL2i, wLcmp, wIf1, wIf2, wKeep, wInc, wIst, wAst, wLst, wDup, wPop, wDup2, wGet, wPut, wPutZ, wIald, wLald, wIast, wLast, wLen, wRetI, wRetZ, wRetL, wRetA, wRetV, wM1, wM2, wCpy, wTab, tabW, nth, stL, stL2, dropL, keepL, mkL, padL, restOK, restOKn, tl_some, tl_none, id_eq, eq_self, true_and, and_true, bk_X4_without_0, F_X4_isRule, F_X4_no, F_X4_runOf, cf_I_e, cf_RII_e, cf_RI_e, b2i_eq0, refI2, h, decide_eq_false_iff_not]
  repeat' first | refine And.intro ?_ ?_ | intro _
  all_goals grind [v_without]
def v_strangers (M : MS) (r : Int32) : Int32 × MS := if 0 ≤ r ∧ r < 6 then uRun M r (mS 21 M) else (-2, uNo M (-2))
def F_X4_strangers (g : Nat → Nat) : CF MS := cf_RI (g 30) (fun M _ => rnPre M) (fun M p => some (.int (v_strangers M p).1)) (fun M p => (v_strangers M p).2)
theorem inw_X4_strangers_X4 : ∀ w ∈ u_ws RX4 TX4 45, w ∈ wsX4_strangers := by decide +kernel
def bk_X4_strangers_25 (g : Nat → Nat) (Post : Option Value → MS → Prop)  (L : Lc) (st : List Value) (s : MS) : Prop :=
  (wRetI Post) L st s
set_option maxRecDepth 20000 in
theorem s_X4_strangers_25 {X : Cx} (B : Bx) (g : Nat → Nat) {Post : Option Value → MS → Prop} (C : OkX X (gx B) cX4_strangers 2 wsX4_strangers RX4 (rmD 8)) (R : RtX X (gx B) (some .int) (encM B g) Post)  : Snd X (gx B) 2 (encM B g) 25 (bk_X4_strangers_25 g Post ) := by
  unfold bk_X4_strangers_25
  exact s_iret C R dX4_strangers_25
def bk_X4_strangers_0 (g : Nat → Nat) (Post : Option Value → MS → Prop)  (L : Lc) (st : List Value) (s : MS) : Prop :=
  (wIload 1 <| wCallR 1 (F_X4_isRule) (fun _ => ()) (fun s _ => s) <| wIf1 (fun x => x = 0) (wAload 0 <| wK (.int (-2)) <| wCallR 2 (F_X4_no g) id (fun _ u => u) <| bk_X4_strangers_25 g Post ) (wAload 0 <| wIload 1 <| wAload 0 <| wGet (g 30) (fun s => .int (mS 21 s)) <| wCallR 3 (F_X4_runOf g) id (fun _ u => u) <| bk_X4_strangers_25 g Post )) L st s
set_option maxRecDepth 20000 in
theorem s_X4_strangers_0 {X : Cx} (B : Bx) (g : Nat → Nat) {Post : Option Value → MS → Prop} (C : OkX X (gx B) cX4_strangers 2 wsX4_strangers RX4 (rmD 8)) (R : RtX X (gx B) (some .int) (encM B g) Post)  : Snd X (gx B) 2 (encM B g) 0 (bk_X4_strangers_0 g Post ) := by
  unfold bk_X4_strangers_0
  refine s_iload_n C rfl dX4_strangers_0 ?_
  refine s_callS C (fr_M_E B g) (k_X4_isRule B) gX4_strangers_X4_isRule rfl (by decide +kernel) ⟨rfl, rfl⟩ (by decide) (cf_I_r _ _ _) dX4_strangers_1 ?_
  refine s_if_eq C (tgt := 19) (by decide) dX4_strangers_4 ?_ ?_
  · refine s_aload_n C rfl dX4_strangers_19 ?_
    refine s_bipush C (by decide) dX4_strangers_20 ?_
    refine s_callV C (fr_M_M B g) (k_X4_no B g) gX4_strangers_X4_no rfl (by decide +kernel) ⟨rfl, rfl⟩ (by decide) rfl (fun s => ⟨_, heM_0 B g s⟩) (cf_RI_r _ _ _ _) dX4_strangers_22 ?_
    exact s_X4_strangers_25 B g C R 
  · refine s_aload_n C rfl dX4_strangers_7 ?_
    refine s_iload_n C rfl dX4_strangers_8 ?_
    refine s_aload_n C rfl dX4_strangers_9 ?_
    refine s_get C inw_X4_strangers_X4 rfl (k := 21) (by decide) (by decide +kernel) (heM_0 B g) (fun _ => rfl) dX4_strangers_10 ?_
    refine s_callV C (fr_M_M B g) (k_X4_runOf B g) gX4_strangers_X4_runOf rfl (by decide +kernel) ⟨rfl, rfl⟩ (by decide) rfl (fun s => ⟨_, heM_0 B g s⟩) (cf_RII_r _ _ _ _) dX4_strangers_13 ?_
    refine s_goto C (tgt := 25) (by decide) dX4_strangers_16 ?_
    exact s_X4_strangers_25 B g C R 
theorem k_X4_strangers (B : Bx) (g : Nat → Nat) : MtF (gx B) yX4_strangers wsX4_strangers (rmD 8) (encM B g) (F_X4_strangers g) := by
  refine cf_RI_i (fun l M r h => Mt.of (by decide) rfl (Nat.le_of_ble_eq_true rfl) rfl (fun X C R => s_X4_strangers_0 B g C R) ?_)
  simp only [wIload, wAload, wLload, wK, wB, wDv, wU, wLB, wLU, wLS, wL2i, wLcmp, wIf1, wIf2, wKeep, wInc, wIst, wAst, wLst, wDup, wPop, wDup2, wGet, wPut, wPutZ, wIald, wLald, wIast, wLast, wLen, wRetI, wRetZ, wRetL, wRetA, wRetV, wM1, wM2, wCpy, wTab, tabW, nth, stL, stL2, dropL, keepL, mkL, padL, restOK, restOKn, tl_some, tl_none, id_eq, eq_self, true_and, and_true, bk_X4_strangers_25, bk_X4_strangers_0, F_X4_isRule, F_X4_no, F_X4_runOf, cf_I_e, cf_RII_e, cf_RI_e, b2i_eq0, refI2, h, decide_eq_false_iff_not]
  repeat' first | refine And.intro ?_ ?_ | intro _
  all_goals grind [v_strangers]
def v_byLaw (M : MS) (w r : Int32) : Int32 × MS := if uIn w 0 3 = true ∧ 0 ≤ r ∧ r < 6 then ((uRun (msS 18 M w) r 0).1, msS 18 (uRun (msS 18 M w) r 0).2 (mS 18 M)) else (-2, uNo M (-2))
def F_X4_byLaw (g : Nat → Nat) : CF MS := cf_RII (g 30) (fun M _ _ => rnPre M) (fun M p w => some (.int (v_byLaw M p w).1)) (fun M p w => (v_byLaw M p w).2)
theorem inw_X4_byLaw_X4 : ∀ w ∈ u_ws RX4 TX4 45, w ∈ wsX4_byLaw := by decide +kernel
def bk_X4_byLaw_16 (g : Nat → Nat) (Post : Option Value → MS → Prop)  (L : Lc) (st : List Value) (s : MS) : Prop :=
  (wAload 0 <| wK (.int (-2)) <| wCallR 2 (F_X4_no g) id (fun _ u => u) <| wRetI Post) L st s
set_option maxRecDepth 20000 in
theorem s_X4_byLaw_16 {X : Cx} (B : Bx) (g : Nat → Nat) {Post : Option Value → MS → Prop} (C : OkX X (gx B) cX4_byLaw 5 wsX4_byLaw RX4 (rmD 8)) (R : RtX X (gx B) (some .int) (encM B g) Post)  : Snd X (gx B) 5 (encM B g) 16 (bk_X4_byLaw_16 g Post ) := by
  unfold bk_X4_byLaw_16
  refine s_aload_n C rfl dX4_byLaw_16 ?_
  refine s_bipush C (by decide) dX4_byLaw_17 ?_
  refine s_callV C (fr_M_M B g) (k_X4_no B g) gX4_byLaw_X4_no rfl (by decide +kernel) ⟨rfl, rfl⟩ (by decide) rfl (fun s => ⟨_, heM_0 B g s⟩) (cf_RI_r _ _ _ _) dX4_byLaw_19 ?_
  exact s_iret C R dX4_byLaw_22
def bk_X4_byLaw_0 (g : Nat → Nat) (Post : Option Value → MS → Prop)  (L : Lc) (st : List Value) (s : MS) : Prop :=
  (wIload 1 <| wK (.int 0) <| wK (.int 3) <| wCallR 3 (F_X4_isIn) (fun _ => ()) (fun s _ => s) <| wIf1 (fun x => x = 0) (bk_X4_byLaw_16 g Post ) (wIload 2 <| wCallR 1 (F_X4_isRule) (fun _ => ()) (fun s _ => s) <| wIf1 (fun x => x = 0) (bk_X4_byLaw_16 g Post ) (wAload 0 <| wGet (g 30) (fun s => .int (mS 18 s)) <| wIst 3 <| wAload 0 <| wIload 1 <| wPut (g 30) (msS 18) <| wAload 0 <| wIload 2 <| wK (.int 0) <| wCallR 3 (F_X4_runOf g) id (fun _ u => u) <| wIst 4 <| wAload 0 <| wIload 3 <| wPut (g 30) (msS 18) <| wIload 4 <| wRetI Post))) L st s
set_option maxRecDepth 20000 in
theorem s_X4_byLaw_0 {X : Cx} (B : Bx) (g : Nat → Nat) {Post : Option Value → MS → Prop} (C : OkX X (gx B) cX4_byLaw 5 wsX4_byLaw RX4 (rmD 8)) (R : RtX X (gx B) (some .int) (encM B g) Post)  : Snd X (gx B) 5 (encM B g) 0 (bk_X4_byLaw_0 g Post ) := by
  unfold bk_X4_byLaw_0
  refine s_iload_n C rfl dX4_byLaw_0 ?_
  refine s_iconst C (by decide) dX4_byLaw_1 ?_
  refine s_iconst C (by decide) dX4_byLaw_2 ?_
  refine s_callS C (fr_M_E B g) (k_X4_isIn B) gX4_byLaw_X4_isIn rfl (by decide +kernel) ⟨rfl, rfl⟩ (by decide) (cf_III_r _ _ _) dX4_byLaw_3 ?_
  refine s_if_eq C (tgt := 16) (by decide) dX4_byLaw_6 ?_ ?_
  · exact s_X4_byLaw_16 B g C R 
  · refine s_iload_n C rfl dX4_byLaw_9 ?_
    refine s_callS C (fr_M_E B g) (k_X4_isRule B) gX4_byLaw_X4_isRule rfl (by decide +kernel) ⟨rfl, rfl⟩ (by decide) (cf_I_r _ _ _) dX4_byLaw_10 ?_
    refine s_if_ne C (tgt := 23) (by decide) dX4_byLaw_13 ?_ ?_
    · refine s_aload_n C rfl dX4_byLaw_23 ?_
      refine s_get C inw_X4_byLaw_X4 rfl (k := 18) (by decide) (by decide +kernel) (heM_0 B g) (fun _ => rfl) dX4_byLaw_24 ?_
      refine s_istore_n C rfl (by decide) dX4_byLaw_27 ?_
      refine s_aload_n C rfl dX4_byLaw_28 ?_
      refine s_iload_n C rfl dX4_byLaw_29 ?_
      refine s_put C inw_X4_byLaw_X4 rfl (k := 18) (by decide) (by decide +kernel) tyX4_ok nmX4 (by decide +kernel) (by decide +kernel) (heM_0 B g) (fun _ => Nat.le_of_ble_eq_true rfl) (fun _ _ => rfl) dX4_byLaw_30 ?_
      refine s_aload_n C rfl dX4_byLaw_33 ?_
      refine s_iload_n C rfl dX4_byLaw_34 ?_
      refine s_iconst C (by decide) dX4_byLaw_35 ?_
      refine s_callV C (fr_M_M B g) (k_X4_runOf B g) gX4_byLaw_X4_runOf rfl (by decide +kernel) ⟨rfl, rfl⟩ (by decide) rfl (fun s => ⟨_, heM_0 B g s⟩) (cf_RII_r _ _ _ _) dX4_byLaw_36 ?_
      refine s_istore C (by decide) dX4_byLaw_39 ?_
      refine s_aload_n C rfl dX4_byLaw_41 ?_
      refine s_iload_n C rfl dX4_byLaw_42 ?_
      refine s_put C inw_X4_byLaw_X4 rfl (k := 18) (by decide) (by decide +kernel) tyX4_ok nmX4 (by decide +kernel) (by decide +kernel) (heM_0 B g) (fun _ => Nat.le_of_ble_eq_true rfl) (fun _ _ => rfl) dX4_byLaw_43 ?_
      refine s_iload C dX4_byLaw_46 ?_
      exact s_iret C R dX4_byLaw_48
    · exact s_X4_byLaw_16 B g C R 
theorem k_X4_byLaw (B : Bx) (g : Nat → Nat) : MtF (gx B) yX4_byLaw wsX4_byLaw (rmD 8) (encM B g) (F_X4_byLaw g) := by
  refine cf_RII_i (fun l M w r h => Mt.of (by decide) rfl (Nat.le_of_ble_eq_true rfl) rfl (fun X C R => s_X4_byLaw_0 B g C R) ?_)
  have h1 : rnPre (msS 18 M w) := h
  simp only [wIload, wAload, wLload, wK, wB, wDv, wU, wLB, wLU, wLS, wL2i, wLcmp, wIf1, wIf2, wKeep, wInc, wIst, wAst, wLst, wDup, wPop, wDup2, wGet, wPut, wPutZ, wIald, wLald, wIast, wLast, wLen, wRetI, wRetZ, wRetL, wRetA, wRetV, wM1, wM2, wCpy, wTab, tabW, nth, stL, stL2, dropL, keepL, mkL, padL, restOK, restOKn, tl_some, tl_none, id_eq, eq_self, true_and, and_true, bk_X4_byLaw_16, bk_X4_byLaw_0, F_X4_isIn, F_X4_isRule, F_X4_no, F_X4_runOf, cf_III_e, cf_I_e, cf_RII_e, cf_RI_e, mS_S, mA_A, mS_A, mA_S, mS_a, mA_a, Nat.reduceEqDiff, reduceIte, b2i_eq0, refI2, h1, decide_eq_false_iff_not]
  repeat' first | refine And.intro ?_ ?_ | intro _
  all_goals grind [v_byLaw]
def uBp (p : Nat) : Nat → Nat → Int32 → Int32 → MS → Int32 × MS
  | _, 0, b, _, M => (b, M)
  | k, j + 1, b, m, M => if m < (uRun (maA 2 M p (nI (10 * k))) 1 0).1 then uBp p (k + 1) j (nI (10 * k)) (uRun (maA 2 M p (nI (10 * k))) 1 0).1 (uRun (maA 2 M p (nI (10 * k))) 1 0).2 else uBp p (k + 1) j b m (uRun (maA 2 M p (nI (10 * k))) 1 0).2
theorem uBp_s (p k j : Nat) (b m : Int32) (M : MS) : uBp p k (j + 1) b m M = if m < (uRun (maA 2 M p (nI (10 * k))) 1 0).1 then uBp p (k + 1) j (nI (10 * k)) (uRun (maA 2 M p (nI (10 * k))) 1 0).1 (uRun (maA 2 M p (nI (10 * k))) 1 0).2 else uBp p (k + 1) j b m (uRun (maA 2 M p (nI (10 * k))) 1 0).2 := rfl
def v_bestPlace (M : MS) (p : Int32) : Int32 × MS := if uOne M p = false then (-1, uNo M (-1)) else ((uBp p.toNatClampNeg 0 10 0 (-1) M).1, maA 2 (uBp p.toNatClampNeg 0 10 0 (-1) M).2 p.toNatClampNeg (mA 2 M p.toNatClampNeg))
def F_X4_bestPlace (g : Nat → Nat) : CF MS := cf_RI (g 30) (fun M _ => mPub M) (fun M p => some (.int (v_bestPlace M p).1)) (fun M p => (v_bestPlace M p).2)
theorem inw_X4_bestPlace_X4 : ∀ w ∈ u_ws RX4 TX4 45, w ∈ wsX4_bestPlace := by decide +kernel
def bk_X4_bestPlace_0 (g : Nat → Nat) (Post : Option Value → MS → Prop) (K29 : PT MS) (L : Lc) (st : List Value) (s : MS) : Prop :=
  (wAload 0 <| wIload 1 <| wCallR 2 (F_X4_isOne g) id (fun _ u => u) <| wIf1 (fun x => x = 0) (wAload 0 <| wK (.int (-1)) <| wCallR 2 (F_X4_no g) id (fun _ u => u) <| wRetI Post) (wAload 0 <| wGet (g 30) (fun _ => .ref (g 33)) <| wIload 1 <| wIald (g 33) 7 (mA 2) <| wIst 2 <| wK (.int 0) <| wIst 3 <| wK (.int (-1)) <| wIst 4 <| wK (.int 0) <| wIst 5 <| wKeep [true, true, true, true, true, true, false] K29)) L st s
set_option maxRecDepth 20000 in
theorem s_X4_bestPlace_0 {X : Cx} (B : Bx) (g : Nat → Nat) {Post : Option Value → MS → Prop} (C : OkX X (gx B) cX4_bestPlace 7 wsX4_bestPlace RX4 (rmD 8)) (R : RtX X (gx B) (some .int) (encM B g) Post) {K29 : PT MS} (hK29 : Snd X (gx B) 7 (encM B g) 29 K29) : Snd X (gx B) 7 (encM B g) 0 (bk_X4_bestPlace_0 g Post K29) := by
  unfold bk_X4_bestPlace_0
  refine s_aload_n C rfl dX4_bestPlace_0 ?_
  refine s_iload_n C rfl dX4_bestPlace_1 ?_
  refine s_callV C (fr_M_M B g) (k_X4_isOne B g) gX4_bestPlace_X4_isOne rfl (by decide +kernel) ⟨rfl, rfl⟩ (by decide) rfl (fun s => ⟨_, heM_0 B g s⟩) (cf_RI_r _ _ _ _) dX4_bestPlace_2 ?_
  refine s_if_ne C (tgt := 14) (by decide) dX4_bestPlace_5 ?_ ?_
  · refine s_aload_n C rfl dX4_bestPlace_14 ?_
    refine s_get C inw_X4_bestPlace_X4 rfl (k := 2) (by decide) (by decide +kernel) (heM_0 B g) (fun _ => rfl) dX4_bestPlace_15 ?_
    refine s_iload_n C rfl dX4_bestPlace_18 ?_
    refine s_iald C (heM_3 B g) dX4_bestPlace_19 ?_
    refine s_istore_n C rfl (by decide) dX4_bestPlace_20 ?_
    refine s_iconst C (by decide) dX4_bestPlace_21 ?_
    refine s_istore_n C rfl (by decide) dX4_bestPlace_22 ?_
    refine s_iconst C (by decide) dX4_bestPlace_23 ?_
    refine s_istore C (by decide) dX4_bestPlace_24 ?_
    refine s_iconst C (by decide) dX4_bestPlace_26 ?_
    refine s_istore C (by decide) dX4_bestPlace_27 ?_
    exact s_keep _ hK29
  · refine s_aload_n C rfl dX4_bestPlace_8 ?_
    refine s_iconst C (by decide) dX4_bestPlace_9 ?_
    refine s_callV C (fr_M_M B g) (k_X4_no B g) gX4_bestPlace_X4_no rfl (by decide +kernel) ⟨rfl, rfl⟩ (by decide) rfl (fun s => ⟨_, heM_0 B g s⟩) (cf_RI_r _ _ _ _) dX4_bestPlace_10 ?_
    exact s_iret C R dX4_bestPlace_13
def bk_X4_bestPlace_69 (g : Nat → Nat) (Post : Option Value → MS → Prop) (K29 : PT MS) (L : Lc) (st : List Value) (s : MS) : Prop :=
  (wInc 5 10 <| wKeep [true, true, true, true, true, true, false] K29) L st s
set_option maxRecDepth 20000 in
theorem s_X4_bestPlace_69 {X : Cx} (B : Bx) (g : Nat → Nat) {Post : Option Value → MS → Prop} (C : OkX X (gx B) cX4_bestPlace 7 wsX4_bestPlace RX4 (rmD 8)) (R : RtX X (gx B) (some .int) (encM B g) Post) {K29 : PT MS} (hK29 : Snd X (gx B) 7 (encM B g) 29 K29) : Snd X (gx B) 7 (encM B g) 69 (bk_X4_bestPlace_69 g Post K29) := by
  unfold bk_X4_bestPlace_69
  refine s_iinc C (by decide) (by decide) dX4_bestPlace_69 ?_
  refine s_goto C (tgt := 29) (by decide) dX4_bestPlace_72 ?_
  exact s_keep _ hK29
def bk_X4_bestPlace_29 (g : Nat → Nat) (Post : Option Value → MS → Prop) (K29 : PT MS) (L : Lc) (st : List Value) (s : MS) : Prop :=
  (wIload 5 <| wK (.int 100) <| wIf2 (fun x y => y ≤ x) (wAload 0 <| wGet (g 30) (fun _ => .ref (g 33)) <| wIload 1 <| wIload 2 <| wIast (g 33) 7 (maA 2) <| wIload 3 <| wRetI Post) (wAload 0 <| wGet (g 30) (fun _ => .ref (g 33)) <| wIload 1 <| wIload 5 <| wIast (g 33) 7 (maA 2) <| wAload 0 <| wK (.int 1) <| wK (.int 0) <| wCallR 3 (F_X4_runOf g) id (fun _ u => u) <| wIst 6 <| wIload 6 <| wIload 4 <| wIf2 (fun x y => y < x) (wIload 5 <| wIst 3 <| wIload 6 <| wIst 4 <| bk_X4_bestPlace_69 g Post K29) (bk_X4_bestPlace_69 g Post K29))) L st s
set_option maxRecDepth 20000 in
theorem s_X4_bestPlace_29 {X : Cx} (B : Bx) (g : Nat → Nat) {Post : Option Value → MS → Prop} (C : OkX X (gx B) cX4_bestPlace 7 wsX4_bestPlace RX4 (rmD 8)) (R : RtX X (gx B) (some .int) (encM B g) Post) {K29 : PT MS} (hK29 : Snd X (gx B) 7 (encM B g) 29 K29) : Snd X (gx B) 7 (encM B g) 29 (bk_X4_bestPlace_29 g Post K29) := by
  unfold bk_X4_bestPlace_29
  refine s_iload C dX4_bestPlace_29 ?_
  refine s_bipush C (by decide) dX4_bestPlace_31 ?_
  refine s_icmp_ge C (tgt := 75) (by decide) dX4_bestPlace_33 ?_ ?_
  · refine s_aload_n C rfl dX4_bestPlace_75 ?_
    refine s_get C inw_X4_bestPlace_X4 rfl (k := 2) (by decide) (by decide +kernel) (heM_0 B g) (fun _ => rfl) dX4_bestPlace_76 ?_
    refine s_iload_n C rfl dX4_bestPlace_79 ?_
    refine s_iload_n C rfl dX4_bestPlace_80 ?_
    refine s_iast C (heM_3 B g) (fun _ _ _ => rfl) dX4_bestPlace_81 ?_
    refine s_iload_n C rfl dX4_bestPlace_82 ?_
    exact s_iret C R dX4_bestPlace_83
  · refine s_aload_n C rfl dX4_bestPlace_36 ?_
    refine s_get C inw_X4_bestPlace_X4 rfl (k := 2) (by decide) (by decide +kernel) (heM_0 B g) (fun _ => rfl) dX4_bestPlace_37 ?_
    refine s_iload_n C rfl dX4_bestPlace_40 ?_
    refine s_iload C dX4_bestPlace_41 ?_
    refine s_iast C (heM_3 B g) (fun _ _ _ => rfl) dX4_bestPlace_43 ?_
    refine s_aload_n C rfl dX4_bestPlace_44 ?_
    refine s_iconst C (by decide) dX4_bestPlace_45 ?_
    refine s_iconst C (by decide) dX4_bestPlace_46 ?_
    refine s_callV C (fr_M_M B g) (k_X4_runOf B g) gX4_bestPlace_X4_runOf rfl (by decide +kernel) ⟨rfl, rfl⟩ (by decide) rfl (fun s => ⟨_, heM_0 B g s⟩) (cf_RII_r _ _ _ _) dX4_bestPlace_47 ?_
    refine s_istore C (by decide) dX4_bestPlace_50 ?_
    refine s_iload C dX4_bestPlace_52 ?_
    refine s_iload C dX4_bestPlace_54 ?_
    refine s_icmp_gt C (tgt := 62) (by decide) dX4_bestPlace_56 ?_ ?_
    · refine s_iload C dX4_bestPlace_62 ?_
      refine s_istore_n C rfl (by decide) dX4_bestPlace_64 ?_
      refine s_iload C dX4_bestPlace_65 ?_
      refine s_istore C (by decide) dX4_bestPlace_67 ?_
      exact s_X4_bestPlace_69 B g C R hK29
    · refine s_goto C (tgt := 69) (by decide) dX4_bestPlace_59 ?_
      exact s_X4_bestPlace_69 B g C R hK29
theorem mPub_place {M : MS} (h : mPub M) (p : Nat) (v : Int32) : mPub (maA 2 M p v) := h
def I_mbp (g : Nat → Nat) (p : Nat) (old : Int32) (fin : Int32 × MS) (n : Nat) (L : Lc) (st : List Value) (s : MS) : Prop := ∃ (k : Nat) (b m : Int32), n + k = 10 ∧ mPub s ∧ st = [] ∧ L = [some (.ref (g 30)), some (.int (nI p)), some (.int old), some (.int b), some (.int m), some (.int (nI (10 * k))), none] ∧ uBp p k n b m s = fin
theorem k_X4_bestPlace (B : Bx) (g : Nat → Nat) : MtF (gx B) yX4_bestPlace wsX4_bestPlace (rmD 8) (encM B g) (F_X4_bestPlace g) := by
  refine cf_RI_i (fun l M p h => ?_)
  refine Mt.of (P := bk_X4_bestPlace_0 g (fun o u => o = some (.int (v_bestPlace M p).1) ∧ u = (v_bestPlace M p).2) (fun L st s => uOne M p = true ∧ ∃ n, I_mbp g p.toNatClampNeg (mA 2 M p.toNatClampNeg) (uBp p.toNatClampNeg 0 10 0 (-1) M) n L st s)) (by decide) rfl (Nat.le_of_ble_eq_true rfl) rfl (fun X C R => s_X4_bestPlace_0 B g C R (Snd.imp (fun hc => snd_loop _ (I_mbp g p.toNatClampNeg (mA 2 M p.toNatClampNeg) (uBp p.toNatClampNeg 0 10 0 (-1) M)) (fun K hK => s_X4_bestPlace_29 B g C R hK) ?_))) ?_
  · rintro K n L st s ⟨k, b, m, hn, hp, rfl, rfl, hf⟩ hK
    have er : v_bestPlace M p = ((uBp p.toNatClampNeg 0 10 0 (-1) M).1, maA 2 (uBp p.toNatClampNeg 0 10 0 (-1) M).2 p.toNatClampNeg (mA 2 M p.toNatClampNeg)) := by
      unfold v_bestPlace
      rw [if_neg (by rw [hc]; exact Bool.noConfusion)]
    obtain ⟨ep, hp7⟩ := ixB_c (mPub_p h hc) (by decide)
    rw [er]
    generalize p.toNatClampNeg = q at *
    subst ep
    have cq : (nI q).toNatClampNeg = q := nI_clamp (by omega)
    have w0 : vp_in (nI q) 7 := vp_in_nI hp7 (by decide)
    simp only [wIload, wAload, wLload, wK, wB, wDv, wU, wLB, wLU, wLS, wL2i, wLcmp, wIf1, wIf2, wKeep, wInc, wIst, wAst, wLst, wDup, wPop, wDup2, wGet, wPut, wPutZ, wIald, wLald, wIast, wLast, wLen, wRetI, wRetZ, wRetL, wRetA, wRetV, wM1, wM2, wCpy, wTab, tabW, nth, stL, stL2, dropL, keepL, mkL, padL, restOK, restOKn, tl_some, tl_none, id_eq, eq_self, true_and, and_true, bk_X4_bestPlace_0, bk_X4_bestPlace_69, bk_X4_bestPlace_29, F_X4_isOne, F_X4_no, F_X4_runOf, cf_RII_e, cf_RI_e, mS_S, mA_A, mS_A, mA_S, mS_a, mA_a, Nat.reduceEqDiff, reduceIte]
    rcases Nat.lt_or_ge k 10 with hlt | hge
    · have h1 : ¬ (100 : Int32) ≤ nI (10 * k) := nI_ge (a := 10 * k) (b := 100) (by omega) (by decide)
      obtain ⟨n, rfl⟩ : ∃ m, n = m + 1 := ⟨n - 1, by omega⟩
      rw [uBp_s] at hf
      have e10 : nI (10 * k) + 10 = nI (10 * (k + 1)) := nI_add _ 10
      have hp2 := mPub_rn (mPub_place hp q (nI (10 * k)))
      have hp3 := pEq_pub (mPub_place hp q (nI (10 * k))) (uRun_pEq hp2 1 0)
      simp only [h1, cq, w0, hp2, e10, false_implies, true_implies, not_true_eq_false, not_false_eq_true, true_and, and_true, implies_true, eq_self, ne_eq, true_or, or_true, false_or, or_false, and_self]
      generalize uRun (maA 2 s q (nI (10 * k))) 1 0 = z at hf hp3 ⊢
      by_cases h2 : m < z.1
      · rw [if_pos h2] at hf
        simp only [h2, false_implies, true_implies, not_true_eq_false, not_false_eq_true, true_and, and_true, implies_true, eq_self, ne_eq, true_or, or_true, false_or, or_false, and_self]
        exact hK n _ _ _ (by omega) ⟨k + 1, _, _, by omega, hp3, rfl, rfl, hf⟩
      · rw [if_neg h2] at hf
        simp only [h2, false_implies, true_implies, not_true_eq_false, not_false_eq_true, true_and, and_true, implies_true, eq_self, ne_eq, true_or, or_true, false_or, or_false, and_self]
        exact hK n _ _ _ (by omega) ⟨k + 1, _, _, by omega, hp3, rfl, rfl, hf⟩
    · have h1 : (100 : Int32) ≤ nI (10 * k) := nI_le (a := 100) (by omega) (by omega)
      have h0 : n = 0 := by omega
      subst h0
      have hf : (b, s) = uBp q 0 10 0 (-1) M := hf
      rw [← hf]
      simp only [h1, cq, w0, false_implies, true_implies, not_true_eq_false, not_false_eq_true, true_and, and_true, implies_true, eq_self, ne_eq, true_or, or_true, false_or, or_false, and_self]
  · have hv := fun z => ixB_v (mPub_p h (p := p) z) (by decide)
    simp only [wIload, wAload, wLload, wK, wB, wDv, wU, wLB, wLU, wLS, wL2i, wLcmp, wIf1, wIf2, wKeep, wInc, wIst, wAst, wLst, wDup, wPop, wDup2, wGet, wPut, wPutZ, wIald, wLald, wIast, wLast, wLen, wRetI, wRetZ, wRetL, wRetA, wRetV, wM1, wM2, wCpy, wTab, tabW, nth, stL, stL2, dropL, keepL, mkL, padL, restOK, restOKn, tl_some, tl_none, id_eq, eq_self, true_and, and_true, bk_X4_bestPlace_0, bk_X4_bestPlace_69, bk_X4_bestPlace_29, F_X4_isOne, F_X4_no, F_X4_runOf, cf_RII_e, cf_RI_e, mS_S, mA_A, mS_A, mA_S, mS_a, mA_a, Nat.reduceEqDiff, reduceIte, b2i_eq0, refI1]
    cases hc : uOne M p
    · have e : v_bestPlace M p = (-1, uNo M (-1)) := by unfold v_bestPlace; rw [if_pos hc]
      rw [e]
      simp only [hc, false_implies, true_implies, not_true_eq_false, not_false_eq_true, true_and, and_true, implies_true, eq_self, ne_eq, true_or, or_true, false_or, or_false, and_self]
    · have w0 := hv hc
      simp only [hc, w0, Bool.true_eq_false, false_implies, true_implies, not_true_eq_false, not_false_eq_true, true_and, and_true, implies_true, eq_self, ne_eq, true_or, or_true, false_or, or_false, and_self]
      obtain ⟨ep, hp7⟩ := ixB_c (mPub_p h hc) (by decide)
      refine ⟨10, 0, 0, -1, rfl, h, rfl, ?_, rfl⟩
      rw [← ep]
      rfl
def uSm : Nat → Nat → Int32 → Int32 → MS → Int32 × MS
  | _, 0, b, _, M => (b, M)
  | k, j + 1, b, m, M => if m < (uRun (msS 20 M (nI k)) 1 0).1 then uSm (k + 1) j (nI k) (uRun (msS 20 M (nI k)) 1 0).1 (uRun (msS 20 M (nI k)) 1 0).2 else uSm (k + 1) j b m (uRun (msS 20 M (nI k)) 1 0).2
theorem uSm_s (k j : Nat) (b m : Int32) (M : MS) : uSm k (j + 1) b m M = if m < (uRun (msS 20 M (nI k)) 1 0).1 then uSm (k + 1) j (nI k) (uRun (msS 20 M (nI k)) 1 0).1 (uRun (msS 20 M (nI k)) 1 0).2 else uSm (k + 1) j b m (uRun (msS 20 M (nI k)) 1 0).2 := rfl
def uSz (M : MS) : Int32 × MS := uSm 0 10 0 (-1) (msS 18 M 3)
def v_smallest (M : MS) : Int32 × MS := ((uSz M).1, msS 20 (msS 18 (uSz M).2 (mS 18 M)) (mS 20 M))
def F_X4_smallest (g : Nat → Nat) : CF MS := cf_R (g 30) (fun M => mPub M) (fun M => some (.int (v_smallest M).1)) (fun M => (v_smallest M).2)
theorem inw_X4_smallest_X4 : ∀ w ∈ u_ws RX4 TX4 45, w ∈ wsX4_smallest := by decide +kernel
def bk_X4_smallest_0 (g : Nat → Nat) (Post : Option Value → MS → Prop) (K23 : PT MS) (L : Lc) (st : List Value) (s : MS) : Prop :=
  (wAload 0 <| wGet (g 30) (fun s => .int (mS 18 s)) <| wIst 1 <| wAload 0 <| wGet (g 30) (fun s => .int (mS 20 s)) <| wIst 2 <| wAload 0 <| wK (.int 3) <| wPut (g 30) (msS 18) <| wK (.int 0) <| wIst 3 <| wK (.int (-1)) <| wIst 4 <| wK (.int 0) <| wIst 5 <| wKeep [true, true, true, true, true, true, false] K23) L st s
set_option maxRecDepth 20000 in
theorem s_X4_smallest_0 {X : Cx} (B : Bx) (g : Nat → Nat) {Post : Option Value → MS → Prop} (C : OkX X (gx B) cX4_smallest 7 wsX4_smallest RX4 (rmD 8)) (R : RtX X (gx B) (some .int) (encM B g) Post) {K23 : PT MS} (hK23 : Snd X (gx B) 7 (encM B g) 23 K23) : Snd X (gx B) 7 (encM B g) 0 (bk_X4_smallest_0 g Post K23) := by
  unfold bk_X4_smallest_0
  refine s_aload_n C rfl dX4_smallest_0 ?_
  refine s_get C inw_X4_smallest_X4 rfl (k := 18) (by decide) (by decide +kernel) (heM_0 B g) (fun _ => rfl) dX4_smallest_1 ?_
  refine s_istore_n C rfl (by decide) dX4_smallest_4 ?_
  refine s_aload_n C rfl dX4_smallest_5 ?_
  refine s_get C inw_X4_smallest_X4 rfl (k := 20) (by decide) (by decide +kernel) (heM_0 B g) (fun _ => rfl) dX4_smallest_6 ?_
  refine s_istore_n C rfl (by decide) dX4_smallest_9 ?_
  refine s_aload_n C rfl dX4_smallest_10 ?_
  refine s_iconst C (by decide) dX4_smallest_11 ?_
  refine s_put C inw_X4_smallest_X4 rfl (k := 18) (by decide) (by decide +kernel) tyX4_ok nmX4 (by decide +kernel) (by decide +kernel) (heM_0 B g) (fun _ => Nat.le_of_ble_eq_true rfl) (fun _ _ => rfl) dX4_smallest_12 ?_
  refine s_iconst C (by decide) dX4_smallest_15 ?_
  refine s_istore_n C rfl (by decide) dX4_smallest_16 ?_
  refine s_iconst C (by decide) dX4_smallest_17 ?_
  refine s_istore C (by decide) dX4_smallest_18 ?_
  refine s_iconst C (by decide) dX4_smallest_20 ?_
  refine s_istore C (by decide) dX4_smallest_21 ?_
  exact s_keep _ hK23
def bk_X4_smallest_61 (g : Nat → Nat) (Post : Option Value → MS → Prop) (K23 : PT MS) (L : Lc) (st : List Value) (s : MS) : Prop :=
  (wInc 5 1 <| wKeep [true, true, true, true, true, true, false] K23) L st s
set_option maxRecDepth 20000 in
theorem s_X4_smallest_61 {X : Cx} (B : Bx) (g : Nat → Nat) {Post : Option Value → MS → Prop} (C : OkX X (gx B) cX4_smallest 7 wsX4_smallest RX4 (rmD 8)) (R : RtX X (gx B) (some .int) (encM B g) Post) {K23 : PT MS} (hK23 : Snd X (gx B) 7 (encM B g) 23 K23) : Snd X (gx B) 7 (encM B g) 61 (bk_X4_smallest_61 g Post K23) := by
  unfold bk_X4_smallest_61
  refine s_iinc C (by decide) (by decide) dX4_smallest_61 ?_
  refine s_goto C (tgt := 23) (by decide) dX4_smallest_64 ?_
  exact s_keep _ hK23
def bk_X4_smallest_23 (g : Nat → Nat) (Post : Option Value → MS → Prop) (K23 : PT MS) (L : Lc) (st : List Value) (s : MS) : Prop :=
  (wIload 5 <| wK (.int 10) <| wIf2 (fun x y => y ≤ x) (wAload 0 <| wIload 1 <| wPut (g 30) (msS 18) <| wAload 0 <| wIload 2 <| wPut (g 30) (msS 20) <| wIload 3 <| wRetI Post) (wAload 0 <| wIload 5 <| wPut (g 30) (msS 20) <| wAload 0 <| wK (.int 1) <| wK (.int 0) <| wCallR 3 (F_X4_runOf g) id (fun _ u => u) <| wIst 6 <| wIload 6 <| wIload 4 <| wIf2 (fun x y => y < x) (wIload 5 <| wIst 3 <| wIload 6 <| wIst 4 <| bk_X4_smallest_61 g Post K23) (bk_X4_smallest_61 g Post K23))) L st s
set_option maxRecDepth 20000 in
theorem s_X4_smallest_23 {X : Cx} (B : Bx) (g : Nat → Nat) {Post : Option Value → MS → Prop} (C : OkX X (gx B) cX4_smallest 7 wsX4_smallest RX4 (rmD 8)) (R : RtX X (gx B) (some .int) (encM B g) Post) {K23 : PT MS} (hK23 : Snd X (gx B) 7 (encM B g) 23 K23) : Snd X (gx B) 7 (encM B g) 23 (bk_X4_smallest_23 g Post K23) := by
  unfold bk_X4_smallest_23
  refine s_iload C dX4_smallest_23 ?_
  refine s_bipush C (by decide) dX4_smallest_25 ?_
  refine s_icmp_ge C (tgt := 67) (by decide) dX4_smallest_27 ?_ ?_
  · refine s_aload_n C rfl dX4_smallest_67 ?_
    refine s_iload_n C rfl dX4_smallest_68 ?_
    refine s_put C inw_X4_smallest_X4 rfl (k := 18) (by decide) (by decide +kernel) tyX4_ok nmX4 (by decide +kernel) (by decide +kernel) (heM_0 B g) (fun _ => Nat.le_of_ble_eq_true rfl) (fun _ _ => rfl) dX4_smallest_69 ?_
    refine s_aload_n C rfl dX4_smallest_72 ?_
    refine s_iload_n C rfl dX4_smallest_73 ?_
    refine s_put C inw_X4_smallest_X4 rfl (k := 20) (by decide) (by decide +kernel) tyX4_ok nmX4 (by decide +kernel) (by decide +kernel) (heM_0 B g) (fun _ => Nat.le_of_ble_eq_true rfl) (fun _ _ => rfl) dX4_smallest_74 ?_
    refine s_iload_n C rfl dX4_smallest_77 ?_
    exact s_iret C R dX4_smallest_78
  · refine s_aload_n C rfl dX4_smallest_30 ?_
    refine s_iload C dX4_smallest_31 ?_
    refine s_put C inw_X4_smallest_X4 rfl (k := 20) (by decide) (by decide +kernel) tyX4_ok nmX4 (by decide +kernel) (by decide +kernel) (heM_0 B g) (fun _ => Nat.le_of_ble_eq_true rfl) (fun _ _ => rfl) dX4_smallest_33 ?_
    refine s_aload_n C rfl dX4_smallest_36 ?_
    refine s_iconst C (by decide) dX4_smallest_37 ?_
    refine s_iconst C (by decide) dX4_smallest_38 ?_
    refine s_callV C (fr_M_M B g) (k_X4_runOf B g) gX4_smallest_X4_runOf rfl (by decide +kernel) ⟨rfl, rfl⟩ (by decide) rfl (fun s => ⟨_, heM_0 B g s⟩) (cf_RII_r _ _ _ _) dX4_smallest_39 ?_
    refine s_istore C (by decide) dX4_smallest_42 ?_
    refine s_iload C dX4_smallest_44 ?_
    refine s_iload C dX4_smallest_46 ?_
    refine s_icmp_gt C (tgt := 54) (by decide) dX4_smallest_48 ?_ ?_
    · refine s_iload C dX4_smallest_54 ?_
      refine s_istore_n C rfl (by decide) dX4_smallest_56 ?_
      refine s_iload C dX4_smallest_57 ?_
      refine s_istore C (by decide) dX4_smallest_59 ?_
      exact s_X4_smallest_61 B g C R hK23
    · refine s_goto C (tgt := 61) (by decide) dX4_smallest_51 ?_
      exact s_X4_smallest_61 B g C R hK23
theorem mPub_size {M : MS} (h : mPub M) (v : Int32) : mPub (msS 20 M v) := h
theorem mPub_law {M : MS} (h : mPub M) (v : Int32) : mPub (msS 18 M v) := h
def I_msm (g : Nat → Nat) (ol os : Int32) (fin : Int32 × MS) (n : Nat) (L : Lc) (st : List Value) (s : MS) : Prop := ∃ (k : Nat) (b m : Int32), n + k = 10 ∧ mPub s ∧ st = [] ∧ L = [some (.ref (g 30)), some (.int ol), some (.int os), some (.int b), some (.int m), some (.int (nI k)), none] ∧ uSm k n b m s = fin
theorem k_X4_smallest (B : Bx) (g : Nat → Nat) : MtF (gx B) yX4_smallest wsX4_smallest (rmD 8) (encM B g) (F_X4_smallest g) := by
  refine cf_R_i (fun l M h => ?_)
  have er : v_smallest M = ((uSz M).1, msS 20 (msS 18 (uSz M).2 (mS 18 M)) (mS 20 M)) := rfl
  rw [er]
  generalize hfin : uSz M = fin
  unfold uSz at hfin
  generalize eol : mS 18 M = ol
  generalize eos : mS 20 M = os
  refine Mt.of (P := bk_X4_smallest_0 g (fun o u => o = some (.int fin.1) ∧ u = msS 20 (msS 18 fin.2 ol) os) (fun L st s => ∃ n, I_msm g ol os fin n L st s)) (by decide) rfl (Nat.le_of_ble_eq_true rfl) rfl (fun X C R => s_X4_smallest_0 B g C R (snd_loop _ (I_msm g ol os fin) (fun K hK => s_X4_smallest_23 B g C R hK) ?_)) ?_
  · rintro K n L st s ⟨k, b, m, hn, hp, rfl, rfl, hf⟩ hK
    simp only [wIload, wAload, wLload, wK, wB, wDv, wU, wLB, wLU, wLS, wL2i, wLcmp, wIf1, wIf2, wKeep, wInc, wIst, wAst, wLst, wDup, wPop, wDup2, wGet, wPut, wPutZ, wIald, wLald, wIast, wLast, wLen, wRetI, wRetZ, wRetL, wRetA, wRetV, wM1, wM2, wCpy, wTab, tabW, nth, stL, stL2, dropL, keepL, mkL, padL, restOK, restOKn, tl_some, tl_none, id_eq, eq_self, true_and, and_true, bk_X4_smallest_0, bk_X4_smallest_61, bk_X4_smallest_23, F_X4_runOf, cf_RII_e, mS_S, mA_A, mS_A, mA_S, mS_a, mA_a, Nat.reduceEqDiff, reduceIte]
    rcases Nat.lt_or_ge k 10 with hlt | hge
    · have h1 : ¬ (10 : Int32) ≤ nI k := nI_ge (a := k) (b := 10) (by omega) (by decide)
      obtain ⟨n, rfl⟩ : ∃ m, n = m + 1 := ⟨n - 1, by omega⟩
      rw [uSm_s] at hf
      have hp2 := mPub_rn (mPub_size hp (nI k))
      have hp3 := pEq_pub (mPub_size hp (nI k)) (uRun_pEq hp2 1 0)
      simp only [h1, hp2, false_implies, true_implies, not_true_eq_false, not_false_eq_true, true_and, and_true, implies_true, eq_self, ne_eq, true_or, or_true, false_or, or_false, and_self]
      generalize uRun (msS 20 s (nI k)) 1 0 = z at hf hp3 ⊢
      by_cases h2 : m < z.1
      · rw [if_pos h2] at hf
        simp only [h2, false_implies, true_implies, not_true_eq_false, not_false_eq_true, true_and, and_true, implies_true, eq_self, ne_eq, true_or, or_true, false_or, or_false, and_self]
        rw [nI_1]
        exact hK n _ _ _ (by omega) ⟨k + 1, _, _, by omega, hp3, rfl, rfl, hf⟩
      · rw [if_neg h2] at hf
        simp only [h2, false_implies, true_implies, not_true_eq_false, not_false_eq_true, true_and, and_true, implies_true, eq_self, ne_eq, true_or, or_true, false_or, or_false, and_self]
        rw [nI_1]
        exact hK n _ _ _ (by omega) ⟨k + 1, _, _, by omega, hp3, rfl, rfl, hf⟩
    · have h1 : (10 : Int32) ≤ nI k := nI_le (a := 10) (by omega) (by omega)
      have h0 : n = 0 := by omega
      subst h0
      have hf : (b, s) = fin := hf
      subst hf
      simp only [h1, false_implies, true_implies, not_true_eq_false, not_false_eq_true, true_and, and_true, implies_true, eq_self, ne_eq, true_or, or_true, false_or, or_false, and_self]
  · simp only [wIload, wAload, wLload, wK, wB, wDv, wU, wLB, wLU, wLS, wL2i, wLcmp, wIf1, wIf2, wKeep, wInc, wIst, wAst, wLst, wDup, wPop, wDup2, wGet, wPut, wPutZ, wIald, wLald, wIast, wLast, wLen, wRetI, wRetZ, wRetL, wRetA, wRetV, wM1, wM2, wCpy, wTab, tabW, nth, stL, stL2, dropL, keepL, mkL, padL, restOK, restOKn, tl_some, tl_none, id_eq, eq_self, true_and, and_true, bk_X4_smallest_0, bk_X4_smallest_61, bk_X4_smallest_23, F_X4_runOf, cf_RII_e, mS_S, mA_A, mS_A, mA_S, mS_a, mA_a, Nat.reduceEqDiff, reduceIte]
    rw [eol, eos]
    exact ⟨10, 0, 0, -1, rfl, mPub_law h 3, rfl, rfl, hfin⟩
end
