noncomputable section
def v_feed (M : MS) (v : Int32) : Int32 × MS := if v < 0 then (-4, uNo M (-4)) else if 255 < v then (-6, uNo M (-6)) else if mS 27 M = 64 then (-6, uNo M (-6)) else (mS 27 M + 1, msS 27 (maA 23 M (mS 27 M).toNatClampNeg v) (mS 27 M + 1))
def F_X4_feed (g : Nat → Nat) : CF MS := cf_RI (g 30) (fun M _ => tpB M) (fun M p => some (.int (v_feed M p).1)) (fun M p => (v_feed M p).2)
theorem inw_X4_feed_X4 : ∀ w ∈ u_ws RX4 TX4 45, w ∈ wsX4_feed := by decide +kernel
def bk_X4_feed_25 (g : Nat → Nat) (Post : Option Value → MS → Prop)  (L : Lc) (st : List Value) (s : MS) : Prop :=
  (wIload 2 <| wIf1 (fun x => x = 0) (wAload 0 <| wGet (g 30) (fun _ => .ref (g 54)) <| wAload 0 <| wGet (g 30) (fun s => .int (mS 27 s)) <| wIload 1 <| wIast (g 54) 64 (maA 23) <| wAload 0 <| wDup <| wGet (g 30) (fun s => .int (mS 27 s)) <| wK (.int 1) <| wB (fun x y => x + y) <| wPut (g 30) (msS 27) <| wAload 0 <| wGet (g 30) (fun s => .int (mS 27 s)) <| wRetI Post) (wAload 0 <| wIload 2 <| wCallR 2 (F_X4_no g) id (fun _ u => u) <| wRetI Post)) L st s
set_option maxRecDepth 20000 in
theorem s_X4_feed_25 {X : Cx} (B : Bx) (g : Nat → Nat) {Post : Option Value → MS → Prop} (C : OkX X (gx B) cX4_feed 3 wsX4_feed RX4 (rmD 1)) (R : RtX X (gx B) (some .int) (encM B g) Post)  : Snd X (gx B) 3 (encM B g) 25 (bk_X4_feed_25 g Post ) := by
  unfold bk_X4_feed_25
  refine s_iload_n C rfl dX4_feed_25 ?_
  refine s_if_eq C (tgt := 35) (by decide) dX4_feed_26 ?_ ?_
  · refine s_aload_n C rfl dX4_feed_35 ?_
    refine s_get C inw_X4_feed_X4 rfl (k := 23) (by decide) (by decide +kernel) (heM_0 B g) (fun _ => rfl) dX4_feed_36 ?_
    refine s_aload_n C rfl dX4_feed_39 ?_
    refine s_get C inw_X4_feed_X4 rfl (k := 27) (by decide) (by decide +kernel) (heM_0 B g) (fun _ => rfl) dX4_feed_40 ?_
    refine s_iload_n C rfl dX4_feed_43 ?_
    refine s_iast C (heM_16 B g) (fun _ _ _ => rfl) dX4_feed_44 ?_
    refine s_aload_n C rfl dX4_feed_45 ?_
    refine s_dup C dX4_feed_46 ?_
    refine s_get C inw_X4_feed_X4 rfl (k := 27) (by decide) (by decide +kernel) (heM_0 B g) (fun _ => rfl) dX4_feed_47 ?_
    refine s_iconst C (by decide) dX4_feed_50 ?_
    refine s_iadd C dX4_feed_51 ?_
    refine s_put C inw_X4_feed_X4 rfl (k := 27) (by decide) (by decide +kernel) tyX4_ok nmX4 (by decide +kernel) (by decide +kernel) (heM_0 B g) (fun _ => Nat.le_of_ble_eq_true rfl) (fun _ _ => rfl) dX4_feed_52 ?_
    refine s_aload_n C rfl dX4_feed_55 ?_
    refine s_get C inw_X4_feed_X4 rfl (k := 27) (by decide) (by decide +kernel) (heM_0 B g) (fun _ => rfl) dX4_feed_56 ?_
    exact s_iret C R dX4_feed_59
  · refine s_aload_n C rfl dX4_feed_29 ?_
    refine s_iload_n C rfl dX4_feed_30 ?_
    refine s_callV C (fr_M_M B g) (k_X4_no B g) gX4_feed_X4_no rfl (by decide +kernel) ⟨rfl, rfl⟩ (by decide) rfl (fun s => ⟨_, heM_0 B g s⟩) (cf_RI_r _ _ _ _) dX4_feed_31 ?_
    exact s_iret C R dX4_feed_34
def bk_X4_feed_0 (g : Nat → Nat) (Post : Option Value → MS → Prop)  (L : Lc) (st : List Value) (s : MS) : Prop :=
  (wIload 1 <| wK (.int 0) <| wK (.int 255) <| wCallR 3 (F_X4_bound) (fun _ => ()) (fun s _ => s) <| wIst 2 <| wIload 2 <| wIf1 (fun x => x = 0) (wAload 0 <| wGet (g 30) (fun s => .int (mS 27 s)) <| wK (.int 64) <| wIf2 (fun x y => x = y) (wK (.int (-6)) <| wIst 2 <| bk_X4_feed_25 g Post ) (bk_X4_feed_25 g Post )) (bk_X4_feed_25 g Post )) L st s
set_option maxRecDepth 20000 in
theorem s_X4_feed_0 {X : Cx} (B : Bx) (g : Nat → Nat) {Post : Option Value → MS → Prop} (C : OkX X (gx B) cX4_feed 3 wsX4_feed RX4 (rmD 1)) (R : RtX X (gx B) (some .int) (encM B g) Post)  : Snd X (gx B) 3 (encM B g) 0 (bk_X4_feed_0 g Post ) := by
  unfold bk_X4_feed_0
  refine s_iload_n C rfl dX4_feed_0 ?_
  refine s_iconst C (by decide) dX4_feed_1 ?_
  refine s_sipush C (by decide) dX4_feed_2 ?_
  refine s_callS C (fr_M_E B g) (k_X4_bound B) gX4_feed_X4_bound rfl (by decide +kernel) ⟨rfl, rfl⟩ (by decide) (cf_III_r _ _ _) dX4_feed_5 ?_
  refine s_istore_n C rfl (by decide) dX4_feed_8 ?_
  refine s_iload_n C rfl dX4_feed_9 ?_
  refine s_if_ne C (tgt := 25) (by decide) dX4_feed_10 ?_ ?_
  · exact s_X4_feed_25 B g C R 
  · refine s_aload_n C rfl dX4_feed_13 ?_
    refine s_get C inw_X4_feed_X4 rfl (k := 27) (by decide) (by decide +kernel) (heM_0 B g) (fun _ => rfl) dX4_feed_14 ?_
    refine s_bipush C (by decide) dX4_feed_17 ?_
    refine s_icmp_ne C (tgt := 25) (by decide) dX4_feed_19 ?_ ?_
    · exact s_X4_feed_25 B g C R 
    · refine s_bipush C (by decide) dX4_feed_22 ?_
      refine s_istore_n C rfl (by decide) dX4_feed_24 ?_
      exact s_X4_feed_25 B g C R 
theorem k_X4_feed (B : Bx) (g : Nat → Nat) : MtF (gx B) yX4_feed wsX4_feed (rmD 1) (encM B g) (F_X4_feed g) := by
  refine cf_RI_i (fun l M v h => Mt.of (by decide) rfl (Nat.le_of_ble_eq_true rfl) rfl (fun X C R => s_X4_feed_0 B g C R) ?_)
  have w : ¬ mS 27 M = 64 → vp_in (mS 27 M) 64 := fun z => by
    obtain ⟨t, h1, h2⟩ := h
    rw [h2] at z ⊢
    exact vp_in_nI (Nat.lt_of_le_of_ne h1 (fun e => z (by rw [e]; rfl))) (by decide)
  have a1 : ¬ (-4 : Int32) = 0 := by decide
  have a2 : ¬ (-6 : Int32) = 0 := by decide
  simp only [wIload, wAload, wLload, wK, wB, wDv, wU, wLB, wLU, wLS, wL2i, wLcmp, wIf1, wIf2, wKeep, wInc, wIst, wAst, wLst, wDup, wPop, wDup2, wGet, wPut, wPutZ, wIald, wLald, wIast, wLast, wLen, wRetI, wRetZ, wRetL, wRetA, wRetV, wM1, wM2, wCpy, wTab, tabW, nth, stL, stL2, dropL, keepL, mkL, padL, restOK, restOKn, tl_some, tl_none, id_eq, eq_self, true_and, and_true, bk_X4_feed_25, bk_X4_feed_0, F_X4_bound, F_X4_no, cf_III_e, cf_RI_e, mS_S, mA_A, mS_A, mA_S, mS_a, mA_a, Nat.reduceEqDiff, reduceIte]
  unfold uBd
  by_cases h1 : v < 0
  · have e : v_feed M v = (-4, uNo M (-4)) := if_pos h1
    rw [e]
    simp only [h1, if_pos, a1, refI4, false_implies, true_implies, not_true_eq_false, not_false_eq_true, true_and, and_true, implies_true, eq_self, ne_eq, true_or, or_true, false_or, or_false, and_self]
    all_goals first | done | exact ⟨rfl, rfl⟩ | exact rfl | exact b2i_01 _ | exact ⟨b2i_01 _, rfl, rfl⟩ | exact ⟨b2i_01 _, rfl⟩ | exact ⟨rfl, rfl, rfl⟩ | exact trivial
  · by_cases h2 : 255 < v
    · have e : v_feed M v = (-6, uNo M (-6)) := by unfold v_feed; rw [if_neg h1, if_pos h2]
      rw [e]
      simp only [h1, h2, if_pos, if_false, a2, refI6, false_implies, true_implies, not_true_eq_false, not_false_eq_true, true_and, and_true, implies_true, eq_self, ne_eq, true_or, or_true, false_or, or_false, and_self]
      all_goals first | done | exact ⟨rfl, rfl⟩ | exact rfl | exact b2i_01 _ | exact ⟨b2i_01 _, rfl, rfl⟩ | exact ⟨b2i_01 _, rfl⟩ | exact ⟨rfl, rfl, rfl⟩ | exact trivial
    · by_cases h3 : mS 27 M = 64
      · have e : v_feed M v = (-6, uNo M (-6)) := by unfold v_feed; rw [if_neg h1, if_neg h2, if_pos h3]
        rw [e]
        simp only [h1, h2, h3, if_false, a2, refI6, false_implies, true_implies, not_true_eq_false, not_false_eq_true, true_and, and_true, implies_true, eq_self, ne_eq, true_or, or_true, false_or, or_false, and_self]
        all_goals first | done | exact ⟨rfl, rfl⟩ | exact rfl | exact b2i_01 _ | exact ⟨b2i_01 _, rfl, rfl⟩ | exact ⟨b2i_01 _, rfl⟩ | exact ⟨rfl, rfl, rfl⟩ | exact trivial
      · have e : v_feed M v = (mS 27 M + 1, msS 27 (maA 23 M (mS 27 M).toNatClampNeg v) (mS 27 M + 1)) := by unfold v_feed; rw [if_neg h1, if_neg h2, if_neg h3]
        have w0 := w h3
        rw [e]
        simp only [h1, h2, h3, if_false, w0, false_implies, true_implies, not_true_eq_false, not_false_eq_true, true_and, and_true, implies_true, eq_self, ne_eq, true_or, or_true, false_or, or_false, and_self]
        all_goals first | done | exact ⟨rfl, rfl⟩ | exact rfl | exact b2i_01 _ | exact ⟨b2i_01 _, rfl, rfl⟩ | exact ⟨b2i_01 _, rfl⟩ | exact ⟨rfl, rfl, rfl⟩ | exact trivial
def twS (x : Bool × MS) : Bool × MS := ((uSt x.2).1, msS 29 (uSt x.2).2 (mS 29 (uSt x.2).2 + b2i (uSt x.2).1))
def twL : Nat → Bool × MS → Bool × MS
  | 0, x => x
  | n + 1, x => if x.1 = true ∧ (mS 28 x.2 < mS 27 x.2 ∨ mS 29 x.2 = 0) then twL n (twS x) else x
theorem twL_s (n : Nat) (x : Bool × MS) : twL (n + 1) x = if x.1 = true ∧ (mS 28 x.2 < mS 27 x.2 ∨ mS 29 x.2 = 0) then twL n (twS x) else x := rfl
def twC : Nat → Nat → MS → Int32 × MS
  | _, 0, M => (mS 29 M, M)
  | k, n + 1, M => if (uCm M k).1 = true then twC (k + 1) n (uCm M k).2 else (-2000 - mA 25 (uPA (uCm M k).2 1 0) k, uPA (uCm M k).2 1 0)
theorem twC_s (k n : Nat) (M : MS) : twC k (n + 1) M = if (uCm M k).1 = true then twC (k + 1) n (uCm M k).2 else (-2000 - mA 25 (uPA (uCm M k).2 1 0) k, uPA (uCm M k).2 1 0) := rfl
def uTw (M : MS) : Bool × MS := twL 66 (true, msS 29 (msS 28 M 0) 0)
def uT2 (x : Bool × MS) : Int32 × MS := if x.1 = true then twC 0 (uSts x.2) (uPA (msS 27 x.2 0) 1 1) else (-1000 - mS 28 x.2, msS 27 x.2 0)
def v_town (M : MS) : Int32 × MS := uT2 (uTw M)
/-- what a statement leaves: nobody is told, only letters -/
def twK (M s : MS) : Prop := lpB s ∧ (∃ j, mS 29 s = nI j ∧ 2 * j ≤ uAt s) ∧ (∀ i, ¬ i = 28 → ¬ i = 29 → mS i s = mS i M) ∧ ∀ i, ¬ i = 24 → ¬ i = 25 → ¬ i = 26 → mA i s = mA i M
theorem twK_j {M s : MS} (h : twK M s) (hc : mS 28 s < mS 27 s ∨ mS 29 s = 0) : ∃ j, j < 32 ∧ mS 29 s = nI j := by
  obtain ⟨h1, ⟨j, h2, h3⟩, -, -⟩ := h
  refine ⟨j, ?_, h2⟩
  rcases hc with hc | hc
  · obtain ⟨a, t, b1, b2, b3, b4⟩ := lpB_lt h1 hc
    have : uAt s = a := by unfold uAt; rw [b3, nI_clamp (by omega)]
    omega
  · obtain ⟨e, t, b1, b2, b3⟩ := lpB_c h1
    rw [h2] at hc
    have := congrArg Int32.toNatClampNeg hc
    rw [nI_clamp (by omega)] at this
    have : j = 0 := this
    omega
theorem twS_K {M : MS} {x : Bool × MS} (h : twK M x.2) (hc : mS 28 x.2 < mS 27 x.2 ∨ mS 29 x.2 = 0) : twK M (twS x).2 ∧ ((twS x).1 = true → uAt x.2 + 2 ≤ uAt (twS x).2) := by
  obtain ⟨j, hj, hs⟩ := twK_j h hc
  obtain ⟨b1, b2, b3, b4, b5⟩ := uSt_mv h.1
  obtain ⟨l0, ⟨j', hs', hj'⟩, k3, k4⟩ := h
  have e : mS 29 (uSt x.2).2 = nI j := by rw [b4 29 (by decide), hs]
  have ej : j' = j := by
    obtain ⟨e1, t, c1, c2, c3⟩ := lpB_c l0
    have := congrArg Int32.toNatClampNeg (hs'.symm.trans hs)
    rw [nI_clamp (by omega), nI_clamp (by omega)] at this
    exact this
  subst ej
  refine ⟨⟨b1, ⟨j' + (if (uSt x.2).1 = true then 1 else 0), ?_, ?_⟩, fun i h1 h2 => ?_, fun i h1 h2 h3 => (b5 i h1 h2 h3).trans (k4 i h1 h2 h3)⟩, fun ht => b3 ht⟩
  · unfold twS
    rw [mS_S, if_pos rfl, e]
    cases (uSt x.2).1
    · exact nI_add j' 0
    · exact nI_add j' 1
  · show 2 * (j' + (if (uSt x.2).1 = true then 1 else 0)) ≤ uAt (uSt x.2).2
    cases hb : (uSt x.2).1
    · rw [if_neg (by decide)]; omega
    · have := b3 hb
      rw [if_pos rfl]; omega
  · unfold twS
    rw [mS_S, if_neg h2]
    exact (b4 i h1).trans (k3 i h1 h2)
def F_X4_town (g : Nat → Nat) : CF MS := cf_R (g 30) (fun M => mPub M) (fun M => some (.int (v_town M).1)) (fun M => (v_town M).2)
theorem inw_X4_town_X4 : ∀ w ∈ u_ws RX4 TX4 45, w ∈ wsX4_town := by decide +kernel
def bk_X4_town_0 (g : Nat → Nat) (Post : Option Value → MS → Prop) (K12 : PT MS) (L : Lc) (st : List Value) (s : MS) : Prop :=
  (wAload 0 <| wK (.int 0) <| wPut (g 30) (msS 28) <| wAload 0 <| wK (.int 0) <| wPut (g 30) (msS 29) <| wK (.int 1) <| wIst 1 <| wKeep [true, true, false] K12) L st s
set_option maxRecDepth 20000 in
theorem s_X4_town_0 {X : Cx} (B : Bx) (g : Nat → Nat) {Post : Option Value → MS → Prop} (C : OkX X (gx B) cX4_town 3 wsX4_town RX4 (rmD 4)) (R : RtX X (gx B) (some .int) (encM B g) Post) {K12 : PT MS} (hK12 : Snd X (gx B) 3 (encM B g) 12 K12) : Snd X (gx B) 3 (encM B g) 0 (bk_X4_town_0 g Post K12) := by
  unfold bk_X4_town_0
  refine s_aload_n C rfl dX4_town_0 ?_
  refine s_iconst C (by decide) dX4_town_1 ?_
  refine s_put C inw_X4_town_X4 rfl (k := 28) (by decide) (by decide +kernel) tyX4_ok nmX4 (by decide +kernel) (by decide +kernel) (heM_0 B g) (fun _ => Nat.le_of_ble_eq_true rfl) (fun _ _ => rfl) dX4_town_2 ?_
  refine s_aload_n C rfl dX4_town_5 ?_
  refine s_iconst C (by decide) dX4_town_6 ?_
  refine s_put C inw_X4_town_X4 rfl (k := 29) (by decide) (by decide +kernel) tyX4_ok nmX4 (by decide +kernel) (by decide +kernel) (heM_0 B g) (fun _ => Nat.le_of_ble_eq_true rfl) (fun _ _ => rfl) dX4_town_7 ?_
  refine s_iconst C (by decide) dX4_town_10 ?_
  refine s_istore_n C rfl (by decide) dX4_town_11 ?_
  exact s_keep _ hK12
def bk_X4_town_53 (g : Nat → Nat) (Post : Option Value → MS → Prop) (K12 : PT MS) (L : Lc) (st : List Value) (s : MS) : Prop :=
  (wB (fun x y => x + y) <| wPut (g 30) (msS 29) <| wKeep [true, true, false] K12) L st s
set_option maxRecDepth 20000 in
theorem s_X4_town_53 {X : Cx} (B : Bx) (g : Nat → Nat) {Post : Option Value → MS → Prop} (C : OkX X (gx B) cX4_town 3 wsX4_town RX4 (rmD 4)) (R : RtX X (gx B) (some .int) (encM B g) Post) {K12 : PT MS} (hK12 : Snd X (gx B) 3 (encM B g) 12 K12) : Snd X (gx B) 3 (encM B g) 53 (bk_X4_town_53 g Post K12) := by
  unfold bk_X4_town_53
  refine s_iadd C dX4_town_53 ?_
  refine s_put C inw_X4_town_X4 rfl (k := 29) (by decide) (by decide +kernel) tyX4_ok nmX4 (by decide +kernel) (by decide +kernel) (heM_0 B g) (fun _ => Nat.le_of_ble_eq_true rfl) (fun _ _ => rfl) dX4_town_54 ?_
  refine s_goto C (tgt := 12) (by decide) dX4_town_57 ?_
  exact s_keep _ hK12
def bk_X4_town_34 (g : Nat → Nat) (Post : Option Value → MS → Prop) (K12 : PT MS) (L : Lc) (st : List Value) (s : MS) : Prop :=
  (wAload 0 <| wCallR 1 (F_X4_statement g) id (fun _ u => u) <| wIst 1 <| wAload 0 <| wDup <| wGet (g 30) (fun s => .int (mS 29 s)) <| wIload 1 <| wIf1 (fun x => x = 0) (wK (.int 0) <| bk_X4_town_53 g Post K12) (wK (.int 1) <| bk_X4_town_53 g Post K12)) L st s
set_option maxRecDepth 20000 in
theorem s_X4_town_34 {X : Cx} (B : Bx) (g : Nat → Nat) {Post : Option Value → MS → Prop} (C : OkX X (gx B) cX4_town 3 wsX4_town RX4 (rmD 4)) (R : RtX X (gx B) (some .int) (encM B g) Post) {K12 : PT MS} (hK12 : Snd X (gx B) 3 (encM B g) 12 K12) : Snd X (gx B) 3 (encM B g) 34 (bk_X4_town_34 g Post K12) := by
  unfold bk_X4_town_34
  refine s_aload_n C rfl dX4_town_34 ?_
  refine s_callV C (fr_M_M B g) (k_X4_statement B g) gX4_town_X4_statement rfl (by decide +kernel) ⟨rfl, rfl⟩ (by decide) rfl (fun s => ⟨_, heM_0 B g s⟩) (cf_R_r _ _ _ _) dX4_town_35 ?_
  refine s_istore_n C rfl (by decide) dX4_town_38 ?_
  refine s_aload_n C rfl dX4_town_39 ?_
  refine s_dup C dX4_town_40 ?_
  refine s_get C inw_X4_town_X4 rfl (k := 29) (by decide) (by decide +kernel) (heM_0 B g) (fun _ => rfl) dX4_town_41 ?_
  refine s_iload_n C rfl dX4_town_44 ?_
  refine s_if_eq C (tgt := 52) (by decide) dX4_town_45 ?_ ?_
  · refine s_iconst C (by decide) dX4_town_52 ?_
    exact s_X4_town_53 B g C R hK12
  · refine s_iconst C (by decide) dX4_town_48 ?_
    refine s_goto C (tgt := 53) (by decide) dX4_town_49 ?_
    exact s_X4_town_53 B g C R hK12
def bk_X4_town_60 (g : Nat → Nat) (Post : Option Value → MS → Prop) (K86 : PT MS) (L : Lc) (st : List Value) (s : MS) : Prop :=
  (wAload 0 <| wK (.int 0) <| wPut (g 30) (msS 27) <| wIload 1 <| wIf1 (fun x => x = 0) (wK (.int (-1000)) <| wAload 0 <| wGet (g 30) (fun s => .int (mS 28 s)) <| wB (fun x y => x - y) <| wRetI Post) (wAload 0 <| wK (.int 1) <| wK (.int 1) <| wCallR 3 (F_X4_passesAll g) id (fun _ u => u) <| wK (.int 0) <| wIst 2 <| wKeep [true, false, true] K86)) L st s
set_option maxRecDepth 20000 in
theorem s_X4_town_60 {X : Cx} (B : Bx) (g : Nat → Nat) {Post : Option Value → MS → Prop} (C : OkX X (gx B) cX4_town 3 wsX4_town RX4 (rmD 4)) (R : RtX X (gx B) (some .int) (encM B g) Post) {K86 : PT MS} (hK86 : Snd X (gx B) 3 (encM B g) 86 K86) : Snd X (gx B) 3 (encM B g) 60 (bk_X4_town_60 g Post K86) := by
  unfold bk_X4_town_60
  refine s_aload_n C rfl dX4_town_60 ?_
  refine s_iconst C (by decide) dX4_town_61 ?_
  refine s_put C inw_X4_town_X4 rfl (k := 27) (by decide) (by decide +kernel) tyX4_ok nmX4 (by decide +kernel) (by decide +kernel) (heM_0 B g) (fun _ => Nat.le_of_ble_eq_true rfl) (fun _ _ => rfl) dX4_town_62 ?_
  refine s_iload_n C rfl dX4_town_65 ?_
  refine s_if_ne C (tgt := 78) (by decide) dX4_town_66 ?_ ?_
  · refine s_aload_n C rfl dX4_town_78 ?_
    refine s_iconst C (by decide) dX4_town_79 ?_
    refine s_iconst C (by decide) dX4_town_80 ?_
    refine s_callV C (fr_M_M B g) (k_X4_passesAll B g) gX4_town_X4_passesAll rfl (by decide +kernel) ⟨rfl, rfl⟩ (by decide) rfl (fun s => ⟨_, heM_0 B g s⟩) (cf_RII_r _ _ _ _) dX4_town_81 ?_
    refine s_iconst C (by decide) dX4_town_84 ?_
    refine s_istore_n C rfl (by decide) dX4_town_85 ?_
    exact s_keep _ hK86
  · refine s_sipush C (by decide) dX4_town_69 ?_
    refine s_aload_n C rfl dX4_town_72 ?_
    refine s_get C inw_X4_town_X4 rfl (k := 28) (by decide) (by decide +kernel) (heM_0 B g) (fun _ => rfl) dX4_town_73 ?_
    refine s_isub C dX4_town_76 ?_
    exact s_iret C R dX4_town_77
def bk_X4_town_12 (g : Nat → Nat) (Post : Option Value → MS → Prop) (K12 : PT MS) (K86 : PT MS) (L : Lc) (st : List Value) (s : MS) : Prop :=
  (wIload 1 <| wIf1 (fun x => x = 0) (bk_X4_town_60 g Post K86) (wAload 0 <| wGet (g 30) (fun s => .int (mS 28 s)) <| wAload 0 <| wGet (g 30) (fun s => .int (mS 27 s)) <| wIf2 (fun x y => x < y) (bk_X4_town_34 g Post K12) (wAload 0 <| wGet (g 30) (fun s => .int (mS 29 s)) <| wIf1 (fun x => x = 0) (bk_X4_town_34 g Post K12) (bk_X4_town_60 g Post K86)))) L st s
set_option maxRecDepth 20000 in
theorem s_X4_town_12 {X : Cx} (B : Bx) (g : Nat → Nat) {Post : Option Value → MS → Prop} (C : OkX X (gx B) cX4_town 3 wsX4_town RX4 (rmD 4)) (R : RtX X (gx B) (some .int) (encM B g) Post) {K12 : PT MS} (hK12 : Snd X (gx B) 3 (encM B g) 12 K12) {K86 : PT MS} (hK86 : Snd X (gx B) 3 (encM B g) 86 K86) : Snd X (gx B) 3 (encM B g) 12 (bk_X4_town_12 g Post K12 K86) := by
  unfold bk_X4_town_12
  refine s_iload_n C rfl dX4_town_12 ?_
  refine s_if_eq C (tgt := 60) (by decide) dX4_town_13 ?_ ?_
  · exact s_X4_town_60 B g C R hK86
  · refine s_aload_n C rfl dX4_town_16 ?_
    refine s_get C inw_X4_town_X4 rfl (k := 28) (by decide) (by decide +kernel) (heM_0 B g) (fun _ => rfl) dX4_town_17 ?_
    refine s_aload_n C rfl dX4_town_20 ?_
    refine s_get C inw_X4_town_X4 rfl (k := 27) (by decide) (by decide +kernel) (heM_0 B g) (fun _ => rfl) dX4_town_21 ?_
    refine s_icmp_lt C (tgt := 34) (by decide) dX4_town_24 ?_ ?_
    · exact s_X4_town_34 B g C R hK12
    · refine s_aload_n C rfl dX4_town_27 ?_
      refine s_get C inw_X4_town_X4 rfl (k := 29) (by decide) (by decide +kernel) (heM_0 B g) (fun _ => rfl) dX4_town_28 ?_
      refine s_if_ne C (tgt := 60) (by decide) dX4_town_31 ?_ ?_
      · exact s_X4_town_60 B g C R hK86
      · exact s_X4_town_34 B g C R hK12
def bk_X4_town_86 (g : Nat → Nat) (Post : Option Value → MS → Prop) (K86 : PT MS) (L : Lc) (st : List Value) (s : MS) : Prop :=
  (wIload 2 <| wAload 0 <| wGet (g 30) (fun s => .int (mS 29 s)) <| wIf2 (fun x y => y ≤ x) (wAload 0 <| wGet (g 30) (fun s => .int (mS 29 s)) <| wRetI Post) (wAload 0 <| wIload 2 <| wCallR 2 (F_X4_comes g) id (fun _ u => u) <| wIf1 (fun x => x = 0) (wAload 0 <| wK (.int 1) <| wK (.int 0) <| wCallR 3 (F_X4_passesAll g) id (fun _ u => u) <| wK (.int (-2000)) <| wAload 0 <| wGet (g 30) (fun _ => .ref (g 56)) <| wIload 2 <| wIald (g 56) 32 (mA 25) <| wB (fun x y => x - y) <| wRetI Post) (wInc 2 1 <| wKeep [true, false, true] K86))) L st s
set_option maxRecDepth 20000 in
theorem s_X4_town_86 {X : Cx} (B : Bx) (g : Nat → Nat) {Post : Option Value → MS → Prop} (C : OkX X (gx B) cX4_town 3 wsX4_town RX4 (rmD 4)) (R : RtX X (gx B) (some .int) (encM B g) Post) {K86 : PT MS} (hK86 : Snd X (gx B) 3 (encM B g) 86 K86) : Snd X (gx B) 3 (encM B g) 86 (bk_X4_town_86 g Post K86) := by
  unfold bk_X4_town_86
  refine s_iload_n C rfl dX4_town_86 ?_
  refine s_aload_n C rfl dX4_town_87 ?_
  refine s_get C inw_X4_town_X4 rfl (k := 29) (by decide) (by decide +kernel) (heM_0 B g) (fun _ => rfl) dX4_town_88 ?_
  refine s_icmp_ge C (tgt := 128) (by decide) dX4_town_91 ?_ ?_
  · refine s_aload_n C rfl dX4_town_128 ?_
    refine s_get C inw_X4_town_X4 rfl (k := 29) (by decide) (by decide +kernel) (heM_0 B g) (fun _ => rfl) dX4_town_129 ?_
    exact s_iret C R dX4_town_132
  · refine s_aload_n C rfl dX4_town_94 ?_
    refine s_iload_n C rfl dX4_town_95 ?_
    refine s_callV C (fr_M_M B g) (k_X4_comes B g) gX4_town_X4_comes rfl (by decide +kernel) ⟨rfl, rfl⟩ (by decide) rfl (fun s => ⟨_, heM_0 B g s⟩) (cf_RI_r _ _ _ _) dX4_town_96 ?_
    refine s_if_eq C (tgt := 105) (by decide) dX4_town_99 ?_ ?_
    · refine s_aload_n C rfl dX4_town_105 ?_
      refine s_iconst C (by decide) dX4_town_106 ?_
      refine s_iconst C (by decide) dX4_town_107 ?_
      refine s_callV C (fr_M_M B g) (k_X4_passesAll B g) gX4_town_X4_passesAll rfl (by decide +kernel) ⟨rfl, rfl⟩ (by decide) rfl (fun s => ⟨_, heM_0 B g s⟩) (cf_RII_r _ _ _ _) dX4_town_108 ?_
      refine s_sipush C (by decide) dX4_town_111 ?_
      refine s_aload_n C rfl dX4_town_114 ?_
      refine s_get C inw_X4_town_X4 rfl (k := 25) (by decide) (by decide +kernel) (heM_0 B g) (fun _ => rfl) dX4_town_115 ?_
      refine s_iload_n C rfl dX4_town_118 ?_
      refine s_iald C (heM_18 B g) dX4_town_119 ?_
      refine s_isub C dX4_town_120 ?_
      exact s_iret C R dX4_town_121
    · refine s_goto C (tgt := 122) (by decide) dX4_town_102 ?_
      refine s_iinc C (by decide) (by decide) dX4_town_122 ?_
      refine s_goto C (tgt := 86) (by decide) dX4_town_125 ?_
      exact s_keep _ hK86
def I_tw1 (g : Nat → Nat) (M : MS) (fin : Bool × MS) (n : Nat) (L : Lc) (st : List Value) (s : MS) : Prop := ∃ b : Bool, twK M s ∧ (b = true → 66 ≤ n + uAt s) ∧ st = [] ∧ L = [some (.ref (g 30)), some (.int (b2i b)), none] ∧ twL n (b, s) = fin
def I_tw2 (g : Nat → Nat) (fin : Int32 × MS) (N : Nat) (n : Nat) (L : Lc) (st : List Value) (s : MS) : Prop := ∃ k : Nat, n + k = N ∧ N ≤ 32 ∧ mS 29 s = nI N ∧ ppB s ∧ nnB s ∧ st = [] ∧ L = [some (.ref (g 30)), none, some (.int (nI k))] ∧ twC k n s = fin
theorem cpL_S (q P : Nat) : ∀ (n h : Nat) (M : MS) (i : Nat), mS i (cpL q P h n M) = mS i M := by
  intro n
  induction n with
  | zero => exact fun _ _ _ => rfl
  | succ n ih => exact fun h M i => by rw [cpL_s, ih]; rfl
theorem cpL_A (q P : Nat) : ∀ (n h : Nat) (M : MS) (i : Nat), ¬ i = 3 → mA i (cpL q P h n M) = mA i M := by
  intro n
  induction n with
  | zero => exact fun _ _ _ _ => rfl
  | succ n ih => exact fun h M i hi => by rw [cpL_s, ih _ _ _ hi, mA_a, if_neg hi]
theorem uCp0_S (M : MS) (q i : Nat) : mS i (uCp0 M q) = mS i M := cpL_S _ _ _ _ _ i
theorem uCp1_S (M : MS) (q i : Nat) (h : ¬ i = 15) (v : Int32) : mS i (msS 15 (uCp0 M q) v) = mS i M := by rw [mS_S, if_neg h, uCp0_S]
theorem uCm_B {M : MS} (hp : ppB M) (hn : nnB M) (k : Nat) : ppB (uCm M k).2 ∧ nnB (uCm M k).2 ∧ mS 29 (uCm M k).2 = mS 29 M := by
  unfold uCm
  split
  · unfold uCp
    split
    · exact ⟨hp, hn, rfl⟩
    · split
      · exact ⟨hp, hn, rfl⟩
      · rename_i h7
        obtain ⟨e, h⟩ := ppB_c hp
        have ee : mS 15 (uCp0 M (6 * k)) = mS 15 M := uCp0_S M _ 15
        refine ⟨⟨uPeople M + 1, Nat.lt_of_le_of_ne h (fun z => h7 (by rw [e, z]; rfl)), ?_⟩, ?_, uCp1_S M _ 29 (by decide) (mS 15 (uCp0 M (6 * k)) + 1)⟩
        · rw [mS_S, if_pos rfl, ee, e, nI_1]
        · obtain ⟨N, h1, h2⟩ := hn
          exact ⟨N, h1, (uCp1_S M _ 16 (by decide) _).trans h2⟩
  · split
    · unfold uCn
      split
      · rename_i hb
        obtain ⟨e, h⟩ := nnB_c hn
        refine ⟨hp, ⟨uNeeds M + 1, ?_, ?_⟩, rfl⟩
        · unfold uCnB at hb
          simp only [Bool.and_eq_true, Bool.not_eq_true', decide_eq_false_iff_not] at hb
          exact Nat.lt_of_le_of_ne h (fun z => hb.2.2.2.2 (by rw [e, z]; rfl))
        · unfold uCn0
          rw [mS_S, if_pos rfl, e, nI_1]
      · exact ⟨hp, hn, rfl⟩
    · unfold uCl
      split
      · exact ⟨hp, hn, rfl⟩
      · split <;> exact ⟨hp, hn, rfl⟩
theorem k_X4_town (B : Bx) (g : Nat → Nat) : MtF (gx B) yX4_town wsX4_town (rmD 4) (encM B g) (F_X4_town g) := by
  refine cf_R_i (fun l M h => ?_)
  unfold v_town
  generalize hx : uTw M = x
  unfold uTw at hx
  generalize hr : uT2 x = r
  have hM0 : twK M (msS 29 (msS 28 M 0) 0) := by
    obtain ⟨t, t1, t2⟩ := h.2.2.2.2
    exact ⟨⟨0, t, Nat.zero_le _, t1, rfl, t2⟩, ⟨0, rfl, Nat.zero_le _⟩, fun i h1 h2 => by rw [mS_S, if_neg h2, mS_S, if_neg h1], fun _ _ _ _ => rfl⟩
  have hP0 : ppB M := h.1.2.2.2.1
  have hN0 : nnB M := h.1.2.2.1
  clear h
  refine Mt.of (P := bk_X4_town_0 g (fun o u => o = some (.int r.1) ∧ u = r.2) (fun L st s => ∃ n, I_tw1 g M x n L st s)) (by decide) rfl (Nat.le_of_ble_eq_true rfl) rfl (fun X C R => s_X4_town_0 B g C R (snd_loop _ (I_tw1 g M x) (fun K hK => s_X4_town_12 B g C R hK (snd_loop _ (fun n L st s => ∃ N, I_tw2 g r N n L st s) (fun K hK => s_X4_town_86 B g C R hK) ?_)) ?_)) ?_
  · rintro K2 n L st s ⟨N, k, hn, hN, hs, hp, hq, rfl, rfl, hf⟩ hK2
    have p1 : ppB s ∧ nnB s := ⟨hp, hq⟩
    simp only [wIload, wAload, wLload, wK, wB, wDv, wU, wLB, wLU, wLS, wL2i, wLcmp, wIf1, wIf2, wKeep, wInc, wIst, wAst, wLst, wDup, wPop, wDup2, wGet, wPut, wPutZ, wIald, wLald, wIast, wLast, wLen, wRetI, wRetZ, wRetL, wRetA, wRetV, wM1, wM2, wCpy, wTab, tabW, nth, stL, stL2, dropL, keepL, mkL, padL, restOK, restOKn, tl_some, tl_none, id_eq, eq_self, true_and, and_true, bk_X4_town_86, F_X4_comes, F_X4_passesAll, F_X4_statement, cf_RII_e, cf_RI_e, cf_R_e, mS_S, mA_A, mS_A, mA_S, mS_a, mA_a, Nat.reduceEqDiff, reduceIte, hs, b2i_eq0]
    rcases Nat.lt_or_ge k N with hlt | hge
    · have h2 : ¬ nI N ≤ nI k := nI_ge (a := k) (b := N) hlt (by omega)
      obtain ⟨n, rfl⟩ : ∃ m, n = m + 1 := ⟨n - 1, by omega⟩
      have ck : (nI k).toNatClampNeg = k := nI_clamp (by omega)
      have wk : vp_in (nI k) 32 := vp_in_nI (by omega) (by decide)
      have ik : ixB 32 (nI k) := ⟨k, by omega, rfl⟩
      have z1 : ((1 : Int32) = 0 ∨ (1 : Int32) = 1) ∧ ((0 : Int32) = 0 ∨ (0 : Int32) = 1) := ⟨Or.inr rfl, Or.inl rfl⟩
      rw [twC_s] at hf
      obtain ⟨c1, c2, c3⟩ := uCm_B hp hq k
      simp only [h2, ck, wk, ik, z1, hp, hq, false_implies, true_implies, not_true_eq_false, not_false_eq_true, true_and, and_true, implies_true, eq_self, ne_eq, true_or, or_true, false_or, or_false, and_self]
      generalize uCm s k = y at hf c1 c2 c3 ⊢
      obtain ⟨yb, y⟩ := y
      cases yb
      · simp only [Bool.false_eq_true, reduceIte] at hf
        subst hf
        simp only [false_implies, true_implies, not_true_eq_false, not_false_eq_true, true_and, and_true, implies_true, eq_self, ne_eq, true_or, or_true, false_or, or_false, and_self]
        all_goals first | done | exact ⟨rfl, rfl⟩ | exact rfl | exact b2i_01 _ | exact ⟨b2i_01 _, rfl, rfl⟩ | exact ⟨b2i_01 _, rfl⟩ | exact ⟨rfl, rfl, rfl⟩ | exact trivial
      · rw [if_pos rfl] at hf
        simp only [Bool.true_eq_false, false_implies, true_implies, not_true_eq_false, not_false_eq_true, true_and, and_true, implies_true, eq_self, ne_eq, true_or, or_true, false_or, or_false, and_self]
        rw [nI_1]
        exact hK2 n _ _ _ (by omega) ⟨N, k + 1, by omega, hN, c3.trans hs, c1, c2, rfl, rfl, hf⟩
    · have h2 : nI N ≤ nI k := nI_le hge (by omega)
      have h0 : n = 0 := by omega
      subst h0
      have hf : (mS 29 s, s) = r := hf
      subst hf
      simp only [h2, false_implies, true_implies, not_true_eq_false, not_false_eq_true, true_and, and_true, implies_true, eq_self, ne_eq, true_or, or_true, false_or, or_false, and_self]
      rw [hs]
  · rintro K n L st s ⟨b, hk, hb, rfl, rfl, hf⟩ hK
    have hend : x = (b, s) → bk_X4_town_60 g (fun o u => o = some (.int r.1) ∧ u = r.2) (fun L st s => ∃ n N, I_tw2 g r N n L st s) [some (.ref (g 30)), some (.int (b2i b)), none] [] s := by
      rintro rfl
      simp only [wIload, wAload, wLload, wK, wB, wDv, wU, wLB, wLU, wLS, wL2i, wLcmp, wIf1, wIf2, wKeep, wInc, wIst, wAst, wLst, wDup, wPop, wDup2, wGet, wPut, wPutZ, wIald, wLald, wIast, wLast, wLen, wRetI, wRetZ, wRetL, wRetA, wRetV, wM1, wM2, wCpy, wTab, tabW, nth, stL, stL2, dropL, keepL, mkL, padL, restOK, restOKn, tl_some, tl_none, id_eq, eq_self, true_and, and_true, bk_X4_town_60, F_X4_comes, F_X4_passesAll, F_X4_statement, cf_RII_e, cf_RI_e, cf_R_e, mS_S, mA_A, mS_A, mA_S, mS_a, mA_a, Nat.reduceEqDiff, reduceIte, b2i_eq0]
      unfold uT2 at hr
      cases b
      · simp only [Bool.false_eq_true, reduceIte] at hr
        subst hr
        simp only [false_implies, true_implies, not_true_eq_false, not_false_eq_true, true_and, and_true, implies_true, eq_self, ne_eq, true_or, or_true, false_or, or_false, and_self]
        all_goals first | done | exact ⟨rfl, rfl⟩ | exact rfl | exact b2i_01 _ | exact ⟨b2i_01 _, rfl, rfl⟩ | exact ⟨b2i_01 _, rfl⟩ | exact ⟨rfl, rfl, rfl⟩ | exact trivial
      · rw [if_pos rfl] at hr
        have z1 : ((1 : Int32) = 0 ∨ (1 : Int32) = 1) := Or.inr rfl
        simp only [Bool.true_eq_false, z1, false_implies, true_implies, not_true_eq_false, not_false_eq_true, true_and, and_true, implies_true, eq_self, ne_eq, true_or, or_true, false_or, or_false, and_self]
        obtain ⟨q1, ⟨j, q2, q3⟩, q4, q5⟩ := hk
        have pa := (uPA_keep (show 1 ≤ 1 by omega) (msS 27 s 0)).1
        rw [show (nI 1 : Int32) = 1 from rfl] at pa
        obtain ⟨e1, t, c1, c2, c3⟩ := lpB_c q1
        have ej : uSts s = j := by unfold uSts; rw [q2, nI_clamp (by omega)]
        rw [ej] at hr
        obtain ⟨P, hP, hP'⟩ := hP0
        obtain ⟨N, hN, hN'⟩ := hN0
        exact ⟨j, j, 0, rfl, by omega, (pa 29 (by decide) (by decide)).trans q2, ⟨P, hP, (pa 15 (by decide) (by decide)).trans ((q4 15 (by decide) (by decide)).trans hP')⟩, ⟨N, hN, (pa 16 (by decide) (by decide)).trans ((q4 16 (by decide) (by decide)).trans hN')⟩, rfl, rfl, hr⟩
    simp only [wIload, wAload, wLload, wK, wB, wDv, wU, wLB, wLU, wLS, wL2i, wLcmp, wIf1, wIf2, wKeep, wInc, wIst, wAst, wLst, wDup, wPop, wDup2, wGet, wPut, wPutZ, wIald, wLald, wIast, wLast, wLen, wRetI, wRetZ, wRetL, wRetA, wRetV, wM1, wM2, wCpy, wTab, tabW, nth, stL, stL2, dropL, keepL, mkL, padL, restOK, restOKn, tl_some, tl_none, id_eq, eq_self, true_and, and_true, bk_X4_town_12, F_X4_comes, F_X4_passesAll, F_X4_statement, cf_RII_e, cf_RI_e, cf_R_e, b2i_eq0]
    cases b
    · have hf' : x = (false, s) := by
        cases n with
        | zero => exact hf.symm
        | succ n =>
          rw [twL_s, if_neg (fun z => absurd z.1 Bool.false_ne_true)] at hf
          exact hf.symm
      exact ⟨fun _ => hend hf', fun z => absurd rfl z⟩
    · refine ⟨fun z => absurd z (by decide), fun _ => ?_⟩
      by_cases hc : mS 28 s < mS 27 s ∨ mS 29 s = 0
      · obtain ⟨e1, t, c1, c2, c3⟩ := lpB_c hk.1
        have hn := hb rfl
        obtain ⟨n, rfl⟩ : ∃ m, n = m + 1 := ⟨n - 1, by omega⟩
        rw [twL_s, if_pos ⟨rfl, hc⟩] at hf
        have pj := twK_j hk hc
        have pl := hk.1
        obtain ⟨w1, w2⟩ := twS_K (x := (true, s)) hk hc
        have e : twS (true, s) = ((uSt s).1, msS 29 (uSt s).2 (mS 29 (uSt s).2 + b2i (uSt s).1)) := rfl
        rw [e] at hf w1 w2
        have h34 : bk_X4_town_34 g (fun o u => o = some (.int r.1) ∧ u = r.2) K [some (.ref (g 30)), some (.int (b2i true)), none] [] s := by
          simp only [wIload, wAload, wLload, wK, wB, wDv, wU, wLB, wLU, wLS, wL2i, wLcmp, wIf1, wIf2, wKeep, wInc, wIst, wAst, wLst, wDup, wPop, wDup2, wGet, wPut, wPutZ, wIald, wLald, wIast, wLast, wLen, wRetI, wRetZ, wRetL, wRetA, wRetV, wM1, wM2, wCpy, wTab, tabW, nth, stL, stL2, dropL, keepL, mkL, padL, restOK, restOKn, tl_some, tl_none, id_eq, eq_self, true_and, and_true, bk_X4_town_53, bk_X4_town_34, F_X4_comes, F_X4_passesAll, F_X4_statement, cf_RII_e, cf_RI_e, cf_R_e, mS_S, mA_A, mS_A, mA_S, mS_a, mA_a, Nat.reduceEqDiff, reduceIte, b2i_eq0, pl, pj]
          generalize uSt s = y at hf w1 w2 ⊢
          obtain ⟨yb, y⟩ := y
          cases yb
          · simp only [false_implies, true_implies, not_true_eq_false, not_false_eq_true, true_and, and_true, implies_true, eq_self, ne_eq, true_or, or_true, false_or, or_false, and_self]
            exact hK n _ _ _ (by omega) ⟨false, w1, fun z => absurd z Bool.false_ne_true, rfl, rfl, hf⟩
          · simp only [Bool.true_eq_false, false_implies, true_implies, not_true_eq_false, not_false_eq_true, true_and, and_true, implies_true, eq_self, ne_eq, true_or, or_true, false_or, or_false, and_self]
            rw [b2i_t] at hf w1 w2
            exact hK n _ _ _ (by omega) ⟨true, w1, fun _ => by have := w2 rfl; dsimp only at this ⊢; omega, rfl, rfl, hf⟩
        exact ⟨fun _ => h34, fun y => ⟨fun _ => h34, fun z => absurd hc (by rintro (q | q) <;> contradiction)⟩⟩
      · have hf' : x = (true, s) := by
          cases n with
          | zero => exact hf.symm
          | succ n =>
            rw [twL_s, if_neg (fun z => hc z.2)] at hf
            exact hf.symm
        exact ⟨fun z => absurd (Or.inl z) hc, fun _ => ⟨fun z => absurd (Or.inr z) hc, fun _ => hend hf'⟩⟩
  · simp only [wIload, wAload, wLload, wK, wB, wDv, wU, wLB, wLU, wLS, wL2i, wLcmp, wIf1, wIf2, wKeep, wInc, wIst, wAst, wLst, wDup, wPop, wDup2, wGet, wPut, wPutZ, wIald, wLald, wIast, wLast, wLen, wRetI, wRetZ, wRetL, wRetA, wRetV, wM1, wM2, wCpy, wTab, tabW, nth, stL, stL2, dropL, keepL, mkL, padL, restOK, restOKn, tl_some, tl_none, id_eq, eq_self, true_and, and_true, bk_X4_town_0, F_X4_comes, F_X4_passesAll, F_X4_statement, cf_RII_e, cf_RI_e, cf_R_e]
    exact ⟨66, true, hM0, fun _ => Nat.le_add_right _ _, rfl, rfl, hx⟩
end
