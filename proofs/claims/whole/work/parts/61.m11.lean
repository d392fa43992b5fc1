noncomputable section
def lpB (M : MS) : Prop := ∃ a t, a ≤ t ∧ t ≤ 64 ∧ mS 28 M = nI a ∧ mS 27 M = nI t
def uAt (M : MS) : Nat := (mS 28 M).toNatClampNeg
theorem lpB_c {M : MS} (h : lpB M) : mS 28 M = nI (uAt M) ∧ ∃ t, uAt M ≤ t ∧ t ≤ 64 ∧ mS 27 M = nI t := by
  obtain ⟨a, t, h1, h2, h3, h4⟩ := h
  unfold uAt
  rw [h3, nI_clamp (by omega)]
  exact ⟨rfl, t, h1, h2, h4⟩
theorem lpB_lt {M : MS} (h : lpB M) (hl : mS 28 M < mS 27 M) : ∃ a t, a < t ∧ t ≤ 64 ∧ mS 28 M = nI a ∧ mS 27 M = nI t := by
  obtain ⟨a, t, h1, h2, h3, h4⟩ := h
  refine ⟨a, t, ?_, h2, h3, h4⟩
  rw [h3, h4, nI_lt_x (by omega), nI_clamp (by omega)] at hl
  exact hl
theorem lpB_v {M : MS} (h : lpB M) (hl : mS 28 M < mS 27 M) : vp_in (mS 28 M) 64 := by
  obtain ⟨a, t, h1, h2, h3, h4⟩ := lpB_lt h hl
  rw [h3]
  exact vp_in_nI (by omega) (by decide)
def uNx (M : MS) : Int32 := if mS 28 M < mS 27 M then mA 23 M (mS 28 M).toNatClampNeg else -1
def F_X4_next (g : Nat → Nat) : CF MS := cf_R (g 30) (fun M => lpB M) (fun M => some (.int (uNx M))) (fun M => M)
theorem inw_X4_next_X4 : ∀ w ∈ u_ws RX4 TX4 45, w ∈ wsX4_next := by decide +kernel
def bk_X4_next_24 (g : Nat → Nat) (Post : Option Value → MS → Prop)  (L : Lc) (st : List Value) (s : MS) : Prop :=
  (wRetI Post) L st s
set_option maxRecDepth 20000 in
theorem s_X4_next_24 {X : Cx} (B : Bx) (g : Nat → Nat) {Post : Option Value → MS → Prop} (C : OkX X (gx B) cX4_next 1 wsX4_next RX4 (rmD 0)) (R : RtX X (gx B) (some .int) (encM B g) Post)  : Snd X (gx B) 1 (encM B g) 24 (bk_X4_next_24 g Post ) := by
  unfold bk_X4_next_24
  exact s_iret C R dX4_next_24
def bk_X4_next_0 (g : Nat → Nat) (Post : Option Value → MS → Prop)  (L : Lc) (st : List Value) (s : MS) : Prop :=
  (wAload 0 <| wGet (g 30) (fun s => .int (mS 28 s)) <| wAload 0 <| wGet (g 30) (fun s => .int (mS 27 s)) <| wIf2 (fun x y => y ≤ x) (wK (.int (-1)) <| bk_X4_next_24 g Post ) (wAload 0 <| wGet (g 30) (fun _ => .ref (g 54)) <| wAload 0 <| wGet (g 30) (fun s => .int (mS 28 s)) <| wIald (g 54) 64 (mA 23) <| bk_X4_next_24 g Post )) L st s
set_option maxRecDepth 20000 in
theorem s_X4_next_0 {X : Cx} (B : Bx) (g : Nat → Nat) {Post : Option Value → MS → Prop} (C : OkX X (gx B) cX4_next 1 wsX4_next RX4 (rmD 0)) (R : RtX X (gx B) (some .int) (encM B g) Post)  : Snd X (gx B) 1 (encM B g) 0 (bk_X4_next_0 g Post ) := by
  unfold bk_X4_next_0
  refine s_aload_n C rfl dX4_next_0 ?_
  refine s_get C inw_X4_next_X4 rfl (k := 28) (by decide) (by decide +kernel) (heM_0 B g) (fun _ => rfl) dX4_next_1 ?_
  refine s_aload_n C rfl dX4_next_4 ?_
  refine s_get C inw_X4_next_X4 rfl (k := 27) (by decide) (by decide +kernel) (heM_0 B g) (fun _ => rfl) dX4_next_5 ?_
  refine s_icmp_ge C (tgt := 23) (by decide) dX4_next_8 ?_ ?_
  · refine s_iconst C (by decide) dX4_next_23 ?_
    exact s_X4_next_24 B g C R 
  · refine s_aload_n C rfl dX4_next_11 ?_
    refine s_get C inw_X4_next_X4 rfl (k := 23) (by decide) (by decide +kernel) (heM_0 B g) (fun _ => rfl) dX4_next_12 ?_
    refine s_aload_n C rfl dX4_next_15 ?_
    refine s_get C inw_X4_next_X4 rfl (k := 28) (by decide) (by decide +kernel) (heM_0 B g) (fun _ => rfl) dX4_next_16 ?_
    refine s_iald C (heM_16 B g) dX4_next_19 ?_
    refine s_goto C (tgt := 24) (by decide) dX4_next_20 ?_
    exact s_X4_next_24 B g C R 
theorem k_X4_next (B : Bx) (g : Nat → Nat) : MtF (gx B) yX4_next wsX4_next (rmD 0) (encM B g) (F_X4_next g) := by
  refine cf_R_i (fun l M h => Mt.of (by decide) rfl (Nat.le_of_ble_eq_true rfl) rfl (fun X C R => s_X4_next_0 B g C R) ?_)
  have h1 := fun z => lpB_v h z
  simp only [wIload, wAload, wLload, wK, wB, wDv, wU, wLB, wLU, wLS, wL2i, wLcmp, wIf1, wIf2, wKeep, wInc, wIst, wAst, wLst, wDup, wPop, wDup2, wGet, wPut, wPutZ, wIald, wLald, wIast, wLast, wLen, wRetI, wRetZ, wRetL, wRetA, wRetV, wM1, wM2, wCpy, wTab, tabW, nth, stL, stL2, dropL, keepL, mkL, padL, restOK, restOKn, tl_some, tl_none, id_eq, eq_self, true_and, and_true, bk_X4_next_24, bk_X4_next_0]
  by_cases hl : mS 28 M < mS 27 M
  · have h2 := h1 hl
    have h3 : ¬ mS 27 M ≤ mS 28 M := Int32.not_le.mpr hl
    have e : uNx M = mA 23 M (mS 28 M).toNatClampNeg := if_pos hl
    rw [e]
    simp only [h2, h3, false_implies, true_implies, not_true_eq_false, not_false_eq_true, true_and, and_true, implies_true, eq_self, ne_eq, true_or, or_true, false_or, or_false, and_self]
  · have h3 : mS 27 M ≤ mS 28 M := Int32.not_lt.mp hl
    have e : uNx M = -1 := if_neg hl
    rw [e]
    simp only [h3, false_implies, true_implies, not_true_eq_false, not_false_eq_true, true_and, and_true, implies_true, eq_self, ne_eq, true_or, or_true, false_or, or_false, and_self]
def uGo (M : MS) : MS := msS 28 M (mS 28 M + 1)
/-- from M on to M' by at least c letters -/
def mv (c : Nat) (M M' : MS) : Prop := lpB M' ∧ uAt M + c ≤ uAt M' ∧ (∀ i, ¬ i = 28 → mS i M' = mS i M) ∧ ∀ i, ¬ i = 26 → mA i M' = mA i M
theorem mv_r {M : MS} (h : lpB M) : mv 0 M M := ⟨h, Nat.le_refl _, fun _ _ => rfl, fun _ _ => rfl⟩
theorem mv_t {a b : Nat} {M M' N : MS} (h : mv a M M') (k : mv b M' N) : mv (a + b) M N := ⟨k.1, by have := h.2.1; have := k.2.1; omega, fun i hi => (k.2.2.1 i hi).trans (h.2.2.1 i hi), fun i hi => (k.2.2.2 i hi).trans (h.2.2.2 i hi)⟩
theorem mv_0 {a : Nat} {M M' : MS} (h : mv a M M') : mv 0 M M' := ⟨h.1, by have := h.2.1; omega, h.2.2.1, h.2.2.2⟩
theorem mv_go {M : MS} (h : lpB M) (hl : mS 28 M < mS 27 M) : mv 1 M (uGo M) := by
  obtain ⟨a, t, h1, h2, h3, h4⟩ := lpB_lt h hl
  have e : mS 28 (uGo M) = nI (a + 1) := by
    unfold uGo
    rw [mS_S, if_pos rfl, h3, nI_1]
  refine ⟨⟨a + 1, t, h1, h2, e, h4⟩, ?_, fun i hi => ?_, fun _ _ => rfl⟩
  · unfold uAt
    rw [e, h3, nI_clamp (by omega), nI_clamp (by omega)]
    exact Nat.le_refl _
  · unfold uGo
    rw [mS_S, if_neg hi]
theorem uNx_lt {M : MS} (h : ¬ uNx M = -1) : mS 28 M < mS 27 M := by
  unfold uNx at h
  by_cases hl : mS 28 M < mS 27 M
  · exact hl
  · rw [if_neg hl] at h
    exact absurd rfl h
def uIsN (M : MS) (b : Int32) : Bool × MS := if uNx M = b then (true, uGo M) else (false, M)
def F_X4_isNext (g : Nat → Nat) : CF MS := cf_RI (g 30) (fun M _ => lpB M) (fun M b => some (.int (b2i (uIsN M b).1))) (fun M b => (uIsN M b).2)
theorem inw_X4_isNext_X4 : ∀ w ∈ u_ws RX4 TX4 45, w ∈ wsX4_isNext := by decide +kernel
def bk_X4_isNext_0 (g : Nat → Nat) (Post : Option Value → MS → Prop)  (L : Lc) (st : List Value) (s : MS) : Prop :=
  (wAload 0 <| wCallR 1 (F_X4_next g) id (fun _ u => u) <| wIload 1 <| wIf2 (fun x y => x = y) (wAload 0 <| wDup <| wGet (g 30) (fun s => .int (mS 28 s)) <| wK (.int 1) <| wB (fun x y => x + y) <| wPut (g 30) (msS 28) <| wK (.int 1) <| wRetZ Post) (wK (.int 0) <| wRetZ Post)) L st s
set_option maxRecDepth 20000 in
theorem s_X4_isNext_0 {X : Cx} (B : Bx) (g : Nat → Nat) {Post : Option Value → MS → Prop} (C : OkX X (gx B) cX4_isNext 2 wsX4_isNext RX4 (rmD 1)) (R : RtX X (gx B) (some .boolean) (encM B g) Post)  : Snd X (gx B) 2 (encM B g) 0 (bk_X4_isNext_0 g Post ) := by
  unfold bk_X4_isNext_0
  refine s_aload_n C rfl dX4_isNext_0 ?_
  refine s_callV C (fr_M_M B g) (k_X4_next B g) gX4_isNext_X4_next rfl (by decide +kernel) ⟨rfl, rfl⟩ (by decide) rfl (fun s => ⟨_, heM_0 B g s⟩) (cf_R_r _ _ _ _) dX4_isNext_1 ?_
  refine s_iload_n C rfl dX4_isNext_4 ?_
  refine s_icmp_eq C (tgt := 10) (by decide) dX4_isNext_5 ?_ ?_
  · refine s_aload_n C rfl dX4_isNext_10 ?_
    refine s_dup C dX4_isNext_11 ?_
    refine s_get C inw_X4_isNext_X4 rfl (k := 28) (by decide) (by decide +kernel) (heM_0 B g) (fun _ => rfl) dX4_isNext_12 ?_
    refine s_iconst C (by decide) dX4_isNext_15 ?_
    refine s_iadd C dX4_isNext_16 ?_
    refine s_put C inw_X4_isNext_X4 rfl (k := 28) (by decide) (by decide +kernel) tyX4_ok nmX4 (by decide +kernel) (by decide +kernel) (heM_0 B g) (fun _ => Nat.le_of_ble_eq_true rfl) (fun _ _ => rfl) dX4_isNext_17 ?_
    refine s_iconst C (by decide) dX4_isNext_20 ?_
    exact s_zret C R dX4_isNext_21
  · refine s_iconst C (by decide) dX4_isNext_8 ?_
    exact s_zret C R dX4_isNext_9
theorem k_X4_isNext (B : Bx) (g : Nat → Nat) : MtF (gx B) yX4_isNext wsX4_isNext (rmD 1) (encM B g) (F_X4_isNext g) := by
  refine cf_RI_i (fun l M b h => Mt.of (by decide) rfl (Nat.le_of_ble_eq_true rfl) rfl (fun X C R => s_X4_isNext_0 B g C R) ?_)
  simp only [wIload, wAload, wLload, wK, wB, wDv, wU, wLB, wLU, wLS, wL2i, wLcmp, wIf1, wIf2, wKeep, wInc, wIst, wAst, wLst, wDup, wPop, wDup2, wGet, wPut, wPutZ, wIald, wLald, wIast, wLast, wLen, wRetI, wRetZ, wRetL, wRetA, wRetV, wM1, wM2, wCpy, wTab, tabW, nth, stL, stL2, dropL, keepL, mkL, padL, restOK, restOKn, tl_some, tl_none, id_eq, eq_self, true_and, and_true, bk_X4_isNext_0, F_X4_next, cf_R_e, h]
  by_cases hb : uNx M = b
  · have e : uIsN M b = (true, uGo M) := if_pos hb
    rw [e]
    simp only [hb, false_implies, true_implies, not_true_eq_false, not_false_eq_true, true_and, and_true, implies_true, eq_self, ne_eq, true_or, or_true, false_or, or_false, and_self]
    all_goals first | done | exact ⟨rfl, rfl⟩ | exact rfl
  · have e : uIsN M b = (false, M) := if_neg hb
    rw [e]
    simp only [hb, false_implies, true_implies, not_true_eq_false, not_false_eq_true, true_and, and_true, implies_true, eq_self, ne_eq, true_or, or_true, false_or, or_false, and_self]
    all_goals first | done | exact rfl
theorem mv_isN {M : MS} (h : lpB M) {b : Int32} (hb : ¬ b = -1) : mv (if (uIsN M b).1 = true then 1 else 0) M (uIsN M b).2 := by
  by_cases e : uNx M = b
  · have e1 : uIsN M b = (true, uGo M) := if_pos e
    rw [e1]
    exact mv_go h (uNx_lt (by rw [e]; exact hb))
  · have e1 : uIsN M b = (false, M) := if_neg e
    rw [e1]
    exact mv_r h
def uDg (M : MS) : Bool := uIn (uNx M) 48 57
theorem uDg_lt {M : MS} (h : uDg M = true) : mS 28 M < mS 27 M := by
  refine uNx_lt (fun z => ?_)
  unfold uDg at h
  rw [z] at h
  exact absurd h (by decide)
def rdL : Nat → Int32 → MS → Int32 × MS
  | 0, v, M => (v, M)
  | n + 1, v, M => if uDg M = true then rdL n (10 * v + uNx M - 48) (uGo M) else (v, M)
theorem rdL_s (n : Nat) (v : Int32) (M : MS) : rdL (n + 1) v M = if uDg M = true then rdL n (10 * v + uNx M - 48) (uGo M) else (v, M) := rfl
def uRd (M : MS) (k d : Nat) : Bool × MS := if uDg M = true then (true, maA 26 (rdL d 0 M).2 k (rdL d 0 M).1) else (false, M)
theorem mv_rdL : ∀ (n : Nat) (v : Int32) {M : MS}, lpB M → mv 0 M (rdL n v M).2 := by
  intro n
  induction n with
  | zero => exact fun v M h => mv_r h
  | succ n ih =>
    intro v M h
    rw [rdL_s]
    cases hd : uDg M
    · exact mv_r h
    · have h1 := mv_go h (uDg_lt hd)
      exact mv_0 (mv_t h1 (ih _ h1.1))
theorem mv_told {M : MS} (h : lpB M) (k : Nat) (v : Int32) : mv 0 M (maA 26 M k v) := ⟨h, Nat.le_refl _, fun _ _ => rfl, fun i hi => by rw [mA_a, if_neg hi]⟩
theorem mv_rd {M : MS} (h : lpB M) (k d : Nat) : mv 0 M (uRd M k d).2 := by
  unfold uRd
  cases uDg M
  · exact mv_r h
  · have h1 := mv_rdL d 0 h
    exact mv_t h1 (mv_told h1.1 k _)
def F_X4_reads (g : Nat → Nat) : CF MS := cf_RII (g 30) (fun M k d => lpB M ∧ ixB 192 k ∧ ∃ n, n ≤ 9 ∧ d = nI n) (fun M k d => some (.int (b2i (uRd M k.toNatClampNeg d.toNatClampNeg).1))) (fun M k d => (uRd M k.toNatClampNeg d.toNatClampNeg).2)
theorem inw_X4_reads_X4 : ∀ w ∈ u_ws RX4 TX4 45, w ∈ wsX4_reads := by decide +kernel
def bk_X4_reads_0 (g : Nat → Nat) (Post : Option Value → MS → Prop) (K21 : PT MS) (L : Lc) (st : List Value) (s : MS) : Prop :=
  (wAload 0 <| wCallR 1 (F_X4_next g) id (fun _ u => u) <| wK (.int 48) <| wK (.int 57) <| wCallR 3 (F_X4_isIn) (fun _ => ()) (fun s _ => s) <| wIf1 (fun x => x = 0) (wK (.int 0) <| wRetZ Post) (wK (.int 0) <| wIst 3 <| wK (.int 0) <| wIst 4 <| wKeep [true, true, true, true, true] K21)) L st s
set_option maxRecDepth 20000 in
theorem s_X4_reads_0 {X : Cx} (B : Bx) (g : Nat → Nat) {Post : Option Value → MS → Prop} (C : OkX X (gx B) cX4_reads 5 wsX4_reads RX4 (rmD 1)) (R : RtX X (gx B) (some .boolean) (encM B g) Post) {K21 : PT MS} (hK21 : Snd X (gx B) 5 (encM B g) 21 K21) : Snd X (gx B) 5 (encM B g) 0 (bk_X4_reads_0 g Post K21) := by
  unfold bk_X4_reads_0
  refine s_aload_n C rfl dX4_reads_0 ?_
  refine s_callV C (fr_M_M B g) (k_X4_next B g) gX4_reads_X4_next rfl (by decide +kernel) ⟨rfl, rfl⟩ (by decide) rfl (fun s => ⟨_, heM_0 B g s⟩) (cf_R_r _ _ _ _) dX4_reads_1 ?_
  refine s_bipush C (by decide) dX4_reads_4 ?_
  refine s_bipush C (by decide) dX4_reads_6 ?_
  refine s_callS C (fr_M_E B g) (k_X4_isIn B) gX4_reads_X4_isIn rfl (by decide +kernel) ⟨rfl, rfl⟩ (by decide) (cf_III_r _ _ _) dX4_reads_8 ?_
  refine s_if_ne C (tgt := 16) (by decide) dX4_reads_11 ?_ ?_
  · refine s_iconst C (by decide) dX4_reads_16 ?_
    refine s_istore_n C rfl (by decide) dX4_reads_17 ?_
    refine s_iconst C (by decide) dX4_reads_18 ?_
    refine s_istore C (by decide) dX4_reads_19 ?_
    exact s_keep _ hK21
  · refine s_iconst C (by decide) dX4_reads_14 ?_
    exact s_zret C R dX4_reads_15
def bk_X4_reads_70 (g : Nat → Nat) (Post : Option Value → MS → Prop)  (L : Lc) (st : List Value) (s : MS) : Prop :=
  (wAload 0 <| wGet (g 30) (fun _ => .ref (g 57)) <| wIload 1 <| wIload 3 <| wIast (g 57) 192 (maA 26) <| wK (.int 1) <| wRetZ Post) L st s
set_option maxRecDepth 20000 in
theorem s_X4_reads_70 {X : Cx} (B : Bx) (g : Nat → Nat) {Post : Option Value → MS → Prop} (C : OkX X (gx B) cX4_reads 5 wsX4_reads RX4 (rmD 1)) (R : RtX X (gx B) (some .boolean) (encM B g) Post)  : Snd X (gx B) 5 (encM B g) 70 (bk_X4_reads_70 g Post ) := by
  unfold bk_X4_reads_70
  refine s_aload_n C rfl dX4_reads_70 ?_
  refine s_get C inw_X4_reads_X4 rfl (k := 26) (by decide) (by decide +kernel) (heM_0 B g) (fun _ => rfl) dX4_reads_71 ?_
  refine s_iload_n C rfl dX4_reads_74 ?_
  refine s_iload_n C rfl dX4_reads_75 ?_
  refine s_iast C (heM_19 B g) (fun _ _ _ => rfl) dX4_reads_76 ?_
  refine s_iconst C (by decide) dX4_reads_77 ?_
  exact s_zret C R dX4_reads_78
def bk_X4_reads_21 (g : Nat → Nat) (Post : Option Value → MS → Prop) (K21 : PT MS) (L : Lc) (st : List Value) (s : MS) : Prop :=
  (wIload 4 <| wIload 2 <| wIf2 (fun x y => y ≤ x) (bk_X4_reads_70 g Post ) (wAload 0 <| wCallR 1 (F_X4_next g) id (fun _ u => u) <| wK (.int 48) <| wK (.int 57) <| wCallR 3 (F_X4_isIn) (fun _ => ()) (fun s _ => s) <| wIf1 (fun x => x = 0) (bk_X4_reads_70 g Post ) (wK (.int 10) <| wIload 3 <| wB (fun x y => x * y) <| wAload 0 <| wCallR 1 (F_X4_next g) id (fun _ u => u) <| wB (fun x y => x + y) <| wK (.int 48) <| wB (fun x y => x - y) <| wIst 3 <| wAload 0 <| wDup <| wGet (g 30) (fun s => .int (mS 28 s)) <| wK (.int 1) <| wB (fun x y => x + y) <| wPut (g 30) (msS 28) <| wInc 4 1 <| wKeep [true, true, true, true, true] K21))) L st s
set_option maxRecDepth 20000 in
theorem s_X4_reads_21 {X : Cx} (B : Bx) (g : Nat → Nat) {Post : Option Value → MS → Prop} (C : OkX X (gx B) cX4_reads 5 wsX4_reads RX4 (rmD 1)) (R : RtX X (gx B) (some .boolean) (encM B g) Post) {K21 : PT MS} (hK21 : Snd X (gx B) 5 (encM B g) 21 K21) : Snd X (gx B) 5 (encM B g) 21 (bk_X4_reads_21 g Post K21) := by
  unfold bk_X4_reads_21
  refine s_iload C dX4_reads_21 ?_
  refine s_iload_n C rfl dX4_reads_23 ?_
  refine s_icmp_ge C (tgt := 70) (by decide) dX4_reads_24 ?_ ?_
  · exact s_X4_reads_70 B g C R 
  · refine s_aload_n C rfl dX4_reads_27 ?_
    refine s_callV C (fr_M_M B g) (k_X4_next B g) gX4_reads_X4_next rfl (by decide +kernel) ⟨rfl, rfl⟩ (by decide) rfl (fun s => ⟨_, heM_0 B g s⟩) (cf_R_r _ _ _ _) dX4_reads_28 ?_
    refine s_bipush C (by decide) dX4_reads_31 ?_
    refine s_bipush C (by decide) dX4_reads_33 ?_
    refine s_callS C (fr_M_E B g) (k_X4_isIn B) gX4_reads_X4_isIn rfl (by decide +kernel) ⟨rfl, rfl⟩ (by decide) (cf_III_r _ _ _) dX4_reads_35 ?_
    refine s_if_eq C (tgt := 70) (by decide) dX4_reads_38 ?_ ?_
    · exact s_X4_reads_70 B g C R 
    · refine s_bipush C (by decide) dX4_reads_41 ?_
      refine s_iload_n C rfl dX4_reads_43 ?_
      refine s_imul C dX4_reads_44 ?_
      refine s_aload_n C rfl dX4_reads_45 ?_
      refine s_callV C (fr_M_M B g) (k_X4_next B g) gX4_reads_X4_next rfl (by decide +kernel) ⟨rfl, rfl⟩ (by decide) rfl (fun s => ⟨_, heM_0 B g s⟩) (cf_R_r _ _ _ _) dX4_reads_46 ?_
      refine s_iadd C dX4_reads_49 ?_
      refine s_bipush C (by decide) dX4_reads_50 ?_
      refine s_isub C dX4_reads_52 ?_
      refine s_istore_n C rfl (by decide) dX4_reads_53 ?_
      refine s_aload_n C rfl dX4_reads_54 ?_
      refine s_dup C dX4_reads_55 ?_
      refine s_get C inw_X4_reads_X4 rfl (k := 28) (by decide) (by decide +kernel) (heM_0 B g) (fun _ => rfl) dX4_reads_56 ?_
      refine s_iconst C (by decide) dX4_reads_59 ?_
      refine s_iadd C dX4_reads_60 ?_
      refine s_put C inw_X4_reads_X4 rfl (k := 28) (by decide) (by decide +kernel) tyX4_ok nmX4 (by decide +kernel) (by decide +kernel) (heM_0 B g) (fun _ => Nat.le_of_ble_eq_true rfl) (fun _ _ => rfl) dX4_reads_61 ?_
      refine s_iinc C (by decide) (by decide) dX4_reads_64 ?_
      refine s_goto C (tgt := 21) (by decide) dX4_reads_67 ?_
      exact s_keep _ hK21
def I_rd (g : Nat → Nat) (k d : Nat) (fin : Int32 × MS) (n : Nat) (L : Lc) (st : List Value) (s : MS) : Prop := ∃ (i : Nat) (v : Int32), n + i = d ∧ lpB s ∧ st = [] ∧ L = [some (.ref (g 30)), some (.int (nI k)), some (.int (nI d)), some (.int v), some (.int (nI i))] ∧ rdL n v s = fin
theorem k_X4_reads (B : Bx) (g : Nat → Nat) : MtF (gx B) yX4_reads wsX4_reads (rmD 1) (encM B g) (F_X4_reads g) := by
  refine cf_RII_i (fun l M k d h => ?_)
  obtain ⟨h1, ⟨k, hk, rfl⟩, d, hd, rfl⟩ := h
  rw [nI_clamp (show k < 2 ^ 31 by omega), nI_clamp (show d < 2 ^ 31 by omega)]
  have e0 : uDg M = true → uRd M k d = (true, maA 26 (rdL d 0 M).2 k (rdL d 0 M).1) := fun z => if_pos z
  have e1 : uDg M = false → uRd M k d = (false, M) := fun z => if_neg (by rw [z]; exact Bool.noConfusion)
  generalize hfin : rdL d 0 M = fin at e0
  generalize uRd M k d = r at e0 e1
  refine Mt.of (P := bk_X4_reads_0 g (fun o u => o = some (.int (b2i r.1)) ∧ u = r.2) (fun L st s => uDg M = true ∧ ∃ n, I_rd g k d fin n L st s)) (by decide) rfl (Nat.le_of_ble_eq_true rfl) rfl (fun X C R => s_X4_reads_0 B g C R (Snd.imp (fun hc => snd_loop _ (I_rd g k d fin) (fun K hK => s_X4_reads_21 B g C R hK) ?_))) ?_
  · rintro K n L st s ⟨i, v, hn, hp, rfl, rfl, hf⟩ hK
    rw [e0 hc]
    have w0 : vp_in (nI k) 192 := vp_in_nI hk (by decide)
    have ck : (nI k).toNatClampNeg = k := nI_clamp (by omega)
    have e : b2i (uIn (uNx s) 48 57) = b2i (uDg s) := rfl
    simp only [wIload, wAload, wLload, wK, wB, wDv, wU, wLB, wLU, wLS, wL2i, wLcmp, wIf1, wIf2, wKeep, wInc, wIst, wAst, wLst, wDup, wPop, wDup2, wGet, wPut, wPutZ, wIald, wLald, wIast, wLast, wLen, wRetI, wRetZ, wRetL, wRetA, wRetV, wM1, wM2, wCpy, wTab, tabW, nth, stL, stL2, dropL, keepL, mkL, padL, restOK, restOKn, tl_some, tl_none, id_eq, eq_self, true_and, and_true, bk_X4_reads_0, bk_X4_reads_70, bk_X4_reads_21, F_X4_isIn, F_X4_next, cf_III_e, cf_R_e, e, hp, b2i_eq0, b2i_t, w0, ck]
    rcases Nat.lt_or_ge i d with hlt | hge
    · have h2 : ¬ nI d ≤ nI i := nI_ge (a := i) (b := d) hlt (by omega)
      obtain ⟨n, rfl⟩ : ∃ m, n = m + 1 := ⟨n - 1, by omega⟩
      rw [rdL_s] at hf
      cases hg : uDg s
      · rw [hg, if_neg (by decide)] at hf
        subst hf
        simp only [h2, false_implies, true_implies, not_true_eq_false, not_false_eq_true, true_and, and_true, implies_true, eq_self, ne_eq, true_or, or_true, false_or, or_false, and_self]
        all_goals first | done | exact rfl
      · rw [hg, if_pos rfl] at hf
        simp only [h2, Bool.true_eq_false, false_implies, true_implies, not_true_eq_false, not_false_eq_true, true_and, and_true, implies_true, eq_self, ne_eq, true_or, or_true, false_or, or_false, and_self]
        rw [nI_1]
        exact hK n _ _ _ (by omega) ⟨i + 1, _, by omega, (mv_go hp (uDg_lt hg)).1, rfl, rfl, hf⟩
    · have h2 : nI d ≤ nI i := nI_le hge (by omega)
      have h0 : n = 0 := by omega
      subst h0
      have hf : (v, s) = fin := hf
      subst hf
      simp only [h2, false_implies, true_implies, not_true_eq_false, not_false_eq_true, true_and, and_true, implies_true, eq_self, ne_eq, true_or, or_true, false_or, or_false, and_self]
      all_goals first | done | exact rfl
  · have e : b2i (uIn (uNx M) 48 57) = b2i (uDg M) := rfl
    simp only [wIload, wAload, wLload, wK, wB, wDv, wU, wLB, wLU, wLS, wL2i, wLcmp, wIf1, wIf2, wKeep, wInc, wIst, wAst, wLst, wDup, wPop, wDup2, wGet, wPut, wPutZ, wIald, wLald, wIast, wLast, wLen, wRetI, wRetZ, wRetL, wRetA, wRetV, wM1, wM2, wCpy, wTab, tabW, nth, stL, stL2, dropL, keepL, mkL, padL, restOK, restOKn, tl_some, tl_none, id_eq, eq_self, true_and, and_true, bk_X4_reads_0, bk_X4_reads_70, bk_X4_reads_21, F_X4_isIn, F_X4_next, cf_III_e, cf_R_e, e, h1, b2i_eq0]
    cases hg : uDg M
    · rw [e1 hg]
      simp only [false_implies, true_implies, not_true_eq_false, not_false_eq_true, true_and, and_true, implies_true, eq_self, ne_eq, true_or, or_true, false_or, or_false, and_self]
      all_goals first | done | exact rfl
    · simp only [Bool.true_eq_false, false_implies, true_implies, not_true_eq_false, not_false_eq_true, true_and, and_true, implies_true, eq_self, ne_eq, true_or, or_true, false_or, or_false, and_self]
      exact ⟨d, 0, 0, rfl, h1, rfl, rfl, hfin⟩
def uRds : Nat → Nat → MS → Bool × MS
  | _, 0, M => (true, M)
  | p, n + 1, M => if (uRd M p 1).1 = true then uRds (p + 1) n (uRd M p 1).2 else (false, (uRd M p 1).2)
theorem uRds_s (p n : Nat) (M : MS) : uRds p (n + 1) M = if (uRd M p 1).1 = true then uRds (p + 1) n (uRd M p 1).2 else (false, (uRd M p 1).2) := rfl
theorem mv_rds : ∀ (n p : Nat) {M : MS}, lpB M → mv 0 M (uRds p n M).2 := by
  intro n
  induction n with
  | zero => exact fun p M h => mv_r h
  | succ n ih =>
    intro p M h
    rw [uRds_s]
    have h1 := mv_rd h p 1
    split
    · exact mv_t h1 (ih _ h1.1)
    · exact h1
def F_X4_readsDigits (g : Nat → Nat) : CF MS := cf_RII (g 30) (fun M p m => lpB M ∧ ∃ q n, q + n ≤ 192 ∧ p = nI q ∧ m = nI n) (fun M p m => some (.int (b2i (uRds p.toNatClampNeg m.toNatClampNeg M).1))) (fun M p m => (uRds p.toNatClampNeg m.toNatClampNeg M).2)
theorem inw_X4_readsDigits_X4 : ∀ w ∈ u_ws RX4 TX4 45, w ∈ wsX4_readsDigits := by decide +kernel
def bk_X4_readsDigits_0 (g : Nat → Nat) (Post : Option Value → MS → Prop) (K2 : PT MS) (L : Lc) (st : List Value) (s : MS) : Prop :=
  (wK (.int 0) <| wIst 3 <| wKeep [true, true, true, true] K2) L st s
set_option maxRecDepth 20000 in
theorem s_X4_readsDigits_0 {X : Cx} (B : Bx) (g : Nat → Nat) {Post : Option Value → MS → Prop} (C : OkX X (gx B) cX4_readsDigits 4 wsX4_readsDigits RX4 (rmD 2)) (R : RtX X (gx B) (some .boolean) (encM B g) Post) {K2 : PT MS} (hK2 : Snd X (gx B) 4 (encM B g) 2 K2) : Snd X (gx B) 4 (encM B g) 0 (bk_X4_readsDigits_0 g Post K2) := by
  unfold bk_X4_readsDigits_0
  refine s_iconst C (by decide) dX4_readsDigits_0 ?_
  refine s_istore_n C rfl (by decide) dX4_readsDigits_1 ?_
  exact s_keep _ hK2
def bk_X4_readsDigits_2 (g : Nat → Nat) (Post : Option Value → MS → Prop) (K2 : PT MS) (L : Lc) (st : List Value) (s : MS) : Prop :=
  (wIload 3 <| wIload 2 <| wIf2 (fun x y => y ≤ x) (wK (.int 1) <| wRetZ Post) (wAload 0 <| wIload 1 <| wIload 3 <| wB (fun x y => x + y) <| wK (.int 1) <| wCallR 3 (F_X4_reads g) id (fun _ u => u) <| wIf1 (fun x => x = 0) (wK (.int 0) <| wRetZ Post) (wInc 3 1 <| wKeep [true, true, true, true] K2))) L st s
set_option maxRecDepth 20000 in
theorem s_X4_readsDigits_2 {X : Cx} (B : Bx) (g : Nat → Nat) {Post : Option Value → MS → Prop} (C : OkX X (gx B) cX4_readsDigits 4 wsX4_readsDigits RX4 (rmD 2)) (R : RtX X (gx B) (some .boolean) (encM B g) Post) {K2 : PT MS} (hK2 : Snd X (gx B) 4 (encM B g) 2 K2) : Snd X (gx B) 4 (encM B g) 2 (bk_X4_readsDigits_2 g Post K2) := by
  unfold bk_X4_readsDigits_2
  refine s_iload_n C rfl dX4_readsDigits_2 ?_
  refine s_iload_n C rfl dX4_readsDigits_3 ?_
  refine s_icmp_ge C (tgt := 26) (by decide) dX4_readsDigits_4 ?_ ?_
  · refine s_iconst C (by decide) dX4_readsDigits_26 ?_
    exact s_zret C R dX4_readsDigits_27
  · refine s_aload_n C rfl dX4_readsDigits_7 ?_
    refine s_iload_n C rfl dX4_readsDigits_8 ?_
    refine s_iload_n C rfl dX4_readsDigits_9 ?_
    refine s_iadd C dX4_readsDigits_10 ?_
    refine s_iconst C (by decide) dX4_readsDigits_11 ?_
    refine s_callV C (fr_M_M B g) (k_X4_reads B g) gX4_readsDigits_X4_reads rfl (by decide +kernel) ⟨rfl, rfl⟩ (by decide) rfl (fun s => ⟨_, heM_0 B g s⟩) (cf_RII_r _ _ _ _) dX4_readsDigits_12 ?_
    refine s_if_ne C (tgt := 20) (by decide) dX4_readsDigits_15 ?_ ?_
    · refine s_iinc C (by decide) (by decide) dX4_readsDigits_20 ?_
      refine s_goto C (tgt := 2) (by decide) dX4_readsDigits_23 ?_
      exact s_keep _ hK2
    · refine s_iconst C (by decide) dX4_readsDigits_18 ?_
      exact s_zret C R dX4_readsDigits_19
def I_rds (g : Nat → Nat) (p m : Nat) (fin : Bool × MS) (n : Nat) (L : Lc) (st : List Value) (s : MS) : Prop := ∃ (i : Nat), n + i = m ∧ lpB s ∧ st = [] ∧ L = [some (.ref (g 30)), some (.int (nI p)), some (.int (nI m)), some (.int (nI i))] ∧ uRds (p + i) n s = fin
theorem k_X4_readsDigits (B : Bx) (g : Nat → Nat) : MtF (gx B) yX4_readsDigits wsX4_readsDigits (rmD 2) (encM B g) (F_X4_readsDigits g) := by
  refine cf_RII_i (fun l M k d h => ?_)
  obtain ⟨h1, p, m, hpm, rfl, rfl⟩ := h
  rw [nI_clamp (show p < 2 ^ 31 by omega), nI_clamp (show m < 2 ^ 31 by omega)]
  generalize hfin : uRds p m M = fin
  refine Mt.of (P := bk_X4_readsDigits_0 g (fun o u => o = some (.int (b2i fin.1)) ∧ u = fin.2) (fun L st s => ∃ n, I_rds g p m fin n L st s)) (by decide) rfl (Nat.le_of_ble_eq_true rfl) rfl (fun X C R => s_X4_readsDigits_0 B g C R (snd_loop _ (I_rds g p m fin) (fun K hK => s_X4_readsDigits_2 B g C R hK) ?_)) ?_
  · rintro K n L st s ⟨i, hn, hp, rfl, rfl, hf⟩ hK
    simp only [wIload, wAload, wLload, wK, wB, wDv, wU, wLB, wLU, wLS, wL2i, wLcmp, wIf1, wIf2, wKeep, wInc, wIst, wAst, wLst, wDup, wPop, wDup2, wGet, wPut, wPutZ, wIald, wLald, wIast, wLast, wLen, wRetI, wRetZ, wRetL, wRetA, wRetV, wM1, wM2, wCpy, wTab, tabW, nth, stL, stL2, dropL, keepL, mkL, padL, restOK, restOKn, tl_some, tl_none, id_eq, eq_self, true_and, and_true, bk_X4_readsDigits_0, bk_X4_readsDigits_2, F_X4_reads, cf_RII_e, b2i_eq0]
    rcases Nat.lt_or_ge i m with hlt | hge
    · have h2 : ¬ nI m ≤ nI i := nI_ge (a := i) (b := m) hlt (by omega)
      obtain ⟨n, rfl⟩ : ∃ m, n = m + 1 := ⟨n - 1, by omega⟩
      rw [uRds_s] at hf
      have ea : nI p + nI i = nI (p + i) := nI_add _ _
      have ck : (nI (p + i)).toNatClampNeg = p + i := nI_clamp (by omega)
      have c1 : (1 : Int32).toNatClampNeg = 1 := by decide
      have pr : lpB s ∧ ixB 192 (nI (p + i)) ∧ ∃ n, n ≤ 9 ∧ (1 : Int32) = nI n := ⟨hp, ⟨p + i, by omega, rfl⟩, 1, by decide, rfl⟩
      have hm := mv_rd hp (p + i) 1
      simp only [h2, ea, ck, c1, pr, false_implies, true_implies, not_true_eq_false, not_false_eq_true, true_and, and_true, implies_true, eq_self, ne_eq, true_or, or_true, false_or, or_false, and_self]
      generalize uRd s (p + i) 1 = r at hf hm ⊢
      obtain ⟨rb, rs⟩ := r
      cases rb
      · have hf : (false, rs) = fin := hf
        subst hf
        simp only [false_implies, true_implies, not_true_eq_false, not_false_eq_true, true_and, and_true, implies_true, eq_self, ne_eq, true_or, or_true, false_or, or_false, and_self]
        all_goals first | done | exact rfl
      · have hf : uRds (p + i + 1) n rs = fin := hf
        simp only [Bool.true_eq_false, false_implies, true_implies, not_true_eq_false, not_false_eq_true, true_and, and_true, implies_true, eq_self, ne_eq, true_or, or_true, false_or, or_false, and_self]
        rw [nI_1]
        exact hK n _ _ _ (by omega) ⟨i + 1, by omega, hm.1, rfl, rfl, hf⟩
    · have h2 : nI m ≤ nI i := nI_le hge (by omega)
      have h0 : n = 0 := by omega
      subst h0
      have hf : (true, s) = fin := hf
      subst hf
      simp only [h2, false_implies, true_implies, not_true_eq_false, not_false_eq_true, true_and, and_true, implies_true, eq_self, ne_eq, true_or, or_true, false_or, or_false, and_self]
      all_goals first | done | exact rfl
  · simp only [wIload, wAload, wLload, wK, wB, wDv, wU, wLB, wLU, wLS, wL2i, wLcmp, wIf1, wIf2, wKeep, wInc, wIst, wAst, wLst, wDup, wPop, wDup2, wGet, wPut, wPutZ, wIald, wLald, wIast, wLast, wLen, wRetI, wRetZ, wRetL, wRetA, wRetV, wM1, wM2, wCpy, wTab, tabW, nth, stL, stL2, dropL, keepL, mkL, padL, restOK, restOKn, tl_some, tl_none, id_eq, eq_self, true_and, and_true, bk_X4_readsDigits_0, bk_X4_readsDigits_2, F_X4_reads, cf_RII_e]
    exact ⟨m, 0, rfl, h1, rfl, rfl, hfin⟩
end
