noncomputable section
/-- hands of one need come: whether there was room -/
def fhL (q : Nat) : Nat → MS → Bool × MS
  | 0, M => (true, M)
  | k + 1, M => if mS 42 M = 8 then (false, M) else fhL q k (msS 42 (maA 38 M (mS 42 M).toNatClampNeg (nI q)) (mS 42 M + 1))
theorem fhL_s (q k : Nat) (M : MS) : fhL q (k + 1) M = if mS 42 M = 8 then (false, M) else fhL q k (msS 42 (maA 38 M (mS 42 M).toNatClampNeg (nI q)) (mS 42 M + 1)) := rfl
def fhC (M : MS) (k : Nat) : Nat := (mA 7 M k - mA 9 M k).toNatClampNeg
def fhN (y : Int32) : Nat → Nat → Int32 → MS → Bool × Int32 × MS
  | _, 0, many, M => (true, many, M)
  | k, j + 1, many, M => if mA 8 M k = y then (if (fhL k (fhC M k) M).1 = true then fhN y (k + 1) j (many + 1) (fhL k (fhC M k) M).2 else (false, many + 1, (fhL k (fhC M k) M).2)) else fhN y (k + 1) j many M
theorem fhN_s (y : Int32) (k j : Nat) (many : Int32) (M : MS) : fhN y k (j + 1) many M = if mA 8 M k = y then (if (fhL k (fhC M k) M).1 = true then fhN y (k + 1) j (many + 1) (fhL k (fhC M k) M).2 else (false, many + 1, (fhL k (fhC M k) M).2)) else fhN y (k + 1) j many M := rfl
def fhY : Nat → Nat → Int32 → MS → Bool × Int32 × MS
  | _, 0, many, M => (true, many, M)
  | y, j + 1, many, M => if (fhN (nI y) 0 (uNeeds M) many M).1 = true then fhY (y + 1) j (fhN (nI y) 0 (uNeeds M) many M).2.1 (fhN (nI y) 0 (uNeeds M) many M).2.2 else fhN (nI y) 0 (uNeeds M) many M
theorem fhY_s (y j : Nat) (many : Int32) (M : MS) : fhY y (j + 1) many M = if (fhN (nI y) 0 (uNeeds M) many M).1 = true then fhY (y + 1) j (fhN (nI y) 0 (uNeeds M) many M).2.1 (fhN (nI y) 0 (uNeeds M) many M).2.2 else fhN (nI y) 0 (uNeeds M) many M := rfl
/-- the greatest good for a need -/
def fhM (M : MS) (q : Nat) : Nat → Nat → Int32 → Int32
  | _, 0, m => m
  | p, j + 1, m => fhM M q (p + 1) j (if m < uGood M p q then uGood M p q else m)
theorem fhM_s (M : MS) (q p j : Nat) (m : Int32) : fhM M q p (j + 1) m = fhM M q (p + 1) j (if m < uGood M p q then uGood M p q else m) := rfl
def fhR : Nat → MS → MS
  | 0, M => M
  | d + 1, M => fhR d (maA 41 M d (mA 41 M (d + 1) + fhM M (mA 38 M d).toNatClampNeg 0 (uPeople M) 0))
theorem fhR_s (d : Nat) (M : MS) : fhR (d + 1) M = fhR d (maA 41 M d (mA 41 M (d + 1) + fhM M (mA 38 M d).toNatClampNeg 0 (uPeople M) 0)) := rfl
def fhE (r : Bool × Int32 × MS) : Bool × MS := if r.1 = true then (decide (r.2.1 ≤ 8), fhR (mS 42 r.2.2).toNatClampNeg (maA 41 r.2.2 (mS 42 r.2.2).toNatClampNeg 0)) else (false, r.2.2)
def uFH (M : MS) : Bool × MS := fhE (fhY (mS 22 M).toNatClampNeg (10 - (mS 22 M).toNatClampNeg) 0 (msS 42 M 0))
/-- what the finding of hands leaves as it was -/
def fhS (M M' : MS) : Prop := (∀ i, ¬ i = 42 → mS i M' = mS i M) ∧ ∀ i, ¬ i = 38 → ¬ i = 41 → mA i M' = mA i M
theorem fhS_r (M : MS) : fhS M M := ⟨fun _ _ => rfl, fun _ _ _ => rfl⟩
theorem fhS_t {A C D : MS} (h : fhS A C) (h2 : fhS C D) : fhS A D := ⟨fun i hi => (h2.1 i hi).trans (h.1 i hi), fun i h1 h3 => (h2.2 i h1 h3).trans (h.2 i h1 h3)⟩
theorem fhS_push (M : MS) (q : Nat) (v : Int32) (j : Nat) : fhS M (msS 42 (maA 38 M j (nI q)) v) := ⟨fun i hi => mS_ne hi, fun i h1 _ => by rw [mA_S, mA_a, if_neg h1]⟩
theorem fhS_rest (M : MS) (v : Int32) (j : Nat) : fhS M (maA 41 M j v) := ⟨fun i _ => rfl, fun i _ h2 => by rw [mA_a, if_neg h2]⟩
theorem fhL_S (q : Nat) : ∀ k M, fhS M (fhL q k M).2 := by
  intro k
  induction k with
  | zero => exact fun M => fhS_r M
  | succ k ih =>
    intro M
    rw [fhL_s]
    split
    · exact fhS_r M
    · exact fhS_t (fhS_push M q _ _) (ih _)
theorem fhN_S (y : Int32) : ∀ j k many M, fhS M (fhN y k j many M).2.2 := by
  intro j
  induction j with
  | zero => exact fun k many M => fhS_r M
  | succ j ih =>
    intro k many M
    rw [fhN_s]
    split
    · split
      · exact fhS_t (fhL_S k _ M) (ih _ _ _)
      · exact fhL_S k _ M
    · exact ih _ _ _
theorem fhY_S : ∀ j y many M, fhS M (fhY y j many M).2.2 := by
  intro j
  induction j with
  | zero => exact fun k many M => fhS_r M
  | succ j ih =>
    intro y many M
    rw [fhY_s]
    split
    · exact fhS_t (fhN_S _ _ _ _ M) (ih _ _ _)
    · exact fhN_S _ _ _ _ M
theorem fhR_S : ∀ d M, fhS M (fhR d M) := by
  intro d
  induction d with
  | zero => exact fun M => fhS_r M
  | succ d ih =>
    intro M
    rw [fhR_s]
    exact fhS_t (fhS_rest M _ _) (ih _)
theorem uFH_S (M : MS) : fhS M (uFH M).2 := by
  unfold uFH fhE
  have h0 : fhS M (msS 42 M 0) := ⟨fun i hi => mS_ne hi, fun _ _ _ => rfl⟩
  have h1 := fhY_S (10 - (mS 22 M).toNatClampNeg) (mS 22 M).toNatClampNeg 0 (msS 42 M 0)
  split
  · exact fhS_t (fhS_t h0 h1) (fhS_t (fhS_rest _ _ _) (fhR_S _ _))
  · exact fhS_t h0 h1
/-- the hands that are listed name needs that there can be -/
def hnB (M : MS) : Prop := ∃ N, N ≤ 8 ∧ mS 42 M = nI N ∧ ∀ i, i < N → ixB 12 (mA 38 M i)
theorem hnB_push {M : MS} {q : Nat} (h : hnB M) (h8 : ¬ mS 42 M = 8) (hq : q < 12) : hnB (msS 42 (maA 38 M (mS 42 M).toNatClampNeg (nI q)) (mS 42 M + 1)) := by
  obtain ⟨N, h1, h2, h3⟩ := h
  have hN : N < 8 := by
    rcases Nat.lt_or_eq_of_le h1 with h | h
    · exact h
    · subst h; exact absurd h2 h8
  refine ⟨N + 1, by omega, ?_, fun i hi => ?_⟩
  · rw [mS_S, if_pos rfl, h2, nI_1]
  · rw [mA_S, mA_a, if_pos rfl, h2, nI_clamp (by omega)]
    by_cases e : i = N
    · subst e
      rw [upd_eq]
      exact ⟨q, hq, rfl⟩
    · rw [upd_ne e]
      exact h3 i (by omega)
theorem fhL_B {q : Nat} (hq : q < 12) : ∀ k M, hnB M → hnB (fhL q k M).2 := by
  intro k
  induction k with
  | zero => exact fun M h => h
  | succ k ih =>
    intro M h
    rw [fhL_s]
    split
    · exact h
    · rename_i h8
      exact ih _ (hnB_push h h8 hq)
theorem fhN_B (y : Int32) : ∀ j k many M, k + j ≤ 12 → hnB M → hnB (fhN y k j many M).2.2 := by
  intro j
  induction j with
  | zero => exact fun k many M _ h => h
  | succ j ih =>
    intro k many M hk h
    rw [fhN_s]
    split
    · split
      · exact ih _ _ _ (by omega) (fhL_B (by omega) _ _ h)
      · exact fhL_B (by omega) _ _ h
    · exact ih _ _ _ (by omega) h
theorem fhY_B : ∀ j y many M, uNeeds M ≤ 12 → hnB M → hnB (fhY y j many M).2.2 := by
  intro j
  induction j with
  | zero => exact fun k many M _ h => h
  | succ j ih =>
    intro y many M hn h
    rw [fhY_s]
    have hb := fhN_B (nI y) (uNeeds M) 0 many M (by omega) h
    split
    · refine ih _ _ _ ?_ hb
      unfold uNeeds
      rw [(fhN_S (nI y) _ _ _ M).1 16 (by decide)]
      exact hn
    · exact hb
def fhPre (M : MS) : Prop := nwB M ∧ nnB M ∧ ppB M ∧ yrB M ∧ haB M
def F_X4_findHands (g : Nat → Nat) : CF MS := cf_R (g 30) (fun M => fhPre M) (fun M => some (.int (b2i (uFH M).1))) (fun M => (uFH M).2)
theorem inw_X4_findHands_X4 : ∀ w ∈ u_ws RX4 TX4 45, w ∈ wsX4_findHands := by decide +kernel
def bk_X4_findHands_0 (g : Nat → Nat) (Post : Option Value → MS → Prop) (K12 : PT MS) (L : Lc) (st : List Value) (s : MS) : Prop :=
  (wAload 0 <| wK (.int 0) <| wPut (g 30) (msS 42) <| wK (.int 0) <| wIst 1 <| wAload 0 <| wGet (g 30) (fun s => .int (mS 22 s)) <| wIst 2 <| wKeep [true, true, true, false, false] K12) L st s
set_option maxRecDepth 20000 in
theorem s_X4_findHands_0 {X : Cx} (B : Bx) (g : Nat → Nat) {Post : Option Value → MS → Prop} (C : OkX X (gx B) cX4_findHands 5 wsX4_findHands RX4 (rmD 2)) (R : RtX X (gx B) (some .boolean) (encM B g) Post) {K12 : PT MS} (hK12 : Snd X (gx B) 5 (encM B g) 12 K12) : Snd X (gx B) 5 (encM B g) 0 (bk_X4_findHands_0 g Post K12) := by
  unfold bk_X4_findHands_0
  refine s_aload_n C rfl dX4_findHands_0 ?_
  refine s_iconst C (by decide) dX4_findHands_1 ?_
  refine s_put C inw_X4_findHands_X4 rfl (k := 42) (by decide) (by decide +kernel) tyX4_ok nmX4 (by decide +kernel) (by decide +kernel) (heM_0 B g) (fun _ => Nat.le_of_ble_eq_true rfl) (fun _ _ => rfl) dX4_findHands_2 ?_
  refine s_iconst C (by decide) dX4_findHands_5 ?_
  refine s_istore_n C rfl (by decide) dX4_findHands_6 ?_
  refine s_aload_n C rfl dX4_findHands_7 ?_
  refine s_get C inw_X4_findHands_X4 rfl (k := 22) (by decide) (by decide +kernel) (heM_0 B g) (fun _ => rfl) dX4_findHands_8 ?_
  refine s_istore_n C rfl (by decide) dX4_findHands_11 ?_
  exact s_keep _ hK12
def bk_X4_findHands_12 (g : Nat → Nat) (Post : Option Value → MS → Prop) (K20 : PT MS) (K130 : PT MS) (L : Lc) (st : List Value) (s : MS) : Prop :=
  (wIload 2 <| wK (.int 9) <| wIf2 (fun x y => y < x) (wAload 0 <| wGet (g 30) (fun _ => .ref (g 72)) <| wAload 0 <| wGet (g 30) (fun s => .int (mS 42 s)) <| wK (.int 0) <| wIast (g 72) 9 (maA 41) <| wAload 0 <| wGet (g 30) (fun s => .int (mS 42 s)) <| wK (.int 1) <| wB (fun x y => x - y) <| wIst 2 <| wKeep [true, true, true, false, false] K130) (wK (.int 0) <| wIst 3 <| wKeep [true, true, true, true, false] K20)) L st s
set_option maxRecDepth 20000 in
theorem s_X4_findHands_12 {X : Cx} (B : Bx) (g : Nat → Nat) {Post : Option Value → MS → Prop} (C : OkX X (gx B) cX4_findHands 5 wsX4_findHands RX4 (rmD 2)) (R : RtX X (gx B) (some .boolean) (encM B g) Post) {K20 : PT MS} (hK20 : Snd X (gx B) 5 (encM B g) 20 K20) {K130 : PT MS} (hK130 : Snd X (gx B) 5 (encM B g) 130 K130) : Snd X (gx B) 5 (encM B g) 12 (bk_X4_findHands_12 g Post K20 K130) := by
  unfold bk_X4_findHands_12
  refine s_iload_n C rfl dX4_findHands_12 ?_
  refine s_bipush C (by decide) dX4_findHands_13 ?_
  refine s_icmp_gt C (tgt := 113) (by decide) dX4_findHands_15 ?_ ?_
  · refine s_aload_n C rfl dX4_findHands_113 ?_
    refine s_get C inw_X4_findHands_X4 rfl (k := 41) (by decide) (by decide +kernel) (heM_0 B g) (fun _ => rfl) dX4_findHands_114 ?_
    refine s_aload_n C rfl dX4_findHands_117 ?_
    refine s_get C inw_X4_findHands_X4 rfl (k := 42) (by decide) (by decide +kernel) (heM_0 B g) (fun _ => rfl) dX4_findHands_118 ?_
    refine s_iconst C (by decide) dX4_findHands_121 ?_
    refine s_iast C (heM_25 B g) (fun _ _ _ => rfl) dX4_findHands_122 ?_
    refine s_aload_n C rfl dX4_findHands_123 ?_
    refine s_get C inw_X4_findHands_X4 rfl (k := 42) (by decide) (by decide +kernel) (heM_0 B g) (fun _ => rfl) dX4_findHands_124 ?_
    refine s_iconst C (by decide) dX4_findHands_127 ?_
    refine s_isub C dX4_findHands_128 ?_
    refine s_istore_n C rfl (by decide) dX4_findHands_129 ?_
    exact s_keep _ hK130
  · refine s_iconst C (by decide) dX4_findHands_18 ?_
    refine s_istore_n C rfl (by decide) dX4_findHands_19 ?_
    exact s_keep _ hK20
def bk_X4_findHands_101 (g : Nat → Nat) (Post : Option Value → MS → Prop) (K20 : PT MS) (L : Lc) (st : List Value) (s : MS) : Prop :=
  (wInc 3 1 <| wKeep [true, true, true, true, false] K20) L st s
set_option maxRecDepth 20000 in
theorem s_X4_findHands_101 {X : Cx} (B : Bx) (g : Nat → Nat) {Post : Option Value → MS → Prop} (C : OkX X (gx B) cX4_findHands 5 wsX4_findHands RX4 (rmD 2)) (R : RtX X (gx B) (some .boolean) (encM B g) Post) {K20 : PT MS} (hK20 : Snd X (gx B) 5 (encM B g) 20 K20) : Snd X (gx B) 5 (encM B g) 101 (bk_X4_findHands_101 g Post K20) := by
  unfold bk_X4_findHands_101
  refine s_iinc C (by decide) (by decide) dX4_findHands_101 ?_
  refine s_goto C (tgt := 20) (by decide) dX4_findHands_104 ?_
  exact s_keep _ hK20
def bk_X4_findHands_20 (g : Nat → Nat) (Post : Option Value → MS → Prop) (K12 : PT MS) (K20 : PT MS) (K59 : PT MS) (L : Lc) (st : List Value) (s : MS) : Prop :=
  (wIload 3 <| wAload 0 <| wGet (g 30) (fun s => .int (mS 16 s)) <| wIf2 (fun x y => y ≤ x) (wInc 2 1 <| wKeep [true, true, true, false, false] K12) (wAload 0 <| wGet (g 30) (fun _ => .ref (g 39)) <| wIload 3 <| wIald (g 39) 13 (mA 8) <| wIload 2 <| wIf2 (fun x y => x = y) (wInc 1 1 <| wAload 0 <| wGet (g 30) (fun _ => .ref (g 38)) <| wIload 3 <| wIald (g 38) 13 (mA 7) <| wAload 0 <| wGet (g 30) (fun _ => .ref (g 40)) <| wIload 3 <| wIald (g 40) 13 (mA 9) <| wB (fun x y => x - y) <| wIst 4 <| wKeep [true, true, true, true, true] K59) (bk_X4_findHands_101 g Post K20))) L st s
set_option maxRecDepth 20000 in
theorem s_X4_findHands_20 {X : Cx} (B : Bx) (g : Nat → Nat) {Post : Option Value → MS → Prop} (C : OkX X (gx B) cX4_findHands 5 wsX4_findHands RX4 (rmD 2)) (R : RtX X (gx B) (some .boolean) (encM B g) Post) {K12 : PT MS} (hK12 : Snd X (gx B) 5 (encM B g) 12 K12) {K20 : PT MS} (hK20 : Snd X (gx B) 5 (encM B g) 20 K20) {K59 : PT MS} (hK59 : Snd X (gx B) 5 (encM B g) 59 K59) : Snd X (gx B) 5 (encM B g) 20 (bk_X4_findHands_20 g Post K12 K20 K59) := by
  unfold bk_X4_findHands_20
  refine s_iload_n C rfl dX4_findHands_20 ?_
  refine s_aload_n C rfl dX4_findHands_21 ?_
  refine s_get C inw_X4_findHands_X4 rfl (k := 16) (by decide) (by decide +kernel) (heM_0 B g) (fun _ => rfl) dX4_findHands_22 ?_
  refine s_icmp_ge C (tgt := 107) (by decide) dX4_findHands_25 ?_ ?_
  · refine s_iinc C (by decide) (by decide) dX4_findHands_107 ?_
    refine s_goto C (tgt := 12) (by decide) dX4_findHands_110 ?_
    exact s_keep _ hK12
  · refine s_aload_n C rfl dX4_findHands_28 ?_
    refine s_get C inw_X4_findHands_X4 rfl (k := 8) (by decide) (by decide +kernel) (heM_0 B g) (fun _ => rfl) dX4_findHands_29 ?_
    refine s_iload_n C rfl dX4_findHands_32 ?_
    refine s_iald C (heM_9 B g) dX4_findHands_33 ?_
    refine s_iload_n C rfl dX4_findHands_34 ?_
    refine s_icmp_eq C (tgt := 41) (by decide) dX4_findHands_35 ?_ ?_
    · refine s_iinc C (by decide) (by decide) dX4_findHands_41 ?_
      refine s_aload_n C rfl dX4_findHands_44 ?_
      refine s_get C inw_X4_findHands_X4 rfl (k := 7) (by decide) (by decide +kernel) (heM_0 B g) (fun _ => rfl) dX4_findHands_45 ?_
      refine s_iload_n C rfl dX4_findHands_48 ?_
      refine s_iald C (heM_8 B g) dX4_findHands_49 ?_
      refine s_aload_n C rfl dX4_findHands_50 ?_
      refine s_get C inw_X4_findHands_X4 rfl (k := 9) (by decide) (by decide +kernel) (heM_0 B g) (fun _ => rfl) dX4_findHands_51 ?_
      refine s_iload_n C rfl dX4_findHands_54 ?_
      refine s_iald C (heM_10 B g) dX4_findHands_55 ?_
      refine s_isub C dX4_findHands_56 ?_
      refine s_istore C (by decide) dX4_findHands_57 ?_
      exact s_keep _ hK59
    · refine s_goto C (tgt := 101) (by decide) dX4_findHands_38 ?_
      exact s_X4_findHands_101 B g C R hK20
def bk_X4_findHands_59 (g : Nat → Nat) (Post : Option Value → MS → Prop) (K20 : PT MS) (K59 : PT MS) (L : Lc) (st : List Value) (s : MS) : Prop :=
  (wIload 4 <| wIf1 (fun x => x ≤ 0) (bk_X4_findHands_101 g Post K20) (wAload 0 <| wGet (g 30) (fun s => .int (mS 42 s)) <| wK (.int 8) <| wIf2 (fun x y => x = y) (wK (.int 0) <| wRetZ Post) (wAload 0 <| wGet (g 30) (fun _ => .ref (g 69)) <| wAload 0 <| wGet (g 30) (fun s => .int (mS 42 s)) <| wIload 3 <| wIast (g 69) 8 (maA 38) <| wAload 0 <| wDup <| wGet (g 30) (fun s => .int (mS 42 s)) <| wK (.int 1) <| wB (fun x y => x + y) <| wPut (g 30) (msS 42) <| wInc 4 (-1) <| wKeep [true, true, true, true, true] K59))) L st s
set_option maxRecDepth 20000 in
theorem s_X4_findHands_59 {X : Cx} (B : Bx) (g : Nat → Nat) {Post : Option Value → MS → Prop} (C : OkX X (gx B) cX4_findHands 5 wsX4_findHands RX4 (rmD 2)) (R : RtX X (gx B) (some .boolean) (encM B g) Post) {K20 : PT MS} (hK20 : Snd X (gx B) 5 (encM B g) 20 K20) {K59 : PT MS} (hK59 : Snd X (gx B) 5 (encM B g) 59 K59) : Snd X (gx B) 5 (encM B g) 59 (bk_X4_findHands_59 g Post K20 K59) := by
  unfold bk_X4_findHands_59
  refine s_iload C dX4_findHands_59 ?_
  refine s_if_le C (tgt := 101) (by decide) dX4_findHands_61 ?_ ?_
  · exact s_X4_findHands_101 B g C R hK20
  · refine s_aload_n C rfl dX4_findHands_64 ?_
    refine s_get C inw_X4_findHands_X4 rfl (k := 42) (by decide) (by decide +kernel) (heM_0 B g) (fun _ => rfl) dX4_findHands_65 ?_
    refine s_bipush C (by decide) dX4_findHands_68 ?_
    refine s_icmp_ne C (tgt := 75) (by decide) dX4_findHands_70 ?_ ?_
    · refine s_aload_n C rfl dX4_findHands_75 ?_
      refine s_get C inw_X4_findHands_X4 rfl (k := 38) (by decide) (by decide +kernel) (heM_0 B g) (fun _ => rfl) dX4_findHands_76 ?_
      refine s_aload_n C rfl dX4_findHands_79 ?_
      refine s_get C inw_X4_findHands_X4 rfl (k := 42) (by decide) (by decide +kernel) (heM_0 B g) (fun _ => rfl) dX4_findHands_80 ?_
      refine s_iload_n C rfl dX4_findHands_83 ?_
      refine s_iast C (heM_22 B g) (fun _ _ _ => rfl) dX4_findHands_84 ?_
      refine s_aload_n C rfl dX4_findHands_85 ?_
      refine s_dup C dX4_findHands_86 ?_
      refine s_get C inw_X4_findHands_X4 rfl (k := 42) (by decide) (by decide +kernel) (heM_0 B g) (fun _ => rfl) dX4_findHands_87 ?_
      refine s_iconst C (by decide) dX4_findHands_90 ?_
      refine s_iadd C dX4_findHands_91 ?_
      refine s_put C inw_X4_findHands_X4 rfl (k := 42) (by decide) (by decide +kernel) tyX4_ok nmX4 (by decide +kernel) (by decide +kernel) (heM_0 B g) (fun _ => Nat.le_of_ble_eq_true rfl) (fun _ _ => rfl) dX4_findHands_92 ?_
      refine s_iinc C (by decide) (by decide) dX4_findHands_95 ?_
      refine s_goto C (tgt := 59) (by decide) dX4_findHands_98 ?_
      exact s_keep _ hK59
    · refine s_iconst C (by decide) dX4_findHands_73 ?_
      exact s_zret C R dX4_findHands_74
def bk_X4_findHands_220 (g : Nat → Nat) (Post : Option Value → MS → Prop)  (L : Lc) (st : List Value) (s : MS) : Prop :=
  (wRetZ Post) L st s
set_option maxRecDepth 20000 in
theorem s_X4_findHands_220 {X : Cx} (B : Bx) (g : Nat → Nat) {Post : Option Value → MS → Prop} (C : OkX X (gx B) cX4_findHands 5 wsX4_findHands RX4 (rmD 2)) (R : RtX X (gx B) (some .boolean) (encM B g) Post)  : Snd X (gx B) 5 (encM B g) 220 (bk_X4_findHands_220 g Post ) := by
  unfold bk_X4_findHands_220
  exact s_zret C R dX4_findHands_220
def bk_X4_findHands_130 (g : Nat → Nat) (Post : Option Value → MS → Prop) (K139 : PT MS) (L : Lc) (st : List Value) (s : MS) : Prop :=
  (wIload 2 <| wIf1 (fun x => x < 0) (wIload 1 <| wK (.int 8) <| wIf2 (fun x y => y < x) (wK (.int 0) <| bk_X4_findHands_220 g Post ) (wK (.int 1) <| bk_X4_findHands_220 g Post )) (wK (.int 0) <| wIst 3 <| wK (.int 0) <| wIst 4 <| wKeep [true, true, true, true, true] K139)) L st s
set_option maxRecDepth 20000 in
theorem s_X4_findHands_130 {X : Cx} (B : Bx) (g : Nat → Nat) {Post : Option Value → MS → Prop} (C : OkX X (gx B) cX4_findHands 5 wsX4_findHands RX4 (rmD 2)) (R : RtX X (gx B) (some .boolean) (encM B g) Post) {K139 : PT MS} (hK139 : Snd X (gx B) 5 (encM B g) 139 K139) : Snd X (gx B) 5 (encM B g) 130 (bk_X4_findHands_130 g Post K139) := by
  unfold bk_X4_findHands_130
  refine s_iload_n C rfl dX4_findHands_130 ?_
  refine s_if_lt C (tgt := 209) (by decide) dX4_findHands_131 ?_ ?_
  · refine s_iload_n C rfl dX4_findHands_209 ?_
    refine s_bipush C (by decide) dX4_findHands_210 ?_
    refine s_icmp_gt C (tgt := 219) (by decide) dX4_findHands_212 ?_ ?_
    · refine s_iconst C (by decide) dX4_findHands_219 ?_
      exact s_X4_findHands_220 B g C R 
    · refine s_iconst C (by decide) dX4_findHands_215 ?_
      refine s_goto C (tgt := 220) (by decide) dX4_findHands_216 ?_
      exact s_X4_findHands_220 B g C R 
  · refine s_iconst C (by decide) dX4_findHands_134 ?_
    refine s_istore_n C rfl (by decide) dX4_findHands_135 ?_
    refine s_iconst C (by decide) dX4_findHands_136 ?_
    refine s_istore C (by decide) dX4_findHands_137 ?_
    exact s_keep _ hK139
def bk_X4_findHands_180 (g : Nat → Nat) (Post : Option Value → MS → Prop) (K139 : PT MS) (L : Lc) (st : List Value) (s : MS) : Prop :=
  (wIst 3 <| wInc 4 1 <| wKeep [true, true, true, true, true] K139) L st s
set_option maxRecDepth 20000 in
theorem s_X4_findHands_180 {X : Cx} (B : Bx) (g : Nat → Nat) {Post : Option Value → MS → Prop} (C : OkX X (gx B) cX4_findHands 5 wsX4_findHands RX4 (rmD 2)) (R : RtX X (gx B) (some .boolean) (encM B g) Post) {K139 : PT MS} (hK139 : Snd X (gx B) 5 (encM B g) 139 K139) : Snd X (gx B) 5 (encM B g) 180 (bk_X4_findHands_180 g Post K139) := by
  unfold bk_X4_findHands_180
  refine s_istore_n C rfl (by decide) dX4_findHands_180 ?_
  refine s_iinc C (by decide) (by decide) dX4_findHands_181 ?_
  refine s_goto C (tgt := 139) (by decide) dX4_findHands_184 ?_
  exact s_keep _ hK139
def bk_X4_findHands_139 (g : Nat → Nat) (Post : Option Value → MS → Prop) (K130 : PT MS) (K139 : PT MS) (L : Lc) (st : List Value) (s : MS) : Prop :=
  (wIload 4 <| wAload 0 <| wGet (g 30) (fun s => .int (mS 15 s)) <| wIf2 (fun x y => y ≤ x) (wAload 0 <| wGet (g 30) (fun _ => .ref (g 72)) <| wIload 2 <| wAload 0 <| wGet (g 30) (fun _ => .ref (g 72)) <| wIload 2 <| wK (.int 1) <| wB (fun x y => x + y) <| wIald (g 72) 9 (mA 41) <| wIload 3 <| wB (fun x y => x + y) <| wIast (g 72) 9 (maA 41) <| wInc 2 (-1) <| wKeep [true, true, true, false, false] K130) (wAload 0 <| wIload 4 <| wAload 0 <| wGet (g 30) (fun _ => .ref (g 69)) <| wIload 2 <| wIald (g 69) 8 (mA 38) <| wCallR 3 (F_X4_goodOf g) id (fun _ u => u) <| wIload 3 <| wIf2 (fun x y => x ≤ y) (wIload 3 <| bk_X4_findHands_180 g Post K139) (wAload 0 <| wIload 4 <| wAload 0 <| wGet (g 30) (fun _ => .ref (g 69)) <| wIload 2 <| wIald (g 69) 8 (mA 38) <| wCallR 3 (F_X4_goodOf g) id (fun _ u => u) <| bk_X4_findHands_180 g Post K139))) L st s
set_option maxRecDepth 20000 in
theorem s_X4_findHands_139 {X : Cx} (B : Bx) (g : Nat → Nat) {Post : Option Value → MS → Prop} (C : OkX X (gx B) cX4_findHands 5 wsX4_findHands RX4 (rmD 2)) (R : RtX X (gx B) (some .boolean) (encM B g) Post) {K130 : PT MS} (hK130 : Snd X (gx B) 5 (encM B g) 130 K130) {K139 : PT MS} (hK139 : Snd X (gx B) 5 (encM B g) 139 K139) : Snd X (gx B) 5 (encM B g) 139 (bk_X4_findHands_139 g Post K130 K139) := by
  unfold bk_X4_findHands_139
  refine s_iload C dX4_findHands_139 ?_
  refine s_aload_n C rfl dX4_findHands_141 ?_
  refine s_get C inw_X4_findHands_X4 rfl (k := 15) (by decide) (by decide +kernel) (heM_0 B g) (fun _ => rfl) dX4_findHands_142 ?_
  refine s_icmp_ge C (tgt := 187) (by decide) dX4_findHands_145 ?_ ?_
  · refine s_aload_n C rfl dX4_findHands_187 ?_
    refine s_get C inw_X4_findHands_X4 rfl (k := 41) (by decide) (by decide +kernel) (heM_0 B g) (fun _ => rfl) dX4_findHands_188 ?_
    refine s_iload_n C rfl dX4_findHands_191 ?_
    refine s_aload_n C rfl dX4_findHands_192 ?_
    refine s_get C inw_X4_findHands_X4 rfl (k := 41) (by decide) (by decide +kernel) (heM_0 B g) (fun _ => rfl) dX4_findHands_193 ?_
    refine s_iload_n C rfl dX4_findHands_196 ?_
    refine s_iconst C (by decide) dX4_findHands_197 ?_
    refine s_iadd C dX4_findHands_198 ?_
    refine s_iald C (heM_25 B g) dX4_findHands_199 ?_
    refine s_iload_n C rfl dX4_findHands_200 ?_
    refine s_iadd C dX4_findHands_201 ?_
    refine s_iast C (heM_25 B g) (fun _ _ _ => rfl) dX4_findHands_202 ?_
    refine s_iinc C (by decide) (by decide) dX4_findHands_203 ?_
    refine s_goto C (tgt := 130) (by decide) dX4_findHands_206 ?_
    exact s_keep _ hK130
  · refine s_aload_n C rfl dX4_findHands_148 ?_
    refine s_iload C dX4_findHands_149 ?_
    refine s_aload_n C rfl dX4_findHands_151 ?_
    refine s_get C inw_X4_findHands_X4 rfl (k := 38) (by decide) (by decide +kernel) (heM_0 B g) (fun _ => rfl) dX4_findHands_152 ?_
    refine s_iload_n C rfl dX4_findHands_155 ?_
    refine s_iald C (heM_22 B g) dX4_findHands_156 ?_
    refine s_callV C (fr_M_M B g) (k_X4_goodOf B g) gX4_findHands_X4_goodOf rfl (by decide +kernel) ⟨rfl, rfl⟩ (by decide) rfl (fun s => ⟨_, heM_0 B g s⟩) (cf_RII_r _ _ _ _) dX4_findHands_157 ?_
    refine s_iload_n C rfl dX4_findHands_160 ?_
    refine s_icmp_le C (tgt := 179) (by decide) dX4_findHands_161 ?_ ?_
    · refine s_iload_n C rfl dX4_findHands_179 ?_
      exact s_X4_findHands_180 B g C R hK139
    · refine s_aload_n C rfl dX4_findHands_164 ?_
      refine s_iload C dX4_findHands_165 ?_
      refine s_aload_n C rfl dX4_findHands_167 ?_
      refine s_get C inw_X4_findHands_X4 rfl (k := 38) (by decide) (by decide +kernel) (heM_0 B g) (fun _ => rfl) dX4_findHands_168 ?_
      refine s_iload_n C rfl dX4_findHands_171 ?_
      refine s_iald C (heM_22 B g) dX4_findHands_172 ?_
      refine s_callV C (fr_M_M B g) (k_X4_goodOf B g) gX4_findHands_X4_goodOf rfl (by decide +kernel) ⟨rfl, rfl⟩ (by decide) rfl (fun s => ⟨_, heM_0 B g s⟩) (cf_RII_r _ _ _ _) dX4_findHands_173 ?_
      refine s_goto C (tgt := 180) (by decide) dX4_findHands_176 ?_
      exact s_X4_findHands_180 B g C R hK139
def ZPost (fin : Bool × MS) : Option Value → MS → Prop := fun o u => o = some (.int (b2i fin.1)) ∧ u = fin.2
/-- the rows of a state that the loops need -/
def fhI (N : Nat) (s : MS) : Prop := hnB s ∧ nwB s ∧ haB s ∧ mS 16 s = nI N ∧ N ≤ 12 ∧ ppB s
theorem fhI_of {N : Nat} {s s' : MS} (h : fhI N s) (hs : fhS s s') (hb : hnB s') : fhI N s' := ⟨hb, nwB_of h.2.1 (hs.2 4 (by decide) (by decide)) (hs.2 5 (by decide) (by decide)), fun n hn => by rw [hs.2 7 (by decide) (by decide), hs.2 9 (by decide) (by decide)]; exact h.2.2.1 n hn, by rw [hs.1 16 (by decide)]; exact h.2.2.2.1, h.2.2.2.2.1, ppB_of h.2.2.2.2.2 (hs.1 15 (by decide))⟩
def I_f59 (g : Nat → Nat) (N : Nat) (fin : Bool × MS) (many y : Int32) (k : Nat) (K20 : PT MS) (n : Nat) (L : Lc) (st : List Value) (s : MS) : Prop := ∃ x : Int32, x.toNatClampNeg = n ∧ fhI N s ∧ st = [] ∧ L = [some (.ref (g 30)), some (.int many), some (.int y), some (.int (nI k)), some (.int x)] ∧ ∀ r, fhL k n s = r → (r.1 = false → fin = (false, r.2)) ∧ (r.1 = true → K20 [some (.ref (g 30)), some (.int many), some (.int y), some (.int (nI k + 1)), none] [] r.2)
theorem fh59 {X : Cx} (B : Bx) (g : Nat → Nat) (N : Nat) (fin : Bool × MS) (C : OkX X (gx B) cX4_findHands 5 wsX4_findHands RX4 (rmD 2)) (R : RtX X (gx B) (some .boolean) (encM B g) (ZPost fin)) {K20 : PT MS} (hK20 : Snd X (gx B) 5 (encM B g) 20 K20) : Snd X (gx B) 5 (encM B g) 59 (fun L st s => ∃ many, ∃ y, ∃ k, k < 12 ∧ ∃ n, I_f59 g N fin many y k K20 n L st s) := by
  refine Snd.ex (fun many => Snd.ex (fun y => Snd.ex (fun k => Snd.imp (fun hk12 => snd_loop (fun K => bk_X4_findHands_59 g (ZPost fin) K20 K) (I_f59 g N fin many y k K20) (fun K hK => s_X4_findHands_59 B g C R hK20 hK) ?_))))
  rintro K n L st s ⟨x, hx, hI, rfl, rfl, hr⟩ hK
  simp only [wIload, wAload, wLload, wK, wB, wDv, wU, wLB, wLU, wLS, wL2i, wLcmp, wIf1, wIf2, wKeep, wInc, wIst, wAst, wLst, wDup, wPop, wDup2, wGet, wPut, wPutZ, wIald, wLald, wIast, wLast, wLen, wRetI, wRetZ, wRetL, wRetA, wRetV, wM1, wM2, wCpy, wTab, tabW, nth, stL, stL2, dropL, keepL, mkL, padL, restOK, restOKn, tl_some, tl_none, id_eq, eq_self, true_and, and_true, bk_X4_findHands_0, bk_X4_findHands_12, bk_X4_findHands_101, bk_X4_findHands_20, bk_X4_findHands_59, bk_X4_findHands_220, bk_X4_findHands_130, bk_X4_findHands_180, bk_X4_findHands_139, F_X4_goodOf, cf_RII_e, mS_S, mA_A, mS_A, mA_S, mS_a, mA_a, Nat.reduceEqDiff, reduceIte, ZPost]
  rcases n with _ | n
  · have h1 : x ≤ 0 := (le0_clamp x).mpr hx
    simp only [h1, false_implies, true_implies, not_true_eq_false, not_false_eq_true, true_and, and_true, implies_true, eq_self, ne_eq, true_or, or_true, false_or, or_false, and_self]
    exact (hr _ rfl).2 rfl
  · have h1 : ¬ x ≤ 0 := fun z => by have := (le0_clamp x).mp z; omega
    by_cases h8 : mS 42 s = 8
    · have e : fhL k (n + 1) s = (false, s) := by rw [fhL_s, if_pos h8]
      have hf := (hr _ e).1 rfl
      subst hf
      simp only [h1, h8, b2i_f, false_implies, true_implies, not_true_eq_false, not_false_eq_true, true_and, and_true, implies_true, eq_self, ne_eq, true_or, or_true, false_or, or_false, and_self]
      all_goals first | done | exact ⟨Or.inl rfl, rfl⟩ | trivial
    · have hb := hnB_push (q := k) hI.1 h8 hk12
      obtain ⟨⟨H, hH, eH, hh⟩, hrest⟩ := id hI
      have w0 : vp_in (mS 42 s) 8 := by
        rw [eH]
        refine vp_in_nI ?_ (by decide)
        rcases Nat.lt_or_eq_of_le hH with h | h
        · exact h
        · subst h; exact absurd eH h8
      have hc := hK n _ _ _ (by omega) ⟨x + -1, clamp_dec hx, fhI_of hI (fhS_push s k _ _) hb, rfl, rfl, fun r h => hr r (by rw [fhL_s, if_neg h8]; exact h)⟩
      simp only [h1, h8, w0, false_implies, true_implies, not_true_eq_false, not_false_eq_true, true_and, and_true, implies_true, eq_self, ne_eq, true_or, or_true, false_or, or_false, and_self]
      exact hc
def I_f20 (g : Nat → Nat) (N : Nat) (fin : Bool × MS) (y : Nat) (K12 : PT MS) (n : Nat) (L : Lc) (st : List Value) (s : MS) : Prop := ∃ (k : Nat) (many : Int32), n + k = N ∧ fhI N s ∧ st = [] ∧ L = [some (.ref (g 30)), some (.int many), some (.int (nI y)), some (.int (nI k)), none] ∧ ∀ r, fhN (nI y) k n many s = r → (r.1 = false → fin = (false, r.2.2)) ∧ (r.1 = true → K12 [some (.ref (g 30)), some (.int r.2.1), some (.int (nI y + 1)), none, none] [] r.2.2)
theorem fh20 {X : Cx} (B : Bx) (g : Nat → Nat) (N : Nat) (fin : Bool × MS) (C : OkX X (gx B) cX4_findHands 5 wsX4_findHands RX4 (rmD 2)) (R : RtX X (gx B) (some .boolean) (encM B g) (ZPost fin)) {K12 : PT MS} (hK12 : Snd X (gx B) 5 (encM B g) 12 K12) : Snd X (gx B) 5 (encM B g) 20 (fun L st s => ∃ y, ∃ n, I_f20 g N fin y K12 n L st s) := by
  refine Snd.ex (fun y => snd_loop (fun K => bk_X4_findHands_20 g (ZPost fin) K12 K (fun L st s => ∃ many, ∃ y, ∃ k, k < 12 ∧ ∃ n, I_f59 g N fin many y k K n L st s)) (I_f20 g N fin y K12) (fun K hK => s_X4_findHands_20 B g C R hK12 hK (fh59 B g N fin C R hK)) ?_)
  rintro K n L st s ⟨k, many, hk, hI, rfl, rfl, hr⟩ hK
  simp only [wIload, wAload, wLload, wK, wB, wDv, wU, wLB, wLU, wLS, wL2i, wLcmp, wIf1, wIf2, wKeep, wInc, wIst, wAst, wLst, wDup, wPop, wDup2, wGet, wPut, wPutZ, wIald, wLald, wIast, wLast, wLen, wRetI, wRetZ, wRetL, wRetA, wRetV, wM1, wM2, wCpy, wTab, tabW, nth, stL, stL2, dropL, keepL, mkL, padL, restOK, restOKn, tl_some, tl_none, id_eq, eq_self, true_and, and_true, bk_X4_findHands_0, bk_X4_findHands_12, bk_X4_findHands_101, bk_X4_findHands_20, bk_X4_findHands_59, bk_X4_findHands_220, bk_X4_findHands_130, bk_X4_findHands_180, bk_X4_findHands_139, F_X4_goodOf, cf_RII_e, mS_S, mA_A, mS_A, mA_S, mS_a, mA_a, Nat.reduceEqDiff, reduceIte]
  obtain ⟨i1, i2, i3, i4, i5, i6⟩ := id hI
  rw [i4]
  rcases Nat.lt_or_ge k N with hlt | hge
  · have h1 : ¬ nI N ≤ nI k := nI_ge hlt (by omega)
    obtain ⟨n, rfl⟩ : ∃ m, n = m + 1 := ⟨n - 1, by omega⟩
    have ck : (nI k).toNatClampNeg = k := nI_clamp (by omega)
    have w0 : vp_in (nI k) 13 := vp_in_nI (by omega) (by decide)
    by_cases h2 : mA 8 s k = nI y
    · simp only [h1, ck, w0, h2, false_implies, true_implies, not_true_eq_false, not_false_eq_true, true_and, and_true, implies_true, eq_self, ne_eq, true_or, or_true, false_or, or_false, and_self]
      refine ⟨many + 1, nI y, k, by omega, _, _, rfl, hI, rfl, rfl, fun r h => ⟨fun hf => ?_, fun ht => ?_⟩⟩
      · have e : fhN (nI y) k (n + 1) many s = (false, many + 1, r.2) := by
          rw [fhN_s, if_pos h2]
          unfold fhC
          rw [h, if_neg (by rw [hf]; exact Bool.false_ne_true)]
        exact (hr _ e).1 rfl
      · have hS := fhL_S k ((mA 7 s k - mA 9 s k).toNatClampNeg) s
        have hB := fhL_B (q := k) (by omega) ((mA 7 s k - mA 9 s k).toNatClampNeg) s i1
        rw [h] at hS hB
        rw [nI_1]
        refine hK n _ _ _ (by omega) ⟨k + 1, many + 1, by omega, fhI_of hI hS hB, rfl, rfl, fun r2 h3 => hr r2 ?_⟩
        rw [fhN_s, if_pos h2]
        unfold fhC
        rw [h, if_pos ht]
        exact h3
    · simp only [h1, ck, w0, h2, false_implies, true_implies, not_true_eq_false, not_false_eq_true, true_and, and_true, implies_true, eq_self, ne_eq, true_or, or_true, false_or, or_false, and_self]
      rw [nI_1]
      exact hK n _ _ _ (by omega) ⟨k + 1, many, by omega, hI, rfl, rfl, fun r2 h3 => hr r2 (by rw [fhN_s, if_neg h2]; exact h3)⟩
  · have h1 : nI N ≤ nI k := nI_le hge (by omega)
    have h0 : n = 0 := by omega
    subst h0
    simp only [h1, false_implies, true_implies, not_true_eq_false, not_false_eq_true, true_and, and_true, implies_true, eq_self, ne_eq, true_or, or_true, false_or, or_false, and_self]
    exact (hr _ rfl).2 rfl
def I_f139 (g : Nat → Nat) (many : Int32) (d q : Nat) (K130 : PT MS) (n : Nat) (L : Lc) (st : List Value) (s : MS) : Prop := ∃ (p : Nat) (m : Int32), n + p = uPeople s ∧ ppB s ∧ nwB s ∧ mA 38 s d = nI q ∧ q < 12 ∧ d < 8 ∧ st = [] ∧ L = [some (.ref (g 30)), some (.int many), some (.int (nI d)), some (.int m), some (.int (nI p))] ∧ K130 [some (.ref (g 30)), some (.int many), some (.int (nI d + -1)), none, none] [] (maA 41 s d (mA 41 s (d + 1) + fhM s q p n m))
theorem fh139 {X : Cx} (B : Bx) (g : Nat → Nat) {Post : Option Value → MS → Prop} (C : OkX X (gx B) cX4_findHands 5 wsX4_findHands RX4 (rmD 2)) (R : RtX X (gx B) (some .boolean) (encM B g) Post) {K130 : PT MS} (hK130 : Snd X (gx B) 5 (encM B g) 130 K130) : Snd X (gx B) 5 (encM B g) 139 (fun L st s => ∃ many, ∃ d, ∃ q, ∃ n, I_f139 g many d q K130 n L st s) := by
  refine Snd.ex (fun many => Snd.ex (fun d => Snd.ex (fun q => snd_loop (fun K => bk_X4_findHands_139 g Post K130 K) (I_f139 g many d q K130) (fun K hK => s_X4_findHands_139 B g C R hK130 hK) ?_)))
  rintro K n L st s ⟨p, m, hn, hp, hw, hq, hq2, hd, rfl, rfl, hr⟩ hK
  simp only [wIload, wAload, wLload, wK, wB, wDv, wU, wLB, wLU, wLS, wL2i, wLcmp, wIf1, wIf2, wKeep, wInc, wIst, wAst, wLst, wDup, wPop, wDup2, wGet, wPut, wPutZ, wIald, wLald, wIast, wLast, wLen, wRetI, wRetZ, wRetL, wRetA, wRetV, wM1, wM2, wCpy, wTab, tabW, nth, stL, stL2, dropL, keepL, mkL, padL, restOK, restOKn, tl_some, tl_none, id_eq, eq_self, true_and, and_true, bk_X4_findHands_0, bk_X4_findHands_12, bk_X4_findHands_101, bk_X4_findHands_20, bk_X4_findHands_59, bk_X4_findHands_220, bk_X4_findHands_130, bk_X4_findHands_180, bk_X4_findHands_139, F_X4_goodOf, cf_RII_e, mS_S, mA_A, mS_A, mA_S, mS_a, mA_a, Nat.reduceEqDiff, reduceIte]
  obtain ⟨e1, e2⟩ := ppB_c hp
  rw [e1]
  have cd : (nI d).toNatClampNeg = d := nI_clamp (by omega)
  have w0 : vp_in (nI d) 8 := vp_in_nI (by omega) (by decide)
  have w1 : vp_in (nI d) 9 := vp_in_nI (by omega) (by decide)
  have w2 : vp_in (nI (d + 1)) 9 := vp_in_nI (by omega) (by decide)
  have cd1 : (nI (d + 1)).toNatClampNeg = d + 1 := nI_clamp (by omega)
  have cq : (nI q).toNatClampNeg = q := nI_clamp (by omega)
  have ed : nI d + 1 = nI (d + 1) := nI_1 d
  rcases Nat.lt_or_ge p (uPeople s) with hlt | hge
  · have h1 : ¬ nI (uPeople s) ≤ nI p := nI_ge hlt (by omega)
    obtain ⟨n, rfl⟩ : ∃ m, n = m + 1 := ⟨n - 1, by omega⟩
    rw [fhM_s] at hr
    have cp : (nI p).toNatClampNeg = p := nI_clamp (by omega)
    have pr : ixB 7 (nI p) ∧ ixB 13 (nI q) ∧ nwB s := ⟨⟨p, by omega, rfl⟩, ⟨q, by omega, rfl⟩, hw⟩
    have hc := hK n _ _ _ (by omega) ⟨p + 1, _, by omega, hp, hw, hq, hq2, hd, rfl, rfl, hr⟩
    rw [← nI_1] at hc
    by_cases h3 : m < uGood s p q
    · have h4 : ¬ uGood s p q ≤ m := Int32.not_le.mpr h3
      rw [if_pos h3] at hc
      simp only [h1, cd, w0, hq, pr, cp, cq, h4, false_implies, true_implies, not_true_eq_false, not_false_eq_true, true_and, and_true, implies_true, eq_self, ne_eq, true_or, or_true, false_or, or_false, and_self]
      exact hc
    · have h4 : uGood s p q ≤ m := Int32.not_lt.mp h3
      rw [if_neg h3] at hc
      simp only [h1, cd, w0, hq, pr, cp, cq, h4, false_implies, true_implies, not_true_eq_false, not_false_eq_true, true_and, and_true, implies_true, eq_self, ne_eq, true_or, or_true, false_or, or_false, and_self]
      exact hc
  · have h1 : nI (uPeople s) ≤ nI p := nI_le hge (by omega)
    have h0 : n = 0 := by omega
    subst h0
    have hr : K130 [some (.ref (g 30)), some (.int many), some (.int (nI d + -1)), none, none] [] (maA 41 s d (mA 41 s (d + 1) + m)) := hr
    simp only [h1, cd, w1, ed, w2, cd1, false_implies, true_implies, not_true_eq_false, not_false_eq_true, true_and, and_true, implies_true, eq_self, ne_eq, true_or, or_true, false_or, or_false, and_self]
    exact hr
def I_f130 (g : Nat → Nat) (many : Int32) (fin : Bool × MS) (n : Nat) (L : Lc) (st : List Value) (s : MS) : Prop := n ≤ 8 ∧ ppB s ∧ nwB s ∧ (∀ i, i < n → ixB 12 (mA 38 s i)) ∧ st = [] ∧ L = [some (.ref (g 30)), some (.int many), some (.int (nI n + -1)), none, none] ∧ (decide (many ≤ 8), fhR n s) = fin
theorem dvS (D : Nat) : nI (D + 1) + -1 = nI D := by rw [← Int32.sub_eq_add_neg, nI_pred]
theorem fh130 {X : Cx} (B : Bx) (g : Nat → Nat) (fin : Bool × MS) (C : OkX X (gx B) cX4_findHands 5 wsX4_findHands RX4 (rmD 2)) (R : RtX X (gx B) (some .boolean) (encM B g) (ZPost fin)) : Snd X (gx B) 5 (encM B g) 130 (fun L st s => ∃ many, ∃ n, I_f130 g many fin n L st s) := by
  refine Snd.ex (fun many => snd_loop (fun K => bk_X4_findHands_130 g (ZPost fin) (fun L st s => ∃ many, ∃ d, ∃ q, ∃ n, I_f139 g many d q K n L st s)) (I_f130 g many fin) (fun K hK => s_X4_findHands_130 B g C R (fh139 B g C R hK)) ?_)
  rintro K n L st s ⟨hn, hp, hw, hh, rfl, rfl, hf⟩ hK
  simp only [wIload, wAload, wLload, wK, wB, wDv, wU, wLB, wLU, wLS, wL2i, wLcmp, wIf1, wIf2, wKeep, wInc, wIst, wAst, wLst, wDup, wPop, wDup2, wGet, wPut, wPutZ, wIald, wLald, wIast, wLast, wLen, wRetI, wRetZ, wRetL, wRetA, wRetV, wM1, wM2, wCpy, wTab, tabW, nth, stL, stL2, dropL, keepL, mkL, padL, restOK, restOKn, tl_some, tl_none, id_eq, eq_self, true_and, and_true, bk_X4_findHands_0, bk_X4_findHands_12, bk_X4_findHands_101, bk_X4_findHands_20, bk_X4_findHands_59, bk_X4_findHands_220, bk_X4_findHands_130, bk_X4_findHands_180, bk_X4_findHands_139, F_X4_goodOf, cf_RII_e, mS_S, mA_A, mS_A, mA_S, mS_a, mA_a, Nat.reduceEqDiff, reduceIte, ZPost]
  rcases n with _ | d
  · have h1 : nI 0 + -1 < 0 := by decide
    have hf : (decide (many ≤ 8), s) = fin := hf
    subst hf
    by_cases h2 : many ≤ 8
    · have h3 : ¬ 8 < many := Int32.not_lt.mpr h2
      have e : decide (many ≤ 8) = true := decide_eq_true h2
      rw [e]
      simp only [h1, h3, b2i_t, false_implies, true_implies, not_true_eq_false, not_false_eq_true, true_and, and_true, implies_true, eq_self, ne_eq, true_or, or_true, false_or, or_false, and_self]
      all_goals first | done | exact ⟨Or.inr rfl, rfl⟩ | trivial
    · have h3 : 8 < many := Int32.not_le.mp h2
      have e : decide (many ≤ 8) = false := decide_eq_false h2
      rw [e]
      simp only [h1, h3, b2i_f, false_implies, true_implies, not_true_eq_false, not_false_eq_true, true_and, and_true, implies_true, eq_self, ne_eq, true_or, or_true, false_or, or_false, and_self]
      all_goals first | done | exact ⟨Or.inl rfl, rfl⟩ | trivial
  · rw [dvS]
    have h1 : ¬ nI d < 0 := nI_nn (by omega)
    obtain ⟨q, hq, eq⟩ := hh d (by omega)
    simp only [h1, false_implies, true_implies, not_true_eq_false, not_false_eq_true, true_and, and_true, implies_true, eq_self, ne_eq, true_or, or_true, false_or, or_false, and_self]
    refine ⟨many, d, q, uPeople s, 0, 0, by omega, hp, hw, eq, hq, by omega, rfl, rfl, ?_⟩
    refine hK d _ _ _ (by omega) ⟨by omega, ppB_of hp rfl, nwB_of hw rfl rfl, fun i hi => hh i (by omega), rfl, rfl, ?_⟩
    rw [fhR_s, eq, nI_clamp (by omega)] at hf
    exact hf
def I_f12 (g : Nat → Nat) (N : Nat) (fin : Bool × MS) (n : Nat) (L : Lc) (st : List Value) (s : MS) : Prop := ∃ (many : Int32) (y : Nat), n = 10 - y ∧ y < 2000 ∧ fhI N s ∧ st = [] ∧ L = [some (.ref (g 30)), some (.int many), some (.int (nI y)), none, none] ∧ fhE (fhY y n many s) = fin
theorem k_X4_findHands (B : Bx) (g : Nat → Nat) : MtF (gx B) yX4_findHands wsX4_findHands (rmD 2) (encM B g) (F_X4_findHands g) := by
  refine cf_R_i (fun l M h => ?_)
  obtain ⟨i1, i2, i3, ⟨y0, hy0, ey0⟩, i5⟩ := h
  obtain ⟨eN, hN⟩ := nnB_c i2
  generalize hfin : uFH M = fin
  unfold uFH at hfin
  rw [ey0, nI_clamp (by omega)] at hfin
  generalize uNeeds M = N at eN hN
  have hI0 : fhI N (msS 42 M 0) := ⟨⟨0, by omega, rfl, fun i hi => absurd hi (Nat.not_lt_zero i)⟩, i1, i5, eN, hN, i3⟩
  refine Mt.of (P := bk_X4_findHands_0 g (ZPost fin) (fun L st s => ∃ n, I_f12 g N fin n L st s)) (by decide) rfl (Nat.le_of_ble_eq_true rfl) rfl (fun X C R => s_X4_findHands_0 B g C R (snd_loop (fun K => bk_X4_findHands_12 g (ZPost fin) (fun L st s => ∃ y, ∃ n, I_f20 g N fin y K n L st s) (fun L st s => ∃ many, ∃ n, I_f130 g many fin n L st s)) (I_f12 g N fin) (fun K hK => s_X4_findHands_12 B g C R (fh20 B g N fin C R hK) (fh130 B g fin C R)) ?_)) ?_
  · rintro K n L st s ⟨many, y, hn, hy, hI, rfl, rfl, hf⟩ hK
    simp only [wIload, wAload, wLload, wK, wB, wDv, wU, wLB, wLU, wLS, wL2i, wLcmp, wIf1, wIf2, wKeep, wInc, wIst, wAst, wLst, wDup, wPop, wDup2, wGet, wPut, wPutZ, wIald, wLald, wIast, wLast, wLen, wRetI, wRetZ, wRetL, wRetA, wRetV, wM1, wM2, wCpy, wTab, tabW, nth, stL, stL2, dropL, keepL, mkL, padL, restOK, restOKn, tl_some, tl_none, id_eq, eq_self, true_and, and_true, bk_X4_findHands_0, bk_X4_findHands_12, bk_X4_findHands_101, bk_X4_findHands_20, bk_X4_findHands_59, bk_X4_findHands_220, bk_X4_findHands_130, bk_X4_findHands_180, bk_X4_findHands_139, F_X4_goodOf, cf_RII_e, mS_S, mA_A, mS_A, mA_S, mS_a, mA_a, Nat.reduceEqDiff, reduceIte]
    have eS : uNeeds s = N := by unfold uNeeds; rw [hI.2.2.2.1, nI_clamp (by omega)]
    rcases Nat.lt_or_ge y 10 with hlt | hge
    · have h1 : ¬ (9 : Int32) < nI y := Int32.not_lt.mpr (nI_le (b := 9) (a := y) (by omega) (by decide))
      obtain ⟨n, rfl⟩ : ∃ m, n = m + 1 := ⟨n - 1, by omega⟩
      rw [fhY_s, eS] at hf
      have hS := fhN_S (nI y) N 0 many s
      have hB := fhN_B (nI y) N 0 many s (by omega) hI.1
      simp only [h1, false_implies, true_implies, not_true_eq_false, not_false_eq_true, true_and, and_true, implies_true, eq_self, ne_eq, true_or, or_true, false_or, or_false, and_self]
      refine ⟨y, N, 0, many, Nat.add_zero _, hI, rfl, rfl, fun r hr => ?_⟩
      rw [hr] at hf hS hB
      refine ⟨fun h => ?_, fun h => ?_⟩
      · rw [if_neg (by rw [h]; exact Bool.false_ne_true)] at hf
        unfold fhE at hf
        rw [if_neg (by rw [h]; exact Bool.false_ne_true)] at hf
        exact hf.symm
      · rw [if_pos h] at hf
        rw [nI_1]
        exact hK n _ _ _ (by omega) ⟨r.2.1, y + 1, by omega, by omega, fhI_of hI hS hB, rfl, rfl, hf⟩
    · have h1 : (9 : Int32) < nI y := Int32.not_le.mp (nI_ge (a := 9) (b := y) (by omega) (by omega))
      have h0 : n = 0 := by omega
      subst h0
      obtain ⟨⟨H, hH, eH, hh⟩, j2, j3, j4, j5, j6⟩ := hI
      have hf : fhE (true, many, s) = fin := hf
      unfold fhE at hf
      rw [if_pos rfl] at hf
      dsimp only at hf
      have w0 : vp_in (mS 42 s) 9 := by rw [eH]; exact vp_in_nI (by omega) (by decide)
      simp only [h1, w0, false_implies, true_implies, not_true_eq_false, not_false_eq_true, true_and, and_true, implies_true, eq_self, ne_eq, true_or, or_true, false_or, or_false, and_self]
      rw [eH, nI_clamp (by omega)] at hf ⊢
      exact ⟨many, H, hH, ppB_of j6 rfl, nwB_of j2 rfl rfl, hh, rfl, by rw [← Int32.sub_eq_add_neg], hf⟩
  · simp only [wIload, wAload, wLload, wK, wB, wDv, wU, wLB, wLU, wLS, wL2i, wLcmp, wIf1, wIf2, wKeep, wInc, wIst, wAst, wLst, wDup, wPop, wDup2, wGet, wPut, wPutZ, wIald, wLald, wIast, wLast, wLen, wRetI, wRetZ, wRetL, wRetA, wRetV, wM1, wM2, wCpy, wTab, tabW, nth, stL, stL2, dropL, keepL, mkL, padL, restOK, restOKn, tl_some, tl_none, id_eq, eq_self, true_and, and_true, bk_X4_findHands_0, bk_X4_findHands_12, bk_X4_findHands_101, bk_X4_findHands_20, bk_X4_findHands_59, bk_X4_findHands_220, bk_X4_findHands_130, bk_X4_findHands_180, bk_X4_findHands_139, F_X4_goodOf, cf_RII_e, mS_S, mA_A, mS_A, mA_S, mS_a, mA_a, Nat.reduceEqDiff, reduceIte]
    exact ⟨_, 0, y0, rfl, by omega, hI0, rfl, by rw [ey0], hfin⟩
end
