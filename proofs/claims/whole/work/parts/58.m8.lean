noncomputable section
theorem uBack_S (i : Nat) (M : MS) : mS i (uBack M) = if i = 17 then mS 17 M - 1 else mS i M := by
  unfold uBack
  split <;> rfl
theorem uBack_A (i : Nat) (hi : ¬ i = 9) (M : MS) : mA i (uBack M) = mA i M := by
  unfold uBack
  split
  · rfl
  · rw [mA_a, if_neg hi]; rfl
/-- best, sum, how deep and one more, the model -/
abbrev FC : Type := Int32 × Int32 × Nat × MS
def uF3 (b s : Int32) (d : Nat) (M : MS) : FC := if b < s + mA 41 M (d + 1) then (b, s, d + 2, if nI (d + 1) < mS 42 M then maA 39 M (d + 1) (-1) else M) else (b, s, d + 1, M)
/-- one more who helps: good comes, the book is written -/
def uF4 (M : MS) (d q c : Nat) : MS := uW (maA 40 M d (uGood M c q)) (nI c) (mA 4 M q) (mA 6 M q) (nI q)
def uF2 (b s : Int32) (d q : Nat) (M : MS) (c : Nat) : FC :=
  if uPeople M < c then (b, s, d, maA 39 M d (nI c)) else if c = uPeople M then uF3 b s d (maA 39 M d (nI c)) else uF3 b (s + uGood (maA 39 M d (nI c)) c q) d (uF4 (maA 39 M d (nI c)) d q c)
/-- the next one from c on who is so, or the end -/
def scn (ok : Nat → Bool) : Nat → Nat → Nat
  | 0, c => c
  | k + 1, c => if ok c = true then c else scn ok k (c + 1)
theorem scn_s (ok : Nat → Bool) (k c : Nat) : scn ok (k + 1) c = if ok c = true then c else scn ok k (c + 1) := rfl
/-- the town of the next try at d: what was tried is taken back -/
def isReal (M : MS) (d : Nat) : Bool := decide (¬ mA 39 M d < 0 ∧ mA 39 M d < mS 15 M)
def uF1 (M : MS) (d : Nat) : MS := if isReal M d = true then uBack M else M
def uFq (M : MS) (d : Nat) : Nat := (mA 38 M d).toNatClampNeg
def uFy (M : MS) (d : Nat) : MS := msS 22 (uF1 M d) (mA 8 M (uFq M d))
def uFc (M : MS) (d : Nat) : Nat := (mA 39 M d + 1).toNatClampNeg
def uFo (M : MS) (q c : Nat) : Bool := uMayW M (nI c) (nI q)
def uFsum (s : Int32) (M : MS) (d : Nat) : Int32 := if isReal M d = true then s - mA 40 M d else s
def uFp (M : MS) : Int32 := if mS 42 M ≤ 0 then -9 else if mS 15 M ≤ mA 39 M 0 then -9 else mA 39 M 0
/-- one turn of the search at d -/
def uFs (b s : Int32) (d : Nat) (M : MS) : FC :=
  if nI d = mS 42 M then (if s ≤ b then (b, s, d, M) else (s, s, d, msS 43 M (uFp M)))
  else uF2 b (uFsum s M d) d (uFq M d) (uFy M d) (scn (uFo (uFy M d) (uFq M d)) (uPeople M - uFc M d) (uFc M d))
def bkB (M : MS) : Prop := ixB 400 (mS 17 M - 1) ∧ (mA 14 M (mS 17 M - 1).toNatClampNeg < 0 ∨ ixB 13 (mA 14 M (mS 17 M - 1).toNatClampNeg))
/-- what a turn at d needs -/
def fmOK (d : Nat) (M : MS) : Prop := ∃ N P, N ≤ 8 ∧ P ≤ 7 ∧ mS 42 M = nI N ∧ mS 15 M = nI P ∧ d ≤ N ∧ (d < N → ixB 12 (mA 38 M d) ∧ (∃ pk, pk ≤ P + 1 ∧ mA 39 M d = nI pk + -1) ∧ (isReal M d = true → bkB M) ∧ mOK 399 (uF1 M d))
/-- so many turns -/
def fsR : Nat → FC → FC → Prop
  | 0, x, y => x = y
  | n + 1, x, y => ∃ b s d M, x = (b, s, d + 1, M) ∧ fmOK d M ∧ fsR n (uFs b s d M) y
theorem fsR_add : ∀ (n m : Nat) (x y z : FC), fsR n x y → fsR m y z → fsR (n + m) x z := by
  intro n
  induction n with
  | zero =>
    intro m x y z h1 h2
    have h1 : x = y := h1
    subst h1
    rw [Nat.zero_add]
    exact h2
  | succ n ih =>
    intro m x y z h1 h2
    obtain ⟨b, s, d, M, e, ho, hr⟩ := h1
    rw [Nat.succ_add]
    exact ⟨b, s, d, M, e, ho, ih m _ y z hr h2⟩
def uFst (M : MS) : FC := (-1, 0, 1, if mS 42 M ≤ 0 then msS 43 M (-9) else maA 39 (msS 43 M (-9)) 0 (-1))
def fmEnds (M : MS) (z : FC) : Prop := z.2.2.1 = 0 ∧ ∃ n, fsR n (uFst M) z
def fmPre (M : MS) : Prop := (∃ N, N ≤ 8 ∧ mS 42 M = nI N) ∧ ∃ z, fmEnds M z
noncomputable def uFMz (M : MS) : FC := Classical.epsilon (fmEnds M)
theorem uFMz_e {M : MS} (h : ∃ z, fmEnds M z) : fmEnds M (uFMz M) := Classical.epsilon_spec h
noncomputable def uFM (M : MS) : Int32 × MS := ((uFMz M).1, msS 22 (uFMz M).2.2.2 (mS 22 M))
def F_X4_findMost (g : Nat → Nat) : CF MS := cf_R (g 30) (fun M => fmPre M) (fun M => some (.int (uFM M).1)) (fun M => (uFM M).2)
theorem inw_X4_findMost_X4 : ∀ w ∈ u_ws RX4 TX4 45, w ∈ wsX4_findMost := by decide +kernel
def bk_X4_findMost_0 (g : Nat → Nat) (Post : Option Value → MS → Prop) (K32 : PT MS) (L : Lc) (st : List Value) (s : MS) : Prop :=
  (wAload 0 <| wGet (g 30) (fun s => .int (mS 22 s)) <| wIst 1 <| wK (.int (-1)) <| wIst 2 <| wK (.int 0) <| wIst 3 <| wK (.int 0) <| wIst 4 <| wAload 0 <| wK (.int (-9)) <| wPut (g 30) (msS 43) <| wAload 0 <| wGet (g 30) (fun s => .int (mS 42 s)) <| wIf1 (fun x => x ≤ 0) (wKeep [true, true, true, true, true, false, false] K32) (wAload 0 <| wGet (g 30) (fun _ => .ref (g 70)) <| wK (.int 0) <| wK (.int (-1)) <| wIast (g 70) 8 (maA 39) <| wKeep [true, true, true, true, true, false, false] K32)) L st s
set_option maxRecDepth 20000 in
theorem s_X4_findMost_0 {X : Cx} (B : Bx) (g : Nat → Nat) {Post : Option Value → MS → Prop} (C : OkX X (gx B) cX4_findMost 7 wsX4_findMost RX4 (rmD 4)) (R : RtX X (gx B) (some .int) (encM B g) Post) {K32 : PT MS} (hK32 : Snd X (gx B) 7 (encM B g) 32 K32) : Snd X (gx B) 7 (encM B g) 0 (bk_X4_findMost_0 g Post K32) := by
  unfold bk_X4_findMost_0
  refine s_aload_n C rfl dX4_findMost_0 ?_
  refine s_get C inw_X4_findMost_X4 rfl (k := 22) (by decide) (by decide +kernel) (heM_0 B g) (fun _ => rfl) dX4_findMost_1 ?_
  refine s_istore_n C rfl (by decide) dX4_findMost_4 ?_
  refine s_iconst C (by decide) dX4_findMost_5 ?_
  refine s_istore_n C rfl (by decide) dX4_findMost_6 ?_
  refine s_iconst C (by decide) dX4_findMost_7 ?_
  refine s_istore_n C rfl (by decide) dX4_findMost_8 ?_
  refine s_iconst C (by decide) dX4_findMost_9 ?_
  refine s_istore C (by decide) dX4_findMost_10 ?_
  refine s_aload_n C rfl dX4_findMost_12 ?_
  refine s_bipush C (by decide) dX4_findMost_13 ?_
  refine s_put C inw_X4_findMost_X4 rfl (k := 43) (by decide) (by decide +kernel) tyX4_ok nmX4 (by decide +kernel) (by decide +kernel) (heM_0 B g) (fun _ => Nat.le_of_ble_eq_true rfl) (fun _ _ => rfl) dX4_findMost_15 ?_
  refine s_aload_n C rfl dX4_findMost_18 ?_
  refine s_get C inw_X4_findMost_X4 rfl (k := 42) (by decide) (by decide +kernel) (heM_0 B g) (fun _ => rfl) dX4_findMost_19 ?_
  refine s_if_le C (tgt := 32) (by decide) dX4_findMost_22 ?_ ?_
  · exact s_keep _ hK32
  · refine s_aload_n C rfl dX4_findMost_25 ?_
    refine s_get C inw_X4_findMost_X4 rfl (k := 39) (by decide) (by decide +kernel) (heM_0 B g) (fun _ => rfl) dX4_findMost_26 ?_
    refine s_iconst C (by decide) dX4_findMost_29 ?_
    refine s_iconst C (by decide) dX4_findMost_30 ?_
    refine s_iast C (heM_23 B g) (fun _ _ _ => rfl) dX4_findMost_31 ?_
    exact s_keep _ hK32
def bk_X4_findMost_88 (g : Nat → Nat) (Post : Option Value → MS → Prop) (K32 : PT MS) (L : Lc) (st : List Value) (s : MS) : Prop :=
  (wInc 4 (-1) <| wKeep [true, true, true, true, true, false, false] K32) L st s
set_option maxRecDepth 20000 in
theorem s_X4_findMost_88 {X : Cx} (B : Bx) (g : Nat → Nat) {Post : Option Value → MS → Prop} (C : OkX X (gx B) cX4_findMost 7 wsX4_findMost RX4 (rmD 4)) (R : RtX X (gx B) (some .int) (encM B g) Post) {K32 : PT MS} (hK32 : Snd X (gx B) 7 (encM B g) 32 K32) : Snd X (gx B) 7 (encM B g) 88 (bk_X4_findMost_88 g Post K32) := by
  unfold bk_X4_findMost_88
  refine s_iinc C (by decide) (by decide) dX4_findMost_88 ?_
  refine s_goto C (tgt := 32) (by decide) dX4_findMost_91 ?_
  exact s_keep _ hK32
def bk_X4_findMost_85 (g : Nat → Nat) (Post : Option Value → MS → Prop) (K32 : PT MS) (L : Lc) (st : List Value) (s : MS) : Prop :=
  (wPut (g 30) (msS 43) <| bk_X4_findMost_88 g Post K32) L st s
set_option maxRecDepth 20000 in
theorem s_X4_findMost_85 {X : Cx} (B : Bx) (g : Nat → Nat) {Post : Option Value → MS → Prop} (C : OkX X (gx B) cX4_findMost 7 wsX4_findMost RX4 (rmD 4)) (R : RtX X (gx B) (some .int) (encM B g) Post) {K32 : PT MS} (hK32 : Snd X (gx B) 7 (encM B g) 32 K32) : Snd X (gx B) 7 (encM B g) 85 (bk_X4_findMost_85 g Post K32) := by
  unfold bk_X4_findMost_85
  refine s_put C inw_X4_findMost_X4 rfl (k := 43) (by decide) (by decide +kernel) tyX4_ok nmX4 (by decide +kernel) (by decide +kernel) (heM_0 B g) (fun _ => Nat.le_of_ble_eq_true rfl) (fun _ _ => rfl) dX4_findMost_85 ?_
  exact s_X4_findMost_88 B g C R hK32
def bk_X4_findMost_83 (g : Nat → Nat) (Post : Option Value → MS → Prop) (K32 : PT MS) (L : Lc) (st : List Value) (s : MS) : Prop :=
  (wK (.int (-9)) <| bk_X4_findMost_85 g Post K32) L st s
set_option maxRecDepth 20000 in
theorem s_X4_findMost_83 {X : Cx} (B : Bx) (g : Nat → Nat) {Post : Option Value → MS → Prop} (C : OkX X (gx B) cX4_findMost 7 wsX4_findMost RX4 (rmD 4)) (R : RtX X (gx B) (some .int) (encM B g) Post) {K32 : PT MS} (hK32 : Snd X (gx B) 7 (encM B g) 32 K32) : Snd X (gx B) 7 (encM B g) 83 (bk_X4_findMost_83 g Post K32) := by
  unfold bk_X4_findMost_83
  refine s_bipush C (by decide) dX4_findMost_83 ?_
  exact s_X4_findMost_85 B g C R hK32
def bk_X4_findMost_132 (g : Nat → Nat) (Post : Option Value → MS → Prop) (K163 : PT MS) (L : Lc) (st : List Value) (s : MS) : Prop :=
  (wAload 0 <| wGet (g 30) (fun _ => .ref (g 69)) <| wIload 4 <| wIald (g 69) 8 (mA 38) <| wIst 5 <| wAload 0 <| wAload 0 <| wGet (g 30) (fun _ => .ref (g 39)) <| wIload 5 <| wIald (g 39) 13 (mA 8) <| wPut (g 30) (msS 22) <| wAload 0 <| wGet (g 30) (fun _ => .ref (g 70)) <| wIload 4 <| wIald (g 70) 8 (mA 39) <| wK (.int 1) <| wB (fun x y => x + y) <| wIst 6 <| wKeep [true, true, true, true, true, true, true] K163) L st s
set_option maxRecDepth 20000 in
theorem s_X4_findMost_132 {X : Cx} (B : Bx) (g : Nat → Nat) {Post : Option Value → MS → Prop} (C : OkX X (gx B) cX4_findMost 7 wsX4_findMost RX4 (rmD 4)) (R : RtX X (gx B) (some .int) (encM B g) Post) {K163 : PT MS} (hK163 : Snd X (gx B) 7 (encM B g) 163 K163) : Snd X (gx B) 7 (encM B g) 132 (bk_X4_findMost_132 g Post K163) := by
  unfold bk_X4_findMost_132
  refine s_aload_n C rfl dX4_findMost_132 ?_
  refine s_get C inw_X4_findMost_X4 rfl (k := 38) (by decide) (by decide +kernel) (heM_0 B g) (fun _ => rfl) dX4_findMost_133 ?_
  refine s_iload C dX4_findMost_136 ?_
  refine s_iald C (heM_22 B g) dX4_findMost_138 ?_
  refine s_istore C (by decide) dX4_findMost_139 ?_
  refine s_aload_n C rfl dX4_findMost_141 ?_
  refine s_aload_n C rfl dX4_findMost_142 ?_
  refine s_get C inw_X4_findMost_X4 rfl (k := 8) (by decide) (by decide +kernel) (heM_0 B g) (fun _ => rfl) dX4_findMost_143 ?_
  refine s_iload C dX4_findMost_146 ?_
  refine s_iald C (heM_9 B g) dX4_findMost_148 ?_
  refine s_put C inw_X4_findMost_X4 rfl (k := 22) (by decide) (by decide +kernel) tyX4_ok nmX4 (by decide +kernel) (by decide +kernel) (heM_0 B g) (fun _ => Nat.le_of_ble_eq_true rfl) (fun _ _ => rfl) dX4_findMost_149 ?_
  refine s_aload_n C rfl dX4_findMost_152 ?_
  refine s_get C inw_X4_findMost_X4 rfl (k := 39) (by decide) (by decide +kernel) (heM_0 B g) (fun _ => rfl) dX4_findMost_153 ?_
  refine s_iload C dX4_findMost_156 ?_
  refine s_iald C (heM_23 B g) dX4_findMost_158 ?_
  refine s_iconst C (by decide) dX4_findMost_159 ?_
  refine s_iadd C dX4_findMost_160 ?_
  refine s_istore C (by decide) dX4_findMost_161 ?_
  exact s_keep _ hK163
def bk_X4_findMost_32 (g : Nat → Nat) (Post : Option Value → MS → Prop) (K32 : PT MS) (K163 : PT MS) (L : Lc) (st : List Value) (s : MS) : Prop :=
  (wIload 4 <| wIf1 (fun x => x < 0) (wAload 0 <| wIload 1 <| wPut (g 30) (msS 22) <| wIload 2 <| wRetI Post) (wIload 4 <| wAload 0 <| wGet (g 30) (fun s => .int (mS 42 s)) <| wIf2 (fun x y => x = y) (wIload 3 <| wIload 2 <| wIf2 (fun x y => x ≤ y) (bk_X4_findMost_88 g Post K32) (wIload 3 <| wIst 2 <| wAload 0 <| wAload 0 <| wGet (g 30) (fun s => .int (mS 42 s)) <| wIf1 (fun x => x ≤ 0) (bk_X4_findMost_83 g Post K32) (wAload 0 <| wGet (g 30) (fun _ => .ref (g 70)) <| wK (.int 0) <| wIald (g 70) 8 (mA 39) <| wAload 0 <| wGet (g 30) (fun s => .int (mS 15 s)) <| wIf2 (fun x y => y ≤ x) (bk_X4_findMost_83 g Post K32) (wAload 0 <| wGet (g 30) (fun _ => .ref (g 70)) <| wK (.int 0) <| wIald (g 70) 8 (mA 39) <| bk_X4_findMost_85 g Post K32)))) (wAload 0 <| wGet (g 30) (fun _ => .ref (g 70)) <| wIload 4 <| wIald (g 70) 8 (mA 39) <| wIf1 (fun x => x < 0) (bk_X4_findMost_132 g Post K163) (wAload 0 <| wGet (g 30) (fun _ => .ref (g 70)) <| wIload 4 <| wIald (g 70) 8 (mA 39) <| wAload 0 <| wGet (g 30) (fun s => .int (mS 15 s)) <| wIf2 (fun x y => y ≤ x) (bk_X4_findMost_132 g Post K163) (wAload 0 <| wCallR 1 (F_X4_takesBack g) id (fun _ u => u) <| wIload 3 <| wAload 0 <| wGet (g 30) (fun _ => .ref (g 71)) <| wIload 4 <| wIald (g 71) 8 (mA 40) <| wB (fun x y => x - y) <| wIst 3 <| bk_X4_findMost_132 g Post K163))))) L st s
set_option maxRecDepth 20000 in
theorem s_X4_findMost_32 {X : Cx} (B : Bx) (g : Nat → Nat) {Post : Option Value → MS → Prop} (C : OkX X (gx B) cX4_findMost 7 wsX4_findMost RX4 (rmD 4)) (R : RtX X (gx B) (some .int) (encM B g) Post) {K32 : PT MS} (hK32 : Snd X (gx B) 7 (encM B g) 32 K32) {K163 : PT MS} (hK163 : Snd X (gx B) 7 (encM B g) 163 K163) : Snd X (gx B) 7 (encM B g) 32 (bk_X4_findMost_32 g Post K32 K163) := by
  unfold bk_X4_findMost_32
  refine s_iload C dX4_findMost_32 ?_
  refine s_if_lt C (tgt := 310) (by decide) dX4_findMost_34 ?_ ?_
  · refine s_aload_n C rfl dX4_findMost_310 ?_
    refine s_iload_n C rfl dX4_findMost_311 ?_
    refine s_put C inw_X4_findMost_X4 rfl (k := 22) (by decide) (by decide +kernel) tyX4_ok nmX4 (by decide +kernel) (by decide +kernel) (heM_0 B g) (fun _ => Nat.le_of_ble_eq_true rfl) (fun _ _ => rfl) dX4_findMost_312 ?_
    refine s_iload_n C rfl dX4_findMost_315 ?_
    exact s_iret C R dX4_findMost_316
  · refine s_iload C dX4_findMost_37 ?_
    refine s_aload_n C rfl dX4_findMost_39 ?_
    refine s_get C inw_X4_findMost_X4 rfl (k := 42) (by decide) (by decide +kernel) (heM_0 B g) (fun _ => rfl) dX4_findMost_40 ?_
    refine s_icmp_ne C (tgt := 94) (by decide) dX4_findMost_43 ?_ ?_
    · refine s_aload_n C rfl dX4_findMost_94 ?_
      refine s_get C inw_X4_findMost_X4 rfl (k := 39) (by decide) (by decide +kernel) (heM_0 B g) (fun _ => rfl) dX4_findMost_95 ?_
      refine s_iload C dX4_findMost_98 ?_
      refine s_iald C (heM_23 B g) dX4_findMost_100 ?_
      refine s_if_lt C (tgt := 132) (by decide) dX4_findMost_101 ?_ ?_
      · exact s_X4_findMost_132 B g C R hK163
      · refine s_aload_n C rfl dX4_findMost_104 ?_
        refine s_get C inw_X4_findMost_X4 rfl (k := 39) (by decide) (by decide +kernel) (heM_0 B g) (fun _ => rfl) dX4_findMost_105 ?_
        refine s_iload C dX4_findMost_108 ?_
        refine s_iald C (heM_23 B g) dX4_findMost_110 ?_
        refine s_aload_n C rfl dX4_findMost_111 ?_
        refine s_get C inw_X4_findMost_X4 rfl (k := 15) (by decide) (by decide +kernel) (heM_0 B g) (fun _ => rfl) dX4_findMost_112 ?_
        refine s_icmp_ge C (tgt := 132) (by decide) dX4_findMost_115 ?_ ?_
        · exact s_X4_findMost_132 B g C R hK163
        · refine s_aload_n C rfl dX4_findMost_118 ?_
          refine s_callV C (fr_M_M B g) (k_X4_takesBack B g) gX4_findMost_X4_takesBack rfl (by decide +kernel) ⟨rfl, rfl⟩ (by decide) rfl (fun s => ⟨_, heM_0 B g s⟩) (cf_R_r _ _ _ _) dX4_findMost_119 ?_
          refine s_iload_n C rfl dX4_findMost_122 ?_
          refine s_aload_n C rfl dX4_findMost_123 ?_
          refine s_get C inw_X4_findMost_X4 rfl (k := 40) (by decide) (by decide +kernel) (heM_0 B g) (fun _ => rfl) dX4_findMost_124 ?_
          refine s_iload C dX4_findMost_127 ?_
          refine s_iald C (heM_24 B g) dX4_findMost_129 ?_
          refine s_isub C dX4_findMost_130 ?_
          refine s_istore_n C rfl (by decide) dX4_findMost_131 ?_
          exact s_X4_findMost_132 B g C R hK163
    · refine s_iload_n C rfl dX4_findMost_46 ?_
      refine s_iload_n C rfl dX4_findMost_47 ?_
      refine s_icmp_le C (tgt := 88) (by decide) dX4_findMost_48 ?_ ?_
      · exact s_X4_findMost_88 B g C R hK32
      · refine s_iload_n C rfl dX4_findMost_51 ?_
        refine s_istore_n C rfl (by decide) dX4_findMost_52 ?_
        refine s_aload_n C rfl dX4_findMost_53 ?_
        refine s_aload_n C rfl dX4_findMost_54 ?_
        refine s_get C inw_X4_findMost_X4 rfl (k := 42) (by decide) (by decide +kernel) (heM_0 B g) (fun _ => rfl) dX4_findMost_55 ?_
        refine s_if_le C (tgt := 83) (by decide) dX4_findMost_58 ?_ ?_
        · exact s_X4_findMost_83 B g C R hK32
        · refine s_aload_n C rfl dX4_findMost_61 ?_
          refine s_get C inw_X4_findMost_X4 rfl (k := 39) (by decide) (by decide +kernel) (heM_0 B g) (fun _ => rfl) dX4_findMost_62 ?_
          refine s_iconst C (by decide) dX4_findMost_65 ?_
          refine s_iald C (heM_23 B g) dX4_findMost_66 ?_
          refine s_aload_n C rfl dX4_findMost_67 ?_
          refine s_get C inw_X4_findMost_X4 rfl (k := 15) (by decide) (by decide +kernel) (heM_0 B g) (fun _ => rfl) dX4_findMost_68 ?_
          refine s_icmp_ge C (tgt := 83) (by decide) dX4_findMost_71 ?_ ?_
          · exact s_X4_findMost_83 B g C R hK32
          · refine s_aload_n C rfl dX4_findMost_74 ?_
            refine s_get C inw_X4_findMost_X4 rfl (k := 39) (by decide) (by decide +kernel) (heM_0 B g) (fun _ => rfl) dX4_findMost_75 ?_
            refine s_iconst C (by decide) dX4_findMost_78 ?_
            refine s_iald C (heM_23 B g) dX4_findMost_79 ?_
            refine s_goto C (tgt := 85) (by decide) dX4_findMost_80 ?_
            exact s_X4_findMost_85 B g C R hK32
def bk_X4_findMost_307 (g : Nat → Nat) (Post : Option Value → MS → Prop) (K32 : PT MS) (L : Lc) (st : List Value) (s : MS) : Prop :=
  (wKeep [true, true, true, true, true, false, false] K32) L st s
set_option maxRecDepth 20000 in
theorem s_X4_findMost_307 {X : Cx} (B : Bx) (g : Nat → Nat) {Post : Option Value → MS → Prop} (C : OkX X (gx B) cX4_findMost 7 wsX4_findMost RX4 (rmD 4)) (R : RtX X (gx B) (some .int) (encM B g) Post) {K32 : PT MS} (hK32 : Snd X (gx B) 7 (encM B g) 32 K32) : Snd X (gx B) 7 (encM B g) 307 (bk_X4_findMost_307 g Post K32) := by
  unfold bk_X4_findMost_307
  refine s_goto C (tgt := 32) (by decide) dX4_findMost_307 ?_
  exact s_keep _ hK32
def bk_X4_findMost_269 (g : Nat → Nat) (Post : Option Value → MS → Prop) (K32 : PT MS) (L : Lc) (st : List Value) (s : MS) : Prop :=
  (wIload 3 <| wAload 0 <| wGet (g 30) (fun _ => .ref (g 72)) <| wIload 4 <| wK (.int 1) <| wB (fun x y => x + y) <| wIald (g 72) 9 (mA 41) <| wB (fun x y => x + y) <| wIload 2 <| wIf2 (fun x y => y < x) (wInc 4 1 <| wIload 4 <| wAload 0 <| wGet (g 30) (fun s => .int (mS 42 s)) <| wIf2 (fun x y => y ≤ x) (bk_X4_findMost_307 g Post K32) (wAload 0 <| wGet (g 30) (fun _ => .ref (g 70)) <| wIload 4 <| wK (.int (-1)) <| wIast (g 70) 8 (maA 39) <| bk_X4_findMost_307 g Post K32)) (wKeep [true, true, true, true, true, false, false] K32)) L st s
set_option maxRecDepth 20000 in
theorem s_X4_findMost_269 {X : Cx} (B : Bx) (g : Nat → Nat) {Post : Option Value → MS → Prop} (C : OkX X (gx B) cX4_findMost 7 wsX4_findMost RX4 (rmD 4)) (R : RtX X (gx B) (some .int) (encM B g) Post) {K32 : PT MS} (hK32 : Snd X (gx B) 7 (encM B g) 32 K32) : Snd X (gx B) 7 (encM B g) 269 (bk_X4_findMost_269 g Post K32) := by
  unfold bk_X4_findMost_269
  refine s_iload_n C rfl dX4_findMost_269 ?_
  refine s_aload_n C rfl dX4_findMost_270 ?_
  refine s_get C inw_X4_findMost_X4 rfl (k := 41) (by decide) (by decide +kernel) (heM_0 B g) (fun _ => rfl) dX4_findMost_271 ?_
  refine s_iload C dX4_findMost_274 ?_
  refine s_iconst C (by decide) dX4_findMost_276 ?_
  refine s_iadd C dX4_findMost_277 ?_
  refine s_iald C (heM_25 B g) dX4_findMost_278 ?_
  refine s_iadd C dX4_findMost_279 ?_
  refine s_iload_n C rfl dX4_findMost_280 ?_
  refine s_icmp_gt C (tgt := 287) (by decide) dX4_findMost_281 ?_ ?_
  · refine s_iinc C (by decide) (by decide) dX4_findMost_287 ?_
    refine s_iload C dX4_findMost_290 ?_
    refine s_aload_n C rfl dX4_findMost_292 ?_
    refine s_get C inw_X4_findMost_X4 rfl (k := 42) (by decide) (by decide +kernel) (heM_0 B g) (fun _ => rfl) dX4_findMost_293 ?_
    refine s_icmp_ge C (tgt := 307) (by decide) dX4_findMost_296 ?_ ?_
    · exact s_X4_findMost_307 B g C R hK32
    · refine s_aload_n C rfl dX4_findMost_299 ?_
      refine s_get C inw_X4_findMost_X4 rfl (k := 39) (by decide) (by decide +kernel) (heM_0 B g) (fun _ => rfl) dX4_findMost_300 ?_
      refine s_iload C dX4_findMost_303 ?_
      refine s_iconst C (by decide) dX4_findMost_305 ?_
      refine s_iast C (heM_23 B g) (fun _ _ _ => rfl) dX4_findMost_306 ?_
      exact s_X4_findMost_307 B g C R hK32
  · refine s_goto C (tgt := 32) (by decide) dX4_findMost_284 ?_
    exact s_keep _ hK32
def bk_X4_findMost_189 (g : Nat → Nat) (Post : Option Value → MS → Prop) (K32 : PT MS) (L : Lc) (st : List Value) (s : MS) : Prop :=
  (wAload 0 <| wGet (g 30) (fun _ => .ref (g 70)) <| wIload 4 <| wIload 6 <| wIast (g 70) 8 (maA 39) <| wIload 6 <| wAload 0 <| wGet (g 30) (fun s => .int (mS 15 s)) <| wIf2 (fun x y => x ≤ y) (wIload 6 <| wAload 0 <| wGet (g 30) (fun s => .int (mS 15 s)) <| wIf2 (fun x y => y ≤ x) (bk_X4_findMost_269 g Post K32) (wAload 0 <| wGet (g 30) (fun _ => .ref (g 71)) <| wIload 4 <| wAload 0 <| wIload 6 <| wIload 5 <| wCallR 3 (F_X4_goodOf g) id (fun _ u => u) <| wIast (g 71) 8 (maA 40) <| wIload 3 <| wAload 0 <| wGet (g 30) (fun _ => .ref (g 71)) <| wIload 4 <| wIald (g 71) 8 (mA 40) <| wB (fun x y => x + y) <| wIst 3 <| wAload 0 <| wIload 6 <| wAload 0 <| wGet (g 30) (fun _ => .ref (g 35)) <| wIload 5 <| wIald (g 35) 13 (mA 4) <| wAload 0 <| wGet (g 30) (fun _ => .ref (g 37)) <| wIload 5 <| wIald (g 37) 13 (mA 6) <| wIload 5 <| wCallR 5 (F_X4_writes g) id (fun _ u => u) <| bk_X4_findMost_269 g Post K32)) (wInc 4 (-1) <| wKeep [true, true, true, true, true, false, false] K32)) L st s
set_option maxRecDepth 20000 in
theorem s_X4_findMost_189 {X : Cx} (B : Bx) (g : Nat → Nat) {Post : Option Value → MS → Prop} (C : OkX X (gx B) cX4_findMost 7 wsX4_findMost RX4 (rmD 4)) (R : RtX X (gx B) (some .int) (encM B g) Post) {K32 : PT MS} (hK32 : Snd X (gx B) 7 (encM B g) 32 K32) : Snd X (gx B) 7 (encM B g) 189 (bk_X4_findMost_189 g Post K32) := by
  unfold bk_X4_findMost_189
  refine s_aload_n C rfl dX4_findMost_189 ?_
  refine s_get C inw_X4_findMost_X4 rfl (k := 39) (by decide) (by decide +kernel) (heM_0 B g) (fun _ => rfl) dX4_findMost_190 ?_
  refine s_iload C dX4_findMost_193 ?_
  refine s_iload C dX4_findMost_195 ?_
  refine s_iast C (heM_23 B g) (fun _ _ _ => rfl) dX4_findMost_197 ?_
  refine s_iload C dX4_findMost_198 ?_
  refine s_aload_n C rfl dX4_findMost_200 ?_
  refine s_get C inw_X4_findMost_X4 rfl (k := 15) (by decide) (by decide +kernel) (heM_0 B g) (fun _ => rfl) dX4_findMost_201 ?_
  refine s_icmp_le C (tgt := 213) (by decide) dX4_findMost_204 ?_ ?_
  · refine s_iload C dX4_findMost_213 ?_
    refine s_aload_n C rfl dX4_findMost_215 ?_
    refine s_get C inw_X4_findMost_X4 rfl (k := 15) (by decide) (by decide +kernel) (heM_0 B g) (fun _ => rfl) dX4_findMost_216 ?_
    refine s_icmp_ge C (tgt := 269) (by decide) dX4_findMost_219 ?_ ?_
    · exact s_X4_findMost_269 B g C R hK32
    · refine s_aload_n C rfl dX4_findMost_222 ?_
      refine s_get C inw_X4_findMost_X4 rfl (k := 40) (by decide) (by decide +kernel) (heM_0 B g) (fun _ => rfl) dX4_findMost_223 ?_
      refine s_iload C dX4_findMost_226 ?_
      refine s_aload_n C rfl dX4_findMost_228 ?_
      refine s_iload C dX4_findMost_229 ?_
      refine s_iload C dX4_findMost_231 ?_
      refine s_callV C (fr_M_M B g) (k_X4_goodOf B g) gX4_findMost_X4_goodOf rfl (by decide +kernel) ⟨rfl, rfl⟩ (by decide) rfl (fun s => ⟨_, heM_0 B g s⟩) (cf_RII_r _ _ _ _) dX4_findMost_233 ?_
      refine s_iast C (heM_24 B g) (fun _ _ _ => rfl) dX4_findMost_236 ?_
      refine s_iload_n C rfl dX4_findMost_237 ?_
      refine s_aload_n C rfl dX4_findMost_238 ?_
      refine s_get C inw_X4_findMost_X4 rfl (k := 40) (by decide) (by decide +kernel) (heM_0 B g) (fun _ => rfl) dX4_findMost_239 ?_
      refine s_iload C dX4_findMost_242 ?_
      refine s_iald C (heM_24 B g) dX4_findMost_244 ?_
      refine s_iadd C dX4_findMost_245 ?_
      refine s_istore_n C rfl (by decide) dX4_findMost_246 ?_
      refine s_aload_n C rfl dX4_findMost_247 ?_
      refine s_iload C dX4_findMost_248 ?_
      refine s_aload_n C rfl dX4_findMost_250 ?_
      refine s_get C inw_X4_findMost_X4 rfl (k := 4) (by decide) (by decide +kernel) (heM_0 B g) (fun _ => rfl) dX4_findMost_251 ?_
      refine s_iload C dX4_findMost_254 ?_
      refine s_iald C (heM_5 B g) dX4_findMost_256 ?_
      refine s_aload_n C rfl dX4_findMost_257 ?_
      refine s_get C inw_X4_findMost_X4 rfl (k := 6) (by decide) (by decide +kernel) (heM_0 B g) (fun _ => rfl) dX4_findMost_258 ?_
      refine s_iload C dX4_findMost_261 ?_
      refine s_iald C (heM_7 B g) dX4_findMost_263 ?_
      refine s_iload C dX4_findMost_264 ?_
      refine s_callV C (fr_M_M B g) (k_X4_writes B g) gX4_findMost_X4_writes rfl (by decide +kernel) ⟨rfl, rfl⟩ (by decide) rfl (fun s => ⟨_, heM_0 B g s⟩) (cf_RIIII_r _ _ _ _) dX4_findMost_266 ?_
      exact s_X4_findMost_269 B g C R hK32
  · refine s_iinc C (by decide) (by decide) dX4_findMost_207 ?_
    refine s_goto C (tgt := 32) (by decide) dX4_findMost_210 ?_
    exact s_keep _ hK32
def bk_X4_findMost_163 (g : Nat → Nat) (Post : Option Value → MS → Prop) (K32 : PT MS) (K163 : PT MS) (L : Lc) (st : List Value) (s : MS) : Prop :=
  (wIload 6 <| wAload 0 <| wGet (g 30) (fun s => .int (mS 15 s)) <| wIf2 (fun x y => y ≤ x) (bk_X4_findMost_189 g Post K32) (wAload 0 <| wIload 6 <| wIload 5 <| wCallR 3 (F_X4_mayWith g) id (fun _ u => u) <| wIf1 (fun x => x = 0) (wInc 6 1 <| wKeep [true, true, true, true, true, true, true] K163) (bk_X4_findMost_189 g Post K32))) L st s
set_option maxRecDepth 20000 in
theorem s_X4_findMost_163 {X : Cx} (B : Bx) (g : Nat → Nat) {Post : Option Value → MS → Prop} (C : OkX X (gx B) cX4_findMost 7 wsX4_findMost RX4 (rmD 4)) (R : RtX X (gx B) (some .int) (encM B g) Post) {K32 : PT MS} (hK32 : Snd X (gx B) 7 (encM B g) 32 K32) {K163 : PT MS} (hK163 : Snd X (gx B) 7 (encM B g) 163 K163) : Snd X (gx B) 7 (encM B g) 163 (bk_X4_findMost_163 g Post K32 K163) := by
  unfold bk_X4_findMost_163
  refine s_iload C dX4_findMost_163 ?_
  refine s_aload_n C rfl dX4_findMost_165 ?_
  refine s_get C inw_X4_findMost_X4 rfl (k := 15) (by decide) (by decide +kernel) (heM_0 B g) (fun _ => rfl) dX4_findMost_166 ?_
  refine s_icmp_ge C (tgt := 189) (by decide) dX4_findMost_169 ?_ ?_
  · exact s_X4_findMost_189 B g C R hK32
  · refine s_aload_n C rfl dX4_findMost_172 ?_
    refine s_iload C dX4_findMost_173 ?_
    refine s_iload C dX4_findMost_175 ?_
    refine s_callV C (fr_M_M B g) (k_X4_mayWith B g) gX4_findMost_X4_mayWith rfl (by decide +kernel) ⟨rfl, rfl⟩ (by decide) rfl (fun s => ⟨_, heM_0 B g s⟩) (cf_RII_r _ _ _ _) dX4_findMost_177 ?_
    refine s_if_ne C (tgt := 189) (by decide) dX4_findMost_180 ?_ ?_
    · exact s_X4_findMost_189 B g C R hK32
    · refine s_iinc C (by decide) (by decide) dX4_findMost_183 ?_
      refine s_goto C (tgt := 163) (by decide) dX4_findMost_186 ?_
      exact s_keep _ hK163
def LF (g : Nat → Nat) (was : Int32) (x : FC) : Lc := [some (.ref (g 30)), some (.int was), some (.int x.1), some (.int x.2.1), some (.int (nI x.2.2.1 + -1)), none, none]
theorem uW_S15 (M : MS) (a b c n : Int32) : mS 15 (uW M a b c n) = mS 15 M := uW_S 15 (by decide) _ _ _ _ _
theorem uW_S42 (M : MS) (a b c n : Int32) : mS 42 (uW M a b c n) = mS 42 M := uW_S 42 (by decide) _ _ _ _ _
theorem uW_A39 (M : MS) (a b c n : Int32) : mA 39 (uW M a b c n) = mA 39 M := uW_A 39 (by decide) _ _ _ _ _
theorem uW_A41 (M : MS) (a b c n : Int32) : mA 41 (uW M a b c n) = mA 41 M := uW_A 41 (by decide) _ _ _ _ _
/-- block 269: the bound, and on -/
theorem fm269 {g : Nat → Nat} {Post : Option Value → MS → Prop} {K32 : PT MS} (was b s : Int32) (d q c : Nat) (M : MS) (hd : d < 8) (hr : K32 (LF g was (uF3 b s d M)) [] (uF3 b s d M).2.2.2) (hN : ∃ N, N ≤ 8 ∧ mS 42 M = nI N) : bk_X4_findMost_269 g Post K32 [some (.ref (g 30)), some (.int was), some (.int b), some (.int s), some (.int (nI d)), some (.int (nI q)), some (.int (nI c))] [] M := by
  obtain ⟨N, hN, eN⟩ := hN
  have cd1 : (nI (d + 1)).toNatClampNeg = d + 1 := nI_clamp (by omega)
  have wd1 : vp_in (nI (d + 1)) 9 := vp_in_nI (by omega) (by decide)
  simp only [wIload, wAload, wLload, wK, wB, wDv, wU, wLB, wLU, wLS, wL2i, wLcmp, wIf1, wIf2, wKeep, wInc, wIst, wAst, wLst, wDup, wPop, wDup2, wGet, wPut, wPutZ, wIald, wLald, wIast, wLast, wLen, wRetI, wRetZ, wRetL, wRetA, wRetV, wM1, wM2, wCpy, wTab, tabW, nth, stL, stL2, dropL, keepL, mkL, padL, restOK, restOKn, tl_some, tl_none, id_eq, eq_self, true_and, and_true, bk_X4_findMost_307, bk_X4_findMost_269, F_X4_goodOf, F_X4_mayWith, F_X4_takesBack, F_X4_writes, cf_RIIII_e, cf_RII_e, cf_R_e, mS_S, mA_A, mS_A, mA_S, mS_a, mA_a, Nat.reduceEqDiff, reduceIte]
  unfold LF uF3 at hr
  rw [eN] at hr
  rw [nI_1, eN]
  by_cases h1 : b < s + mA 41 M (d + 1)
  · rw [if_pos h1] at hr
    dsimp only at hr
    rw [dvS] at hr
    by_cases h2 : nI (d + 1) < nI N
    · rw [if_pos h2] at hr
      have h3 : ¬ nI N ≤ nI (d + 1) := Int32.not_le.mpr h2
      have wd2 : vp_in (nI (d + 1)) 8 := by
        have : d + 1 < N := by
          have h4 := (nI_lt_x (x := nI N) (k := d + 1) (by omega)).mp h2
          rw [nI_clamp (by omega)] at h4
          exact h4
        exact vp_in_nI (by omega) (by decide)
      simp only [cd1, wd1, h1, h3, wd2, false_implies, true_implies, not_true_eq_false, not_false_eq_true, true_and, and_true, implies_true, eq_self, ne_eq, true_or, or_true, false_or, or_false, and_self]
      exact hr
    · rw [if_neg h2] at hr
      have h3 : nI N ≤ nI (d + 1) := Int32.not_lt.mp h2
      simp only [cd1, wd1, h1, h3, false_implies, true_implies, not_true_eq_false, not_false_eq_true, true_and, and_true, implies_true, eq_self, ne_eq, true_or, or_true, false_or, or_false, and_self]
      exact hr
  · rw [if_neg h1] at hr
    dsimp only at hr
    rw [dvS] at hr
    simp only [cd1, wd1, h1, false_implies, true_implies, not_true_eq_false, not_false_eq_true, true_and, and_true, implies_true, eq_self, ne_eq, true_or, or_true, false_or, or_false, and_self]
    exact hr
theorem fm189 {g : Nat → Nat} {Post : Option Value → MS → Prop} {K32 : PT MS} (was b s : Int32) (d q c : Nat) (M : MS) (hd : d < 8) (hq : q < 12) (hN : ∃ N, N ≤ 8 ∧ mS 42 M = nI N) (hok : mOK 399 M) (hc : c ≤ uPeople M + 1) (hr : K32 (LF g was (uF2 b s d q M c)) [] (uF2 b s d q M c).2.2.2) : bk_X4_findMost_189 g Post K32 [some (.ref (g 30)), some (.int was), some (.int b), some (.int s), some (.int (nI d)), some (.int (nI q)), some (.int (nI c))] [] M := by
  obtain ⟨e1, e2⟩ := ppB_c hok.2.2.2.1
  have cc : (nI c).toNatClampNeg = c := nI_clamp (by omega)
  have cd : (nI d).toNatClampNeg = d := nI_clamp (by omega)
  have cq : (nI q).toNatClampNeg = q := nI_clamp (by omega)
  have wd : vp_in (nI d) 8 := vp_in_nI (by omega) (by decide)
  have wq : vp_in (nI q) 13 := vp_in_nI (by omega) (by decide)
  have iq : ixB 13 (nI q) := ⟨q, by omega, rfl⟩
  have hw : nwB (maA 39 M d (nI c)) := nwB_of hok.2.1 rfl rfl
  simp only [wIload, wAload, wLload, wK, wB, wDv, wU, wLB, wLU, wLS, wL2i, wLcmp, wIf1, wIf2, wKeep, wInc, wIst, wAst, wLst, wDup, wPop, wDup2, wGet, wPut, wPutZ, wIald, wLald, wIast, wLast, wLen, wRetI, wRetZ, wRetL, wRetA, wRetV, wM1, wM2, wCpy, wTab, tabW, nth, stL, stL2, dropL, keepL, mkL, padL, restOK, restOKn, tl_some, tl_none, id_eq, eq_self, true_and, and_true, bk_X4_findMost_189, F_X4_goodOf, F_X4_mayWith, F_X4_takesBack, F_X4_writes, cf_RIIII_e, cf_RII_e, cf_R_e, mS_S, mA_A, mS_A, mA_S, mS_a, mA_a, Nat.reduceEqDiff, reduceIte]
  rw [e1]
  unfold uF2 at hr
  by_cases h1 : uPeople M < c
  · rw [if_pos h1] at hr
    unfold LF at hr
    dsimp only at hr
    have h2 : ¬ nI c ≤ nI (uPeople M) := nI_ge h1 (by omega)
    simp only [cd, wd, h2, false_implies, true_implies, not_true_eq_false, not_false_eq_true, true_and, and_true, implies_true, eq_self, ne_eq, true_or, or_true, false_or, or_false, and_self]
    exact hr
  · rw [if_neg h1] at hr
    have h2 : nI c ≤ nI (uPeople M) := nI_le (by omega) (by omega)
    by_cases h3 : c = uPeople M
    · rw [if_pos h3] at hr
      have h4 : nI (uPeople M) ≤ nI c := nI_le (by omega) (by omega)
      simp only [cd, wd, h2, h4, false_implies, true_implies, not_true_eq_false, not_false_eq_true, true_and, and_true, implies_true, eq_self, ne_eq, true_or, or_true, false_or, or_false, and_self]
      exact fm269 was b s d q c _ hd hr hN
    · rw [if_neg h3] at hr
      have h4 : ¬ nI (uPeople M) ≤ nI c := nI_ge (by omega) (by omega)
      have ic : ixB 7 (nI c) := ⟨c, by omega, rfl⟩
      have hh : hpB 399 (maA 40 (maA 39 M d (nI c)) d (uGood (maA 39 M d (nI c)) c q)) := hpB_of hok.1 rfl
      simp only [cd, wd, cq, wq, cc, ic, iq, hw, h2, h4, hh, upd_eq, false_implies, true_implies, not_true_eq_false, not_false_eq_true, true_and, and_true, implies_true, eq_self, ne_eq, true_or, or_true, false_or, or_false, and_self]
      exact fm269 was b _ d q c _ hd hr (by obtain ⟨N, hN, eN⟩ := hN; exact ⟨N, hN, by rw [uW_S42]; exact eN⟩)
def I_fm163 (g : Nat → Nat) (was b s : Int32) (d q : Nat) (K32 : PT MS) (n : Nat) (L : Lc) (st : List Value) (M : MS) : Prop := ∃ (c : Nat), n = uPeople M - c ∧ c ≤ uPeople M + 1 ∧ d < 8 ∧ q < 12 ∧ (∃ N, N ≤ 8 ∧ mS 42 M = nI N) ∧ mOK 399 M ∧ st = [] ∧ L = [some (.ref (g 30)), some (.int was), some (.int b), some (.int s), some (.int (nI d)), some (.int (nI q)), some (.int (nI c))] ∧ K32 (LF g was (uF2 b s d q M (scn (uFo M q) n c))) [] (uF2 b s d q M (scn (uFo M q) n c)).2.2.2
theorem fm163 {X : Cx} (B : Bx) (g : Nat → Nat) (was : Int32) {Post : Option Value → MS → Prop} (C : OkX X (gx B) cX4_findMost 7 wsX4_findMost RX4 (rmD 4)) (R : RtX X (gx B) (some .int) (encM B g) Post) {K32 : PT MS} (hK32 : Snd X (gx B) 7 (encM B g) 32 K32) : Snd X (gx B) 7 (encM B g) 163 (fun L st s => ∃ b, ∃ sm, ∃ d, ∃ q, ∃ n, I_fm163 g was b sm d q K32 n L st s) := by
  refine Snd.ex (fun b => Snd.ex (fun s => Snd.ex (fun d => Snd.ex (fun q => snd_loop (fun K => bk_X4_findMost_163 g Post K32 K) (I_fm163 g was b s d q K32) (fun K hK => s_X4_findMost_163 B g C R hK32 hK) ?_))))
  rintro K n L st M ⟨c, hn, hc, hd, hq, hN, hok, rfl, rfl, hr⟩ hK
  simp only [wIload, wAload, wLload, wK, wB, wDv, wU, wLB, wLU, wLS, wL2i, wLcmp, wIf1, wIf2, wKeep, wInc, wIst, wAst, wLst, wDup, wPop, wDup2, wGet, wPut, wPutZ, wIald, wLald, wIast, wLast, wLen, wRetI, wRetZ, wRetL, wRetA, wRetV, wM1, wM2, wCpy, wTab, tabW, nth, stL, stL2, dropL, keepL, mkL, padL, restOK, restOKn, tl_some, tl_none, id_eq, eq_self, true_and, and_true, bk_X4_findMost_163, F_X4_goodOf, F_X4_mayWith, F_X4_takesBack, F_X4_writes, cf_RIIII_e, cf_RII_e, cf_R_e, mS_S, mA_A, mS_A, mA_S, mS_a, mA_a, Nat.reduceEqDiff, reduceIte, b2i_eq0]
  obtain ⟨e1, e2⟩ := ppB_c hok.2.2.2.1
  rw [e1]
  have iq : ixB 13 (nI q) := ⟨q, by omega, rfl⟩
  rcases Nat.lt_or_ge c (uPeople M) with hlt | hge
  · have h1 : ¬ nI (uPeople M) ≤ nI c := nI_ge hlt (by omega)
    obtain ⟨n, rfl⟩ : ∃ m, n = m + 1 := ⟨n - 1, by omega⟩
    rw [scn_s] at hr
    have pr : ixB 7 (nI c) ∧ ixB 13 (nI q) ∧ hpB 400 M ∧ nwB M := ⟨⟨c, by omega, rfl⟩, iq, hpB_le hok.1 (by omega), hok.2.1⟩
    cases ho : uMayW M (nI c) (nI q)
    · rw [if_neg (by unfold uFo; rw [ho]; exact Bool.false_ne_true)] at hr
      have hc := hK n _ _ _ (by omega) ⟨c + 1, by omega, by omega, hd, hq, hN, hok, rfl, rfl, hr⟩
      rw [← nI_1] at hc
      simp only [h1, pr, ho, false_implies, true_implies, not_true_eq_false, not_false_eq_true, true_and, and_true, implies_true, eq_self, ne_eq, true_or, or_true, false_or, or_false, and_self]
      exact hc
    · rw [if_pos (by unfold uFo; exact ho)] at hr
      simp only [h1, pr, ho, Bool.true_eq_false, false_implies, true_implies, not_true_eq_false, not_false_eq_true, true_and, and_true, implies_true, eq_self, ne_eq, true_or, or_true, false_or, or_false, and_self]
      exact fm189 was b s d q c M hd hq hN hok hc hr
  · have h1 : nI (uPeople M) ≤ nI c := nI_le hge (by omega)
    have h0 : n = 0 := by omega
    subst h0
    simp only [h1, false_implies, true_implies, not_true_eq_false, not_false_eq_true, true_and, and_true, implies_true, eq_self, ne_eq, true_or, or_true, false_or, or_false, and_self]
    exact fm189 was b s d q c M hd hq hN hok hc hr
def FPs (was : Int32) (z : FC) : Option Value → MS → Prop := fun o u => o = some (.int z.1) ∧ u = msS 22 z.2.2.2 was
def I_fm32 (g : Nat → Nat) (was : Int32) (z : FC) (n : Nat) (L : Lc) (st : List Value) (s : MS) : Prop := ∃ x : FC, z.2.2.1 = 0 ∧ st = [] ∧ s = x.2.2.2 ∧ L = LF g was x ∧ fsR n x z
theorem dv0 : nI 0 + -1 = -1 := by decide
theorem uBack_S15 (M : MS) : mS 15 (uBack M) = mS 15 M := by rw [uBack_S]; rfl
theorem uBack_S42 (M : MS) : mS 42 (uBack M) = mS 42 M := by rw [uBack_S]; rfl
theorem uBack_A8 (M : MS) : mA 8 (uBack M) = mA 8 M := uBack_A 8 (by decide) M
theorem uBack_A38 (M : MS) : mA 38 (uBack M) = mA 38 M := uBack_A 38 (by decide) M
theorem uBack_A39 (M : MS) : mA 39 (uBack M) = mA 39 M := uBack_A 39 (by decide) M
theorem uBack_A40 (M : MS) : mA 40 (uBack M) = mA 40 M := uBack_A 40 (by decide) M
theorem nI_inj2 {a b : Nat} (ha : a < 2 ^ 31) (hb : b < 2 ^ 31) (h : nI a = nI b) : a = b := by
  have := congrArg Int32.toNatClampNeg h
  rw [nI_clamp ha, nI_clamp hb] at this
  exact this
theorem k_X4_findMost (B : Bx) (g : Nat → Nat) : MtF (gx B) yX4_findMost wsX4_findMost (rmD 4) (encM B g) (F_X4_findMost g) := by
  refine cf_R_i (fun l M h => ?_)
  obtain ⟨⟨N0, hN0, eN0⟩, hex⟩ := h
  obtain ⟨hz0, n0, hz1⟩ := uFMz_e hex
  unfold uFM
  generalize uFMz M = z at hz0 hz1 ⊢
  generalize hwas : mS 22 M = was
  refine Mt.of (P := bk_X4_findMost_0 g (FPs was z) (fun L st s => ∃ n, I_fm32 g was z n L st s)) (by decide) rfl (Nat.le_of_ble_eq_true rfl) rfl (fun X C R => s_X4_findMost_0 B g C R (snd_loop (fun K => bk_X4_findMost_32 g (FPs was z) K (fun L st s => ∃ b, ∃ sm, ∃ d, ∃ q, ∃ n, I_fm163 g was b sm d q K n L st s)) (I_fm32 g was z) (fun K hK => s_X4_findMost_32 B g C R hK (fm163 B g was C R hK)) ?_)) ?_
  · rintro K n L st s ⟨x, hz0, rfl, rfl, rfl, hf⟩ hK
    rcases n with _ | n
    · have hf : x = z := hf
      subst hf
      unfold LF
      rw [hz0]
      have h1 : nI 0 + -1 < 0 := by decide
      simp only [wIload, wAload, wLload, wK, wB, wDv, wU, wLB, wLU, wLS, wL2i, wLcmp, wIf1, wIf2, wKeep, wInc, wIst, wAst, wLst, wDup, wPop, wDup2, wGet, wPut, wPutZ, wIald, wLald, wIast, wLast, wLen, wRetI, wRetZ, wRetL, wRetA, wRetV, wM1, wM2, wCpy, wTab, tabW, nth, stL, stL2, dropL, keepL, mkL, padL, restOK, restOKn, tl_some, tl_none, id_eq, eq_self, true_and, and_true, bk_X4_findMost_32, F_X4_goodOf, F_X4_mayWith, F_X4_takesBack, F_X4_writes, cf_RIIII_e, cf_RII_e, cf_R_e, mS_S, mA_A, mS_A, mA_S, mS_a, mA_a, Nat.reduceEqDiff, reduceIte, FPs]
      simp only [h1, false_implies, true_implies, not_true_eq_false, not_false_eq_true, true_and, and_true, implies_true, eq_self, ne_eq, true_or, or_true, false_or, or_false, and_self]
    · obtain ⟨b, s, d, M', rfl, hok, hf⟩ := hf
      obtain ⟨N, P, hN, hP, eN, eP, hdN, hrest⟩ := hok
      unfold LF
      dsimp only
      rw [dvS]
      have cd : (nI d).toNatClampNeg = d := nI_clamp (by omega)
      have z0 : (0 : Int32).toNatClampNeg = 0 := rfl
      have hc : ∀ y : FC, uFs b s d M' = y → K (LF g was y) [] y.2.2.2 := by
        rintro y rfl
        exact hK n _ _ _ (by omega) ⟨_, hz0, rfl, rfl, rfl, hf⟩
      have h1 : ¬ nI d < 0 := nI_nn (by omega)
      simp only [wIload, wAload, wLload, wK, wB, wDv, wU, wLB, wLU, wLS, wL2i, wLcmp, wIf1, wIf2, wKeep, wInc, wIst, wAst, wLst, wDup, wPop, wDup2, wGet, wPut, wPutZ, wIald, wLald, wIast, wLast, wLen, wRetI, wRetZ, wRetL, wRetA, wRetV, wM1, wM2, wCpy, wTab, tabW, nth, stL, stL2, dropL, keepL, mkL, padL, restOK, restOKn, tl_some, tl_none, id_eq, eq_self, true_and, and_true, bk_X4_findMost_88, bk_X4_findMost_85, bk_X4_findMost_83, bk_X4_findMost_132, bk_X4_findMost_32, F_X4_goodOf, F_X4_mayWith, F_X4_takesBack, F_X4_writes, cf_RIIII_e, cf_RII_e, cf_R_e, mS_S, mA_A, mS_A, mA_S, mS_a, mA_a, Nat.reduceEqDiff, reduceIte, uBack_S15, uBack_S42, uBack_A8, uBack_A38, uBack_A39, uBack_A40]
      by_cases h2 : d = N
      · subst h2
        have h3 : nI d = mS 42 M' := eN.symm
        by_cases h4 : s ≤ b
        · have := hc (b, s, d, M') (by unfold uFs; rw [if_pos h3, if_pos h4])
          unfold LF at this
          simp only [h1, eN, h4, false_implies, true_implies, not_true_eq_false, not_false_eq_true, true_and, and_true, implies_true, eq_self, ne_eq, true_or, or_true, false_or, or_false, and_self]
          exact this
        · have := hc (s, s, d, msS 43 M' (uFp M')) (by unfold uFs; rw [if_pos h3, if_neg h4])
          unfold LF uFp at this
          rw [eN, eP] at this
          simp only [h1, eN, eP, h4, z0, false_implies, true_implies, not_true_eq_false, not_false_eq_true, true_and, and_true, implies_true, eq_self, ne_eq, true_or, or_true, false_or, or_false, and_self]
          by_cases h5 : nI d ≤ 0
          · rw [if_pos h5] at this
            simp only [h5, false_implies, true_implies, not_true_eq_false, not_false_eq_true, true_and, and_true, implies_true, eq_self, ne_eq, true_or, or_true, false_or, or_false, and_self]
            exact this
          · rw [if_neg h5] at this
            have hd0 : 0 < d := by
              rcases Nat.eq_zero_or_pos d with h | h
              · subst h; exact absurd (by decide) h5
              · exact h
            have w0 : vp_in 0 8 := vp_lit 0 (by decide) (by decide)
            by_cases h6 : nI P ≤ mA 39 M' 0
            · rw [if_pos h6] at this
              simp only [h5, h6, w0, false_implies, true_implies, not_true_eq_false, not_false_eq_true, true_and, and_true, implies_true, eq_self, ne_eq, true_or, or_true, false_or, or_false, and_self]
              exact this
            · rw [if_neg h6] at this
              simp only [h5, h6, w0, false_implies, true_implies, not_true_eq_false, not_false_eq_true, true_and, and_true, implies_true, eq_self, ne_eq, true_or, or_true, false_or, or_false, and_self]
              exact this
      · have h3 : ¬ nI d = nI N := fun z => h2 (nI_inj2 (by omega) (by omega) z)
        obtain ⟨⟨q, hq, eq⟩, ⟨pk, hpk, epk⟩, hbk, hm1⟩ := hrest (by omega)
        have wd : vp_in (nI d) 8 := vp_in_nI (by omega) (by decide)
        have wq : vp_in (nI q) 13 := vp_in_nI (by omega) (by decide)
        have cq : (nI q).toNatClampNeg = q := nI_clamp (by omega)
        have eq2 : uFq M' d = q := by unfold uFq; rw [eq, cq]
        have epk2 : nI pk + -1 + 1 = nI pk := by rw [Int32.add_assoc, show (-1 : Int32) + 1 = 0 from by decide, Int32.add_zero]
        have ec2 : uFc M' d = pk := by unfold uFc; rw [epk, epk2, nI_clamp (by omega)]
        have hU : uPeople M' = P := by unfold uPeople; rw [eP, nI_clamp (by omega)]
        have fin : ∀ s' M1, uFsum s M' d = s' → uFy M' d = M1 → uPeople M1 = P → mS 42 M1 = nI N → mOK 399 M1 → ∃ b_1 sm d_1 q_1 n, I_fm163 g was b_1 sm d_1 q_1 K n [some (.ref (g 30)), some (.int was), some (.int b), some (.int s'), some (.int (nI d)), some (.int (nI q)), some (.int (nI pk))] [] M1 := by
          intro s' M1 e1 e2 e3 e4 e5
          refine ⟨b, s', d, q, P - pk, pk, by rw [e3], by omega, by omega, hq, ⟨N, hN, e4⟩, e5, rfl, rfl, ?_⟩
          have := hc _ rfl
          unfold uFs at this
          rw [if_neg (by rw [eN]; exact h3), e1, e2, eq2, ec2, hU] at this
          exact this
        cases hre : isReal M' d
        · have f1 : uFsum s M' d = s := by unfold uFsum; rw [hre, if_neg Bool.false_ne_true]
          have f0 : uF1 M' d = M' := by unfold uF1; rw [hre, if_neg Bool.false_ne_true]
          have f2 : uFy M' d = msS 22 M' (mA 8 M' q) := by unfold uFy; rw [f0, eq2]
          rw [f0] at hm1
          have := fin s _ f1 f2 hU eN hm1
          have hne := of_decide_eq_false hre
          rw [eP] at hne
          by_cases h5 : mA 39 M' d < 0
          · rw [epk] at h5
            simp only [h1, eN, eP, h3, wd, cd, eq, wq, cq, epk, h5, epk2, false_implies, true_implies, not_true_eq_false, not_false_eq_true, true_and, and_true, implies_true, eq_self, ne_eq, true_or, or_true, false_or, or_false, and_self]
            exact this
          · have h6 : nI P ≤ mA 39 M' d := Int32.not_lt.mp (fun z => hne ⟨h5, z⟩)
            rw [epk] at h5 h6
            simp only [h1, eN, eP, h3, wd, cd, eq, wq, cq, epk, h5, h6, epk2, false_implies, true_implies, not_true_eq_false, not_false_eq_true, true_and, and_true, implies_true, eq_self, ne_eq, true_or, or_true, false_or, or_false, and_self]
            exact this
        · have f1 : uFsum s M' d = s - mA 40 M' d := by unfold uFsum; rw [hre, if_pos rfl]
          have f0 : uF1 M' d = uBack M' := by unfold uF1; rw [hre, if_pos rfl]
          have f2 : uFy M' d = msS 22 (uBack M') (mA 8 M' q) := by unfold uFy; rw [f0, eq2]
          rw [f0] at hm1
          have := fin _ _ f1 f2 (by unfold uPeople; rw [mS_S, if_neg (by decide), uBack_S15]; exact hU) (by rw [mS_S, if_neg (by decide), uBack_S42]; exact eN) hm1
          have hne := of_decide_eq_true hre
          rw [eP] at hne
          obtain ⟨h5, h6'⟩ := hne
          have h6 : ¬ nI P ≤ mA 39 M' d := Int32.not_le.mpr h6'
          rw [epk] at h5 h6
          have hb := hbk hre
          unfold bkB at hb
          simp only [h1, eN, eP, h3, wd, cd, eq, wq, cq, epk, h5, h6, epk2, hb, false_implies, true_implies, not_true_eq_false, not_false_eq_true, true_and, and_true, implies_true, eq_self, ne_eq, true_or, or_true, false_or, or_false, and_self]
          exact this
  · simp only [wIload, wAload, wLload, wK, wB, wDv, wU, wLB, wLU, wLS, wL2i, wLcmp, wIf1, wIf2, wKeep, wInc, wIst, wAst, wLst, wDup, wPop, wDup2, wGet, wPut, wPutZ, wIald, wLald, wIast, wLast, wLen, wRetI, wRetZ, wRetL, wRetA, wRetV, wM1, wM2, wCpy, wTab, tabW, nth, stL, stL2, dropL, keepL, mkL, padL, restOK, restOKn, tl_some, tl_none, id_eq, eq_self, true_and, and_true, bk_X4_findMost_0, F_X4_goodOf, F_X4_mayWith, F_X4_takesBack, F_X4_writes, cf_RIIII_e, cf_RII_e, cf_R_e, mS_S, mA_A, mS_A, mA_S, mS_a, mA_a, Nat.reduceEqDiff, reduceIte]
    rw [hwas]
    have w0 : vp_in 0 8 := vp_lit 0 (by decide) (by decide)
    have z0 : (0 : Int32).toNatClampNeg = 0 := rfl
    have e1 : nI 1 + -1 = 0 := by decide
    by_cases h1 : mS 42 M ≤ 0
    · have e2 : uFst M = (-1, 0, 1, msS 43 M (-9)) := by unfold uFst; rw [if_pos h1]
      rw [e2] at hz1
      simp only [h1, false_implies, true_implies, not_true_eq_false, not_false_eq_true, true_and, and_true, implies_true, eq_self, ne_eq, true_or, or_true, false_or, or_false, and_self]
      exact ⟨n0, _, hz0, rfl, rfl, by unfold LF; dsimp only; rw [e1], hz1⟩
    · have e2 : uFst M = (-1, 0, 1, maA 39 (msS 43 M (-9)) 0 (-1)) := by unfold uFst; rw [if_neg h1]
      rw [e2] at hz1
      simp only [h1, w0, z0, false_implies, true_implies, not_true_eq_false, not_false_eq_true, true_and, and_true, implies_true, eq_self, ne_eq, true_or, or_true, false_or, or_false, and_self]
      exact ⟨n0, _, hz0, rfl, rfl, by unfold LF; dsimp only; rw [e1], hz1⟩
end
