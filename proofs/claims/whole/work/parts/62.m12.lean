noncomputable section
def anB (r : Bool × MS) (f : MS → Bool × MS) : Bool × MS := if r.1 = true then f r.2 else (false, r.2)
def uSn (p n : Nat) (M : MS) : Bool × MS := anB (uRds p n M) (fun M => uIsN M 59)
def uSp (p : Nat) (M : MS) : Bool × MS := anB (anB (anB (anB (uRd M p 1) (fun M => uRd M (p + 1) 2)) (fun M => uIsN M 44)) (fun M => uRds (p + 2) 4 M)) (fun M => uIsN M 59)
def uS2 (b : Int32) (p : Nat) (M : MS) : Bool × MS := if b = 110 then uSn p 5 M else if b = 108 then uSn p 3 M else uSp p M
def uSts (M : MS) : Nat := (mS 29 M).toNatClampNeg
def uL1 (M : MS) (b : Int32) : MS := msS 28 (maA 25 (maA 24 M (uSts M) b) (uSts M) (mS 28 M)) (mS 28 M + 1)
def uSt (M : MS) : Bool × MS := if uNx M = 112 ∨ uNx M = 110 ∨ uNx M = 108 then uS2 (uNx M) (6 * uSts M) (uL1 M (uNx M)) else (false, M)
theorem anB_mv {r : Bool × MS} {f : MS → Bool × MS} {M : MS} (h : mv 0 M r.2) (hf : ∀ N, lpB N → mv 0 N (f N).2) : mv 0 M (anB r f).2 := by
  unfold anB
  split
  · exact mv_t h (hf _ h.1)
  · exact h
theorem anB_mv1 {r : Bool × MS} {f : MS → Bool × MS} {M : MS} (h : mv 0 M r.2) (hf : ∀ N, lpB N → (f N).1 = true → mv 1 N (f N).2) (ht : (anB r f).1 = true) : mv 1 M (anB r f).2 := by
  unfold anB at ht ⊢
  split
  · rename_i h1
    rw [if_pos h1] at ht
    exact mv_t h (hf _ h.1 ht)
  · rename_i h1
    rw [if_neg h1] at ht
    exact absurd ht Bool.false_ne_true
theorem mv_n0 {N : MS} (h : lpB N) {b : Int32} (hb : ¬ b = -1) : mv 0 N (uIsN N b).2 := mv_0 (mv_isN h hb)
theorem mv_n1 {N : MS} (h : lpB N) {b : Int32} (hb : ¬ b = -1) (ht : (uIsN N b).1 = true) : mv 1 N (uIsN N b).2 := by
  have := mv_isN h hb
  rw [if_pos ht] at this
  exact this
theorem mv_S2 {b : Int32} {p : Nat} {M : MS} (h : lpB M) : mv 0 M (uS2 b p M).2 ∧ ((uS2 b p M).1 = true → mv 1 M (uS2 b p M).2) := by
  have e59 : ¬ (59 : Int32) = -1 := by decide
  have e44 : ¬ (44 : Int32) = -1 := by decide
  have hn : ∀ n, mv 0 M (uSn p n M).2 ∧ ((uSn p n M).1 = true → mv 1 M (uSn p n M).2) := fun n =>
    ⟨anB_mv (mv_rds n p h) (fun N hN => mv_n0 hN e59), anB_mv1 (mv_rds n p h) (fun N hN ht => mv_n1 hN e59 ht)⟩
  unfold uS2
  split
  · exact hn 5
  · split
    · exact hn 3
    · have h4 : mv 0 M (anB (anB (anB (uRd M p 1) (fun M => uRd M (p + 1) 2)) (fun M => uIsN M 44)) (fun M => uRds (p + 2) 4 M)).2 := anB_mv (anB_mv (anB_mv (mv_rd h p 1) (fun N hN => mv_rd hN _ _)) (fun N hN => mv_n0 hN e44)) (fun N hN => mv_rds 4 _ hN)
      exact ⟨anB_mv h4 (fun N hN => mv_n0 hN e59), anB_mv1 h4 (fun N hN ht => mv_n1 hN e59 ht)⟩
theorem lpB_L1 {M : MS} (h : lpB M) (hl : mS 28 M < mS 27 M) (b : Int32) : lpB (uL1 M b) ∧ uAt (uL1 M b) = uAt M + 1 ∧ (∀ i, ¬ i = 28 → mS i (uL1 M b) = mS i M) ∧ ∀ i, ¬ i = 24 → ¬ i = 25 → mA i (uL1 M b) = mA i M := by
  obtain ⟨a, t, h1, h2, h3, h4⟩ := lpB_lt h hl
  have e : mS 28 (uL1 M b) = nI (a + 1) := by
    unfold uL1
    rw [mS_S, if_pos rfl, h3, nI_1]
  refine ⟨⟨a + 1, t, h1, h2, e, h4⟩, ?_, fun i hi => ?_, fun i hi hj => ?_⟩
  · unfold uAt
    rw [e, h3, nI_clamp (by omega), nI_clamp (by omega)]
  · unfold uL1
    rw [mS_S, if_neg hi]
    rfl
  · unfold uL1
    rw [mA_S, mA_a, if_neg hj, mA_a, if_neg hi]
def sT4 (M : MS) (S : Bool × MS) : Prop := lpB S.2 ∧ uAt M ≤ uAt S.2 ∧ (S.1 = true → uAt M + 2 ≤ uAt S.2) ∧ (∀ i, ¬ i = 28 → mS i S.2 = mS i M) ∧ ∀ i, ¬ i = 24 → ¬ i = 25 → ¬ i = 26 → mA i S.2 = mA i M
theorem uSt_mv {M : MS} (h : lpB M) : sT4 M (uSt M) := by
  unfold uSt
  split
  · rename_i hb
    have hl : mS 28 M < mS 27 M := uNx_lt (by rcases hb with e | e | e <;> (rw [e]; decide))
    obtain ⟨l1, l2, l3, l4⟩ := lpB_L1 h hl (uNx M)
    obtain ⟨m0, m1⟩ := mv_S2 (b := uNx M) (p := 6 * uSts M) l1
    refine ⟨m0.1, by have := m0.2.1; omega, fun ht => by have := (m1 ht).2.1; omega, fun i hi => (m0.2.2.1 i hi).trans (l3 i hi), fun i h1 h2 h3 => (m0.2.2.2 i h3).trans (l4 i h1 h2)⟩
  · exact ⟨h, Nat.le_refl _, fun z => absurd z Bool.false_ne_true, fun _ _ => rfl, fun _ _ _ _ => rfl⟩
def F_X4_statement (g : Nat → Nat) : CF MS := cf_R (g 30) (fun M => lpB M ∧ ∃ j, j < 32 ∧ mS 29 M = nI j) (fun M => some (.int (b2i (uSt M).1))) (fun M => (uSt M).2)
theorem inw_X4_statement_X4 : ∀ w ∈ u_ws RX4 TX4 45, w ∈ wsX4_statement := by decide +kernel
def bk_X4_statement_95 (g : Nat → Nat) (Post : Option Value → MS → Prop)  (L : Lc) (st : List Value) (s : MS) : Prop :=
  (wRetZ Post) L st s
set_option maxRecDepth 20000 in
theorem s_X4_statement_95 {X : Cx} (B : Bx) (g : Nat → Nat) {Post : Option Value → MS → Prop} (C : OkX X (gx B) cX4_statement 3 wsX4_statement RX4 (rmD 3)) (R : RtX X (gx B) (some .boolean) (encM B g) Post)  : Snd X (gx B) 3 (encM B g) 95 (bk_X4_statement_95 g Post ) := by
  unfold bk_X4_statement_95
  exact s_zret C R dX4_statement_95
def bk_X4_statement_94 (g : Nat → Nat) (Post : Option Value → MS → Prop)  (L : Lc) (st : List Value) (s : MS) : Prop :=
  (wK (.int 0) <| bk_X4_statement_95 g Post ) L st s
set_option maxRecDepth 20000 in
theorem s_X4_statement_94 {X : Cx} (B : Bx) (g : Nat → Nat) {Post : Option Value → MS → Prop} (C : OkX X (gx B) cX4_statement 3 wsX4_statement RX4 (rmD 3)) (R : RtX X (gx B) (some .boolean) (encM B g) Post)  : Snd X (gx B) 3 (encM B g) 94 (bk_X4_statement_94 g Post ) := by
  unfold bk_X4_statement_94
  refine s_iconst C (by decide) dX4_statement_94 ?_
  exact s_X4_statement_95 B g C R 
def bk_X4_statement_125 (g : Nat → Nat) (Post : Option Value → MS → Prop)  (L : Lc) (st : List Value) (s : MS) : Prop :=
  (wRetZ Post) L st s
set_option maxRecDepth 20000 in
theorem s_X4_statement_125 {X : Cx} (B : Bx) (g : Nat → Nat) {Post : Option Value → MS → Prop} (C : OkX X (gx B) cX4_statement 3 wsX4_statement RX4 (rmD 3)) (R : RtX X (gx B) (some .boolean) (encM B g) Post)  : Snd X (gx B) 3 (encM B g) 125 (bk_X4_statement_125 g Post ) := by
  unfold bk_X4_statement_125
  exact s_zret C R dX4_statement_125
def bk_X4_statement_124 (g : Nat → Nat) (Post : Option Value → MS → Prop)  (L : Lc) (st : List Value) (s : MS) : Prop :=
  (wK (.int 0) <| bk_X4_statement_125 g Post ) L st s
set_option maxRecDepth 20000 in
theorem s_X4_statement_124 {X : Cx} (B : Bx) (g : Nat → Nat) {Post : Option Value → MS → Prop} (C : OkX X (gx B) cX4_statement 3 wsX4_statement RX4 (rmD 3)) (R : RtX X (gx B) (some .boolean) (encM B g) Post)  : Snd X (gx B) 3 (encM B g) 124 (bk_X4_statement_124 g Post ) := by
  unfold bk_X4_statement_124
  refine s_iconst C (by decide) dX4_statement_124 ?_
  exact s_X4_statement_125 B g C R 
def bk_X4_statement_180 (g : Nat → Nat) (Post : Option Value → MS → Prop)  (L : Lc) (st : List Value) (s : MS) : Prop :=
  (wRetZ Post) L st s
set_option maxRecDepth 20000 in
theorem s_X4_statement_180 {X : Cx} (B : Bx) (g : Nat → Nat) {Post : Option Value → MS → Prop} (C : OkX X (gx B) cX4_statement 3 wsX4_statement RX4 (rmD 3)) (R : RtX X (gx B) (some .boolean) (encM B g) Post)  : Snd X (gx B) 3 (encM B g) 180 (bk_X4_statement_180 g Post ) := by
  unfold bk_X4_statement_180
  exact s_zret C R dX4_statement_180
def bk_X4_statement_179 (g : Nat → Nat) (Post : Option Value → MS → Prop)  (L : Lc) (st : List Value) (s : MS) : Prop :=
  (wK (.int 0) <| bk_X4_statement_180 g Post ) L st s
set_option maxRecDepth 20000 in
theorem s_X4_statement_179 {X : Cx} (B : Bx) (g : Nat → Nat) {Post : Option Value → MS → Prop} (C : OkX X (gx B) cX4_statement 3 wsX4_statement RX4 (rmD 3)) (R : RtX X (gx B) (some .boolean) (encM B g) Post)  : Snd X (gx B) 3 (encM B g) 179 (bk_X4_statement_179 g Post ) := by
  unfold bk_X4_statement_179
  refine s_iconst C (by decide) dX4_statement_179 ?_
  exact s_X4_statement_180 B g C R 
def bk_X4_statement_25 (g : Nat → Nat) (Post : Option Value → MS → Prop)  (L : Lc) (st : List Value) (s : MS) : Prop :=
  (wAload 0 <| wGet (g 30) (fun _ => .ref (g 55)) <| wAload 0 <| wGet (g 30) (fun s => .int (mS 29 s)) <| wIload 1 <| wIast (g 55) 32 (maA 24) <| wAload 0 <| wGet (g 30) (fun _ => .ref (g 56)) <| wAload 0 <| wGet (g 30) (fun s => .int (mS 29 s)) <| wAload 0 <| wGet (g 30) (fun s => .int (mS 28 s)) <| wIast (g 56) 32 (maA 25) <| wAload 0 <| wDup <| wGet (g 30) (fun s => .int (mS 28 s)) <| wK (.int 1) <| wB (fun x y => x + y) <| wPut (g 30) (msS 28) <| wK (.int 6) <| wAload 0 <| wGet (g 30) (fun s => .int (mS 29 s)) <| wB (fun x y => x * y) <| wIst 2 <| wIload 1 <| wK (.int 110) <| wIf2 (fun x y => x = y) (wAload 0 <| wIload 2 <| wK (.int 5) <| wCallR 3 (F_X4_readsDigits g) id (fun _ u => u) <| wIf1 (fun x => x = 0) (bk_X4_statement_94 g Post ) (wAload 0 <| wK (.int 59) <| wCallR 2 (F_X4_isNext g) id (fun _ u => u) <| wIf1 (fun x => x = 0) (bk_X4_statement_94 g Post ) (wK (.int 1) <| bk_X4_statement_95 g Post ))) (wIload 1 <| wK (.int 108) <| wIf2 (fun x y => x = y) (wAload 0 <| wIload 2 <| wK (.int 3) <| wCallR 3 (F_X4_readsDigits g) id (fun _ u => u) <| wIf1 (fun x => x = 0) (bk_X4_statement_124 g Post ) (wAload 0 <| wK (.int 59) <| wCallR 2 (F_X4_isNext g) id (fun _ u => u) <| wIf1 (fun x => x = 0) (bk_X4_statement_124 g Post ) (wK (.int 1) <| bk_X4_statement_125 g Post ))) (wAload 0 <| wIload 2 <| wK (.int 1) <| wCallR 3 (F_X4_reads g) id (fun _ u => u) <| wIf1 (fun x => x = 0) (bk_X4_statement_179 g Post ) (wAload 0 <| wIload 2 <| wK (.int 1) <| wB (fun x y => x + y) <| wK (.int 2) <| wCallR 3 (F_X4_reads g) id (fun _ u => u) <| wIf1 (fun x => x = 0) (bk_X4_statement_179 g Post ) (wAload 0 <| wK (.int 44) <| wCallR 2 (F_X4_isNext g) id (fun _ u => u) <| wIf1 (fun x => x = 0) (bk_X4_statement_179 g Post ) (wAload 0 <| wIload 2 <| wK (.int 2) <| wB (fun x y => x + y) <| wK (.int 4) <| wCallR 3 (F_X4_readsDigits g) id (fun _ u => u) <| wIf1 (fun x => x = 0) (bk_X4_statement_179 g Post ) (wAload 0 <| wK (.int 59) <| wCallR 2 (F_X4_isNext g) id (fun _ u => u) <| wIf1 (fun x => x = 0) (bk_X4_statement_179 g Post ) (wK (.int 1) <| bk_X4_statement_180 g Post )))))))) L st s
set_option maxRecDepth 20000 in
theorem s_X4_statement_25 {X : Cx} (B : Bx) (g : Nat → Nat) {Post : Option Value → MS → Prop} (C : OkX X (gx B) cX4_statement 3 wsX4_statement RX4 (rmD 3)) (R : RtX X (gx B) (some .boolean) (encM B g) Post)  : Snd X (gx B) 3 (encM B g) 25 (bk_X4_statement_25 g Post ) := by
  unfold bk_X4_statement_25
  refine s_aload_n C rfl dX4_statement_25 ?_
  refine s_get C inw_X4_statement_X4 rfl (k := 24) (by decide) (by decide +kernel) (heM_0 B g) (fun _ => rfl) dX4_statement_26 ?_
  refine s_aload_n C rfl dX4_statement_29 ?_
  refine s_get C inw_X4_statement_X4 rfl (k := 29) (by decide) (by decide +kernel) (heM_0 B g) (fun _ => rfl) dX4_statement_30 ?_
  refine s_iload_n C rfl dX4_statement_33 ?_
  refine s_iast C (heM_17 B g) (fun _ _ _ => rfl) dX4_statement_34 ?_
  refine s_aload_n C rfl dX4_statement_35 ?_
  refine s_get C inw_X4_statement_X4 rfl (k := 25) (by decide) (by decide +kernel) (heM_0 B g) (fun _ => rfl) dX4_statement_36 ?_
  refine s_aload_n C rfl dX4_statement_39 ?_
  refine s_get C inw_X4_statement_X4 rfl (k := 29) (by decide) (by decide +kernel) (heM_0 B g) (fun _ => rfl) dX4_statement_40 ?_
  refine s_aload_n C rfl dX4_statement_43 ?_
  refine s_get C inw_X4_statement_X4 rfl (k := 28) (by decide) (by decide +kernel) (heM_0 B g) (fun _ => rfl) dX4_statement_44 ?_
  refine s_iast C (heM_18 B g) (fun _ _ _ => rfl) dX4_statement_47 ?_
  refine s_aload_n C rfl dX4_statement_48 ?_
  refine s_dup C dX4_statement_49 ?_
  refine s_get C inw_X4_statement_X4 rfl (k := 28) (by decide) (by decide +kernel) (heM_0 B g) (fun _ => rfl) dX4_statement_50 ?_
  refine s_iconst C (by decide) dX4_statement_53 ?_
  refine s_iadd C dX4_statement_54 ?_
  refine s_put C inw_X4_statement_X4 rfl (k := 28) (by decide) (by decide +kernel) tyX4_ok nmX4 (by decide +kernel) (by decide +kernel) (heM_0 B g) (fun _ => Nat.le_of_ble_eq_true rfl) (fun _ _ => rfl) dX4_statement_55 ?_
  refine s_bipush C (by decide) dX4_statement_58 ?_
  refine s_aload_n C rfl dX4_statement_60 ?_
  refine s_get C inw_X4_statement_X4 rfl (k := 29) (by decide) (by decide +kernel) (heM_0 B g) (fun _ => rfl) dX4_statement_61 ?_
  refine s_imul C dX4_statement_64 ?_
  refine s_istore_n C rfl (by decide) dX4_statement_65 ?_
  refine s_iload_n C rfl dX4_statement_66 ?_
  refine s_bipush C (by decide) dX4_statement_67 ?_
  refine s_icmp_ne C (tgt := 96) (by decide) dX4_statement_69 ?_ ?_
  · refine s_iload_n C rfl dX4_statement_96 ?_
    refine s_bipush C (by decide) dX4_statement_97 ?_
    refine s_icmp_ne C (tgt := 126) (by decide) dX4_statement_99 ?_ ?_
    · refine s_aload_n C rfl dX4_statement_126 ?_
      refine s_iload_n C rfl dX4_statement_127 ?_
      refine s_iconst C (by decide) dX4_statement_128 ?_
      refine s_callV C (fr_M_M B g) (k_X4_reads B g) gX4_statement_X4_reads rfl (by decide +kernel) ⟨rfl, rfl⟩ (by decide) rfl (fun s => ⟨_, heM_0 B g s⟩) (cf_RII_r _ _ _ _) dX4_statement_129 ?_
      refine s_if_eq C (tgt := 179) (by decide) dX4_statement_132 ?_ ?_
      · exact s_X4_statement_179 B g C R 
      · refine s_aload_n C rfl dX4_statement_135 ?_
        refine s_iload_n C rfl dX4_statement_136 ?_
        refine s_iconst C (by decide) dX4_statement_137 ?_
        refine s_iadd C dX4_statement_138 ?_
        refine s_iconst C (by decide) dX4_statement_139 ?_
        refine s_callV C (fr_M_M B g) (k_X4_reads B g) gX4_statement_X4_reads rfl (by decide +kernel) ⟨rfl, rfl⟩ (by decide) rfl (fun s => ⟨_, heM_0 B g s⟩) (cf_RII_r _ _ _ _) dX4_statement_140 ?_
        refine s_if_eq C (tgt := 179) (by decide) dX4_statement_143 ?_ ?_
        · exact s_X4_statement_179 B g C R 
        · refine s_aload_n C rfl dX4_statement_146 ?_
          refine s_bipush C (by decide) dX4_statement_147 ?_
          refine s_callV C (fr_M_M B g) (k_X4_isNext B g) gX4_statement_X4_isNext rfl (by decide +kernel) ⟨rfl, rfl⟩ (by decide) rfl (fun s => ⟨_, heM_0 B g s⟩) (cf_RI_r _ _ _ _) dX4_statement_149 ?_
          refine s_if_eq C (tgt := 179) (by decide) dX4_statement_152 ?_ ?_
          · exact s_X4_statement_179 B g C R 
          · refine s_aload_n C rfl dX4_statement_155 ?_
            refine s_iload_n C rfl dX4_statement_156 ?_
            refine s_iconst C (by decide) dX4_statement_157 ?_
            refine s_iadd C dX4_statement_158 ?_
            refine s_iconst C (by decide) dX4_statement_159 ?_
            refine s_callV C (fr_M_M B g) (k_X4_readsDigits B g) gX4_statement_X4_readsDigits rfl (by decide +kernel) ⟨rfl, rfl⟩ (by decide) rfl (fun s => ⟨_, heM_0 B g s⟩) (cf_RII_r _ _ _ _) dX4_statement_160 ?_
            refine s_if_eq C (tgt := 179) (by decide) dX4_statement_163 ?_ ?_
            · exact s_X4_statement_179 B g C R 
            · refine s_aload_n C rfl dX4_statement_166 ?_
              refine s_bipush C (by decide) dX4_statement_167 ?_
              refine s_callV C (fr_M_M B g) (k_X4_isNext B g) gX4_statement_X4_isNext rfl (by decide +kernel) ⟨rfl, rfl⟩ (by decide) rfl (fun s => ⟨_, heM_0 B g s⟩) (cf_RI_r _ _ _ _) dX4_statement_169 ?_
              refine s_if_eq C (tgt := 179) (by decide) dX4_statement_172 ?_ ?_
              · exact s_X4_statement_179 B g C R 
              · refine s_iconst C (by decide) dX4_statement_175 ?_
                refine s_goto C (tgt := 180) (by decide) dX4_statement_176 ?_
                exact s_X4_statement_180 B g C R 
    · refine s_aload_n C rfl dX4_statement_102 ?_
      refine s_iload_n C rfl dX4_statement_103 ?_
      refine s_iconst C (by decide) dX4_statement_104 ?_
      refine s_callV C (fr_M_M B g) (k_X4_readsDigits B g) gX4_statement_X4_readsDigits rfl (by decide +kernel) ⟨rfl, rfl⟩ (by decide) rfl (fun s => ⟨_, heM_0 B g s⟩) (cf_RII_r _ _ _ _) dX4_statement_105 ?_
      refine s_if_eq C (tgt := 124) (by decide) dX4_statement_108 ?_ ?_
      · exact s_X4_statement_124 B g C R 
      · refine s_aload_n C rfl dX4_statement_111 ?_
        refine s_bipush C (by decide) dX4_statement_112 ?_
        refine s_callV C (fr_M_M B g) (k_X4_isNext B g) gX4_statement_X4_isNext rfl (by decide +kernel) ⟨rfl, rfl⟩ (by decide) rfl (fun s => ⟨_, heM_0 B g s⟩) (cf_RI_r _ _ _ _) dX4_statement_114 ?_
        refine s_if_eq C (tgt := 124) (by decide) dX4_statement_117 ?_ ?_
        · exact s_X4_statement_124 B g C R 
        · refine s_iconst C (by decide) dX4_statement_120 ?_
          refine s_goto C (tgt := 125) (by decide) dX4_statement_121 ?_
          exact s_X4_statement_125 B g C R 
  · refine s_aload_n C rfl dX4_statement_72 ?_
    refine s_iload_n C rfl dX4_statement_73 ?_
    refine s_iconst C (by decide) dX4_statement_74 ?_
    refine s_callV C (fr_M_M B g) (k_X4_readsDigits B g) gX4_statement_X4_readsDigits rfl (by decide +kernel) ⟨rfl, rfl⟩ (by decide) rfl (fun s => ⟨_, heM_0 B g s⟩) (cf_RII_r _ _ _ _) dX4_statement_75 ?_
    refine s_if_eq C (tgt := 94) (by decide) dX4_statement_78 ?_ ?_
    · exact s_X4_statement_94 B g C R 
    · refine s_aload_n C rfl dX4_statement_81 ?_
      refine s_bipush C (by decide) dX4_statement_82 ?_
      refine s_callV C (fr_M_M B g) (k_X4_isNext B g) gX4_statement_X4_isNext rfl (by decide +kernel) ⟨rfl, rfl⟩ (by decide) rfl (fun s => ⟨_, heM_0 B g s⟩) (cf_RI_r _ _ _ _) dX4_statement_84 ?_
      refine s_if_eq C (tgt := 94) (by decide) dX4_statement_87 ?_ ?_
      · exact s_X4_statement_94 B g C R 
      · refine s_iconst C (by decide) dX4_statement_90 ?_
        refine s_goto C (tgt := 95) (by decide) dX4_statement_91 ?_
        exact s_X4_statement_95 B g C R 
def bk_X4_statement_0 (g : Nat → Nat) (Post : Option Value → MS → Prop)  (L : Lc) (st : List Value) (s : MS) : Prop :=
  (wAload 0 <| wCallR 1 (F_X4_next g) id (fun _ u => u) <| wIst 1 <| wIload 1 <| wK (.int 112) <| wIf2 (fun x y => x = y) (bk_X4_statement_25 g Post ) (wIload 1 <| wK (.int 110) <| wIf2 (fun x y => x = y) (bk_X4_statement_25 g Post ) (wIload 1 <| wK (.int 108) <| wIf2 (fun x y => x = y) (bk_X4_statement_25 g Post ) (wK (.int 0) <| wRetZ Post)))) L st s
set_option maxRecDepth 20000 in
theorem s_X4_statement_0 {X : Cx} (B : Bx) (g : Nat → Nat) {Post : Option Value → MS → Prop} (C : OkX X (gx B) cX4_statement 3 wsX4_statement RX4 (rmD 3)) (R : RtX X (gx B) (some .boolean) (encM B g) Post)  : Snd X (gx B) 3 (encM B g) 0 (bk_X4_statement_0 g Post ) := by
  unfold bk_X4_statement_0
  refine s_aload_n C rfl dX4_statement_0 ?_
  refine s_callV C (fr_M_M B g) (k_X4_next B g) gX4_statement_X4_next rfl (by decide +kernel) ⟨rfl, rfl⟩ (by decide) rfl (fun s => ⟨_, heM_0 B g s⟩) (cf_R_r _ _ _ _) dX4_statement_1 ?_
  refine s_istore_n C rfl (by decide) dX4_statement_4 ?_
  refine s_iload_n C rfl dX4_statement_5 ?_
  refine s_bipush C (by decide) dX4_statement_6 ?_
  refine s_icmp_eq C (tgt := 25) (by decide) dX4_statement_8 ?_ ?_
  · exact s_X4_statement_25 B g C R 
  · refine s_iload_n C rfl dX4_statement_11 ?_
    refine s_bipush C (by decide) dX4_statement_12 ?_
    refine s_icmp_eq C (tgt := 25) (by decide) dX4_statement_14 ?_ ?_
    · exact s_X4_statement_25 B g C R 
    · refine s_iload_n C rfl dX4_statement_17 ?_
      refine s_bipush C (by decide) dX4_statement_18 ?_
      refine s_icmp_eq C (tgt := 25) (by decide) dX4_statement_20 ?_ ?_
      · exact s_X4_statement_25 B g C R 
      · refine s_iconst C (by decide) dX4_statement_23 ?_
        exact s_zret C R dX4_statement_24
theorem st25 (g : Nat → Nat) {Post : Option Value → MS → Prop} {M : MS} {b : Int32} {j : Nat} {v : Option Value} (hj : j < 32) (hs : mS 29 M = nI j) (hl : lpB (uL1 M b)) (hP : Post (some (.int (b2i (uS2 b (6 * j) (uL1 M b)).1))) (uS2 b (6 * j) (uL1 M b)).2) : bk_X4_statement_25 g Post [some (.ref (g 30)), some (.int b), v] [] M := by
  have w0 : vp_in (nI j) 32 := vp_in_nI hj (by decide)
  have ck : (nI j).toNatClampNeg = j := nI_clamp (by omega)
  have cp : (nI (6 * j)).toNatClampNeg = 6 * j := nI_clamp (by omega)
  have cp1 : (nI (6 * j + 1)).toNatClampNeg = 6 * j + 1 := nI_clamp (by omega)
  have cp2 : (nI (6 * j + 2)).toNatClampNeg = 6 * j + 2 := nI_clamp (by omega)
  have e6 : (6 : Int32) * nI j = nI (6 * j) := pk_mul 6 j
  have ep1 : nI (6 * j) + 1 = nI (6 * j + 1) := nI_add _ 1
  have ep2 : nI (6 * j) + 2 = nI (6 * j + 2) := nI_add _ 2
  have c1 : (1 : Int32).toNatClampNeg = 1 := by decide
  have c2 : (2 : Int32).toNatClampNeg = 2 := by decide
  have c3 : (3 : Int32).toNatClampNeg = 3 := by decide
  have c4 : (4 : Int32).toNatClampNeg = 4 := by decide
  have c5 : (5 : Int32).toNatClampNeg = 5 := by decide
  have q3 : ∃ q n, q + n ≤ 192 ∧ nI (6 * j) = nI q ∧ (3 : Int32) = nI n := ⟨6 * j, 3, by omega, rfl, rfl⟩
  have q5 : ∃ q n, q + n ≤ 192 ∧ nI (6 * j) = nI q ∧ (5 : Int32) = nI n := ⟨6 * j, 5, by omega, rfl, rfl⟩
  have q4 : ∃ q n, q + n ≤ 192 ∧ nI (6 * j + 2) = nI q ∧ (4 : Int32) = nI n := ⟨6 * j + 2, 4, by omega, rfl, rfl⟩
  have r0 : ixB 192 (nI (6 * j)) ∧ ∃ n, n ≤ 9 ∧ (1 : Int32) = nI n := ⟨⟨_, by omega, rfl⟩, 1, by decide, rfl⟩
  have r1 : ixB 192 (nI (6 * j + 1)) ∧ ∃ n, n ≤ 9 ∧ (2 : Int32) = nI n := ⟨⟨_, by omega, rfl⟩, 2, by decide, rfl⟩
  have eM : msS 28 (maA 25 (maA 24 M j b) j (mS 28 M)) (mS 28 M + 1) = uL1 M b := by unfold uL1 uSts; rw [hs, ck]
  simp only [wIload, wAload, wLload, wK, wB, wDv, wU, wLB, wLU, wLS, wL2i, wLcmp, wIf1, wIf2, wKeep, wInc, wIst, wAst, wLst, wDup, wPop, wDup2, wGet, wPut, wPutZ, wIald, wLald, wIast, wLast, wLen, wRetI, wRetZ, wRetL, wRetA, wRetV, wM1, wM2, wCpy, wTab, tabW, nth, stL, stL2, dropL, keepL, mkL, padL, restOK, restOKn, tl_some, tl_none, id_eq, eq_self, true_and, and_true, bk_X4_statement_95, bk_X4_statement_94, bk_X4_statement_125, bk_X4_statement_124, bk_X4_statement_180, bk_X4_statement_179, bk_X4_statement_25, F_X4_isNext, F_X4_next, F_X4_reads, F_X4_readsDigits, cf_RII_e, cf_RI_e, cf_R_e, mS_S, mA_A, mS_A, mA_S, mS_a, mA_a, Nat.reduceEqDiff, reduceIte, hs, ck, w0, e6, b2i_eq0]
  rw [eM]
  generalize uL1 M b = N at hl hP ⊢
  have s5 := (mv_rds 5 (6 * j) hl).1
  have s3 := (mv_rds 3 (6 * j) hl).1
  have t1 := (mv_rd hl (6 * j) 1).1
  have t2 := (mv_rd t1 (6 * j + 1) 2).1
  have t3 := (mv_n0 t2 (b := 44) (by decide)).1
  have t4 := (mv_rds 4 (6 * j + 2) t3).1
  simp only [cp, cp1, cp2, ep1, ep2, c1, c2, c3, c4, c5, q3, q5, q4, r0, r1, hl, s5, s3, t1, t2, t3, t4, true_and, and_true]
  unfold uS2 uSn uSp anB at hP
  by_cases h1 : b = 110
  · rw [if_pos h1] at hP
    simp only [h1, false_implies, true_implies, not_true_eq_false, not_false_eq_true, true_and, and_true, implies_true, eq_self, ne_eq, true_or, or_true, false_or, or_false, and_self]
    repeat' first | refine And.intro ?_ ?_ | intro _
    all_goals grind [b2i]
  · by_cases h2 : b = 108
    · rw [if_neg h1, if_pos h2] at hP
      have h3 : ¬ (108 : Int32) = 110 := by decide
      simp only [h2, h3, false_implies, true_implies, not_true_eq_false, not_false_eq_true, true_and, and_true, implies_true, eq_self, ne_eq, true_or, or_true, false_or, or_false, and_self]
      repeat' first | refine And.intro ?_ ?_ | intro _
      all_goals grind [b2i]
    · rw [if_neg h1, if_neg h2] at hP
      simp only [h1, h2, false_implies, true_implies, not_true_eq_false, not_false_eq_true, true_and, and_true, implies_true, eq_self, ne_eq, true_or, or_true, false_or, or_false, and_self]
      repeat' first | refine And.intro ?_ ?_ | intro _
      all_goals grind [b2i]
theorem k_X4_statement (B : Bx) (g : Nat → Nat) : MtF (gx B) yX4_statement wsX4_statement (rmD 3) (encM B g) (F_X4_statement g) := by
  refine cf_R_i (fun l M h => Mt.of (by decide) rfl (Nat.le_of_ble_eq_true rfl) rfl (fun X C R => s_X4_statement_0 B g C R) ?_)
  obtain ⟨h1, j, hj, hs⟩ := h
  have hk := fun (hb : uNx M = 112 ∨ uNx M = 110 ∨ uNx M = 108) (v : Option Value) => st25 (Post := fun o u => o = some (.int (b2i (uSt M).1)) ∧ u = (uSt M).2) (b := uNx M) (v := v) g hj hs (lpB_L1 h1 (uNx_lt (by rcases hb with e | e | e <;> (rw [e]; decide))) (uNx M)).1 (by
    have ec : uSts M = j := by unfold uSts; rw [hs, nI_clamp (by omega)]
    have e : uSt M = uS2 (uNx M) (6 * j) (uL1 M (uNx M)) := by unfold uSt; rw [if_pos hb, ec]
    rw [e]
    exact ⟨rfl, rfl⟩)
  simp only [wIload, wAload, wLload, wK, wB, wDv, wU, wLB, wLU, wLS, wL2i, wLcmp, wIf1, wIf2, wKeep, wInc, wIst, wAst, wLst, wDup, wPop, wDup2, wGet, wPut, wPutZ, wIald, wLald, wIast, wLast, wLen, wRetI, wRetZ, wRetL, wRetA, wRetV, wM1, wM2, wCpy, wTab, tabW, nth, stL, stL2, dropL, keepL, mkL, padL, restOK, restOKn, tl_some, tl_none, id_eq, eq_self, true_and, and_true, bk_X4_statement_0, F_X4_isNext, F_X4_next, F_X4_reads, F_X4_readsDigits, cf_RII_e, cf_RI_e, cf_R_e, h1]
  refine ⟨fun b1 => hk (Or.inl b1) none, fun b1 => ⟨fun b2 => hk (Or.inr (Or.inl b2)) none, fun b2 => ⟨fun b3 => hk (Or.inr (Or.inr b3)) none, fun b3 => ?_⟩⟩⟩
  have e : uSt M = (false, M) := if_neg (by rintro (h | h | h) <;> contradiction)
  rw [e]
  exact ⟨Or.inl trivial, rfl, rfl⟩
end
