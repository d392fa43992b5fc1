noncomputable section
theorem hpB_le {a b : Nat} {M : MS} (h : hpB a M) (hab : a ≤ b) : hpB b M := ⟨h.choose, Nat.le_trans h.choose_spec.1 hab, h.choose_spec.2⟩
theorem mOK_le {a b : Nat} {M : MS} (h : mOK a M) (hab : a ≤ b) : mOK b M := ⟨hpB_le h.1 hab, h.2⟩
theorem uW_S (i : Nat) (hi : ¬ i = 17) (M : MS) (a b c n : Int32) : mS i (uW M a b c n) = mS i M := by
  unfold uW uW0
  split
  · rw [mS_S, if_neg hi]; rfl
  · rw [mS_a, mS_S, if_neg hi]; rfl
theorem uW_17 (M : MS) (a b c n : Int32) : mS 17 (uW M a b c n) = mS 17 M + 1 := by
  unfold uW uW0
  split
  · rw [mS_S, if_pos rfl]
  · rw [mS_a, mS_S, if_pos rfl]
theorem uW_A (i : Nat) (hi : i < 9 ∨ 14 < i) (M : MS) (a b c n : Int32) : mA i (uW M a b c n) = mA i M := by
  unfold uW uW0
  split
  · simp only [mA_S, mA_a]
    rw [if_neg (by omega), if_neg (by omega), if_neg (by omega), if_neg (by omega), if_neg (by omega)]
  · simp only [mA_S, mA_a]
    rw [if_neg (by omega), if_neg (by omega), if_neg (by omega), if_neg (by omega), if_neg (by omega), if_neg (by omega)]
theorem uW_9 (M : MS) (a b c n : Int32) : mA 9 (uW M a b c n) = if n < 0 then mA 9 M else upd (mA 9 M) n.toNatClampNeg (mA 9 M n.toNatClampNeg + 1) := by
  unfold uW uW0
  split
  · simp only [mA_S, mA_a, Nat.reduceEqDiff, reduceIte]
  · simp only [mA_S, mA_a, Nat.reduceEqDiff, reduceIte]
theorem uW0_10 (M : MS) (a b c n : Int32) : mA 10 (uW0 M a b c n) = upd (mA 10 M) (uHelps M) a := by
  unfold uW0
  rw [mA_S, mA_a, if_neg (by decide), mA_a, if_neg (by decide), mA_a, if_neg (by decide), mA_a, if_neg (by decide), mA_a, if_pos rfl]
theorem uW_10 (M : MS) (a b c n : Int32) : mA 10 (uW M a b c n) = upd (mA 10 M) (uHelps M) a := by
  unfold uW
  split
  · exact uW0_10 M a b c n
  · rw [mA_a, if_neg (by decide)]
    exact uW0_10 M a b c n
theorem uW0_11 (M : MS) (a b c n : Int32) : mA 11 (uW0 M a b c n) = upd (mA 11 M) (uHelps M) b := by
  unfold uW0
  rw [mA_S, mA_a, if_neg (by decide), mA_a, if_neg (by decide), mA_a, if_neg (by decide), mA_a, if_pos rfl, mA_a, if_neg (by decide)]
theorem uW_11 (M : MS) (a b c n : Int32) : mA 11 (uW M a b c n) = upd (mA 11 M) (uHelps M) b := by
  unfold uW
  split
  · exact uW0_11 M a b c n
  · rw [mA_a, if_neg (by decide)]
    exact uW0_11 M a b c n
theorem uW0_12 (M : MS) (a b c n : Int32) : mA 12 (uW0 M a b c n) = upd (mA 12 M) (uHelps M) (mS 22 M) := by
  unfold uW0
  rw [mA_S, mA_a, if_neg (by decide), mA_a, if_neg (by decide), mA_a, if_pos rfl, mA_a, if_neg (by decide), mA_a, if_neg (by decide)]
theorem uW_12 (M : MS) (a b c n : Int32) : mA 12 (uW M a b c n) = upd (mA 12 M) (uHelps M) (mS 22 M) := by
  unfold uW
  split
  · exact uW0_12 M a b c n
  · rw [mA_a, if_neg (by decide)]
    exact uW0_12 M a b c n
theorem uW0_13 (M : MS) (a b c n : Int32) : mA 13 (uW0 M a b c n) = upd (mA 13 M) (uHelps M) c := by
  unfold uW0
  rw [mA_S, mA_a, if_neg (by decide), mA_a, if_pos rfl, mA_a, if_neg (by decide), mA_a, if_neg (by decide), mA_a, if_neg (by decide)]
theorem uW_13 (M : MS) (a b c n : Int32) : mA 13 (uW M a b c n) = upd (mA 13 M) (uHelps M) c := by
  unfold uW
  split
  · exact uW0_13 M a b c n
  · rw [mA_a, if_neg (by decide)]
    exact uW0_13 M a b c n
theorem uW0_14 (M : MS) (a b c n : Int32) : mA 14 (uW0 M a b c n) = upd (mA 14 M) (uHelps M) (if n = 12 then -1 else n) := by
  unfold uW0
  rw [mA_S, mA_a, if_pos rfl, mA_a, if_neg (by decide), mA_a, if_neg (by decide), mA_a, if_neg (by decide), mA_a, if_neg (by decide)]
theorem uW_14 (M : MS) (a b c n : Int32) : mA 14 (uW M a b c n) = upd (mA 14 M) (uHelps M) (if n = 12 then -1 else n) := by
  unfold uW
  split
  · exact uW0_14 M a b c n
  · rw [mA_a, if_neg (by decide)]
    exact uW0_14 M a b c n
theorem hpB_W {b : Nat} {M : MS} (h : hpB b M) (x y z n : Int32) : hpB (b + 1) (uW M x y z n) := by
  obtain ⟨H, h1, h2⟩ := h
  exact ⟨H + 1, by omega, by rw [uW_17, h2, nI_1]⟩
theorem nwB_W {M : MS} (h : nwB M) (x y z n : Int32) : nwB (uW M x y z n) := by
  intro k hk
  rw [uW_A 4 (by omega), uW_A 5 (by omega)]
  exact h k hk
theorem nnB_of {M M' : MS} (h : nnB M) (e : mS 16 M' = mS 16 M) : nnB M' := by unfold nnB; rw [e]; exact h
theorem ppB_of {M M' : MS} (h : ppB M) (e : mS 15 M' = mS 15 M) : ppB M' := by unfold ppB; rw [e]; exact h
theorem rwB_of {M M' : MS} (h : rwB M) (e : mS 35 M' = mS 35 M) : rwB M' := by unfold rwB; rw [e]; exact h
theorem hpB_of {b : Nat} {M M' : MS} (h : hpB b M) (e : mS 17 M' = mS 17 M) : hpB b M' := by unfold hpB; rw [e]; exact h
theorem nwB_of {M M' : MS} (h : nwB M) (e : mA 4 M' = mA 4 M) (e2 : mA 5 M' = mA 5 M) : nwB M' := by unfold nwB; rw [e, e2]; exact h
theorem mOK_W {b : Nat} {M : MS} (h : mOK b M) (x y z n : Int32) : mOK (b + 1) (uW M x y z n) := ⟨hpB_W h.1 _ _ _ _, nwB_W h.2.1 _ _ _ _, nnB_of h.2.2.1 (uW_S 16 (by decide) _ _ _ _ _), ppB_of h.2.2.2.1 (uW_S 15 (by decide) _ _ _ _ _), rwB_of h.2.2.2.2 (uW_S 35 (by decide) _ _ _ _ _)⟩
def uAsk (M : MS) (p h gr : Int32) : MS := maA 9 (maA 8 (maA 7 (maA 6 (maA 5 (maA 4 M 12 p) 12 h) 12 gr) 12 1) 12 (mS 22 M)) 12 0
theorem uAsk_S (i : Nat) (M : MS) (p h gr : Int32) : mS i (uAsk M p h gr) = mS i M := rfl
theorem uAsk_A (i : Nat) (hi : i < 4 ∨ 9 < i) (M : MS) (p h gr : Int32) : mA i (uAsk M p h gr) = mA i M := by
  unfold uAsk
  simp only [mA_a]
  rw [if_neg (by omega), if_neg (by omega), if_neg (by omega), if_neg (by omega), if_neg (by omega), if_neg (by omega)]
theorem upd_ne {f : Nat → Int32} {k j : Nat} {v : Int32} (h : ¬ j = k) : upd f k v j = f j := by unfold upd; rw [if_neg h]
theorem upd_eq {f : Nat → Int32} {k : Nat} {v : Int32} : upd f k v k = v := by unfold upd; rw [if_pos rfl]
theorem uAsk_4 (M : MS) (p h gr : Int32) : mA 4 (uAsk M p h gr) = upd (mA 4 M) 12 p := rfl
theorem uAsk_5 (M : MS) (p h gr : Int32) : mA 5 (uAsk M p h gr) = upd (mA 5 M) 12 h := rfl
theorem uAsk_6 (M : MS) (p h gr : Int32) : mA 6 (uAsk M p h gr) = upd (mA 6 M) 12 gr := rfl
theorem uAsk_7 (M : MS) (p h gr : Int32) : mA 7 (uAsk M p h gr) = upd (mA 7 M) 12 1 := rfl
theorem uAsk_8 (M : MS) (p h gr : Int32) : mA 8 (uAsk M p h gr) = upd (mA 8 M) 12 (mS 22 M) := rfl
theorem uAsk_9 (M : MS) (p h gr : Int32) : mA 9 (uAsk M p h gr) = upd (mA 9 M) 12 0 := rfl
theorem nwB_ask {M : MS} (h : nwB M) {p q gr : Int32} (hp : ixB 7 p) (hq : ixB 4 q) : nwB (uAsk M p q gr) := by
  intro k hk
  rw [uAsk_4, uAsk_5]
  by_cases e : k = 12
  · subst e
    rw [upd_eq, upd_eq]
    exact ⟨hp, hq⟩
  · rw [upd_ne e, upd_ne e]
    exact h k hk
theorem mOK_ask {b : Nat} {M : MS} (h : mOK b M) {p q gr : Int32} (hp : ixB 7 p) (hq : ixB 4 q) : mOK b (uAsk M p q gr) := ⟨h.1, nwB_ask h.2.1 hp hq, h.2.2⟩
def F_X4_asks (g : Nat → Nat) : CF MS := cf_RIII (g 30) (fun _ _ _ _ => True) (fun _ _ _ _ => none) (fun M a b c => uAsk M a b c)
theorem inw_X4_asks_X4 : ∀ w ∈ u_ws RX4 TX4 45, w ∈ wsX4_asks := by decide +kernel
def bk_X4_asks_0 (g : Nat → Nat) (Post : Option Value → MS → Prop)  (L : Lc) (st : List Value) (s : MS) : Prop :=
  (wAload 0 <| wGet (g 30) (fun _ => .ref (g 35)) <| wK (.int 12) <| wIload 1 <| wIast (g 35) 13 (maA 4) <| wAload 0 <| wGet (g 30) (fun _ => .ref (g 36)) <| wK (.int 12) <| wIload 2 <| wIast (g 36) 13 (maA 5) <| wAload 0 <| wGet (g 30) (fun _ => .ref (g 37)) <| wK (.int 12) <| wIload 3 <| wIast (g 37) 13 (maA 6) <| wAload 0 <| wGet (g 30) (fun _ => .ref (g 38)) <| wK (.int 12) <| wK (.int 1) <| wIast (g 38) 13 (maA 7) <| wAload 0 <| wGet (g 30) (fun _ => .ref (g 39)) <| wK (.int 12) <| wAload 0 <| wGet (g 30) (fun s => .int (mS 22 s)) <| wIast (g 39) 13 (maA 8) <| wAload 0 <| wGet (g 30) (fun _ => .ref (g 40)) <| wK (.int 12) <| wK (.int 0) <| wIast (g 40) 13 (maA 9) <| wRetV Post) L st s
set_option maxRecDepth 20000 in
theorem s_X4_asks_0 {X : Cx} (B : Bx) (g : Nat → Nat) {Post : Option Value → MS → Prop} (C : OkX X (gx B) cX4_asks 4 wsX4_asks RX4 (rmD 0)) (R : RtX X (gx B) none (encM B g) Post)  : Snd X (gx B) 4 (encM B g) 0 (bk_X4_asks_0 g Post ) := by
  unfold bk_X4_asks_0
  refine s_aload_n C rfl dX4_asks_0 ?_
  refine s_get C inw_X4_asks_X4 rfl (k := 4) (by decide) (by decide +kernel) (heM_0 B g) (fun _ => rfl) dX4_asks_1 ?_
  refine s_bipush C (by decide) dX4_asks_4 ?_
  refine s_iload_n C rfl dX4_asks_6 ?_
  refine s_iast C (heM_5 B g) (fun _ _ _ => rfl) dX4_asks_7 ?_
  refine s_aload_n C rfl dX4_asks_8 ?_
  refine s_get C inw_X4_asks_X4 rfl (k := 5) (by decide) (by decide +kernel) (heM_0 B g) (fun _ => rfl) dX4_asks_9 ?_
  refine s_bipush C (by decide) dX4_asks_12 ?_
  refine s_iload_n C rfl dX4_asks_14 ?_
  refine s_iast C (heM_6 B g) (fun _ _ _ => rfl) dX4_asks_15 ?_
  refine s_aload_n C rfl dX4_asks_16 ?_
  refine s_get C inw_X4_asks_X4 rfl (k := 6) (by decide) (by decide +kernel) (heM_0 B g) (fun _ => rfl) dX4_asks_17 ?_
  refine s_bipush C (by decide) dX4_asks_20 ?_
  refine s_iload_n C rfl dX4_asks_22 ?_
  refine s_iast C (heM_7 B g) (fun _ _ _ => rfl) dX4_asks_23 ?_
  refine s_aload_n C rfl dX4_asks_24 ?_
  refine s_get C inw_X4_asks_X4 rfl (k := 7) (by decide) (by decide +kernel) (heM_0 B g) (fun _ => rfl) dX4_asks_25 ?_
  refine s_bipush C (by decide) dX4_asks_28 ?_
  refine s_iconst C (by decide) dX4_asks_30 ?_
  refine s_iast C (heM_8 B g) (fun _ _ _ => rfl) dX4_asks_31 ?_
  refine s_aload_n C rfl dX4_asks_32 ?_
  refine s_get C inw_X4_asks_X4 rfl (k := 8) (by decide) (by decide +kernel) (heM_0 B g) (fun _ => rfl) dX4_asks_33 ?_
  refine s_bipush C (by decide) dX4_asks_36 ?_
  refine s_aload_n C rfl dX4_asks_38 ?_
  refine s_get C inw_X4_asks_X4 rfl (k := 22) (by decide) (by decide +kernel) (heM_0 B g) (fun _ => rfl) dX4_asks_39 ?_
  refine s_iast C (heM_9 B g) (fun _ _ _ => rfl) dX4_asks_42 ?_
  refine s_aload_n C rfl dX4_asks_43 ?_
  refine s_get C inw_X4_asks_X4 rfl (k := 9) (by decide) (by decide +kernel) (heM_0 B g) (fun _ => rfl) dX4_asks_44 ?_
  refine s_bipush C (by decide) dX4_asks_47 ?_
  refine s_iconst C (by decide) dX4_asks_49 ?_
  refine s_iast C (heM_10 B g) (fun _ _ _ => rfl) dX4_asks_50 ?_
  exact s_vret C R dX4_asks_51
theorem k_X4_asks (B : Bx) (g : Nat → Nat) : MtF (gx B) yX4_asks wsX4_asks (rmD 0) (encM B g) (F_X4_asks g) := by
  refine cf_RIII_i (fun l M a b c _ => Mt.of (by decide) rfl (Nat.le_of_ble_eq_true rfl) rfl (fun X C R => s_X4_asks_0 B g C R) ?_)
  have w0 : vp_in 12 13 := vp_lit 12 (by decide) (by decide)
  simp only [wIload, wAload, wLload, wK, wB, wDv, wU, wLB, wLU, wLS, wL2i, wLcmp, wIf1, wIf2, wKeep, wInc, wIst, wAst, wLst, wDup, wPop, wDup2, wGet, wPut, wPutZ, wIald, wLald, wIast, wLast, wLen, wRetI, wRetZ, wRetL, wRetA, wRetV, wM1, wM2, wCpy, wTab, tabW, nth, stL, stL2, dropL, keepL, mkL, padL, restOK, restOKn, tl_some, tl_none, id_eq, eq_self, true_and, and_true, bk_X4_asks_0, mS_S, mA_A, mS_A, mA_S, mS_a, mA_a, Nat.reduceEqDiff, reduceIte, w0]
  exact rfl
theorem uChF_ix (M : MS) (r n : Int32) : ∀ k, (uChF M r n k).1 < 0 ∨ ixB k (uChF M r n k).1 := by
  intro k
  induction k with
  | zero => exact Or.inl (show (-9 : Int32) < 0 by decide)
  | succ k ih =>
    have ih' : (uChF M r n k).1 < 0 ∨ ixB (k + 1) (uChF M r n k).1 := ih.imp id (fun h => ixB_le h (Nat.le_succ k))
    simp only [uChF]
    split
    · split
      · exact ih'
      · exact Or.inr ⟨k, Nat.lt_succ_self k, rfl⟩
    · exact ih'
theorem uChose_ix {b : Nat} {M : MS} (h : mOK b M) (r n : Int32) : uChose M r n < 0 ∨ ixB 7 (uChose M r n) := by
  unfold uChose
  split
  · unfold uTold
    split
    · rename_i hlt
      have key : ∀ m, firstIdx (uTok M n) m < m → uTok M n (firstIdx (uTok M n) m) = true := by
        intro m
        induction m with
        | zero => intro h; omega
        | succ m ih =>
          intro h
          simp only [firstIdx] at h ⊢
          split
          · rename_i h2; exact ih h2
          · rename_i h2
            rw [if_neg h2] at h
            split
            · rename_i h3; exact h3
            · rename_i h3; rw [if_neg h3] at h; omega
      have := key _ hlt
      unfold uTok at this
      rw [Bool.and_eq_true] at this
      exact Or.inr (uOne_ix h.2.2.2.1 this.1)
    · exact Or.inl (by decide)
  · rcases uChF_ix M r n (uPeople M) with h1 | h1
    · exact Or.inl h1
    · exact Or.inr (ixB_le h1 (ppB_c h.2.2.2.1).2)
def uAns (M : MS) (r : Int32) : Int32 × MS := if uChose M r 12 < 0 then (-1, M) else (uGood M (uChose M r 12).toNatClampNeg 12, uW M (uChose M r 12) (mA 4 M 12) (mA 6 M 12) 12)
def F_X4_answers (g : Nat → Nat) : CF MS := cf_RI (g 30) (fun M _ => mOK 399 M) (fun M r => some (.int (uAns M r).1)) (fun M r => (uAns M r).2)
theorem inw_X4_answers_X4 : ∀ w ∈ u_ws RX4 TX4 45, w ∈ wsX4_answers := by decide +kernel
def bk_X4_answers_0 (g : Nat → Nat) (Post : Option Value → MS → Prop)  (L : Lc) (st : List Value) (s : MS) : Prop :=
  (wAload 0 <| wIload 1 <| wK (.int 12) <| wCallR 3 (F_X4_chooses g) id (fun _ u => u) <| wIst 2 <| wIload 2 <| wIf1 (fun x => 0 ≤ x) (wAload 0 <| wIload 2 <| wK (.int 12) <| wCallR 3 (F_X4_goodOf g) id (fun _ u => u) <| wIst 3 <| wAload 0 <| wIload 2 <| wAload 0 <| wGet (g 30) (fun _ => .ref (g 35)) <| wK (.int 12) <| wIald (g 35) 13 (mA 4) <| wAload 0 <| wGet (g 30) (fun _ => .ref (g 37)) <| wK (.int 12) <| wIald (g 37) 13 (mA 6) <| wK (.int 12) <| wCallR 5 (F_X4_writes g) id (fun _ u => u) <| wIload 3 <| wRetI Post) (wK (.int (-1)) <| wRetI Post)) L st s
set_option maxRecDepth 20000 in
theorem s_X4_answers_0 {X : Cx} (B : Bx) (g : Nat → Nat) {Post : Option Value → MS → Prop} (C : OkX X (gx B) cX4_answers 4 wsX4_answers RX4 (rmD 6)) (R : RtX X (gx B) (some .int) (encM B g) Post)  : Snd X (gx B) 4 (encM B g) 0 (bk_X4_answers_0 g Post ) := by
  unfold bk_X4_answers_0
  refine s_aload_n C rfl dX4_answers_0 ?_
  refine s_iload_n C rfl dX4_answers_1 ?_
  refine s_bipush C (by decide) dX4_answers_2 ?_
  refine s_callV C (fr_M_M B g) (k_X4_chooses B g) gX4_answers_X4_chooses rfl (by decide +kernel) ⟨rfl, rfl⟩ (by decide) rfl (fun s => ⟨_, heM_0 B g s⟩) (cf_RII_r _ _ _ _) dX4_answers_4 ?_
  refine s_istore_n C rfl (by decide) dX4_answers_7 ?_
  refine s_iload_n C rfl dX4_answers_8 ?_
  refine s_if_ge C (tgt := 14) (by decide) dX4_answers_9 ?_ ?_
  · refine s_aload_n C rfl dX4_answers_14 ?_
    refine s_iload_n C rfl dX4_answers_15 ?_
    refine s_bipush C (by decide) dX4_answers_16 ?_
    refine s_callV C (fr_M_M B g) (k_X4_goodOf B g) gX4_answers_X4_goodOf rfl (by decide +kernel) ⟨rfl, rfl⟩ (by decide) rfl (fun s => ⟨_, heM_0 B g s⟩) (cf_RII_r _ _ _ _) dX4_answers_18 ?_
    refine s_istore_n C rfl (by decide) dX4_answers_21 ?_
    refine s_aload_n C rfl dX4_answers_22 ?_
    refine s_iload_n C rfl dX4_answers_23 ?_
    refine s_aload_n C rfl dX4_answers_24 ?_
    refine s_get C inw_X4_answers_X4 rfl (k := 4) (by decide) (by decide +kernel) (heM_0 B g) (fun _ => rfl) dX4_answers_25 ?_
    refine s_bipush C (by decide) dX4_answers_28 ?_
    refine s_iald C (heM_5 B g) dX4_answers_30 ?_
    refine s_aload_n C rfl dX4_answers_31 ?_
    refine s_get C inw_X4_answers_X4 rfl (k := 6) (by decide) (by decide +kernel) (heM_0 B g) (fun _ => rfl) dX4_answers_32 ?_
    refine s_bipush C (by decide) dX4_answers_35 ?_
    refine s_iald C (heM_7 B g) dX4_answers_37 ?_
    refine s_bipush C (by decide) dX4_answers_38 ?_
    refine s_callV C (fr_M_M B g) (k_X4_writes B g) gX4_answers_X4_writes rfl (by decide +kernel) ⟨rfl, rfl⟩ (by decide) rfl (fun s => ⟨_, heM_0 B g s⟩) (cf_RIIII_r _ _ _ _) dX4_answers_40 ?_
    refine s_iload_n C rfl dX4_answers_43 ?_
    exact s_iret C R dX4_answers_44
  · refine s_iconst C (by decide) dX4_answers_12 ?_
    exact s_iret C R dX4_answers_13
theorem ix12 : ixB 13 12 := ⟨12, by decide, rfl⟩
theorem k_X4_answers (B : Bx) (g : Nat → Nat) : MtF (gx B) yX4_answers wsX4_answers (rmD 6) (encM B g) (F_X4_answers g) := by
  refine cf_RI_i (fun l M r h => Mt.of (by decide) rfl (Nat.le_of_ble_eq_true rfl) rfl (fun X C R => s_X4_answers_0 B g C R) ?_)
  have w0 : vp_in 12 13 := vp_lit 12 (by decide) (by decide)
  have z12 : (12 : Int32).toNatClampNeg = 12 := rfl
  have h4 := mOK_le h (show 399 ≤ 400 by omega)
  have hx := uChose_ix h r 12
  have n12 : ¬ (12 : Int32) < 0 := by decide
  simp only [wIload, wAload, wLload, wK, wB, wDv, wU, wLB, wLU, wLS, wL2i, wLcmp, wIf1, wIf2, wKeep, wInc, wIst, wAst, wLst, wDup, wPop, wDup2, wGet, wPut, wPutZ, wIald, wLald, wIast, wLast, wLen, wRetI, wRetZ, wRetL, wRetA, wRetV, wM1, wM2, wCpy, wTab, tabW, nth, stL, stL2, dropL, keepL, mkL, padL, restOK, restOKn, tl_some, tl_none, id_eq, eq_self, true_and, and_true, bk_X4_answers_0, F_X4_chooses, F_X4_goodOf, F_X4_writes, cf_RIIII_e, cf_RII_e, w0, z12]
  refine ⟨⟨ix12, h4⟩, ?_⟩
  by_cases h0 : uChose M r 12 < 0
  · have e : uAns M r = (-1, M) := by unfold uAns; rw [if_pos h0]
    have h1 : ¬ 0 ≤ uChose M r 12 := Int32.not_le.mpr h0
    rw [e]
    simp only [h0, h1, false_implies, true_implies, not_true_eq_false, not_false_eq_true, true_and, and_true, implies_true, eq_self, ne_eq, true_or, or_true, false_or, or_false, and_self]
  · have e : uAns M r = (uGood M (uChose M r 12).toNatClampNeg 12, uW M (uChose M r 12) (mA 4 M 12) (mA 6 M 12) 12) := by unfold uAns; rw [if_neg h0]
    have h1 : 0 ≤ uChose M r 12 := Int32.not_lt.mp h0
    rw [e]
    simp only [h0, h1, false_implies, true_implies, not_true_eq_false, not_false_eq_true, true_and, and_true, implies_true, eq_self, ne_eq, true_or, or_true, false_or, or_false, and_self]
    exact ⟨⟨hx.resolve_left h0, ix12, h.2.1⟩, h.1, Or.inr ix12⟩
/-- one year of lasts: whether all are helped, and the model behind -/
def uLY (r h : Int32) : Nat → Nat → MS → Bool × MS
  | _, 0, M => (true, msS 22 M (mS 22 M + 1))
  | k, n + 1, M => if (uAns (uAsk M (nI k) h 5) r).1 < 0 then (false, (uAns (uAsk M (nI k) h 5) r).2) else uLY r h (k + 1) n (uAns (uAsk M (nI k) h 5) r).2
theorem uLY_s (r h : Int32) (k n : Nat) (M : MS) : uLY r h k (n + 1) M = if (uAns (uAsk M (nI k) h 5) r).1 < 0 then (false, (uAns (uAsk M (nI k) h 5) r).2) else uLY r h (k + 1) n (uAns (uAsk M (nI k) h 5) r).2 := rfl
theorem uAns_ok {b : Nat} {M : MS} (h : mOK b M) (r : Int32) : mOK (b + 1) (uAns M r).2 := by
  unfold uAns
  split
  · exact mOK_le h (by omega)
  · dsimp only
    exact mOK_W h _ _ _ _
theorem uAns_S (i : Nat) (hi : ¬ i = 17) (M : MS) (r : Int32) : mS i (uAns M r).2 = mS i M := by
  unfold uAns
  split
  · rfl
  · dsimp only
    exact uW_S i hi _ _ _ _ _
def F_X4_lastsYear (g : Nat → Nat) : CF MS := cf_RII (g 30) (fun M _ h => mOK 393 M ∧ ixB 4 h) (fun M r h => some (.int (b2i (uLY r h 0 (uPeople M) M).1))) (fun M r h => (uLY r h 0 (uPeople M) M).2)
theorem inw_X4_lastsYear_X4 : ∀ w ∈ u_ws RX4 TX4 45, w ∈ wsX4_lastsYear := by decide +kernel
def bk_X4_lastsYear_0 (g : Nat → Nat) (Post : Option Value → MS → Prop) (K2 : PT MS) (L : Lc) (st : List Value) (s : MS) : Prop :=
  (wK (.int 0) <| wIst 3 <| wKeep [true, true, true, true] K2) L st s
set_option maxRecDepth 20000 in
theorem s_X4_lastsYear_0 {X : Cx} (B : Bx) (g : Nat → Nat) {Post : Option Value → MS → Prop} (C : OkX X (gx B) cX4_lastsYear 4 wsX4_lastsYear RX4 (rmD 7)) (R : RtX X (gx B) (some .boolean) (encM B g) Post) {K2 : PT MS} (hK2 : Snd X (gx B) 4 (encM B g) 2 K2) : Snd X (gx B) 4 (encM B g) 0 (bk_X4_lastsYear_0 g Post K2) := by
  unfold bk_X4_lastsYear_0
  refine s_iconst C (by decide) dX4_lastsYear_0 ?_
  refine s_istore_n C rfl (by decide) dX4_lastsYear_1 ?_
  exact s_keep _ hK2
def bk_X4_lastsYear_2 (g : Nat → Nat) (Post : Option Value → MS → Prop) (K2 : PT MS) (L : Lc) (st : List Value) (s : MS) : Prop :=
  (wIload 3 <| wAload 0 <| wGet (g 30) (fun s => .int (mS 15 s)) <| wIf2 (fun x y => y ≤ x) (wAload 0 <| wDup <| wGet (g 30) (fun s => .int (mS 22 s)) <| wK (.int 1) <| wB (fun x y => x + y) <| wPut (g 30) (msS 22) <| wK (.int 1) <| wRetZ Post) (wAload 0 <| wIload 3 <| wIload 2 <| wK (.int 5) <| wCallR 4 (F_X4_asks g) id (fun _ u => u) <| wAload 0 <| wIload 1 <| wCallR 2 (F_X4_answers g) id (fun _ u => u) <| wIf1 (fun x => 0 ≤ x) (wInc 3 1 <| wKeep [true, true, true, true] K2) (wK (.int 0) <| wRetZ Post))) L st s
set_option maxRecDepth 20000 in
theorem s_X4_lastsYear_2 {X : Cx} (B : Bx) (g : Nat → Nat) {Post : Option Value → MS → Prop} (C : OkX X (gx B) cX4_lastsYear 4 wsX4_lastsYear RX4 (rmD 7)) (R : RtX X (gx B) (some .boolean) (encM B g) Post) {K2 : PT MS} (hK2 : Snd X (gx B) 4 (encM B g) 2 K2) : Snd X (gx B) 4 (encM B g) 2 (bk_X4_lastsYear_2 g Post K2) := by
  unfold bk_X4_lastsYear_2
  refine s_iload_n C rfl dX4_lastsYear_2 ?_
  refine s_aload_n C rfl dX4_lastsYear_3 ?_
  refine s_get C inw_X4_lastsYear_X4 rfl (k := 15) (by decide) (by decide +kernel) (heM_0 B g) (fun _ => rfl) dX4_lastsYear_4 ?_
  refine s_icmp_ge C (tgt := 33) (by decide) dX4_lastsYear_7 ?_ ?_
  · refine s_aload_n C rfl dX4_lastsYear_33 ?_
    refine s_dup C dX4_lastsYear_34 ?_
    refine s_get C inw_X4_lastsYear_X4 rfl (k := 22) (by decide) (by decide +kernel) (heM_0 B g) (fun _ => rfl) dX4_lastsYear_35 ?_
    refine s_iconst C (by decide) dX4_lastsYear_38 ?_
    refine s_iadd C dX4_lastsYear_39 ?_
    refine s_put C inw_X4_lastsYear_X4 rfl (k := 22) (by decide) (by decide +kernel) tyX4_ok nmX4 (by decide +kernel) (by decide +kernel) (heM_0 B g) (fun _ => Nat.le_of_ble_eq_true rfl) (fun _ _ => rfl) dX4_lastsYear_40 ?_
    refine s_iconst C (by decide) dX4_lastsYear_43 ?_
    exact s_zret C R dX4_lastsYear_44
  · refine s_aload_n C rfl dX4_lastsYear_10 ?_
    refine s_iload_n C rfl dX4_lastsYear_11 ?_
    refine s_iload_n C rfl dX4_lastsYear_12 ?_
    refine s_iconst C (by decide) dX4_lastsYear_13 ?_
    refine s_callV C (fr_M_M B g) (k_X4_asks B g) gX4_lastsYear_X4_asks rfl (by decide +kernel) ⟨rfl, rfl⟩ (by decide) rfl (fun s => ⟨_, heM_0 B g s⟩) (cf_RIII_r _ _ _ _) dX4_lastsYear_14 ?_
    refine s_aload_n C rfl dX4_lastsYear_17 ?_
    refine s_iload_n C rfl dX4_lastsYear_18 ?_
    refine s_callV C (fr_M_M B g) (k_X4_answers B g) gX4_lastsYear_X4_answers rfl (by decide +kernel) ⟨rfl, rfl⟩ (by decide) rfl (fun s => ⟨_, heM_0 B g s⟩) (cf_RI_r _ _ _ _) dX4_lastsYear_19 ?_
    refine s_if_ge C (tgt := 27) (by decide) dX4_lastsYear_22 ?_ ?_
    · refine s_iinc C (by decide) (by decide) dX4_lastsYear_27 ?_
      refine s_goto C (tgt := 2) (by decide) dX4_lastsYear_30 ?_
      exact s_keep _ hK2
    · refine s_iconst C (by decide) dX4_lastsYear_25 ?_
      exact s_zret C R dX4_lastsYear_26
def I_ly (g : Nat → Nat) (r h : Int32) (P : Nat) (fin : Bool × MS) (n : Nat) (L : Lc) (st : List Value) (s : MS) : Prop := ∃ k, n + k = P ∧ uPeople s = P ∧ mOK (393 + k) s ∧ st = [] ∧ L = [some (.ref (g 30)), some (.int r), some (.int h), some (.int (nI k))] ∧ uLY r h k n s = fin
theorem k_X4_lastsYear (B : Bx) (g : Nat → Nat) : MtF (gx B) yX4_lastsYear wsX4_lastsYear (rmD 7) (encM B g) (F_X4_lastsYear g) := by
  refine cf_RII_i (fun l M r h hp => ?_)
  obtain ⟨hm, hh⟩ := hp
  generalize hP : uPeople M = P
  generalize hfin : uLY r h 0 P M = fin
  refine Mt.of (P := bk_X4_lastsYear_0 g (fun o u => o = some (.int (b2i fin.1)) ∧ u = fin.2) (fun L st s => ∃ n, I_ly g r h P fin n L st s)) (by decide) rfl (Nat.le_of_ble_eq_true rfl) rfl (fun X C R => s_X4_lastsYear_0 B g C R (snd_loop _ (I_ly g r h P fin) (fun K hK => s_X4_lastsYear_2 B g C R hK) ?_)) ?_
  · rintro K n L st s ⟨k, hk, hpe, hok, rfl, rfl, hf⟩ hK
    obtain ⟨e1, e2⟩ := ppB_c hok.2.2.2.1
    rw [hpe] at e1 e2
    simp only [wIload, wAload, wLload, wK, wB, wDv, wU, wLB, wLU, wLS, wL2i, wLcmp, wIf1, wIf2, wKeep, wInc, wIst, wAst, wLst, wDup, wPop, wDup2, wGet, wPut, wPutZ, wIald, wLald, wIast, wLast, wLen, wRetI, wRetZ, wRetL, wRetA, wRetV, wM1, wM2, wCpy, wTab, tabW, nth, stL, stL2, dropL, keepL, mkL, padL, restOK, restOKn, tl_some, tl_none, id_eq, eq_self, true_and, and_true, bk_X4_lastsYear_0, bk_X4_lastsYear_2, F_X4_answers, F_X4_asks, cf_RIII_e, cf_RI_e, mS_S, mA_A, mS_A, mA_S, mS_a, mA_a, Nat.reduceEqDiff, reduceIte]
    rw [e1]
    rcases Nat.lt_or_ge k P with hlt | hge
    · have h1 : ¬ nI P ≤ nI k := nI_ge hlt (by omega)
      obtain ⟨n, rfl⟩ : ∃ m, n = m + 1 := ⟨n - 1, by omega⟩
      rw [uLY_s] at hf
      have hk2 : mOK (393 + k) (uAsk s (nI k) h 5) := mOK_ask hok ⟨k, by omega, rfl⟩ hh
      have hk3 := uAns_ok hk2 r
      have hk4 : mOK 399 (uAsk s (nI k) h 5) := mOK_le hk2 (by omega)
      have hs : uPeople (uAns (uAsk s (nI k) h 5) r).2 = P := by unfold uPeople; rw [uAns_S 15 (by decide)]; exact hpe
      generalize uAns (uAsk s (nI k) h 5) r = q at hf hk3 hs ⊢
      by_cases h2 : q.1 < 0
      · rw [if_pos h2] at hf
        subst hf
        have h3 : ¬ 0 ≤ q.1 := Int32.not_le.mpr h2
        simp only [h1, h3, hk4, b2i_f, false_implies, true_implies, not_true_eq_false, not_false_eq_true, true_and, and_true, implies_true, eq_self, ne_eq, true_or, or_true, false_or, or_false, and_self]
      · rw [if_neg h2] at hf
        have h3 : 0 ≤ q.1 := Int32.not_lt.mp h2
        have hc := hK n _ _ _ (by omega) ⟨k + 1, by omega, hs, hk3, rfl, rfl, hf⟩
        rw [← nI_1] at hc
        simp only [h1, h3, hk4, false_implies, true_implies, not_true_eq_false, not_false_eq_true, true_and, and_true, implies_true, eq_self, ne_eq, true_or, or_true, false_or, or_false, and_self]
        exact hc
    · have h1 : nI P ≤ nI k := nI_le hge (by omega)
      have h0 : n = 0 := by omega
      subst h0
      have hf : (true, msS 22 s (mS 22 s + 1)) = fin := hf
      subst hf
      simp only [h1, b2i_t, false_implies, true_implies, not_true_eq_false, not_false_eq_true, true_and, and_true, implies_true, eq_self, ne_eq, true_or, or_true, false_or, or_false, and_self]
      all_goals first | done | exact ⟨Or.inr rfl, rfl⟩ | trivial
  · simp only [wIload, wAload, wLload, wK, wB, wDv, wU, wLB, wLU, wLS, wL2i, wLcmp, wIf1, wIf2, wKeep, wInc, wIst, wAst, wLst, wDup, wPop, wDup2, wGet, wPut, wPutZ, wIald, wLald, wIast, wLast, wLen, wRetI, wRetZ, wRetL, wRetA, wRetV, wM1, wM2, wCpy, wTab, tabW, nth, stL, stL2, dropL, keepL, mkL, padL, restOK, restOKn, tl_some, tl_none, id_eq, eq_self, true_and, and_true, bk_X4_lastsYear_0, bk_X4_lastsYear_2, F_X4_answers, F_X4_asks, cf_RIII_e, cf_RI_e]
    exact ⟨P, 0, by omega, hP, hm, rfl, rfl, hfin⟩
def F_X4_draw (g : Nat → Nat) : CF MS := cf_RI (g 30) (fun _ n => ¬ n = 0) (fun M n => some (.int (drawF (nxSeed (mS 44 M)) n))) (fun M _ => msS 44 M (nxSeed (mS 44 M)))
theorem inw_X4_draw_X4 : ∀ w ∈ u_ws RX4 TX4 45, w ∈ wsX4_draw := by decide +kernel
def bk_X4_draw_0 (g : Nat → Nat) (Post : Option Value → MS → Prop)  (L : Lc) (st : List Value) (s : MS) : Prop :=
  (wAload 0 <| wAload 0 <| wGet (g 30) (fun s => .int (mS 44 s)) <| wK (.int 1103515245) <| wB (fun x y => x * y) <| wK (.int 12345) <| wB (fun x y => x + y) <| wPut (g 30) (msS 44) <| wAload 0 <| wGet (g 30) (fun s => .int (mS 44 s)) <| wK (.int 2147483647) <| wB (fun x y => x &&& y) <| wK (.int 65536) <| wDv (fun x y => x / y) <| wIload 1 <| wDv (fun x y => x - x / y * y) <| wRetI Post) L st s
set_option maxRecDepth 20000 in
theorem s_X4_draw_0 {X : Cx} (B : Bx) (g : Nat → Nat) {Post : Option Value → MS → Prop} (C : OkX X (gx B) cX4_draw 2 wsX4_draw RX4 (rmD 0)) (R : RtX X (gx B) (some .int) (encM B g) Post)  : Snd X (gx B) 2 (encM B g) 0 (bk_X4_draw_0 g Post ) := by
  unfold bk_X4_draw_0
  refine s_aload_n C rfl dX4_draw_0 ?_
  refine s_aload_n C rfl dX4_draw_1 ?_
  refine s_get C inw_X4_draw_X4 rfl (k := 44) (by decide) (by decide +kernel) (heM_0 B g) (fun _ => rfl) dX4_draw_2 ?_
  refine s_ldc_w C (by decide +kernel) dX4_draw_5 ?_
  refine s_imul C dX4_draw_8 ?_
  refine s_sipush C (by decide) dX4_draw_9 ?_
  refine s_iadd C dX4_draw_12 ?_
  refine s_put C inw_X4_draw_X4 rfl (k := 44) (by decide) (by decide +kernel) tyX4_ok nmX4 (by decide +kernel) (by decide +kernel) (heM_0 B g) (fun _ => Nat.le_of_ble_eq_true rfl) (fun _ _ => rfl) dX4_draw_13 ?_
  refine s_aload_n C rfl dX4_draw_16 ?_
  refine s_get C inw_X4_draw_X4 rfl (k := 44) (by decide) (by decide +kernel) (heM_0 B g) (fun _ => rfl) dX4_draw_17 ?_
  refine s_ldc_w C (by decide +kernel) dX4_draw_20 ?_
  refine s_iand C dX4_draw_23 ?_
  refine s_ldc_w C (by decide +kernel) dX4_draw_24 ?_
  refine s_idiv C dX4_draw_27 ?_
  refine s_iload_n C rfl dX4_draw_28 ?_
  refine s_irem C dX4_draw_29 ?_
  exact s_iret C R dX4_draw_30
theorem k_X4_draw (B : Bx) (g : Nat → Nat) : MtF (gx B) yX4_draw wsX4_draw (rmD 0) (encM B g) (F_X4_draw g) := by
  refine cf_RI_i (fun l M n h => Mt.of (by decide) rfl (Nat.le_of_ble_eq_true rfl) rfl (fun X C R => s_X4_draw_0 B g C R) ?_)
  have h1 : ¬ (65536 : Int32) = 0 := by decide
  simp only [wIload, wAload, wLload, wK, wB, wDv, wU, wLB, wLU, wLS, wL2i, wLcmp, wIf1, wIf2, wKeep, wInc, wIst, wAst, wLst, wDup, wPop, wDup2, wGet, wPut, wPutZ, wIald, wLald, wIast, wLast, wLen, wRetI, wRetZ, wRetL, wRetA, wRetV, wM1, wM2, wCpy, wTab, tabW, nth, stL, stL2, dropL, keepL, mkL, padL, restOK, restOKn, tl_some, tl_none, id_eq, eq_self, true_and, and_true, bk_X4_draw_0, mS_S, mA_A, mS_A, mA_S, mS_a, mA_a, Nat.reduceEqDiff, reduceIte, h1, h]
  rw [drawF_eq, nxSeed_eq]
  exact ⟨not_false, not_false, rfl, rfl⟩
end
