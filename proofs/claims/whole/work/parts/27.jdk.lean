noncomputable section
def F_J0_coder_7d493 (B : Bx) (i : Nat) : CF Unit := cf_R (aK B i) (fun _ => True) (fun _ => some (.int 0)) (fun s => s)
theorem hK_J0_coder_7d493 (B : Bx) : ∀ i av s, (F_J0_coder_7d493 B i).1 av s → ∃ As, av = .ref (aK B i) :: As ∧ As.length = 0 := fun i => cf_R_r _ _ _ _

def bk_J0_coder_7d493_0 (B : Bx)  (Post : Option Value → Unit → Prop)  (L : Lc) (st : List Value) (s : Unit) : Prop :=
  (wK (.int 1) <| wIf1 (fun x => x = 0) (wNo) (wAload 0 <| wSCod B <| wRetN .byte Post)) L st s
set_option maxRecDepth 20000 in
theorem s_J0_coder_7d493_0 {X : Cx} (B : Bx)  {Post : Option Value → Unit → Prop} (C : OkX X (gx B) cJ0_coder_7d493 1 wsJ0_coder_7d493 RJ0 (rmD 0)) (R : RtX X (gx B) (some .byte) (encE) Post)  : Snd X (gx B) 1 (encE) 0 (bk_J0_coder_7d493_0 B  Post ) := by
  unfold bk_J0_coder_7d493_0
  refine s_cs C (by decide +kernel) dJ0_coder_7d493_0 ?_
  refine s_if_eq C (tgt := 13) (by decide) dJ0_coder_7d493_3 ?_ ?_
  · exact s_no
  · refine s_aload_n C rfl dJ0_coder_7d493_6 ?_
    refine s_scod C (by decide +kernel) dJ0_coder_7d493_7 ?_
    refine s_goto C (tgt := 14) (by decide) dJ0_coder_7d493_10 ?_
    exact s_nret C R dJ0_coder_7d493_14
theorem k_J0_coder_7d493 (B : Bx) : ∀ i, i < 5 → MtF (gx B) yJ0_coder_7d493 wsJ0_coder_7d493 (rmD 0) encE (F_J0_coder_7d493 B i) := by
  intro i hi
  refine cf_R_i (fun l s _ => Mt.of (by decide) rfl (Nat.le_of_ble_eq_true rfl) rfl (fun X C R => s_J0_coder_7d493_0 B C R) ?_)
  simp only [wIload, wAload, wLload, wK, wB, wDv, wU, wLB, wLU, wLS, wL2i, wLcmp, wIf1, wIf2, wKeep, wInc, wIst, wAst, wLst, wDup, wPop, wDup2, wGet, wPut, wPutZ, wIald, wLald, wIast, wLast, wLen, wRetI, wRetZ, wRetL, wRetA, wRetV, wM1, wM2, wCpy, wTab, tabW, nth, stL, stL2, dropL, keepL, mkL, padL, restOK, restOKn, tl_some, tl_none, id_eq, eq_self, true_and, and_true, bk_J0_coder_7d493_0, wSCod, wNo, wRetN]
  refine ⟨fun h => absurd h (by decide), fun _ => ⟨i, hi, rfl, ?_⟩⟩
  decide
def F_J0_isLatin1_aae02 (B : Bx) (i : Nat) : CF Unit := cf_R (aK B i) (fun _ => True) (fun _ => some (.int 1)) (fun s => s)
theorem hK_J0_isLatin1_aae02 (B : Bx) : ∀ i av s, (F_J0_isLatin1_aae02 B i).1 av s → ∃ As, av = .ref (aK B i) :: As ∧ As.length = 0 := fun i => cf_R_r _ _ _ _

def bk_J0_isLatin1_aae02_18 (B : Bx)  (Post : Option Value → Unit → Prop)  (L : Lc) (st : List Value) (s : Unit) : Prop :=
  (wRetZ Post) L st s
set_option maxRecDepth 20000 in
theorem s_J0_isLatin1_aae02_18 {X : Cx} (B : Bx)  {Post : Option Value → Unit → Prop} (C : OkX X (gx B) cJ0_isLatin1_aae02 1 wsJ0_isLatin1_aae02 RJ0 (rmD 0)) (R : RtX X (gx B) (some .boolean) (encE) Post)  : Snd X (gx B) 1 (encE) 18 (bk_J0_isLatin1_aae02_18 B  Post ) := by
  unfold bk_J0_isLatin1_aae02_18
  exact s_zret C R dJ0_isLatin1_aae02_18
def bk_J0_isLatin1_aae02_17 (B : Bx)  (Post : Option Value → Unit → Prop)  (L : Lc) (st : List Value) (s : Unit) : Prop :=
  (wK (.int 0) <| bk_J0_isLatin1_aae02_18 B  Post ) L st s
set_option maxRecDepth 20000 in
theorem s_J0_isLatin1_aae02_17 {X : Cx} (B : Bx)  {Post : Option Value → Unit → Prop} (C : OkX X (gx B) cJ0_isLatin1_aae02 1 wsJ0_isLatin1_aae02 RJ0 (rmD 0)) (R : RtX X (gx B) (some .boolean) (encE) Post)  : Snd X (gx B) 1 (encE) 17 (bk_J0_isLatin1_aae02_17 B  Post ) := by
  unfold bk_J0_isLatin1_aae02_17
  refine s_iconst C (by decide) dJ0_isLatin1_aae02_17 ?_
  exact s_J0_isLatin1_aae02_18 B  C R 
def bk_J0_isLatin1_aae02_0 (B : Bx)  (Post : Option Value → Unit → Prop)  (L : Lc) (st : List Value) (s : Unit) : Prop :=
  (wK (.int 1) <| wIf1 (fun x => x = 0) (bk_J0_isLatin1_aae02_17 B  Post ) (wAload 0 <| wSCod B <| wIf1 (fun x => x = 0) (wK (.int 1) <| bk_J0_isLatin1_aae02_18 B  Post ) (bk_J0_isLatin1_aae02_17 B  Post ))) L st s
set_option maxRecDepth 20000 in
theorem s_J0_isLatin1_aae02_0 {X : Cx} (B : Bx)  {Post : Option Value → Unit → Prop} (C : OkX X (gx B) cJ0_isLatin1_aae02 1 wsJ0_isLatin1_aae02 RJ0 (rmD 0)) (R : RtX X (gx B) (some .boolean) (encE) Post)  : Snd X (gx B) 1 (encE) 0 (bk_J0_isLatin1_aae02_0 B  Post ) := by
  unfold bk_J0_isLatin1_aae02_0
  refine s_cs C (by decide +kernel) dJ0_isLatin1_aae02_0 ?_
  refine s_if_eq C (tgt := 17) (by decide) dJ0_isLatin1_aae02_3 ?_ ?_
  · exact s_J0_isLatin1_aae02_17 B  C R 
  · refine s_aload_n C rfl dJ0_isLatin1_aae02_6 ?_
    refine s_scod C (by decide +kernel) dJ0_isLatin1_aae02_7 ?_
    refine s_if_ne C (tgt := 17) (by decide) dJ0_isLatin1_aae02_10 ?_ ?_
    · exact s_J0_isLatin1_aae02_17 B  C R 
    · refine s_iconst C (by decide) dJ0_isLatin1_aae02_13 ?_
      refine s_goto C (tgt := 18) (by decide) dJ0_isLatin1_aae02_14 ?_
      exact s_J0_isLatin1_aae02_18 B  C R 
theorem k_J0_isLatin1_aae02 (B : Bx) : ∀ i, i < 5 → MtF (gx B) yJ0_isLatin1_aae02 wsJ0_isLatin1_aae02 (rmD 0) encE (F_J0_isLatin1_aae02 B i) := by
  intro i hi
  refine cf_R_i (fun l s _ => Mt.of (by decide) rfl (Nat.le_of_ble_eq_true rfl) rfl (fun X C R => s_J0_isLatin1_aae02_0 B C R) ?_)
  simp only [wIload, wAload, wLload, wK, wB, wDv, wU, wLB, wLU, wLS, wL2i, wLcmp, wIf1, wIf2, wKeep, wInc, wIst, wAst, wLst, wDup, wPop, wDup2, wGet, wPut, wPutZ, wIald, wLald, wIast, wLast, wLen, wRetI, wRetZ, wRetL, wRetA, wRetV, wM1, wM2, wCpy, wTab, tabW, nth, stL, stL2, dropL, keepL, mkL, padL, restOK, restOKn, tl_some, tl_none, id_eq, eq_self, true_and, and_true, bk_J0_isLatin1_aae02_18, bk_J0_isLatin1_aae02_17, bk_J0_isLatin1_aae02_0, wSCod, wNo, wRetN]
  exact ⟨fun h => absurd h (by decide), fun _ => ⟨i, hi, rfl, fun _ => Or.inr trivial, fun h => absurd trivial h⟩⟩
theorem lenS_lt : ∀ i, i < 5 → lenS.getD i 0 < 2 ^ 31 := by decide
def F_J0_length_8abf5 (B : Bx) (i : Nat) : CF Unit := cf_R (aK B i) (fun _ => True) (fun _ => some (.int (nI (lenS.getD i 0)))) (fun s => s)
theorem hK_J0_length_8abf5 (B : Bx) : ∀ i av s, (F_J0_length_8abf5 B i).1 av s → ∃ As, av = .ref (aK B i) :: As ∧ As.length = 0 := fun i => cf_R_r _ _ _ _

def bk_J0_length_8abf5_0 (B : Bx)  (Post : Option Value → Unit → Prop)  (L : Lc) (st : List Value) (s : Unit) : Prop :=
  (wAload 0 <| wSVal B <| wSBl B <| wAload 0 <| wStr 1 (F_J0_coder_7d493 B) <| wB (fun x y => x >>> (y &&& 31)) <| wRetI Post) L st s
set_option maxRecDepth 20000 in
theorem s_J0_length_8abf5_0 {X : Cx} (B : Bx)  {Post : Option Value → Unit → Prop} (C : OkX X (gx B) cJ0_length_8abf5 1 wsJ0_length_8abf5 RJ0 (rmD 1)) (R : RtX X (gx B) (some .int) (encE) Post)  : Snd X (gx B) 1 (encE) 0 (bk_J0_length_8abf5_0 B  Post ) := by
  unfold bk_J0_length_8abf5_0
  refine s_aload_n C rfl dJ0_length_8abf5_0 ?_
  refine s_sval C (by decide +kernel) dJ0_length_8abf5_1 ?_
  refine s_sbl C dJ0_length_8abf5_4 ?_
  refine s_aload_n C rfl dJ0_length_8abf5_5 ?_
  refine s_strK C (fr_E_E ) (k_J0_coder_7d493 B) gJ0_length_8abf5_J0_coder_7d493 rfl (by decide +kernel) ⟨rfl, rfl⟩ (by decide) (hK_J0_coder_7d493 B) dJ0_length_8abf5_6 ?_
  refine s_ishr C dJ0_length_8abf5_9 ?_
  exact s_iret C R dJ0_length_8abf5_10
theorem k_J0_length_8abf5 (B : Bx) : ∀ i, i < 5 → MtF (gx B) yJ0_length_8abf5 wsJ0_length_8abf5 (rmD 1) encE (F_J0_length_8abf5 B i) := by
  intro i hi
  refine cf_R_i (fun l s _ => Mt.of (by decide) rfl (Nat.le_of_ble_eq_true rfl) rfl (fun X C R => s_J0_length_8abf5_0 B C R) ?_)
  simp only [wIload, wAload, wLload, wK, wB, wDv, wU, wLB, wLU, wLS, wL2i, wLcmp, wIf1, wIf2, wKeep, wInc, wIst, wAst, wLst, wDup, wPop, wDup2, wGet, wPut, wPutZ, wIald, wLald, wIast, wLast, wLen, wRetI, wRetZ, wRetL, wRetA, wRetV, wM1, wM2, wCpy, wTab, tabW, nth, stL, stL2, dropL, keepL, mkL, padL, restOK, restOKn, tl_some, tl_none, id_eq, eq_self, true_and, and_true, bk_J0_length_8abf5_0, F_J0_coder_7d493, cf_R_e, wSVal, wSBl, wStr, cf_R_e, F_J0_coder_7d493]
  refine ⟨i, hi, rfl, i, hi, rfl, i, hi, rfl, ?_⟩
  rw [sc_shr0 (lenS_lt i hi)]
def F_J0_isEmpty_aae02 (B : Bx) (i : Nat) : CF Unit := cf_R (aK B i) (fun _ => True) (fun _ => some (.int (if lenS.getD i 0 = 0 then 1 else 0))) (fun s => s)
theorem hK_J0_isEmpty_aae02 (B : Bx) : ∀ i av s, (F_J0_isEmpty_aae02 B i).1 av s → ∃ As, av = .ref (aK B i) :: As ∧ As.length = 0 := fun i => cf_R_r _ _ _ _

def bk_J0_isEmpty_aae02_13 (B : Bx)  (Post : Option Value → Unit → Prop)  (L : Lc) (st : List Value) (s : Unit) : Prop :=
  (wRetZ Post) L st s
set_option maxRecDepth 20000 in
theorem s_J0_isEmpty_aae02_13 {X : Cx} (B : Bx)  {Post : Option Value → Unit → Prop} (C : OkX X (gx B) cJ0_isEmpty_aae02 1 wsJ0_isEmpty_aae02 RJ0 (rmD 0)) (R : RtX X (gx B) (some .boolean) (encE) Post)  : Snd X (gx B) 1 (encE) 13 (bk_J0_isEmpty_aae02_13 B  Post ) := by
  unfold bk_J0_isEmpty_aae02_13
  exact s_zret C R dJ0_isEmpty_aae02_13
def bk_J0_isEmpty_aae02_0 (B : Bx)  (Post : Option Value → Unit → Prop)  (L : Lc) (st : List Value) (s : Unit) : Prop :=
  (wAload 0 <| wSVal B <| wSBl B <| wIf1 (fun x => x = 0) (wK (.int 1) <| bk_J0_isEmpty_aae02_13 B  Post ) (wK (.int 0) <| bk_J0_isEmpty_aae02_13 B  Post )) L st s
set_option maxRecDepth 20000 in
theorem s_J0_isEmpty_aae02_0 {X : Cx} (B : Bx)  {Post : Option Value → Unit → Prop} (C : OkX X (gx B) cJ0_isEmpty_aae02 1 wsJ0_isEmpty_aae02 RJ0 (rmD 0)) (R : RtX X (gx B) (some .boolean) (encE) Post)  : Snd X (gx B) 1 (encE) 0 (bk_J0_isEmpty_aae02_0 B  Post ) := by
  unfold bk_J0_isEmpty_aae02_0
  refine s_aload_n C rfl dJ0_isEmpty_aae02_0 ?_
  refine s_sval C (by decide +kernel) dJ0_isEmpty_aae02_1 ?_
  refine s_sbl C dJ0_isEmpty_aae02_4 ?_
  refine s_if_ne C (tgt := 12) (by decide) dJ0_isEmpty_aae02_5 ?_ ?_
  · refine s_iconst C (by decide) dJ0_isEmpty_aae02_12 ?_
    exact s_J0_isEmpty_aae02_13 B  C R 
  · refine s_iconst C (by decide) dJ0_isEmpty_aae02_8 ?_
    refine s_goto C (tgt := 13) (by decide) dJ0_isEmpty_aae02_9 ?_
    exact s_J0_isEmpty_aae02_13 B  C R 
theorem k_J0_isEmpty_aae02 (B : Bx) : ∀ i, i < 5 → MtF (gx B) yJ0_isEmpty_aae02 wsJ0_isEmpty_aae02 (rmD 0) encE (F_J0_isEmpty_aae02 B i) := by
  intro i hi
  refine cf_R_i (fun l s _ => Mt.of (by decide) rfl (Nat.le_of_ble_eq_true rfl) rfl (fun X C R => s_J0_isEmpty_aae02_0 B C R) ?_)
  simp only [wIload, wAload, wLload, wK, wB, wDv, wU, wLB, wLU, wLS, wL2i, wLcmp, wIf1, wIf2, wKeep, wInc, wIst, wAst, wLst, wDup, wPop, wDup2, wGet, wPut, wPutZ, wIald, wLald, wIast, wLast, wLen, wRetI, wRetZ, wRetL, wRetA, wRetV, wM1, wM2, wCpy, wTab, tabW, nth, stL, stL2, dropL, keepL, mkL, padL, restOK, restOKn, tl_some, tl_none, id_eq, eq_self, true_and, and_true, bk_J0_isEmpty_aae02_13, bk_J0_isEmpty_aae02_0, wSVal, wSBl]
  refine ⟨i, hi, rfl, i, hi, rfl, fun h => ⟨Or.inr trivial, ?_⟩, fun h => ⟨Or.inl trivial, ?_⟩⟩
  · have : lenS.getD i 0 = 0 := (nI_eq (lenS_lt i hi) (b := 0) (by decide)).mp h
    rw [if_pos this]
  · have : ¬ lenS.getD i 0 = 0 := fun z => h (by rw [z]; rfl)
    rw [if_neg this]
def F_J3_checkIndex_8e157 : CF Unit := (fun av _ => match av with | [.int i, .int n, v] => (v = .null ∨ ∃ a, v = .ref a) ∧ ¬ i < 0 ∧ i < n | _ => False, fun av _ => match av with | [.int i, .int _, _] => some (.int i) | _ => none, fun _ s => s)
theorem F_J3_checkIndex_e {σ : Type} {get : σ → Unit} {set : σ → Unit → σ} {P : PT σ} {L : Lc} {r : List Value} {s : σ} {i n : Int32} {v : Value} : wCallR 3 F_J3_checkIndex_8e157 get set P L (v :: .int n :: .int i :: r) s = (restOK r ∧ ((v = .null ∨ ∃ a, v = .ref a) ∧ ¬ i < 0 ∧ i < n) ∧ P L (.int i :: r) (set s (get s))) := rfl
theorem F_J3_checkIndex_q : ∀ av s, F_J3_checkIndex_8e157.1 av s → av.length = 3 := by
  intro av s h
  simp only [F_J3_checkIndex_8e157] at h
  split at h
  · rfl
  · exact h.elim

def bk_J3_checkIndex_8e157_9  (Post : Option Value → Unit → Prop)  (L : Lc) (st : List Value) (s : Unit) : Prop :=
  (wNo) L st s
set_option maxRecDepth 20000 in
theorem s_J3_checkIndex_8e157_9 {X : Cx} (B : Bx)  {Post : Option Value → Unit → Prop} (C : OkX X (gx B) cJ3_checkIndex_8e157 3 wsJ3_checkIndex_8e157 RJ3 (rmD 0)) (R : RtX X (gx B) (some .int) (encE) Post)  : Snd X (gx B) 3 (encE) 9 (bk_J3_checkIndex_8e157_9  Post ) := by
  unfold bk_J3_checkIndex_8e157_9
  exact s_no
def bk_J3_checkIndex_8e157_0  (Post : Option Value → Unit → Prop)  (L : Lc) (st : List Value) (s : Unit) : Prop :=
  (wIload 0 <| wIf1 (fun x => x < 0) (bk_J3_checkIndex_8e157_9  Post ) (wIload 0 <| wIload 1 <| wIf2 (fun x y => x < y) (wIload 0 <| wRetI Post) (bk_J3_checkIndex_8e157_9  Post ))) L st s
set_option maxRecDepth 20000 in
theorem s_J3_checkIndex_8e157_0 {X : Cx} (B : Bx)  {Post : Option Value → Unit → Prop} (C : OkX X (gx B) cJ3_checkIndex_8e157 3 wsJ3_checkIndex_8e157 RJ3 (rmD 0)) (R : RtX X (gx B) (some .int) (encE) Post)  : Snd X (gx B) 3 (encE) 0 (bk_J3_checkIndex_8e157_0  Post ) := by
  unfold bk_J3_checkIndex_8e157_0
  refine s_iload_n C rfl dJ3_checkIndex_8e157_0 ?_
  refine s_if_lt C (tgt := 9) (by decide) dJ3_checkIndex_8e157_1 ?_ ?_
  · exact s_J3_checkIndex_8e157_9 B  C R 
  · refine s_iload_n C rfl dJ3_checkIndex_8e157_4 ?_
    refine s_iload_n C rfl dJ3_checkIndex_8e157_5 ?_
    refine s_icmp_lt C (tgt := 16) (by decide) dJ3_checkIndex_8e157_6 ?_ ?_
    · refine s_iload_n C rfl dJ3_checkIndex_8e157_16 ?_
      exact s_iret C R dJ3_checkIndex_8e157_17
    · exact s_J3_checkIndex_8e157_9 B  C R 
theorem k_J3_checkIndex_8e157 (B : Bx) : MtF (gx B) yJ3_checkIndex_8e157 wsJ3_checkIndex_8e157 (rmD 0) encE F_J3_checkIndex_8e157 := by
  intro l av s hp
  have hp2 := hp
  simp only [F_J3_checkIndex_8e157] at hp2
  split at hp2
  · obtain ⟨h0, h1, h2⟩ := hp2
    rcases h0 with rfl | ⟨a, rfl⟩
    all_goals
      refine Mt.of (by decide) rfl (Nat.le_of_ble_eq_true rfl) rfl (fun X C R => s_J3_checkIndex_8e157_0 B C R) ?_
      simp only [wIload, wAload, wLload, wK, wB, wDv, wU, wLB, wLU, wLS, wL2i, wLcmp, wIf1, wIf2, wKeep, wInc, wIst, wAst, wLst, wDup, wPop, wDup2, wGet, wPut, wPutZ, wIald, wLald, wIast, wLast, wLen, wRetI, wRetZ, wRetL, wRetA, wRetV, wM1, wM2, wCpy, wTab, tabW, nth, stL, stL2, dropL, keepL, mkL, padL, restOK, restOKn, tl_some, tl_none, id_eq, eq_self, true_and, and_true, bk_J3_checkIndex_8e157_9, bk_J3_checkIndex_8e157_0, wNo, F_J3_checkIndex_8e157]
      simp only [h1, h2, false_implies, true_implies, not_true_eq_false, not_false_eq_true, true_and, and_true, implies_true, eq_self, ne_eq, true_or, or_true, false_or, or_false, and_self]
  · exact hp2.elim
def F_J0_checkIndex_df160 : CF Unit := cf_II (fun _ i n => ¬ i < 0 ∧ i < n) (fun _ _ _ => none) (fun s _ _ => s)

def bk_J0_checkIndex_df160_0  (Post : Option Value → Unit → Prop)  (L : Lc) (st : List Value) (s : Unit) : Prop :=
  (wIload 0 <| wIload 1 <| wFm <| wCallR 3 (F_J3_checkIndex_8e157) (fun _ => ()) (fun s _ => s) <| wPop <| wRetV Post) L st s
set_option maxRecDepth 20000 in
theorem s_J0_checkIndex_df160_0 {X : Cx} (B : Bx)  {Post : Option Value → Unit → Prop} (C : OkX X (gx B) cJ0_checkIndex_df160 2 wsJ0_checkIndex_df160 RJ0 (rmD 1)) (R : RtX X (gx B) none (encE) Post)  : Snd X (gx B) 2 (encE) 0 (bk_J0_checkIndex_df160_0  Post ) := by
  unfold bk_J0_checkIndex_df160_0
  refine s_iload_n C rfl dJ0_checkIndex_df160_0 ?_
  refine s_iload_n C rfl dJ0_checkIndex_df160_1 ?_
  refine s_fm C (by decide +kernel) dJ0_checkIndex_df160_2 ?_
  refine s_callS C (fr_E_E) (k_J3_checkIndex_8e157 B) gJ0_checkIndex_df160_J3_checkIndex_8e157 rfl (by decide +kernel) ⟨rfl, rfl⟩ (by decide) (F_J3_checkIndex_q) dJ0_checkIndex_df160_5 ?_
  refine s_pop C dJ0_checkIndex_df160_8 ?_
  exact s_vret C R dJ0_checkIndex_df160_9
theorem k_J0_checkIndex_df160 (B : Bx) : MtF (gx B) yJ0_checkIndex_df160 wsJ0_checkIndex_df160 (rmD 1) encE F_J0_checkIndex_df160 := by
  refine cf_II_i (fun l s i n h => Mt.of (by decide) rfl (Nat.le_of_ble_eq_true rfl) rfl (fun X C R => s_J0_checkIndex_df160_0 B C R) ?_)
  simp only [bk_J0_checkIndex_df160_0, wIload, wFm, F_J3_checkIndex_e, wPop, wRetV, nth, mkL, padL, restOK, restOKn]
  exact fun _ h0 => ⟨trivial, ⟨h0, h⟩, trivial, trivial⟩
theorem chS : ∀ i, i < 5 → ∀ j, j < lenS.getD i 0 → narrow .char (.int (((bytS.getD i []).getD j 0 &&& 255).toUInt32 % 65536).toInt32) = .int (((bytS.getD i []).getD j 0 &&& 255).toUInt32 % 65536).toInt32 ∧ (((bytS.getD i []).getD j 0 &&& 255).toUInt32 % 65536).toInt32 = (bytS.getD i []).getD j 0 := by decide +kernel
def F_J1_charAt_3b067 (B : Bx) (i : Nat) : CF Unit := cf_RI (aV B i) (fun _ k => ∃ j, j < lenS.getD i 0 ∧ k = nI j) (fun _ k => some (.int ((bytS.getD i []).getD k.toNatClampNeg 0))) (fun s _ => s)
theorem hS_J1_charAt_3b067 (B : Bx) : ∀ i av s, (F_J1_charAt_3b067 B i).1 av s → av.length = 2 := by
  intro i av s h
  simp only [F_J1_charAt_3b067, cf_RI] at h
  split at h
  · rfl
  · exact h.elim

def bk_J1_charAt_3b067_0 (B : Bx)  (Post : Option Value → Unit → Prop)  (L : Lc) (st : List Value) (s : Unit) : Prop :=
  (wIload 1 <| wAload 0 <| wSBl B <| wCallR 2 (F_J0_checkIndex_df160) (fun _ => ()) (fun s _ => s) <| wAload 0 <| wIload 1 <| wSBa B <| wK (.int 255) <| wB (fun x y => x &&& y) <| wU (fun x => (x.toUInt32 % 65536).toInt32) <| wRetN .char Post) L st s
set_option maxRecDepth 20000 in
theorem s_J1_charAt_3b067_0 {X : Cx} (B : Bx)  {Post : Option Value → Unit → Prop} (C : OkX X (gx B) cJ1_charAt_3b067 2 wsJ1_charAt_3b067 RJ1 (rmD 2)) (R : RtX X (gx B) (some .char) (encE) Post)  : Snd X (gx B) 2 (encE) 0 (bk_J1_charAt_3b067_0 B  Post ) := by
  unfold bk_J1_charAt_3b067_0
  refine s_iload_n C rfl dJ1_charAt_3b067_0 ?_
  refine s_aload_n C rfl dJ1_charAt_3b067_1 ?_
  refine s_sbl C dJ1_charAt_3b067_2 ?_
  refine s_callS C (fr_E_E) (k_J0_checkIndex_df160 B) gJ1_charAt_3b067_J0_checkIndex_df160 rfl (by decide +kernel) ⟨rfl, rfl⟩ (by decide) (cf_II_r _ _ _) dJ1_charAt_3b067_3 ?_
  refine s_aload_n C rfl dJ1_charAt_3b067_6 ?_
  refine s_iload_n C rfl dJ1_charAt_3b067_7 ?_
  refine s_sba C dJ1_charAt_3b067_8 ?_
  refine s_sipush C (by decide) dJ1_charAt_3b067_9 ?_
  refine s_iand C dJ1_charAt_3b067_12 ?_
  refine s_i2c C dJ1_charAt_3b067_13 ?_
  exact s_nret C R dJ1_charAt_3b067_14
theorem k_J1_charAt_3b067 (B : Bx) : ∀ i, i < 5 → MtF (gx B) yJ1_charAt_3b067 wsJ1_charAt_3b067 (rmD 2) encE (F_J1_charAt_3b067 B i) := by
  intro i hi
  refine cf_RI_i (fun l s k hk => Mt.of (by decide) rfl (Nat.le_of_ble_eq_true rfl) rfl (fun X C R => s_J1_charAt_3b067_0 B C R) ?_)
  obtain ⟨j, hj, rfl⟩ := hk
  have hL := lenS_lt i hi
  simp only [wIload, wAload, wLload, wK, wB, wDv, wU, wLB, wLU, wLS, wL2i, wLcmp, wIf1, wIf2, wKeep, wInc, wIst, wAst, wLst, wDup, wPop, wDup2, wGet, wPut, wPutZ, wIald, wLald, wIast, wLast, wLen, wRetI, wRetZ, wRetL, wRetA, wRetV, wM1, wM2, wCpy, wTab, tabW, nth, stL, stL2, dropL, keepL, mkL, padL, restOK, restOKn, tl_some, tl_none, id_eq, eq_self, true_and, and_true, bk_J1_charAt_3b067_0, F_J0_checkIndex_df160, cf_II_e, wSBl, wSBa, wRetN, F_J0_checkIndex_df160, cf_II_e]
  have c0 : (nI j).toNatClampNeg = j := nI_clamp (by omega)
  refine ⟨i, hi, rfl, ⟨nI_pos (by omega), nI_lt hj hL⟩, i, hi, rfl, vp_in_nI hj hL, ?_⟩
  rw [c0]
  exact ⟨(chS i hi j hj).1, by rw [(chS i hi j hj).2]⟩
def F_J0_charAt_5068e (B : Bx) (i : Nat) : CF Unit := cf_RI (aK B i) (fun _ k => ∃ j, j < lenS.getD i 0 ∧ k = nI j) (fun _ k => some (.int ((bytS.getD i []).getD k.toNatClampNeg 0))) (fun s _ => s)
theorem hK_J0_charAt_5068e (B : Bx) : ∀ i av s, (F_J0_charAt_5068e B i).1 av s → ∃ As, av = .ref (aK B i) :: As ∧ As.length = 1 := fun i => cf_RI_r _ _ _ _

def bk_J0_charAt_5068e_0 (B : Bx)  (Post : Option Value → Unit → Prop)  (L : Lc) (st : List Value) (s : Unit) : Prop :=
  (wAload 0 <| wStr 1 (F_J0_isLatin1_aae02 B) <| wIf1 (fun x => x = 0) (wNo) (wAload 0 <| wSVal B <| wIload 1 <| wStr 2 (F_J1_charAt_3b067 B) <| wRetN .char Post)) L st s
set_option maxRecDepth 20000 in
theorem s_J0_charAt_5068e_0 {X : Cx} (B : Bx)  {Post : Option Value → Unit → Prop} (C : OkX X (gx B) cJ0_charAt_5068e 2 wsJ0_charAt_5068e RJ0 (rmD 3)) (R : RtX X (gx B) (some .char) (encE) Post)  : Snd X (gx B) 2 (encE) 0 (bk_J0_charAt_5068e_0 B  Post ) := by
  unfold bk_J0_charAt_5068e_0
  refine s_aload_n C rfl dJ0_charAt_5068e_0 ?_
  refine s_strK C (fr_E_E ) (k_J0_isLatin1_aae02 B) gJ0_charAt_5068e_J0_isLatin1_aae02 rfl (by decide +kernel) ⟨rfl, rfl⟩ (by decide) (hK_J0_isLatin1_aae02 B) dJ0_charAt_5068e_1 ?_
  refine s_if_eq C (tgt := 16) (by decide) dJ0_charAt_5068e_4 ?_ ?_
  · exact s_no
  · refine s_aload_n C rfl dJ0_charAt_5068e_7 ?_
    refine s_sval C (by decide +kernel) dJ0_charAt_5068e_8 ?_
    refine s_iload_n C rfl dJ0_charAt_5068e_11 ?_
    refine s_strS C (fr_E_E ) (k_J1_charAt_3b067 B) gJ0_charAt_5068e_J1_charAt_3b067 rfl (by decide +kernel) ⟨rfl, rfl⟩ (by decide) (hS_J1_charAt_3b067 B) dJ0_charAt_5068e_12 ?_
    exact s_nret C R dJ0_charAt_5068e_15
theorem chS2 : ∀ i, i < 5 → ∀ j, j < lenS.getD i 0 → narrow .char (.int ((bytS.getD i []).getD j 0)) = .int ((bytS.getD i []).getD j 0) := by decide +kernel
theorem k_J0_charAt_5068e (B : Bx) : ∀ i, i < 5 → MtF (gx B) yJ0_charAt_5068e wsJ0_charAt_5068e (rmD 3) encE (F_J0_charAt_5068e B i) := by
  intro i hi
  refine cf_RI_i (fun l s k hk => Mt.of (by decide) rfl (Nat.le_of_ble_eq_true rfl) rfl (fun X C R => s_J0_charAt_5068e_0 B C R) ?_)
  obtain ⟨j, hj, rfl⟩ := hk
  have hL := lenS_lt i hi
  have c0 : (nI j).toNatClampNeg = j := nI_clamp (by omega)
  simp only [wIload, wAload, wLload, wK, wB, wDv, wU, wLB, wLU, wLS, wL2i, wLcmp, wIf1, wIf2, wKeep, wInc, wIst, wAst, wLst, wDup, wPop, wDup2, wGet, wPut, wPutZ, wIald, wLald, wIast, wLast, wLen, wRetI, wRetZ, wRetL, wRetA, wRetV, wM1, wM2, wCpy, wTab, tabW, nth, stL, stL2, dropL, keepL, mkL, padL, restOK, restOKn, tl_some, tl_none, id_eq, eq_self, true_and, and_true, bk_J0_charAt_5068e_0, F_J0_isLatin1_aae02, F_J1_charAt_3b067, cf_RI_e, cf_R_e, wSVal, wStr, wRetN, wNo, F_J0_isLatin1_aae02, cf_R_e, F_J1_charAt_3b067, cf_RI_e]
  refine ⟨i, hi, rfl, fun h => absurd h (by decide), fun _ => ⟨i, hi, rfl, i, hi, ⟨rfl, j, hj, rfl⟩, ?_⟩⟩
  rw [c0]
  exact ⟨chS2 i hi j hj, rfl⟩
end
