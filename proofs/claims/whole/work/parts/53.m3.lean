noncomputable section
/-- so many of src, from so on, put into dst from do on -/
def pasA (src dst : Nat → Int32) (so d m : Nat) : Nat → Int32 := fun j => if d ≤ j ∧ j < d + m then src (so + (j - d)) else dst j
theorem pasA_0 (src dst : Nat → Int32) (so d : Nat) : pasA src dst so d 0 = dst := by
  funext j
  unfold pasA
  rw [if_neg (by omega)]
theorem pasA_s (src dst : Nat → Int32) (so d m : Nat) : upd (pasA src dst so d m) (d + m) (src (so + m)) = pasA src dst so d (m + 1) := by
  funext j
  unfold upd pasA
  by_cases h : j = d + m
  · subst h
    rw [if_pos rfl, if_pos (by omega), show d + m - d = m by omega]
  · rw [if_neg h]
    by_cases h2 : d ≤ j ∧ j < d + m
    · rw [if_pos h2, if_pos (by omega)]
    · rw [if_neg h2, if_neg (by omega)]
theorem pS_S (i j : Nat) (s : PS) (v : Int32) : pS i (psS j s v) = if i = j then v else pS i s := rfl
theorem pS_K (i : Nat) (s : PS) (a : Nat → Int32) : pS i (psK s a) = pS i s := rfl
theorem pS_O (i : Nat) (s : PS) (a : Nat → Int32) : pS i (psO s a) = pS i s := rfl
theorem pS_aK (i : Nat) (s : PS) (k : Nat) (v : Int32) : pS i (paK s k v) = pS i s := rfl
theorem pS_aO (i : Nat) (s : PS) (k : Nat) (v : Int32) : pS i (paO s k v) = pS i s := rfl
theorem pK_S (j : Nat) (s : PS) (v : Int32) : pK (psS j s v) = pK s := rfl
theorem pK_O (s : PS) (a : Nat → Int32) : pK (psO s a) = pK s := rfl
theorem pK_K (s : PS) (a : Nat → Int32) : pK (psK s a) = a := rfl
theorem pO_S (j : Nat) (s : PS) (v : Int32) : pO (psS j s v) = pO s := rfl
theorem pO_K (s : PS) (a : Nat → Int32) : pO (psK s a) = pO s := rfl
theorem pO_O (s : PS) (a : Nat → Int32) : pO (psO s a) = a := rfl
theorem psS_S (j : Nat) (s : PS) (v w : Int32) : psS j (psS j s v) w = psS j s w := by
  unfold psS
  refine Prod.ext (funext fun k => ?_) rfl
  show (if k = j then w else if k = j then v else s.1 k) = if k = j then w else s.1 k
  split <;> rfl
/-- behind m passed, from cursor c -/
def psP (s : PS) (c m : Nat) : PS := if pS 32 s = 0 then psS 33 (psO s (pasA (pK s) (pO s) c 0 m)) (nI (c + m)) else psS 33 (psK s (pasA (pO s) (pK s) 0 c m)) (nI (c + m))
theorem psP_0 (s : PS) (c : Nat) (h : pS 33 s = nI c) : psP s c 0 = s := by
  have e : psS 33 s (nI c) = s := by
    rw [← h]
    unfold psS pS
    refine Prod.ext (funext fun k => ?_) rfl
    show (if k = 33 then s.1 33 else s.1 k) = s.1 k
    split
    · rename_i h; rw [h]
    · rfl
  unfold psP
  rw [pasA_0, pasA_0]
  split
  · exact e
  · exact e
theorem psP_sr (s : PS) (c m : Nat) (h : pS 32 s = 0) : psS 33 (paO (psP s c m) m (pK (psP s c m) (c + m))) (nI (c + m + 1)) = psP s c (m + 1) := by
  unfold psP
  rw [if_pos h, if_pos h]
  have e := pasA_s (pK s) (pO s) c 0 m
  rw [Nat.zero_add] at e
  rw [pK_S, pK_O, ← e]
  exact psS_S 33 (psO s (upd (pasA (pK s) (pO s) c 0 m) m (pK s (c + m)))) (nI (c + m)) (nI (c + (m + 1)))
theorem psP_sk (s : PS) (c m : Nat) (h : ¬ pS 32 s = 0) : psS 33 (paK (psP s c m) (c + m) (pO (psP s c m) m)) (nI (c + m + 1)) = psP s c (m + 1) := by
  unfold psP
  rw [if_neg h, if_neg h]
  have e := pasA_s (pO s) (pK s) 0 c m
  rw [Nat.zero_add] at e
  rw [pO_S, pO_K, ← e]
  exact psS_S 33 (psK s (upd (pasA (pO s) (pK s) 0 c m) (c + m) (pO s m))) (nI (c + m)) (nI (c + (m + 1)))
theorem psP_32 (s : PS) (c m : Nat) : pS 32 (psP s c m) = pS 32 s := by unfold psP; split <;> rfl
theorem psP_33 (s : PS) (c m : Nat) : pS 33 (psP s c m) = nI (c + m) := by unfold psP; split <;> rfl
def F_X4_passes (g : Nat → Nat) (k n : Nat) : CF PS := cf_RRI (g 30) (g (31 + k)) (fun s x => ∃ m c, m ≤ n ∧ n ≤ 400 ∧ c + m ≤ 1000 ∧ x = nI m ∧ pS 33 s = nI c) (fun _ _ => none) (fun s x => psP s (pS 33 s).toNatClampNeg x.toNatClampNeg)
theorem inw_X4_passes_X4 : ∀ w ∈ u_ws RX4 TX4 45, w ∈ wsX4_passes := by decide +kernel
def bk_X4_passes_0 (g : Nat → Nat) (k n : Nat) (Post : Option Value → PS → Prop) (K2 : PT PS) (L : Lc) (st : List Value) (s : PS) : Prop :=
  (wK (.int 0) <| wIst 3 <| wKeep [true, true, true, true] K2) L st s
set_option maxRecDepth 20000 in
theorem s_X4_passes_0 {X : Cx} (B : Bx) (g : Nat → Nat) (k n : Nat) {Post : Option Value → PS → Prop} (C : OkX X (gx B) cX4_passes 4 wsX4_passes RX4 (rmD 0)) (R : RtX X (gx B) none (encP B g k n) Post) {K2 : PT PS} (hK2 : Snd X (gx B) 4 (encP B g k n) 2 K2) : Snd X (gx B) 4 (encP B g k n) 0 (bk_X4_passes_0 g k n Post K2) := by
  unfold bk_X4_passes_0
  refine s_iconst C (by decide) dX4_passes_0 ?_
  refine s_istore_n C rfl (by decide) dX4_passes_1 ?_
  exact s_keep _ hK2
def bk_X4_passes_41 (g : Nat → Nat) (k n : Nat) (Post : Option Value → PS → Prop) (K2 : PT PS) (L : Lc) (st : List Value) (s : PS) : Prop :=
  (wAload 0 <| wDup <| wGet (g 30) (fun s => .int (pS 33 s)) <| wK (.int 1) <| wB (fun x y => x + y) <| wPut (g 30) (psS 33) <| wInc 3 1 <| wKeep [true, true, true, true] K2) L st s
set_option maxRecDepth 20000 in
theorem s_X4_passes_41 {X : Cx} (B : Bx) (g : Nat → Nat) (k n : Nat) {Post : Option Value → PS → Prop} (C : OkX X (gx B) cX4_passes 4 wsX4_passes RX4 (rmD 0)) (R : RtX X (gx B) none (encP B g k n) Post) {K2 : PT PS} (hK2 : Snd X (gx B) 4 (encP B g k n) 2 K2) : Snd X (gx B) 4 (encP B g k n) 41 (bk_X4_passes_41 g k n Post K2) := by
  unfold bk_X4_passes_41
  refine s_aload_n C rfl dX4_passes_41 ?_
  refine s_dup C dX4_passes_42 ?_
  refine s_get C inw_X4_passes_X4 rfl (k := 33) (by decide) (by decide +kernel) (heP_0 B g k n) (fun _ => rfl) dX4_passes_43 ?_
  refine s_iconst C (by decide) dX4_passes_46 ?_
  refine s_iadd C dX4_passes_47 ?_
  refine s_put C inw_X4_passes_X4 rfl (k := 33) (by decide) (by decide +kernel) tyX4_ok nmX4 (by decide +kernel) (by decide +kernel) (heP_0 B g k n) (fun _ => Nat.le_of_ble_eq_true rfl) (fun _ _ => rfl) dX4_passes_48 ?_
  refine s_iinc C (by decide) (by decide) dX4_passes_51 ?_
  refine s_goto C (tgt := 2) (by decide) dX4_passes_54 ?_
  exact s_keep _ hK2
def bk_X4_passes_2 (g : Nat → Nat) (k n : Nat) (Post : Option Value → PS → Prop) (K2 : PT PS) (L : Lc) (st : List Value) (s : PS) : Prop :=
  (wIload 3 <| wIload 2 <| wIf2 (fun x y => y ≤ x) (wRetV Post) (wAload 0 <| wGet (g 30) (fun s => .int (pS 32 s)) <| wIf1 (fun x => x = 0) (wAload 1 <| wIload 3 <| wAload 0 <| wGet (g 30) (fun _ => .ref (g 61)) <| wAload 0 <| wGet (g 30) (fun s => .int (pS 33 s)) <| wIald (g 61) 1000 pK <| wIast (g (31 + k)) n paO <| bk_X4_passes_41 g k n Post K2) (wAload 0 <| wGet (g 30) (fun _ => .ref (g 61)) <| wAload 0 <| wGet (g 30) (fun s => .int (pS 33 s)) <| wAload 1 <| wIload 3 <| wIald (g (31 + k)) n pO <| wIast (g 61) 1000 paK <| bk_X4_passes_41 g k n Post K2))) L st s
set_option maxRecDepth 20000 in
theorem s_X4_passes_2 {X : Cx} (B : Bx) (g : Nat → Nat) (k n : Nat) {Post : Option Value → PS → Prop} (C : OkX X (gx B) cX4_passes 4 wsX4_passes RX4 (rmD 0)) (R : RtX X (gx B) none (encP B g k n) Post) {K2 : PT PS} (hK2 : Snd X (gx B) 4 (encP B g k n) 2 K2) : Snd X (gx B) 4 (encP B g k n) 2 (bk_X4_passes_2 g k n Post K2) := by
  unfold bk_X4_passes_2
  refine s_iload_n C rfl dX4_passes_2 ?_
  refine s_iload_n C rfl dX4_passes_3 ?_
  refine s_icmp_ge C (tgt := 57) (by decide) dX4_passes_4 ?_ ?_
  · exact s_vret C R dX4_passes_57
  · refine s_aload_n C rfl dX4_passes_7 ?_
    refine s_get C inw_X4_passes_X4 rfl (k := 32) (by decide) (by decide +kernel) (heP_0 B g k n) (fun _ => rfl) dX4_passes_8 ?_
    refine s_if_eq C (tgt := 29) (by decide) dX4_passes_11 ?_ ?_
    · refine s_aload_n C rfl dX4_passes_29 ?_
      refine s_iload_n C rfl dX4_passes_30 ?_
      refine s_aload_n C rfl dX4_passes_31 ?_
      refine s_get C inw_X4_passes_X4 rfl (k := 30) (by decide) (by decide +kernel) (heP_0 B g k n) (fun _ => rfl) dX4_passes_32 ?_
      refine s_aload_n C rfl dX4_passes_35 ?_
      refine s_get C inw_X4_passes_X4 rfl (k := 33) (by decide) (by decide +kernel) (heP_0 B g k n) (fun _ => rfl) dX4_passes_36 ?_
      refine s_iald C (heP_1 B g k n) dX4_passes_39 ?_
      refine s_iast C (heP_2 B g k n) (fun _ _ _ => rfl) dX4_passes_40 ?_
      exact s_X4_passes_41 B g k n C R hK2
    · refine s_aload_n C rfl dX4_passes_14 ?_
      refine s_get C inw_X4_passes_X4 rfl (k := 30) (by decide) (by decide +kernel) (heP_0 B g k n) (fun _ => rfl) dX4_passes_15 ?_
      refine s_aload_n C rfl dX4_passes_18 ?_
      refine s_get C inw_X4_passes_X4 rfl (k := 33) (by decide) (by decide +kernel) (heP_0 B g k n) (fun _ => rfl) dX4_passes_19 ?_
      refine s_aload_n C rfl dX4_passes_22 ?_
      refine s_iload_n C rfl dX4_passes_23 ?_
      refine s_iald C (heP_2 B g k n) dX4_passes_24 ?_
      refine s_iast C (heP_1 B g k n) (fun _ _ _ => rfl) dX4_passes_25 ?_
      refine s_goto C (tgt := 41) (by decide) dX4_passes_26 ?_
      exact s_X4_passes_41 B g k n C R hK2
def I_pas (g : Nat → Nat) (k : Nat) (s0 : PS) (c m : Nat) (n : Nat) (L : Lc) (st : List Value) (s : PS) : Prop := ∃ i, n + i = m ∧ st = [] ∧ s = psP s0 c i ∧ L = [some (.ref (g 30)), some (.ref (g (31 + k))), some (.int (nI m)), some (.int (nI i))]
theorem k_X4_passes (B : Bx) (g : Nat → Nat) (k n : Nat) : MtF (gx B) yX4_passes wsX4_passes (rmD 0) (encP B g k n) (F_X4_passes g k n) := by
  refine cf_RRI_i (fun l s0 x h => ?_)
  obtain ⟨m, c, hm, hn, hc, rfl, h33⟩ := h
  rw [h33, nI_clamp (by omega : c < 2 ^ 31), nI_clamp (by omega : m < 2 ^ 31)]
  refine Mt.of (P := bk_X4_passes_0 g k n (fun o u => o = none ∧ u = psP s0 c m) (fun L st s => ∃ n, I_pas g k s0 c m n L st s)) (by decide) rfl (Nat.le_of_ble_eq_true rfl) rfl (fun X C R => s_X4_passes_0 B g k n C R (snd_loop _ (I_pas g k s0 c m) (fun K hK => s_X4_passes_2 B g k n C R hK) ?_)) ?_
  · rintro K j L st s ⟨i, hi, rfl, rfl, rfl⟩ hK
    simp only [wIload, wAload, wLload, wK, wB, wDv, wU, wLB, wLU, wLS, wL2i, wLcmp, wIf1, wIf2, wKeep, wInc, wIst, wAst, wLst, wDup, wPop, wDup2, wGet, wPut, wPutZ, wIald, wLald, wIast, wLast, wLen, wRetI, wRetZ, wRetL, wRetA, wRetV, wM1, wM2, wCpy, wTab, tabW, nth, stL, stL2, dropL, keepL, mkL, padL, restOK, restOKn, tl_some, tl_none, id_eq, eq_self, true_and, and_true, bk_X4_passes_0, bk_X4_passes_41, bk_X4_passes_2, pS_S, pS_aK, pS_aO, psP_32, psP_33, Nat.reduceEqDiff, reduceIte]
    rcases Nat.lt_or_ge i m with hlt | hge
    · have h1 : ¬ nI m ≤ nI i := nI_ge hlt (by omega)
      have ci : (nI i).toNatClampNeg = i := nI_clamp (by omega)
      have cc : (nI (c + i)).toNatClampNeg = c + i := nI_clamp (by omega)
      have w0 : vp_in (nI i) n := vp_in_nI (by omega) (by omega)
      have w1 : vp_in (nI (c + i)) 1000 := vp_in_nI (by omega) (by decide)
      have e1 : nI (c + i) + 1 = nI (c + i + 1) := nI_1 _
      have hc := hK (j - 1) _ _ _ (by omega) ⟨i + 1, by omega, rfl, rfl, rfl⟩
      rw [← nI_1] at hc
      by_cases h32 : pS 32 s0 = 0
      · have e2 := psP_sr s0 c i h32
        simp only [h1, h32, ci, cc, w0, w1, e1, e2, false_implies, true_implies, not_true_eq_false, not_false_eq_true, true_and, and_true, implies_true, eq_self, ne_eq, true_or, or_true, false_or, or_false, and_self]
        exact hc
      · have e2 := psP_sk s0 c i h32
        simp only [h1, h32, ci, cc, w0, w1, e1, e2, false_implies, true_implies, not_true_eq_false, not_false_eq_true, true_and, and_true, implies_true, eq_self, ne_eq, true_or, or_true, false_or, or_false, and_self]
        exact hc
    · have h1 : nI m ≤ nI i := nI_le hge (by omega)
      have h2 : i = m := by omega
      subst h2
      simp only [h1, false_implies, true_implies, not_true_eq_false, not_false_eq_true, true_and, and_true, implies_true, eq_self, ne_eq, true_or, or_true, false_or, or_false, and_self]
  · simp only [wIload, wAload, wLload, wK, wB, wDv, wU, wLB, wLU, wLS, wL2i, wLcmp, wIf1, wIf2, wKeep, wInc, wIst, wAst, wLst, wDup, wPop, wDup2, wGet, wPut, wPutZ, wIald, wLald, wIast, wLast, wLen, wRetI, wRetZ, wRetL, wRetA, wRetV, wM1, wM2, wCpy, wTab, tabW, nth, stL, stL2, dropL, keepL, mkL, padL, restOK, restOKn, tl_some, tl_none, id_eq, eq_self, true_and, and_true, bk_X4_passes_0, bk_X4_passes_41, bk_X4_passes_2]
    exact ⟨m, 0, by omega, rfl, (psP_0 s0 c h33).symm, rfl⟩
def uP1v (M : MS) (v : Int32) : Int32 := if mS 32 M = 0 then mA 30 M (mS 33 M).toNatClampNeg else v
def uP1s (M : MS) (v : Int32) : MS := if mS 32 M = 0 then msS 33 M (mS 33 M + 1) else msS 33 (maA 30 M (mS 33 M).toNatClampNeg v) (mS 33 M + 1)
def F_X4_passOne (g : Nat → Nat) : CF MS := cf_RI (g 30) (fun M _ => ixB 1000 (mS 33 M)) (fun M v => some (.int (uP1v M v))) (fun M v => uP1s M v)
theorem inw_X4_passOne_X4 : ∀ w ∈ u_ws RX4 TX4 45, w ∈ wsX4_passOne := by decide +kernel
def bk_X4_passOne_38 (g : Nat → Nat) (Post : Option Value → MS → Prop)  (L : Lc) (st : List Value) (s : MS) : Prop :=
  (wAload 0 <| wDup <| wGet (g 30) (fun s => .int (mS 33 s)) <| wK (.int 1) <| wB (fun x y => x + y) <| wPut (g 30) (msS 33) <| wIload 2 <| wRetI Post) L st s
set_option maxRecDepth 20000 in
theorem s_X4_passOne_38 {X : Cx} (B : Bx) (g : Nat → Nat) {Post : Option Value → MS → Prop} (C : OkX X (gx B) cX4_passOne 3 wsX4_passOne RX4 (rmD 0)) (R : RtX X (gx B) (some .int) (encM B g) Post)  : Snd X (gx B) 3 (encM B g) 38 (bk_X4_passOne_38 g Post ) := by
  unfold bk_X4_passOne_38
  refine s_aload_n C rfl dX4_passOne_38 ?_
  refine s_dup C dX4_passOne_39 ?_
  refine s_get C inw_X4_passOne_X4 rfl (k := 33) (by decide) (by decide +kernel) (heM_0 B g) (fun _ => rfl) dX4_passOne_40 ?_
  refine s_iconst C (by decide) dX4_passOne_43 ?_
  refine s_iadd C dX4_passOne_44 ?_
  refine s_put C inw_X4_passOne_X4 rfl (k := 33) (by decide) (by decide +kernel) tyX4_ok nmX4 (by decide +kernel) (by decide +kernel) (heM_0 B g) (fun _ => Nat.le_of_ble_eq_true rfl) (fun _ _ => rfl) dX4_passOne_45 ?_
  refine s_iload_n C rfl dX4_passOne_48 ?_
  exact s_iret C R dX4_passOne_49
def bk_X4_passOne_20 (g : Nat → Nat) (Post : Option Value → MS → Prop)  (L : Lc) (st : List Value) (s : MS) : Prop :=
  (wIst 2 <| wAload 0 <| wGet (g 30) (fun s => .int (mS 32 s)) <| wIf1 (fun x => x = 0) (bk_X4_passOne_38 g Post ) (wAload 0 <| wGet (g 30) (fun _ => .ref (g 61)) <| wAload 0 <| wGet (g 30) (fun s => .int (mS 33 s)) <| wIload 1 <| wIast (g 61) 1000 (maA 30) <| bk_X4_passOne_38 g Post )) L st s
set_option maxRecDepth 20000 in
theorem s_X4_passOne_20 {X : Cx} (B : Bx) (g : Nat → Nat) {Post : Option Value → MS → Prop} (C : OkX X (gx B) cX4_passOne 3 wsX4_passOne RX4 (rmD 0)) (R : RtX X (gx B) (some .int) (encM B g) Post)  : Snd X (gx B) 3 (encM B g) 20 (bk_X4_passOne_20 g Post ) := by
  unfold bk_X4_passOne_20
  refine s_istore_n C rfl (by decide) dX4_passOne_20 ?_
  refine s_aload_n C rfl dX4_passOne_21 ?_
  refine s_get C inw_X4_passOne_X4 rfl (k := 32) (by decide) (by decide +kernel) (heM_0 B g) (fun _ => rfl) dX4_passOne_22 ?_
  refine s_if_eq C (tgt := 38) (by decide) dX4_passOne_25 ?_ ?_
  · exact s_X4_passOne_38 B g C R 
  · refine s_aload_n C rfl dX4_passOne_28 ?_
    refine s_get C inw_X4_passOne_X4 rfl (k := 30) (by decide) (by decide +kernel) (heM_0 B g) (fun _ => rfl) dX4_passOne_29 ?_
    refine s_aload_n C rfl dX4_passOne_32 ?_
    refine s_get C inw_X4_passOne_X4 rfl (k := 33) (by decide) (by decide +kernel) (heM_0 B g) (fun _ => rfl) dX4_passOne_33 ?_
    refine s_iload_n C rfl dX4_passOne_36 ?_
    refine s_iast C (heM_20 B g) (fun _ _ _ => rfl) dX4_passOne_37 ?_
    exact s_X4_passOne_38 B g C R 
def bk_X4_passOne_0 (g : Nat → Nat) (Post : Option Value → MS → Prop)  (L : Lc) (st : List Value) (s : MS) : Prop :=
  (wAload 0 <| wGet (g 30) (fun s => .int (mS 32 s)) <| wIf1 (fun x => x = 0) (wAload 0 <| wGet (g 30) (fun _ => .ref (g 61)) <| wAload 0 <| wGet (g 30) (fun s => .int (mS 33 s)) <| wIald (g 61) 1000 (mA 30) <| bk_X4_passOne_20 g Post ) (wIload 1 <| bk_X4_passOne_20 g Post )) L st s
set_option maxRecDepth 20000 in
theorem s_X4_passOne_0 {X : Cx} (B : Bx) (g : Nat → Nat) {Post : Option Value → MS → Prop} (C : OkX X (gx B) cX4_passOne 3 wsX4_passOne RX4 (rmD 0)) (R : RtX X (gx B) (some .int) (encM B g) Post)  : Snd X (gx B) 3 (encM B g) 0 (bk_X4_passOne_0 g Post ) := by
  unfold bk_X4_passOne_0
  refine s_aload_n C rfl dX4_passOne_0 ?_
  refine s_get C inw_X4_passOne_X4 rfl (k := 32) (by decide) (by decide +kernel) (heM_0 B g) (fun _ => rfl) dX4_passOne_1 ?_
  refine s_if_eq C (tgt := 11) (by decide) dX4_passOne_4 ?_ ?_
  · refine s_aload_n C rfl dX4_passOne_11 ?_
    refine s_get C inw_X4_passOne_X4 rfl (k := 30) (by decide) (by decide +kernel) (heM_0 B g) (fun _ => rfl) dX4_passOne_12 ?_
    refine s_aload_n C rfl dX4_passOne_15 ?_
    refine s_get C inw_X4_passOne_X4 rfl (k := 33) (by decide) (by decide +kernel) (heM_0 B g) (fun _ => rfl) dX4_passOne_16 ?_
    refine s_iald C (heM_20 B g) dX4_passOne_19 ?_
    exact s_X4_passOne_20 B g C R 
  · refine s_iload_n C rfl dX4_passOne_7 ?_
    refine s_goto C (tgt := 20) (by decide) dX4_passOne_8 ?_
    exact s_X4_passOne_20 B g C R 
theorem k_X4_passOne (B : Bx) (g : Nat → Nat) : MtF (gx B) yX4_passOne wsX4_passOne (rmD 0) (encM B g) (F_X4_passOne g) := by
  refine cf_RI_i (fun l M v h => Mt.of (by decide) rfl (Nat.le_of_ble_eq_true rfl) rfl (fun X C R => s_X4_passOne_0 B g C R) ?_)
  have w0 := ixB_v h (by decide)
  simp only [wIload, wAload, wLload, wK, wB, wDv, wU, wLB, wLU, wLS, wL2i, wLcmp, wIf1, wIf2, wKeep, wInc, wIst, wAst, wLst, wDup, wPop, wDup2, wGet, wPut, wPutZ, wIald, wLald, wIast, wLast, wLen, wRetI, wRetZ, wRetL, wRetA, wRetV, wM1, wM2, wCpy, wTab, tabW, nth, stL, stL2, dropL, keepL, mkL, padL, restOK, restOKn, tl_some, tl_none, id_eq, eq_self, true_and, and_true, bk_X4_passOne_38, bk_X4_passOne_20, bk_X4_passOne_0, mS_S, mA_A, mS_A, mA_S, mS_a, mA_a, Nat.reduceEqDiff, reduceIte, w0]
  unfold uP1v uP1s
  by_cases h0 : mS 32 M = 0
  · simp only [h0, if_true, false_implies, true_implies, not_true_eq_false, not_false_eq_true, true_and, and_true, implies_true, eq_self, ne_eq, true_or, or_true, false_or, or_false, and_self]
  · simp only [h0, if_false, false_implies, true_implies, not_true_eq_false, not_false_eq_true, true_and, and_true, implies_true, eq_self, ne_eq, true_or, or_true, false_or, or_false, and_self]
def uPass (k m : Nat) (M : MS) : MS := msP k M (psP (mgP k M) (mS 33 M).toNatClampNeg m)
def uPn (f : Nat) (M : MS) : MS := msS f (uP1s M (mS f M)) (uP1v M (mS f M))
def uPlist : List (Nat × Nat) := [(1, 7), (2, 7), (3, 28), (4, 12), (5, 12), (6, 12), (7, 12), (8, 12), (9, 12), (10, 60), (11, 60), (12, 60), (13, 60), (14, 60)]
def uPA (M : MS) (w kp : Int32) : MS := [15, 16, 17, 18, 19, 20, 21, 22].foldl (fun s f => uPn f s) (uPlist.foldl (fun s q => uPass q.1 q.2 s) (msS 32 (msS 33 M (500 * w)) kp))
theorem mS_P (i k : Nat) (M : MS) (u : PS) : mS i (msP k M u) = pS i u := rfl
theorem uPass_33 (k m : Nat) (M : MS) {c : Nat} (h : mS 33 M = nI c) (hc : c < 2 ^ 31) : mS 33 (uPass k m M) = nI (c + m) := by
  unfold uPass
  rw [mS_P, h, nI_clamp hc, psP_33]
theorem uPn_33 (f : Nat) (hf : ¬ 33 = f) (M : MS) {c : Nat} (h : mS 33 M = nI c) : mS 33 (uPn f M) = nI (c + 1) := by
  unfold uPn
  rw [mS_S, if_neg hf]
  unfold uP1s
  split
  · rw [mS_S, if_pos rfl, h, nI_1]
  · rw [mS_S, if_pos rfl, h, nI_1]
def F_X4_passesAll (g : Nat → Nat) : CF MS := cf_RII (g 30) (fun _ w kp => (w = 0 ∨ w = 1) ∧ (kp = 0 ∨ kp = 1)) (fun _ _ _ => none) (fun M w kp => uPA M w kp)
theorem inw_X4_passesAll_X4 : ∀ w ∈ u_ws RX4 TX4 45, w ∈ wsX4_passesAll := by decide +kernel
def bk_X4_passesAll_250 (g : Nat → Nat) (Post : Option Value → MS → Prop)  (L : Lc) (st : List Value) (s : MS) : Prop :=
  (wRetV Post) L st s
set_option maxRecDepth 20000 in
theorem s_X4_passesAll_250 {X : Cx} (B : Bx) (g : Nat → Nat) {Post : Option Value → MS → Prop} (C : OkX X (gx B) cX4_passesAll 3 wsX4_passesAll RX4 (rmD 1)) (R : RtX X (gx B) none (encM B g) Post)  : Snd X (gx B) 3 (encM B g) 250 (bk_X4_passesAll_250 g Post ) := by
  unfold bk_X4_passesAll_250
  exact s_vret C R dX4_passesAll_250
def bk_X4_passesAll_238 (g : Nat → Nat) (Post : Option Value → MS → Prop)  (L : Lc) (st : List Value) (s : MS) : Prop :=
  (wAload 0 <| wAload 0 <| wAload 0 <| wGet (g 30) (fun s => .int (mS 22 s)) <| wCallR 2 (F_X4_passOne g) id (fun _ u => u) <| wPut (g 30) (msS 22) <| bk_X4_passesAll_250 g Post ) L st s
set_option maxRecDepth 20000 in
theorem s_X4_passesAll_238 {X : Cx} (B : Bx) (g : Nat → Nat) {Post : Option Value → MS → Prop} (C : OkX X (gx B) cX4_passesAll 3 wsX4_passesAll RX4 (rmD 1)) (R : RtX X (gx B) none (encM B g) Post)  : Snd X (gx B) 3 (encM B g) 238 (bk_X4_passesAll_238 g Post ) := by
  unfold bk_X4_passesAll_238
  refine s_aload_n C rfl dX4_passesAll_238 ?_
  refine s_aload_n C rfl dX4_passesAll_239 ?_
  refine s_aload_n C rfl dX4_passesAll_240 ?_
  refine s_get C inw_X4_passesAll_X4 rfl (k := 22) (by decide) (by decide +kernel) (heM_0 B g) (fun _ => rfl) dX4_passesAll_241 ?_
  refine s_callV C (fr_M_M B g) (k_X4_passOne B g) gX4_passesAll_X4_passOne rfl (by decide +kernel) ⟨rfl, rfl⟩ (by decide) rfl (fun s => ⟨_, heM_0 B g s⟩) (cf_RI_r _ _ _ _) dX4_passesAll_244 ?_
  refine s_put C inw_X4_passesAll_X4 rfl (k := 22) (by decide) (by decide +kernel) tyX4_ok nmX4 (by decide +kernel) (by decide +kernel) (heM_0 B g) (fun _ => Nat.le_of_ble_eq_true rfl) (fun _ _ => rfl) dX4_passesAll_247 ?_
  exact s_X4_passesAll_250 B g C R 
def bk_X4_passesAll_226 (g : Nat → Nat) (Post : Option Value → MS → Prop)  (L : Lc) (st : List Value) (s : MS) : Prop :=
  (wAload 0 <| wAload 0 <| wAload 0 <| wGet (g 30) (fun s => .int (mS 21 s)) <| wCallR 2 (F_X4_passOne g) id (fun _ u => u) <| wPut (g 30) (msS 21) <| bk_X4_passesAll_238 g Post ) L st s
set_option maxRecDepth 20000 in
theorem s_X4_passesAll_226 {X : Cx} (B : Bx) (g : Nat → Nat) {Post : Option Value → MS → Prop} (C : OkX X (gx B) cX4_passesAll 3 wsX4_passesAll RX4 (rmD 1)) (R : RtX X (gx B) none (encM B g) Post)  : Snd X (gx B) 3 (encM B g) 226 (bk_X4_passesAll_226 g Post ) := by
  unfold bk_X4_passesAll_226
  refine s_aload_n C rfl dX4_passesAll_226 ?_
  refine s_aload_n C rfl dX4_passesAll_227 ?_
  refine s_aload_n C rfl dX4_passesAll_228 ?_
  refine s_get C inw_X4_passesAll_X4 rfl (k := 21) (by decide) (by decide +kernel) (heM_0 B g) (fun _ => rfl) dX4_passesAll_229 ?_
  refine s_callV C (fr_M_M B g) (k_X4_passOne B g) gX4_passesAll_X4_passOne rfl (by decide +kernel) ⟨rfl, rfl⟩ (by decide) rfl (fun s => ⟨_, heM_0 B g s⟩) (cf_RI_r _ _ _ _) dX4_passesAll_232 ?_
  refine s_put C inw_X4_passesAll_X4 rfl (k := 21) (by decide) (by decide +kernel) tyX4_ok nmX4 (by decide +kernel) (by decide +kernel) (heM_0 B g) (fun _ => Nat.le_of_ble_eq_true rfl) (fun _ _ => rfl) dX4_passesAll_235 ?_
  exact s_X4_passesAll_238 B g C R 
def bk_X4_passesAll_214 (g : Nat → Nat) (Post : Option Value → MS → Prop)  (L : Lc) (st : List Value) (s : MS) : Prop :=
  (wAload 0 <| wAload 0 <| wAload 0 <| wGet (g 30) (fun s => .int (mS 20 s)) <| wCallR 2 (F_X4_passOne g) id (fun _ u => u) <| wPut (g 30) (msS 20) <| bk_X4_passesAll_226 g Post ) L st s
set_option maxRecDepth 20000 in
theorem s_X4_passesAll_214 {X : Cx} (B : Bx) (g : Nat → Nat) {Post : Option Value → MS → Prop} (C : OkX X (gx B) cX4_passesAll 3 wsX4_passesAll RX4 (rmD 1)) (R : RtX X (gx B) none (encM B g) Post)  : Snd X (gx B) 3 (encM B g) 214 (bk_X4_passesAll_214 g Post ) := by
  unfold bk_X4_passesAll_214
  refine s_aload_n C rfl dX4_passesAll_214 ?_
  refine s_aload_n C rfl dX4_passesAll_215 ?_
  refine s_aload_n C rfl dX4_passesAll_216 ?_
  refine s_get C inw_X4_passesAll_X4 rfl (k := 20) (by decide) (by decide +kernel) (heM_0 B g) (fun _ => rfl) dX4_passesAll_217 ?_
  refine s_callV C (fr_M_M B g) (k_X4_passOne B g) gX4_passesAll_X4_passOne rfl (by decide +kernel) ⟨rfl, rfl⟩ (by decide) rfl (fun s => ⟨_, heM_0 B g s⟩) (cf_RI_r _ _ _ _) dX4_passesAll_220 ?_
  refine s_put C inw_X4_passesAll_X4 rfl (k := 20) (by decide) (by decide +kernel) tyX4_ok nmX4 (by decide +kernel) (by decide +kernel) (heM_0 B g) (fun _ => Nat.le_of_ble_eq_true rfl) (fun _ _ => rfl) dX4_passesAll_223 ?_
  exact s_X4_passesAll_226 B g C R 
def bk_X4_passesAll_202 (g : Nat → Nat) (Post : Option Value → MS → Prop)  (L : Lc) (st : List Value) (s : MS) : Prop :=
  (wAload 0 <| wAload 0 <| wAload 0 <| wGet (g 30) (fun s => .int (mS 19 s)) <| wCallR 2 (F_X4_passOne g) id (fun _ u => u) <| wPut (g 30) (msS 19) <| bk_X4_passesAll_214 g Post ) L st s
set_option maxRecDepth 20000 in
theorem s_X4_passesAll_202 {X : Cx} (B : Bx) (g : Nat → Nat) {Post : Option Value → MS → Prop} (C : OkX X (gx B) cX4_passesAll 3 wsX4_passesAll RX4 (rmD 1)) (R : RtX X (gx B) none (encM B g) Post)  : Snd X (gx B) 3 (encM B g) 202 (bk_X4_passesAll_202 g Post ) := by
  unfold bk_X4_passesAll_202
  refine s_aload_n C rfl dX4_passesAll_202 ?_
  refine s_aload_n C rfl dX4_passesAll_203 ?_
  refine s_aload_n C rfl dX4_passesAll_204 ?_
  refine s_get C inw_X4_passesAll_X4 rfl (k := 19) (by decide) (by decide +kernel) (heM_0 B g) (fun _ => rfl) dX4_passesAll_205 ?_
  refine s_callV C (fr_M_M B g) (k_X4_passOne B g) gX4_passesAll_X4_passOne rfl (by decide +kernel) ⟨rfl, rfl⟩ (by decide) rfl (fun s => ⟨_, heM_0 B g s⟩) (cf_RI_r _ _ _ _) dX4_passesAll_208 ?_
  refine s_put C inw_X4_passesAll_X4 rfl (k := 19) (by decide) (by decide +kernel) tyX4_ok nmX4 (by decide +kernel) (by decide +kernel) (heM_0 B g) (fun _ => Nat.le_of_ble_eq_true rfl) (fun _ _ => rfl) dX4_passesAll_211 ?_
  exact s_X4_passesAll_214 B g C R 
def bk_X4_passesAll_190 (g : Nat → Nat) (Post : Option Value → MS → Prop)  (L : Lc) (st : List Value) (s : MS) : Prop :=
  (wAload 0 <| wAload 0 <| wAload 0 <| wGet (g 30) (fun s => .int (mS 18 s)) <| wCallR 2 (F_X4_passOne g) id (fun _ u => u) <| wPut (g 30) (msS 18) <| bk_X4_passesAll_202 g Post ) L st s
set_option maxRecDepth 20000 in
theorem s_X4_passesAll_190 {X : Cx} (B : Bx) (g : Nat → Nat) {Post : Option Value → MS → Prop} (C : OkX X (gx B) cX4_passesAll 3 wsX4_passesAll RX4 (rmD 1)) (R : RtX X (gx B) none (encM B g) Post)  : Snd X (gx B) 3 (encM B g) 190 (bk_X4_passesAll_190 g Post ) := by
  unfold bk_X4_passesAll_190
  refine s_aload_n C rfl dX4_passesAll_190 ?_
  refine s_aload_n C rfl dX4_passesAll_191 ?_
  refine s_aload_n C rfl dX4_passesAll_192 ?_
  refine s_get C inw_X4_passesAll_X4 rfl (k := 18) (by decide) (by decide +kernel) (heM_0 B g) (fun _ => rfl) dX4_passesAll_193 ?_
  refine s_callV C (fr_M_M B g) (k_X4_passOne B g) gX4_passesAll_X4_passOne rfl (by decide +kernel) ⟨rfl, rfl⟩ (by decide) rfl (fun s => ⟨_, heM_0 B g s⟩) (cf_RI_r _ _ _ _) dX4_passesAll_196 ?_
  refine s_put C inw_X4_passesAll_X4 rfl (k := 18) (by decide) (by decide +kernel) tyX4_ok nmX4 (by decide +kernel) (by decide +kernel) (heM_0 B g) (fun _ => Nat.le_of_ble_eq_true rfl) (fun _ _ => rfl) dX4_passesAll_199 ?_
  exact s_X4_passesAll_202 B g C R 
def bk_X4_passesAll_178 (g : Nat → Nat) (Post : Option Value → MS → Prop)  (L : Lc) (st : List Value) (s : MS) : Prop :=
  (wAload 0 <| wAload 0 <| wAload 0 <| wGet (g 30) (fun s => .int (mS 17 s)) <| wCallR 2 (F_X4_passOne g) id (fun _ u => u) <| wPut (g 30) (msS 17) <| bk_X4_passesAll_190 g Post ) L st s
set_option maxRecDepth 20000 in
theorem s_X4_passesAll_178 {X : Cx} (B : Bx) (g : Nat → Nat) {Post : Option Value → MS → Prop} (C : OkX X (gx B) cX4_passesAll 3 wsX4_passesAll RX4 (rmD 1)) (R : RtX X (gx B) none (encM B g) Post)  : Snd X (gx B) 3 (encM B g) 178 (bk_X4_passesAll_178 g Post ) := by
  unfold bk_X4_passesAll_178
  refine s_aload_n C rfl dX4_passesAll_178 ?_
  refine s_aload_n C rfl dX4_passesAll_179 ?_
  refine s_aload_n C rfl dX4_passesAll_180 ?_
  refine s_get C inw_X4_passesAll_X4 rfl (k := 17) (by decide) (by decide +kernel) (heM_0 B g) (fun _ => rfl) dX4_passesAll_181 ?_
  refine s_callV C (fr_M_M B g) (k_X4_passOne B g) gX4_passesAll_X4_passOne rfl (by decide +kernel) ⟨rfl, rfl⟩ (by decide) rfl (fun s => ⟨_, heM_0 B g s⟩) (cf_RI_r _ _ _ _) dX4_passesAll_184 ?_
  refine s_put C inw_X4_passesAll_X4 rfl (k := 17) (by decide) (by decide +kernel) tyX4_ok nmX4 (by decide +kernel) (by decide +kernel) (heM_0 B g) (fun _ => Nat.le_of_ble_eq_true rfl) (fun _ _ => rfl) dX4_passesAll_187 ?_
  exact s_X4_passesAll_190 B g C R 
def bk_X4_passesAll_166 (g : Nat → Nat) (Post : Option Value → MS → Prop)  (L : Lc) (st : List Value) (s : MS) : Prop :=
  (wAload 0 <| wAload 0 <| wAload 0 <| wGet (g 30) (fun s => .int (mS 16 s)) <| wCallR 2 (F_X4_passOne g) id (fun _ u => u) <| wPut (g 30) (msS 16) <| bk_X4_passesAll_178 g Post ) L st s
set_option maxRecDepth 20000 in
theorem s_X4_passesAll_166 {X : Cx} (B : Bx) (g : Nat → Nat) {Post : Option Value → MS → Prop} (C : OkX X (gx B) cX4_passesAll 3 wsX4_passesAll RX4 (rmD 1)) (R : RtX X (gx B) none (encM B g) Post)  : Snd X (gx B) 3 (encM B g) 166 (bk_X4_passesAll_166 g Post ) := by
  unfold bk_X4_passesAll_166
  refine s_aload_n C rfl dX4_passesAll_166 ?_
  refine s_aload_n C rfl dX4_passesAll_167 ?_
  refine s_aload_n C rfl dX4_passesAll_168 ?_
  refine s_get C inw_X4_passesAll_X4 rfl (k := 16) (by decide) (by decide +kernel) (heM_0 B g) (fun _ => rfl) dX4_passesAll_169 ?_
  refine s_callV C (fr_M_M B g) (k_X4_passOne B g) gX4_passesAll_X4_passOne rfl (by decide +kernel) ⟨rfl, rfl⟩ (by decide) rfl (fun s => ⟨_, heM_0 B g s⟩) (cf_RI_r _ _ _ _) dX4_passesAll_172 ?_
  refine s_put C inw_X4_passesAll_X4 rfl (k := 16) (by decide) (by decide +kernel) tyX4_ok nmX4 (by decide +kernel) (by decide +kernel) (heM_0 B g) (fun _ => Nat.le_of_ble_eq_true rfl) (fun _ _ => rfl) dX4_passesAll_175 ?_
  exact s_X4_passesAll_178 B g C R 
def bk_X4_passesAll_154 (g : Nat → Nat) (Post : Option Value → MS → Prop)  (L : Lc) (st : List Value) (s : MS) : Prop :=
  (wAload 0 <| wAload 0 <| wAload 0 <| wGet (g 30) (fun s => .int (mS 15 s)) <| wCallR 2 (F_X4_passOne g) id (fun _ u => u) <| wPut (g 30) (msS 15) <| bk_X4_passesAll_166 g Post ) L st s
set_option maxRecDepth 20000 in
theorem s_X4_passesAll_154 {X : Cx} (B : Bx) (g : Nat → Nat) {Post : Option Value → MS → Prop} (C : OkX X (gx B) cX4_passesAll 3 wsX4_passesAll RX4 (rmD 1)) (R : RtX X (gx B) none (encM B g) Post)  : Snd X (gx B) 3 (encM B g) 154 (bk_X4_passesAll_154 g Post ) := by
  unfold bk_X4_passesAll_154
  refine s_aload_n C rfl dX4_passesAll_154 ?_
  refine s_aload_n C rfl dX4_passesAll_155 ?_
  refine s_aload_n C rfl dX4_passesAll_156 ?_
  refine s_get C inw_X4_passesAll_X4 rfl (k := 15) (by decide) (by decide +kernel) (heM_0 B g) (fun _ => rfl) dX4_passesAll_157 ?_
  refine s_callV C (fr_M_M B g) (k_X4_passOne B g) gX4_passesAll_X4_passOne rfl (by decide +kernel) ⟨rfl, rfl⟩ (by decide) rfl (fun s => ⟨_, heM_0 B g s⟩) (cf_RI_r _ _ _ _) dX4_passesAll_160 ?_
  refine s_put C inw_X4_passesAll_X4 rfl (k := 15) (by decide) (by decide +kernel) tyX4_ok nmX4 (by decide +kernel) (by decide +kernel) (heM_0 B g) (fun _ => Nat.le_of_ble_eq_true rfl) (fun _ _ => rfl) dX4_passesAll_163 ?_
  exact s_X4_passesAll_166 B g C R 
def bk_X4_passesAll_144 (g : Nat → Nat) (Post : Option Value → MS → Prop)  (L : Lc) (st : List Value) (s : MS) : Prop :=
  (wAload 0 <| wAload 0 <| wGet (g 30) (fun _ => .ref (g 45)) <| wK (.int 60) <| wCallR 3 (F_X4_passes g 14 400) (mgP 14) (msP 14) <| bk_X4_passesAll_154 g Post ) L st s
set_option maxRecDepth 20000 in
theorem s_X4_passesAll_144 {X : Cx} (B : Bx) (g : Nat → Nat) {Post : Option Value → MS → Prop} (C : OkX X (gx B) cX4_passesAll 3 wsX4_passesAll RX4 (rmD 1)) (R : RtX X (gx B) none (encM B g) Post)  : Snd X (gx B) 3 (encM B g) 144 (bk_X4_passesAll_144 g Post ) := by
  unfold bk_X4_passesAll_144
  refine s_aload_n C rfl dX4_passesAll_144 ?_
  refine s_aload_n C rfl dX4_passesAll_145 ?_
  refine s_get C inw_X4_passesAll_X4 rfl (k := 14) (by decide) (by decide +kernel) (heM_0 B g) (fun _ => rfl) dX4_passesAll_146 ?_
  refine s_bipush C (by decide) dX4_passesAll_149 ?_
  refine s_callV C (fr_M_P14 B g) (k_X4_passes B g 14 400) gX4_passesAll_X4_passes rfl (by decide +kernel) ⟨rfl, rfl⟩ (by decide) rfl (fun s => ⟨_, heM_0 B g s⟩) (cf_RRI_r _ _ _ _ _) dX4_passesAll_151 ?_
  exact s_X4_passesAll_154 B g C R 
def bk_X4_passesAll_134 (g : Nat → Nat) (Post : Option Value → MS → Prop)  (L : Lc) (st : List Value) (s : MS) : Prop :=
  (wAload 0 <| wAload 0 <| wGet (g 30) (fun _ => .ref (g 44)) <| wK (.int 60) <| wCallR 3 (F_X4_passes g 13 400) (mgP 13) (msP 13) <| bk_X4_passesAll_144 g Post ) L st s
set_option maxRecDepth 20000 in
theorem s_X4_passesAll_134 {X : Cx} (B : Bx) (g : Nat → Nat) {Post : Option Value → MS → Prop} (C : OkX X (gx B) cX4_passesAll 3 wsX4_passesAll RX4 (rmD 1)) (R : RtX X (gx B) none (encM B g) Post)  : Snd X (gx B) 3 (encM B g) 134 (bk_X4_passesAll_134 g Post ) := by
  unfold bk_X4_passesAll_134
  refine s_aload_n C rfl dX4_passesAll_134 ?_
  refine s_aload_n C rfl dX4_passesAll_135 ?_
  refine s_get C inw_X4_passesAll_X4 rfl (k := 13) (by decide) (by decide +kernel) (heM_0 B g) (fun _ => rfl) dX4_passesAll_136 ?_
  refine s_bipush C (by decide) dX4_passesAll_139 ?_
  refine s_callV C (fr_M_P13 B g) (k_X4_passes B g 13 400) gX4_passesAll_X4_passes rfl (by decide +kernel) ⟨rfl, rfl⟩ (by decide) rfl (fun s => ⟨_, heM_0 B g s⟩) (cf_RRI_r _ _ _ _ _) dX4_passesAll_141 ?_
  exact s_X4_passesAll_144 B g C R 
def bk_X4_passesAll_124 (g : Nat → Nat) (Post : Option Value → MS → Prop)  (L : Lc) (st : List Value) (s : MS) : Prop :=
  (wAload 0 <| wAload 0 <| wGet (g 30) (fun _ => .ref (g 43)) <| wK (.int 60) <| wCallR 3 (F_X4_passes g 12 400) (mgP 12) (msP 12) <| bk_X4_passesAll_134 g Post ) L st s
set_option maxRecDepth 20000 in
theorem s_X4_passesAll_124 {X : Cx} (B : Bx) (g : Nat → Nat) {Post : Option Value → MS → Prop} (C : OkX X (gx B) cX4_passesAll 3 wsX4_passesAll RX4 (rmD 1)) (R : RtX X (gx B) none (encM B g) Post)  : Snd X (gx B) 3 (encM B g) 124 (bk_X4_passesAll_124 g Post ) := by
  unfold bk_X4_passesAll_124
  refine s_aload_n C rfl dX4_passesAll_124 ?_
  refine s_aload_n C rfl dX4_passesAll_125 ?_
  refine s_get C inw_X4_passesAll_X4 rfl (k := 12) (by decide) (by decide +kernel) (heM_0 B g) (fun _ => rfl) dX4_passesAll_126 ?_
  refine s_bipush C (by decide) dX4_passesAll_129 ?_
  refine s_callV C (fr_M_P12 B g) (k_X4_passes B g 12 400) gX4_passesAll_X4_passes rfl (by decide +kernel) ⟨rfl, rfl⟩ (by decide) rfl (fun s => ⟨_, heM_0 B g s⟩) (cf_RRI_r _ _ _ _ _) dX4_passesAll_131 ?_
  exact s_X4_passesAll_134 B g C R 
def bk_X4_passesAll_114 (g : Nat → Nat) (Post : Option Value → MS → Prop)  (L : Lc) (st : List Value) (s : MS) : Prop :=
  (wAload 0 <| wAload 0 <| wGet (g 30) (fun _ => .ref (g 42)) <| wK (.int 60) <| wCallR 3 (F_X4_passes g 11 400) (mgP 11) (msP 11) <| bk_X4_passesAll_124 g Post ) L st s
set_option maxRecDepth 20000 in
theorem s_X4_passesAll_114 {X : Cx} (B : Bx) (g : Nat → Nat) {Post : Option Value → MS → Prop} (C : OkX X (gx B) cX4_passesAll 3 wsX4_passesAll RX4 (rmD 1)) (R : RtX X (gx B) none (encM B g) Post)  : Snd X (gx B) 3 (encM B g) 114 (bk_X4_passesAll_114 g Post ) := by
  unfold bk_X4_passesAll_114
  refine s_aload_n C rfl dX4_passesAll_114 ?_
  refine s_aload_n C rfl dX4_passesAll_115 ?_
  refine s_get C inw_X4_passesAll_X4 rfl (k := 11) (by decide) (by decide +kernel) (heM_0 B g) (fun _ => rfl) dX4_passesAll_116 ?_
  refine s_bipush C (by decide) dX4_passesAll_119 ?_
  refine s_callV C (fr_M_P11 B g) (k_X4_passes B g 11 400) gX4_passesAll_X4_passes rfl (by decide +kernel) ⟨rfl, rfl⟩ (by decide) rfl (fun s => ⟨_, heM_0 B g s⟩) (cf_RRI_r _ _ _ _ _) dX4_passesAll_121 ?_
  exact s_X4_passesAll_124 B g C R 
def bk_X4_passesAll_104 (g : Nat → Nat) (Post : Option Value → MS → Prop)  (L : Lc) (st : List Value) (s : MS) : Prop :=
  (wAload 0 <| wAload 0 <| wGet (g 30) (fun _ => .ref (g 41)) <| wK (.int 60) <| wCallR 3 (F_X4_passes g 10 400) (mgP 10) (msP 10) <| bk_X4_passesAll_114 g Post ) L st s
set_option maxRecDepth 20000 in
theorem s_X4_passesAll_104 {X : Cx} (B : Bx) (g : Nat → Nat) {Post : Option Value → MS → Prop} (C : OkX X (gx B) cX4_passesAll 3 wsX4_passesAll RX4 (rmD 1)) (R : RtX X (gx B) none (encM B g) Post)  : Snd X (gx B) 3 (encM B g) 104 (bk_X4_passesAll_104 g Post ) := by
  unfold bk_X4_passesAll_104
  refine s_aload_n C rfl dX4_passesAll_104 ?_
  refine s_aload_n C rfl dX4_passesAll_105 ?_
  refine s_get C inw_X4_passesAll_X4 rfl (k := 10) (by decide) (by decide +kernel) (heM_0 B g) (fun _ => rfl) dX4_passesAll_106 ?_
  refine s_bipush C (by decide) dX4_passesAll_109 ?_
  refine s_callV C (fr_M_P10 B g) (k_X4_passes B g 10 400) gX4_passesAll_X4_passes rfl (by decide +kernel) ⟨rfl, rfl⟩ (by decide) rfl (fun s => ⟨_, heM_0 B g s⟩) (cf_RRI_r _ _ _ _ _) dX4_passesAll_111 ?_
  exact s_X4_passesAll_114 B g C R 
def bk_X4_passesAll_94 (g : Nat → Nat) (Post : Option Value → MS → Prop)  (L : Lc) (st : List Value) (s : MS) : Prop :=
  (wAload 0 <| wAload 0 <| wGet (g 30) (fun _ => .ref (g 40)) <| wK (.int 12) <| wCallR 3 (F_X4_passes g 9 13) (mgP 9) (msP 9) <| bk_X4_passesAll_104 g Post ) L st s
set_option maxRecDepth 20000 in
theorem s_X4_passesAll_94 {X : Cx} (B : Bx) (g : Nat → Nat) {Post : Option Value → MS → Prop} (C : OkX X (gx B) cX4_passesAll 3 wsX4_passesAll RX4 (rmD 1)) (R : RtX X (gx B) none (encM B g) Post)  : Snd X (gx B) 3 (encM B g) 94 (bk_X4_passesAll_94 g Post ) := by
  unfold bk_X4_passesAll_94
  refine s_aload_n C rfl dX4_passesAll_94 ?_
  refine s_aload_n C rfl dX4_passesAll_95 ?_
  refine s_get C inw_X4_passesAll_X4 rfl (k := 9) (by decide) (by decide +kernel) (heM_0 B g) (fun _ => rfl) dX4_passesAll_96 ?_
  refine s_bipush C (by decide) dX4_passesAll_99 ?_
  refine s_callV C (fr_M_P9 B g) (k_X4_passes B g 9 13) gX4_passesAll_X4_passes rfl (by decide +kernel) ⟨rfl, rfl⟩ (by decide) rfl (fun s => ⟨_, heM_0 B g s⟩) (cf_RRI_r _ _ _ _ _) dX4_passesAll_101 ?_
  exact s_X4_passesAll_104 B g C R 
def bk_X4_passesAll_84 (g : Nat → Nat) (Post : Option Value → MS → Prop)  (L : Lc) (st : List Value) (s : MS) : Prop :=
  (wAload 0 <| wAload 0 <| wGet (g 30) (fun _ => .ref (g 39)) <| wK (.int 12) <| wCallR 3 (F_X4_passes g 8 13) (mgP 8) (msP 8) <| bk_X4_passesAll_94 g Post ) L st s
set_option maxRecDepth 20000 in
theorem s_X4_passesAll_84 {X : Cx} (B : Bx) (g : Nat → Nat) {Post : Option Value → MS → Prop} (C : OkX X (gx B) cX4_passesAll 3 wsX4_passesAll RX4 (rmD 1)) (R : RtX X (gx B) none (encM B g) Post)  : Snd X (gx B) 3 (encM B g) 84 (bk_X4_passesAll_84 g Post ) := by
  unfold bk_X4_passesAll_84
  refine s_aload_n C rfl dX4_passesAll_84 ?_
  refine s_aload_n C rfl dX4_passesAll_85 ?_
  refine s_get C inw_X4_passesAll_X4 rfl (k := 8) (by decide) (by decide +kernel) (heM_0 B g) (fun _ => rfl) dX4_passesAll_86 ?_
  refine s_bipush C (by decide) dX4_passesAll_89 ?_
  refine s_callV C (fr_M_P8 B g) (k_X4_passes B g 8 13) gX4_passesAll_X4_passes rfl (by decide +kernel) ⟨rfl, rfl⟩ (by decide) rfl (fun s => ⟨_, heM_0 B g s⟩) (cf_RRI_r _ _ _ _ _) dX4_passesAll_91 ?_
  exact s_X4_passesAll_94 B g C R 
def bk_X4_passesAll_74 (g : Nat → Nat) (Post : Option Value → MS → Prop)  (L : Lc) (st : List Value) (s : MS) : Prop :=
  (wAload 0 <| wAload 0 <| wGet (g 30) (fun _ => .ref (g 38)) <| wK (.int 12) <| wCallR 3 (F_X4_passes g 7 13) (mgP 7) (msP 7) <| bk_X4_passesAll_84 g Post ) L st s
set_option maxRecDepth 20000 in
theorem s_X4_passesAll_74 {X : Cx} (B : Bx) (g : Nat → Nat) {Post : Option Value → MS → Prop} (C : OkX X (gx B) cX4_passesAll 3 wsX4_passesAll RX4 (rmD 1)) (R : RtX X (gx B) none (encM B g) Post)  : Snd X (gx B) 3 (encM B g) 74 (bk_X4_passesAll_74 g Post ) := by
  unfold bk_X4_passesAll_74
  refine s_aload_n C rfl dX4_passesAll_74 ?_
  refine s_aload_n C rfl dX4_passesAll_75 ?_
  refine s_get C inw_X4_passesAll_X4 rfl (k := 7) (by decide) (by decide +kernel) (heM_0 B g) (fun _ => rfl) dX4_passesAll_76 ?_
  refine s_bipush C (by decide) dX4_passesAll_79 ?_
  refine s_callV C (fr_M_P7 B g) (k_X4_passes B g 7 13) gX4_passesAll_X4_passes rfl (by decide +kernel) ⟨rfl, rfl⟩ (by decide) rfl (fun s => ⟨_, heM_0 B g s⟩) (cf_RRI_r _ _ _ _ _) dX4_passesAll_81 ?_
  exact s_X4_passesAll_84 B g C R 
def bk_X4_passesAll_64 (g : Nat → Nat) (Post : Option Value → MS → Prop)  (L : Lc) (st : List Value) (s : MS) : Prop :=
  (wAload 0 <| wAload 0 <| wGet (g 30) (fun _ => .ref (g 37)) <| wK (.int 12) <| wCallR 3 (F_X4_passes g 6 13) (mgP 6) (msP 6) <| bk_X4_passesAll_74 g Post ) L st s
set_option maxRecDepth 20000 in
theorem s_X4_passesAll_64 {X : Cx} (B : Bx) (g : Nat → Nat) {Post : Option Value → MS → Prop} (C : OkX X (gx B) cX4_passesAll 3 wsX4_passesAll RX4 (rmD 1)) (R : RtX X (gx B) none (encM B g) Post)  : Snd X (gx B) 3 (encM B g) 64 (bk_X4_passesAll_64 g Post ) := by
  unfold bk_X4_passesAll_64
  refine s_aload_n C rfl dX4_passesAll_64 ?_
  refine s_aload_n C rfl dX4_passesAll_65 ?_
  refine s_get C inw_X4_passesAll_X4 rfl (k := 6) (by decide) (by decide +kernel) (heM_0 B g) (fun _ => rfl) dX4_passesAll_66 ?_
  refine s_bipush C (by decide) dX4_passesAll_69 ?_
  refine s_callV C (fr_M_P6 B g) (k_X4_passes B g 6 13) gX4_passesAll_X4_passes rfl (by decide +kernel) ⟨rfl, rfl⟩ (by decide) rfl (fun s => ⟨_, heM_0 B g s⟩) (cf_RRI_r _ _ _ _ _) dX4_passesAll_71 ?_
  exact s_X4_passesAll_74 B g C R 
def bk_X4_passesAll_54 (g : Nat → Nat) (Post : Option Value → MS → Prop)  (L : Lc) (st : List Value) (s : MS) : Prop :=
  (wAload 0 <| wAload 0 <| wGet (g 30) (fun _ => .ref (g 36)) <| wK (.int 12) <| wCallR 3 (F_X4_passes g 5 13) (mgP 5) (msP 5) <| bk_X4_passesAll_64 g Post ) L st s
set_option maxRecDepth 20000 in
theorem s_X4_passesAll_54 {X : Cx} (B : Bx) (g : Nat → Nat) {Post : Option Value → MS → Prop} (C : OkX X (gx B) cX4_passesAll 3 wsX4_passesAll RX4 (rmD 1)) (R : RtX X (gx B) none (encM B g) Post)  : Snd X (gx B) 3 (encM B g) 54 (bk_X4_passesAll_54 g Post ) := by
  unfold bk_X4_passesAll_54
  refine s_aload_n C rfl dX4_passesAll_54 ?_
  refine s_aload_n C rfl dX4_passesAll_55 ?_
  refine s_get C inw_X4_passesAll_X4 rfl (k := 5) (by decide) (by decide +kernel) (heM_0 B g) (fun _ => rfl) dX4_passesAll_56 ?_
  refine s_bipush C (by decide) dX4_passesAll_59 ?_
  refine s_callV C (fr_M_P5 B g) (k_X4_passes B g 5 13) gX4_passesAll_X4_passes rfl (by decide +kernel) ⟨rfl, rfl⟩ (by decide) rfl (fun s => ⟨_, heM_0 B g s⟩) (cf_RRI_r _ _ _ _ _) dX4_passesAll_61 ?_
  exact s_X4_passesAll_64 B g C R 
def bk_X4_passesAll_44 (g : Nat → Nat) (Post : Option Value → MS → Prop)  (L : Lc) (st : List Value) (s : MS) : Prop :=
  (wAload 0 <| wAload 0 <| wGet (g 30) (fun _ => .ref (g 35)) <| wK (.int 12) <| wCallR 3 (F_X4_passes g 4 13) (mgP 4) (msP 4) <| bk_X4_passesAll_54 g Post ) L st s
set_option maxRecDepth 20000 in
theorem s_X4_passesAll_44 {X : Cx} (B : Bx) (g : Nat → Nat) {Post : Option Value → MS → Prop} (C : OkX X (gx B) cX4_passesAll 3 wsX4_passesAll RX4 (rmD 1)) (R : RtX X (gx B) none (encM B g) Post)  : Snd X (gx B) 3 (encM B g) 44 (bk_X4_passesAll_44 g Post ) := by
  unfold bk_X4_passesAll_44
  refine s_aload_n C rfl dX4_passesAll_44 ?_
  refine s_aload_n C rfl dX4_passesAll_45 ?_
  refine s_get C inw_X4_passesAll_X4 rfl (k := 4) (by decide) (by decide +kernel) (heM_0 B g) (fun _ => rfl) dX4_passesAll_46 ?_
  refine s_bipush C (by decide) dX4_passesAll_49 ?_
  refine s_callV C (fr_M_P4 B g) (k_X4_passes B g 4 13) gX4_passesAll_X4_passes rfl (by decide +kernel) ⟨rfl, rfl⟩ (by decide) rfl (fun s => ⟨_, heM_0 B g s⟩) (cf_RRI_r _ _ _ _ _) dX4_passesAll_51 ?_
  exact s_X4_passesAll_54 B g C R 
def bk_X4_passesAll_34 (g : Nat → Nat) (Post : Option Value → MS → Prop)  (L : Lc) (st : List Value) (s : MS) : Prop :=
  (wAload 0 <| wAload 0 <| wGet (g 30) (fun _ => .ref (g 34)) <| wK (.int 28) <| wCallR 3 (F_X4_passes g 3 28) (mgP 3) (msP 3) <| bk_X4_passesAll_44 g Post ) L st s
set_option maxRecDepth 20000 in
theorem s_X4_passesAll_34 {X : Cx} (B : Bx) (g : Nat → Nat) {Post : Option Value → MS → Prop} (C : OkX X (gx B) cX4_passesAll 3 wsX4_passesAll RX4 (rmD 1)) (R : RtX X (gx B) none (encM B g) Post)  : Snd X (gx B) 3 (encM B g) 34 (bk_X4_passesAll_34 g Post ) := by
  unfold bk_X4_passesAll_34
  refine s_aload_n C rfl dX4_passesAll_34 ?_
  refine s_aload_n C rfl dX4_passesAll_35 ?_
  refine s_get C inw_X4_passesAll_X4 rfl (k := 3) (by decide) (by decide +kernel) (heM_0 B g) (fun _ => rfl) dX4_passesAll_36 ?_
  refine s_bipush C (by decide) dX4_passesAll_39 ?_
  refine s_callV C (fr_M_P3 B g) (k_X4_passes B g 3 28) gX4_passesAll_X4_passes rfl (by decide +kernel) ⟨rfl, rfl⟩ (by decide) rfl (fun s => ⟨_, heM_0 B g s⟩) (cf_RRI_r _ _ _ _ _) dX4_passesAll_41 ?_
  exact s_X4_passesAll_44 B g C R 
def bk_X4_passesAll_24 (g : Nat → Nat) (Post : Option Value → MS → Prop)  (L : Lc) (st : List Value) (s : MS) : Prop :=
  (wAload 0 <| wAload 0 <| wGet (g 30) (fun _ => .ref (g 33)) <| wK (.int 7) <| wCallR 3 (F_X4_passes g 2 7) (mgP 2) (msP 2) <| bk_X4_passesAll_34 g Post ) L st s
set_option maxRecDepth 20000 in
theorem s_X4_passesAll_24 {X : Cx} (B : Bx) (g : Nat → Nat) {Post : Option Value → MS → Prop} (C : OkX X (gx B) cX4_passesAll 3 wsX4_passesAll RX4 (rmD 1)) (R : RtX X (gx B) none (encM B g) Post)  : Snd X (gx B) 3 (encM B g) 24 (bk_X4_passesAll_24 g Post ) := by
  unfold bk_X4_passesAll_24
  refine s_aload_n C rfl dX4_passesAll_24 ?_
  refine s_aload_n C rfl dX4_passesAll_25 ?_
  refine s_get C inw_X4_passesAll_X4 rfl (k := 2) (by decide) (by decide +kernel) (heM_0 B g) (fun _ => rfl) dX4_passesAll_26 ?_
  refine s_bipush C (by decide) dX4_passesAll_29 ?_
  refine s_callV C (fr_M_P2 B g) (k_X4_passes B g 2 7) gX4_passesAll_X4_passes rfl (by decide +kernel) ⟨rfl, rfl⟩ (by decide) rfl (fun s => ⟨_, heM_0 B g s⟩) (cf_RRI_r _ _ _ _ _) dX4_passesAll_31 ?_
  exact s_X4_passesAll_34 B g C R 
def bk_X4_passesAll_14 (g : Nat → Nat) (Post : Option Value → MS → Prop)  (L : Lc) (st : List Value) (s : MS) : Prop :=
  (wAload 0 <| wAload 0 <| wGet (g 30) (fun _ => .ref (g 32)) <| wK (.int 7) <| wCallR 3 (F_X4_passes g 1 7) (mgP 1) (msP 1) <| bk_X4_passesAll_24 g Post ) L st s
set_option maxRecDepth 20000 in
theorem s_X4_passesAll_14 {X : Cx} (B : Bx) (g : Nat → Nat) {Post : Option Value → MS → Prop} (C : OkX X (gx B) cX4_passesAll 3 wsX4_passesAll RX4 (rmD 1)) (R : RtX X (gx B) none (encM B g) Post)  : Snd X (gx B) 3 (encM B g) 14 (bk_X4_passesAll_14 g Post ) := by
  unfold bk_X4_passesAll_14
  refine s_aload_n C rfl dX4_passesAll_14 ?_
  refine s_aload_n C rfl dX4_passesAll_15 ?_
  refine s_get C inw_X4_passesAll_X4 rfl (k := 1) (by decide) (by decide +kernel) (heM_0 B g) (fun _ => rfl) dX4_passesAll_16 ?_
  refine s_bipush C (by decide) dX4_passesAll_19 ?_
  refine s_callV C (fr_M_P1 B g) (k_X4_passes B g 1 7) gX4_passesAll_X4_passes rfl (by decide +kernel) ⟨rfl, rfl⟩ (by decide) rfl (fun s => ⟨_, heM_0 B g s⟩) (cf_RRI_r _ _ _ _ _) dX4_passesAll_21 ?_
  exact s_X4_passesAll_24 B g C R 
def bk_X4_passesAll_9 (g : Nat → Nat) (Post : Option Value → MS → Prop)  (L : Lc) (st : List Value) (s : MS) : Prop :=
  (wAload 0 <| wIload 2 <| wPutZ (g 30) (msS 32) <| bk_X4_passesAll_14 g Post ) L st s
set_option maxRecDepth 20000 in
theorem s_X4_passesAll_9 {X : Cx} (B : Bx) (g : Nat → Nat) {Post : Option Value → MS → Prop} (C : OkX X (gx B) cX4_passesAll 3 wsX4_passesAll RX4 (rmD 1)) (R : RtX X (gx B) none (encM B g) Post)  : Snd X (gx B) 3 (encM B g) 9 (bk_X4_passesAll_9 g Post ) := by
  unfold bk_X4_passesAll_9
  refine s_aload_n C rfl dX4_passesAll_9 ?_
  refine s_iload_n C rfl dX4_passesAll_10 ?_
  refine s_putZ C inw_X4_passesAll_X4 rfl (k := 32) (by decide) (by decide +kernel) tyX4_ok nmX4 (by decide +kernel) (by decide +kernel) (heM_0 B g) (fun _ => Nat.le_of_ble_eq_true rfl) (fun _ _ => rfl) dX4_passesAll_11 ?_
  exact s_X4_passesAll_14 B g C R 
def bk_X4_passesAll_0 (g : Nat → Nat) (Post : Option Value → MS → Prop)  (L : Lc) (st : List Value) (s : MS) : Prop :=
  (wAload 0 <| wK (.int 500) <| wIload 1 <| wB (fun x y => x * y) <| wPut (g 30) (msS 33) <| bk_X4_passesAll_9 g Post ) L st s
set_option maxRecDepth 20000 in
theorem s_X4_passesAll_0 {X : Cx} (B : Bx) (g : Nat → Nat) {Post : Option Value → MS → Prop} (C : OkX X (gx B) cX4_passesAll 3 wsX4_passesAll RX4 (rmD 1)) (R : RtX X (gx B) none (encM B g) Post)  : Snd X (gx B) 3 (encM B g) 0 (bk_X4_passesAll_0 g Post ) := by
  unfold bk_X4_passesAll_0
  refine s_aload_n C rfl dX4_passesAll_0 ?_
  refine s_sipush C (by decide) dX4_passesAll_1 ?_
  refine s_iload_n C rfl dX4_passesAll_4 ?_
  refine s_imul C dX4_passesAll_5 ?_
  refine s_put C inw_X4_passesAll_X4 rfl (k := 33) (by decide) (by decide +kernel) tyX4_ok nmX4 (by decide +kernel) (by decide +kernel) (heM_0 B g) (fun _ => Nat.le_of_ble_eq_true rfl) (fun _ _ => rfl) dX4_passesAll_6 ?_
  exact s_X4_passesAll_9 B g C R 
theorem foldl1 {α β : Type} (f : α → β → α) (x : β) (l : List β) (a : α) : (x :: l).foldl f a = l.foldl f (f a x) := rfl
theorem foldl0 {α β : Type} (f : α → β → α) (a : α) : ([] : List β).foldl f a = a := rfl
theorem preP (k n m c : Nat) (M : MS) (h : mS 33 M = nI c) (hm : m ≤ n) (hn : n ≤ 400) (hc : c + m ≤ 1000) : ∃ m' c', m' ≤ n ∧ n ≤ 400 ∧ c' + m' ≤ 1000 ∧ nI m = nI m' ∧ pS 33 (mgP k M) = nI c' := ⟨m, c, hm, hn, hc, rfl, h⟩
theorem k_X4_passesAll (B : Bx) (g : Nat → Nat) : MtF (gx B) yX4_passesAll wsX4_passesAll (rmD 1) (encM B g) (F_X4_passesAll g) := by
  refine cf_RII_i (fun l M w kp h => ?_)
  obtain ⟨c0, hc0, ec⟩ : ∃ c, c ≤ 500 ∧ 500 * w = nI c := by
    rcases h.1 with rfl | rfl
    · exact ⟨0, by omega, rfl⟩
    · exact ⟨500, by omega, rfl⟩
  have hk := h.2
  generalize hfin : uPA M w kp = fin
  refine Mt.of (P := bk_X4_passesAll_0 g (fun o u => o = none ∧ u = fin)) (by decide) rfl (Nat.le_of_ble_eq_true rfl) rfl (fun X C R => s_X4_passesAll_0 B g C R) ?_
  unfold uPA uPlist at hfin
  simp only [foldl1, foldl0] at hfin
  simp only [wIload, wAload, wLload, wK, wB, wDv, wU, wLB, wLU, wLS, wL2i, wLcmp, wIf1, wIf2, wKeep, wInc, wIst, wAst, wLst, wDup, wPop, wDup2, wGet, wPut, wPutZ, wIald, wLald, wIast, wLast, wLen, wRetI, wRetZ, wRetL, wRetA, wRetV, wM1, wM2, wCpy, wTab, tabW, nth, stL, stL2, dropL, keepL, mkL, padL, restOK, restOKn, tl_some, tl_none, id_eq, eq_self, true_and, and_true, bk_X4_passesAll_9, bk_X4_passesAll_0, F_X4_passOne, F_X4_passes, cf_RI_e, cf_RRI_e, mS_S, mA_A, mS_A, mA_S, mS_a, mA_a, Nat.reduceEqDiff, reduceIte, hk]
  generalize e0 : msS 32 (msS 33 M (500 * w)) kp = M0 at hfin ⊢
  have h0 : mS 33 M0 = nI c0 := by rw [← e0]; exact ec
  simp only [wIload, wAload, wLload, wK, wB, wDv, wU, wLB, wLU, wLS, wL2i, wLcmp, wIf1, wIf2, wKeep, wInc, wIst, wAst, wLst, wDup, wPop, wDup2, wGet, wPut, wPutZ, wIald, wLald, wIast, wLast, wLen, wRetI, wRetZ, wRetL, wRetA, wRetV, wM1, wM2, wCpy, wTab, tabW, nth, stL, stL2, dropL, keepL, mkL, padL, restOK, restOKn, tl_some, tl_none, id_eq, eq_self, true_and, and_true, bk_X4_passesAll_14, F_X4_passOne, F_X4_passes, cf_RI_e, cf_RRI_e]
  refine ⟨preP 1 7 7 (c0 + 0) M0 h0 (by decide) (by decide) (by omega), ?_⟩
  generalize e1 : uPass 1 7 M0 = M1 at hfin
  have q1 : msP 1 M0 (psP (mgP 1 M0) (pS 33 (mgP 1 M0)).toNatClampNeg (7 : Int32).toNatClampNeg) = M1 := e1
  rw [q1]
  have h1 : mS 33 M1 = nI (c0 + 7) := by rw [← e1]; exact uPass_33 1 7 M0 h0 (by omega)
  clear q1 e1
  simp only [wIload, wAload, wLload, wK, wB, wDv, wU, wLB, wLU, wLS, wL2i, wLcmp, wIf1, wIf2, wKeep, wInc, wIst, wAst, wLst, wDup, wPop, wDup2, wGet, wPut, wPutZ, wIald, wLald, wIast, wLast, wLen, wRetI, wRetZ, wRetL, wRetA, wRetV, wM1, wM2, wCpy, wTab, tabW, nth, stL, stL2, dropL, keepL, mkL, padL, restOK, restOKn, tl_some, tl_none, id_eq, eq_self, true_and, and_true, bk_X4_passesAll_24, F_X4_passOne, F_X4_passes, cf_RI_e, cf_RRI_e]
  refine ⟨preP 2 7 7 (c0 + 7) M1 h1 (by decide) (by decide) (by omega), ?_⟩
  generalize e2 : uPass 2 7 M1 = M2 at hfin
  have q2 : msP 2 M1 (psP (mgP 2 M1) (pS 33 (mgP 2 M1)).toNatClampNeg (7 : Int32).toNatClampNeg) = M2 := e2
  rw [q2]
  have h2 : mS 33 M2 = nI (c0 + 14) := by rw [← e2]; exact uPass_33 2 7 M1 h1 (by omega)
  clear q2 e2
  simp only [wIload, wAload, wLload, wK, wB, wDv, wU, wLB, wLU, wLS, wL2i, wLcmp, wIf1, wIf2, wKeep, wInc, wIst, wAst, wLst, wDup, wPop, wDup2, wGet, wPut, wPutZ, wIald, wLald, wIast, wLast, wLen, wRetI, wRetZ, wRetL, wRetA, wRetV, wM1, wM2, wCpy, wTab, tabW, nth, stL, stL2, dropL, keepL, mkL, padL, restOK, restOKn, tl_some, tl_none, id_eq, eq_self, true_and, and_true, bk_X4_passesAll_34, F_X4_passOne, F_X4_passes, cf_RI_e, cf_RRI_e]
  refine ⟨preP 3 28 28 (c0 + 14) M2 h2 (by decide) (by decide) (by omega), ?_⟩
  generalize e3 : uPass 3 28 M2 = M3 at hfin
  have q3 : msP 3 M2 (psP (mgP 3 M2) (pS 33 (mgP 3 M2)).toNatClampNeg (28 : Int32).toNatClampNeg) = M3 := e3
  rw [q3]
  have h3 : mS 33 M3 = nI (c0 + 42) := by rw [← e3]; exact uPass_33 3 28 M2 h2 (by omega)
  clear q3 e3
  simp only [wIload, wAload, wLload, wK, wB, wDv, wU, wLB, wLU, wLS, wL2i, wLcmp, wIf1, wIf2, wKeep, wInc, wIst, wAst, wLst, wDup, wPop, wDup2, wGet, wPut, wPutZ, wIald, wLald, wIast, wLast, wLen, wRetI, wRetZ, wRetL, wRetA, wRetV, wM1, wM2, wCpy, wTab, tabW, nth, stL, stL2, dropL, keepL, mkL, padL, restOK, restOKn, tl_some, tl_none, id_eq, eq_self, true_and, and_true, bk_X4_passesAll_44, F_X4_passOne, F_X4_passes, cf_RI_e, cf_RRI_e]
  refine ⟨preP 4 13 12 (c0 + 42) M3 h3 (by decide) (by decide) (by omega), ?_⟩
  generalize e4 : uPass 4 12 M3 = M4 at hfin
  have q4 : msP 4 M3 (psP (mgP 4 M3) (pS 33 (mgP 4 M3)).toNatClampNeg (12 : Int32).toNatClampNeg) = M4 := e4
  rw [q4]
  have h4 : mS 33 M4 = nI (c0 + 54) := by rw [← e4]; exact uPass_33 4 12 M3 h3 (by omega)
  clear q4 e4
  simp only [wIload, wAload, wLload, wK, wB, wDv, wU, wLB, wLU, wLS, wL2i, wLcmp, wIf1, wIf2, wKeep, wInc, wIst, wAst, wLst, wDup, wPop, wDup2, wGet, wPut, wPutZ, wIald, wLald, wIast, wLast, wLen, wRetI, wRetZ, wRetL, wRetA, wRetV, wM1, wM2, wCpy, wTab, tabW, nth, stL, stL2, dropL, keepL, mkL, padL, restOK, restOKn, tl_some, tl_none, id_eq, eq_self, true_and, and_true, bk_X4_passesAll_54, F_X4_passOne, F_X4_passes, cf_RI_e, cf_RRI_e]
  refine ⟨preP 5 13 12 (c0 + 54) M4 h4 (by decide) (by decide) (by omega), ?_⟩
  generalize e5 : uPass 5 12 M4 = M5 at hfin
  have q5 : msP 5 M4 (psP (mgP 5 M4) (pS 33 (mgP 5 M4)).toNatClampNeg (12 : Int32).toNatClampNeg) = M5 := e5
  rw [q5]
  have h5 : mS 33 M5 = nI (c0 + 66) := by rw [← e5]; exact uPass_33 5 12 M4 h4 (by omega)
  clear q5 e5
  simp only [wIload, wAload, wLload, wK, wB, wDv, wU, wLB, wLU, wLS, wL2i, wLcmp, wIf1, wIf2, wKeep, wInc, wIst, wAst, wLst, wDup, wPop, wDup2, wGet, wPut, wPutZ, wIald, wLald, wIast, wLast, wLen, wRetI, wRetZ, wRetL, wRetA, wRetV, wM1, wM2, wCpy, wTab, tabW, nth, stL, stL2, dropL, keepL, mkL, padL, restOK, restOKn, tl_some, tl_none, id_eq, eq_self, true_and, and_true, bk_X4_passesAll_64, F_X4_passOne, F_X4_passes, cf_RI_e, cf_RRI_e]
  refine ⟨preP 6 13 12 (c0 + 66) M5 h5 (by decide) (by decide) (by omega), ?_⟩
  generalize e6 : uPass 6 12 M5 = M6 at hfin
  have q6 : msP 6 M5 (psP (mgP 6 M5) (pS 33 (mgP 6 M5)).toNatClampNeg (12 : Int32).toNatClampNeg) = M6 := e6
  rw [q6]
  have h6 : mS 33 M6 = nI (c0 + 78) := by rw [← e6]; exact uPass_33 6 12 M5 h5 (by omega)
  clear q6 e6
  simp only [wIload, wAload, wLload, wK, wB, wDv, wU, wLB, wLU, wLS, wL2i, wLcmp, wIf1, wIf2, wKeep, wInc, wIst, wAst, wLst, wDup, wPop, wDup2, wGet, wPut, wPutZ, wIald, wLald, wIast, wLast, wLen, wRetI, wRetZ, wRetL, wRetA, wRetV, wM1, wM2, wCpy, wTab, tabW, nth, stL, stL2, dropL, keepL, mkL, padL, restOK, restOKn, tl_some, tl_none, id_eq, eq_self, true_and, and_true, bk_X4_passesAll_74, F_X4_passOne, F_X4_passes, cf_RI_e, cf_RRI_e]
  refine ⟨preP 7 13 12 (c0 + 78) M6 h6 (by decide) (by decide) (by omega), ?_⟩
  generalize e7 : uPass 7 12 M6 = M7 at hfin
  have q7 : msP 7 M6 (psP (mgP 7 M6) (pS 33 (mgP 7 M6)).toNatClampNeg (12 : Int32).toNatClampNeg) = M7 := e7
  rw [q7]
  have h7 : mS 33 M7 = nI (c0 + 90) := by rw [← e7]; exact uPass_33 7 12 M6 h6 (by omega)
  clear q7 e7
  simp only [wIload, wAload, wLload, wK, wB, wDv, wU, wLB, wLU, wLS, wL2i, wLcmp, wIf1, wIf2, wKeep, wInc, wIst, wAst, wLst, wDup, wPop, wDup2, wGet, wPut, wPutZ, wIald, wLald, wIast, wLast, wLen, wRetI, wRetZ, wRetL, wRetA, wRetV, wM1, wM2, wCpy, wTab, tabW, nth, stL, stL2, dropL, keepL, mkL, padL, restOK, restOKn, tl_some, tl_none, id_eq, eq_self, true_and, and_true, bk_X4_passesAll_84, F_X4_passOne, F_X4_passes, cf_RI_e, cf_RRI_e]
  refine ⟨preP 8 13 12 (c0 + 90) M7 h7 (by decide) (by decide) (by omega), ?_⟩
  generalize e8 : uPass 8 12 M7 = M8 at hfin
  have q8 : msP 8 M7 (psP (mgP 8 M7) (pS 33 (mgP 8 M7)).toNatClampNeg (12 : Int32).toNatClampNeg) = M8 := e8
  rw [q8]
  have h8 : mS 33 M8 = nI (c0 + 102) := by rw [← e8]; exact uPass_33 8 12 M7 h7 (by omega)
  clear q8 e8
  simp only [wIload, wAload, wLload, wK, wB, wDv, wU, wLB, wLU, wLS, wL2i, wLcmp, wIf1, wIf2, wKeep, wInc, wIst, wAst, wLst, wDup, wPop, wDup2, wGet, wPut, wPutZ, wIald, wLald, wIast, wLast, wLen, wRetI, wRetZ, wRetL, wRetA, wRetV, wM1, wM2, wCpy, wTab, tabW, nth, stL, stL2, dropL, keepL, mkL, padL, restOK, restOKn, tl_some, tl_none, id_eq, eq_self, true_and, and_true, bk_X4_passesAll_94, F_X4_passOne, F_X4_passes, cf_RI_e, cf_RRI_e]
  refine ⟨preP 9 13 12 (c0 + 102) M8 h8 (by decide) (by decide) (by omega), ?_⟩
  generalize e9 : uPass 9 12 M8 = M9 at hfin
  have q9 : msP 9 M8 (psP (mgP 9 M8) (pS 33 (mgP 9 M8)).toNatClampNeg (12 : Int32).toNatClampNeg) = M9 := e9
  rw [q9]
  have h9 : mS 33 M9 = nI (c0 + 114) := by rw [← e9]; exact uPass_33 9 12 M8 h8 (by omega)
  clear q9 e9
  simp only [wIload, wAload, wLload, wK, wB, wDv, wU, wLB, wLU, wLS, wL2i, wLcmp, wIf1, wIf2, wKeep, wInc, wIst, wAst, wLst, wDup, wPop, wDup2, wGet, wPut, wPutZ, wIald, wLald, wIast, wLast, wLen, wRetI, wRetZ, wRetL, wRetA, wRetV, wM1, wM2, wCpy, wTab, tabW, nth, stL, stL2, dropL, keepL, mkL, padL, restOK, restOKn, tl_some, tl_none, id_eq, eq_self, true_and, and_true, bk_X4_passesAll_104, F_X4_passOne, F_X4_passes, cf_RI_e, cf_RRI_e]
  refine ⟨preP 10 400 60 (c0 + 114) M9 h9 (by decide) (by decide) (by omega), ?_⟩
  generalize e10 : uPass 10 60 M9 = M10 at hfin
  have q10 : msP 10 M9 (psP (mgP 10 M9) (pS 33 (mgP 10 M9)).toNatClampNeg (60 : Int32).toNatClampNeg) = M10 := e10
  rw [q10]
  have h10 : mS 33 M10 = nI (c0 + 174) := by rw [← e10]; exact uPass_33 10 60 M9 h9 (by omega)
  clear q10 e10
  simp only [wIload, wAload, wLload, wK, wB, wDv, wU, wLB, wLU, wLS, wL2i, wLcmp, wIf1, wIf2, wKeep, wInc, wIst, wAst, wLst, wDup, wPop, wDup2, wGet, wPut, wPutZ, wIald, wLald, wIast, wLast, wLen, wRetI, wRetZ, wRetL, wRetA, wRetV, wM1, wM2, wCpy, wTab, tabW, nth, stL, stL2, dropL, keepL, mkL, padL, restOK, restOKn, tl_some, tl_none, id_eq, eq_self, true_and, and_true, bk_X4_passesAll_114, F_X4_passOne, F_X4_passes, cf_RI_e, cf_RRI_e]
  refine ⟨preP 11 400 60 (c0 + 174) M10 h10 (by decide) (by decide) (by omega), ?_⟩
  generalize e11 : uPass 11 60 M10 = M11 at hfin
  have q11 : msP 11 M10 (psP (mgP 11 M10) (pS 33 (mgP 11 M10)).toNatClampNeg (60 : Int32).toNatClampNeg) = M11 := e11
  rw [q11]
  have h11 : mS 33 M11 = nI (c0 + 234) := by rw [← e11]; exact uPass_33 11 60 M10 h10 (by omega)
  clear q11 e11
  simp only [wIload, wAload, wLload, wK, wB, wDv, wU, wLB, wLU, wLS, wL2i, wLcmp, wIf1, wIf2, wKeep, wInc, wIst, wAst, wLst, wDup, wPop, wDup2, wGet, wPut, wPutZ, wIald, wLald, wIast, wLast, wLen, wRetI, wRetZ, wRetL, wRetA, wRetV, wM1, wM2, wCpy, wTab, tabW, nth, stL, stL2, dropL, keepL, mkL, padL, restOK, restOKn, tl_some, tl_none, id_eq, eq_self, true_and, and_true, bk_X4_passesAll_124, F_X4_passOne, F_X4_passes, cf_RI_e, cf_RRI_e]
  refine ⟨preP 12 400 60 (c0 + 234) M11 h11 (by decide) (by decide) (by omega), ?_⟩
  generalize e12 : uPass 12 60 M11 = M12 at hfin
  have q12 : msP 12 M11 (psP (mgP 12 M11) (pS 33 (mgP 12 M11)).toNatClampNeg (60 : Int32).toNatClampNeg) = M12 := e12
  rw [q12]
  have h12 : mS 33 M12 = nI (c0 + 294) := by rw [← e12]; exact uPass_33 12 60 M11 h11 (by omega)
  clear q12 e12
  simp only [wIload, wAload, wLload, wK, wB, wDv, wU, wLB, wLU, wLS, wL2i, wLcmp, wIf1, wIf2, wKeep, wInc, wIst, wAst, wLst, wDup, wPop, wDup2, wGet, wPut, wPutZ, wIald, wLald, wIast, wLast, wLen, wRetI, wRetZ, wRetL, wRetA, wRetV, wM1, wM2, wCpy, wTab, tabW, nth, stL, stL2, dropL, keepL, mkL, padL, restOK, restOKn, tl_some, tl_none, id_eq, eq_self, true_and, and_true, bk_X4_passesAll_134, F_X4_passOne, F_X4_passes, cf_RI_e, cf_RRI_e]
  refine ⟨preP 13 400 60 (c0 + 294) M12 h12 (by decide) (by decide) (by omega), ?_⟩
  generalize e13 : uPass 13 60 M12 = M13 at hfin
  have q13 : msP 13 M12 (psP (mgP 13 M12) (pS 33 (mgP 13 M12)).toNatClampNeg (60 : Int32).toNatClampNeg) = M13 := e13
  rw [q13]
  have h13 : mS 33 M13 = nI (c0 + 354) := by rw [← e13]; exact uPass_33 13 60 M12 h12 (by omega)
  clear q13 e13
  simp only [wIload, wAload, wLload, wK, wB, wDv, wU, wLB, wLU, wLS, wL2i, wLcmp, wIf1, wIf2, wKeep, wInc, wIst, wAst, wLst, wDup, wPop, wDup2, wGet, wPut, wPutZ, wIald, wLald, wIast, wLast, wLen, wRetI, wRetZ, wRetL, wRetA, wRetV, wM1, wM2, wCpy, wTab, tabW, nth, stL, stL2, dropL, keepL, mkL, padL, restOK, restOKn, tl_some, tl_none, id_eq, eq_self, true_and, and_true, bk_X4_passesAll_144, F_X4_passOne, F_X4_passes, cf_RI_e, cf_RRI_e]
  refine ⟨preP 14 400 60 (c0 + 354) M13 h13 (by decide) (by decide) (by omega), ?_⟩
  generalize e14 : uPass 14 60 M13 = M14 at hfin
  have q14 : msP 14 M13 (psP (mgP 14 M13) (pS 33 (mgP 14 M13)).toNatClampNeg (60 : Int32).toNatClampNeg) = M14 := e14
  rw [q14]
  have h14 : mS 33 M14 = nI (c0 + 414) := by rw [← e14]; exact uPass_33 14 60 M13 h13 (by omega)
  clear q14 e14
  simp only [wIload, wAload, wLload, wK, wB, wDv, wU, wLB, wLU, wLS, wL2i, wLcmp, wIf1, wIf2, wKeep, wInc, wIst, wAst, wLst, wDup, wPop, wDup2, wGet, wPut, wPutZ, wIald, wLald, wIast, wLast, wLen, wRetI, wRetZ, wRetL, wRetA, wRetV, wM1, wM2, wCpy, wTab, tabW, nth, stL, stL2, dropL, keepL, mkL, padL, restOK, restOKn, tl_some, tl_none, id_eq, eq_self, true_and, and_true, bk_X4_passesAll_154, F_X4_passOne, F_X4_passes, cf_RI_e, cf_RRI_e]
  refine ⟨⟨c0 + 414, by omega, h14⟩, ?_⟩
  generalize e15 : uPn 15 M14 = M15 at hfin
  have q15 : msS 15 (uP1s M14 (mS 15 M14)) (uP1v M14 (mS 15 M14)) = M15 := e15
  rw [q15]
  have h15 : mS 33 M15 = nI (c0 + 415) := by rw [← e15]; exact uPn_33 15 (by decide) M14 h14
  clear q15 e15
  simp only [wIload, wAload, wLload, wK, wB, wDv, wU, wLB, wLU, wLS, wL2i, wLcmp, wIf1, wIf2, wKeep, wInc, wIst, wAst, wLst, wDup, wPop, wDup2, wGet, wPut, wPutZ, wIald, wLald, wIast, wLast, wLen, wRetI, wRetZ, wRetL, wRetA, wRetV, wM1, wM2, wCpy, wTab, tabW, nth, stL, stL2, dropL, keepL, mkL, padL, restOK, restOKn, tl_some, tl_none, id_eq, eq_self, true_and, and_true, bk_X4_passesAll_166, F_X4_passOne, F_X4_passes, cf_RI_e, cf_RRI_e]
  refine ⟨⟨c0 + 415, by omega, h15⟩, ?_⟩
  generalize e16 : uPn 16 M15 = M16 at hfin
  have q16 : msS 16 (uP1s M15 (mS 16 M15)) (uP1v M15 (mS 16 M15)) = M16 := e16
  rw [q16]
  have h16 : mS 33 M16 = nI (c0 + 416) := by rw [← e16]; exact uPn_33 16 (by decide) M15 h15
  clear q16 e16
  simp only [wIload, wAload, wLload, wK, wB, wDv, wU, wLB, wLU, wLS, wL2i, wLcmp, wIf1, wIf2, wKeep, wInc, wIst, wAst, wLst, wDup, wPop, wDup2, wGet, wPut, wPutZ, wIald, wLald, wIast, wLast, wLen, wRetI, wRetZ, wRetL, wRetA, wRetV, wM1, wM2, wCpy, wTab, tabW, nth, stL, stL2, dropL, keepL, mkL, padL, restOK, restOKn, tl_some, tl_none, id_eq, eq_self, true_and, and_true, bk_X4_passesAll_178, F_X4_passOne, F_X4_passes, cf_RI_e, cf_RRI_e]
  refine ⟨⟨c0 + 416, by omega, h16⟩, ?_⟩
  generalize e17 : uPn 17 M16 = M17 at hfin
  have q17 : msS 17 (uP1s M16 (mS 17 M16)) (uP1v M16 (mS 17 M16)) = M17 := e17
  rw [q17]
  have h17 : mS 33 M17 = nI (c0 + 417) := by rw [← e17]; exact uPn_33 17 (by decide) M16 h16
  clear q17 e17
  simp only [wIload, wAload, wLload, wK, wB, wDv, wU, wLB, wLU, wLS, wL2i, wLcmp, wIf1, wIf2, wKeep, wInc, wIst, wAst, wLst, wDup, wPop, wDup2, wGet, wPut, wPutZ, wIald, wLald, wIast, wLast, wLen, wRetI, wRetZ, wRetL, wRetA, wRetV, wM1, wM2, wCpy, wTab, tabW, nth, stL, stL2, dropL, keepL, mkL, padL, restOK, restOKn, tl_some, tl_none, id_eq, eq_self, true_and, and_true, bk_X4_passesAll_190, F_X4_passOne, F_X4_passes, cf_RI_e, cf_RRI_e]
  refine ⟨⟨c0 + 417, by omega, h17⟩, ?_⟩
  generalize e18 : uPn 18 M17 = M18 at hfin
  have q18 : msS 18 (uP1s M17 (mS 18 M17)) (uP1v M17 (mS 18 M17)) = M18 := e18
  rw [q18]
  have h18 : mS 33 M18 = nI (c0 + 418) := by rw [← e18]; exact uPn_33 18 (by decide) M17 h17
  clear q18 e18
  simp only [wIload, wAload, wLload, wK, wB, wDv, wU, wLB, wLU, wLS, wL2i, wLcmp, wIf1, wIf2, wKeep, wInc, wIst, wAst, wLst, wDup, wPop, wDup2, wGet, wPut, wPutZ, wIald, wLald, wIast, wLast, wLen, wRetI, wRetZ, wRetL, wRetA, wRetV, wM1, wM2, wCpy, wTab, tabW, nth, stL, stL2, dropL, keepL, mkL, padL, restOK, restOKn, tl_some, tl_none, id_eq, eq_self, true_and, and_true, bk_X4_passesAll_202, F_X4_passOne, F_X4_passes, cf_RI_e, cf_RRI_e]
  refine ⟨⟨c0 + 418, by omega, h18⟩, ?_⟩
  generalize e19 : uPn 19 M18 = M19 at hfin
  have q19 : msS 19 (uP1s M18 (mS 19 M18)) (uP1v M18 (mS 19 M18)) = M19 := e19
  rw [q19]
  have h19 : mS 33 M19 = nI (c0 + 419) := by rw [← e19]; exact uPn_33 19 (by decide) M18 h18
  clear q19 e19
  simp only [wIload, wAload, wLload, wK, wB, wDv, wU, wLB, wLU, wLS, wL2i, wLcmp, wIf1, wIf2, wKeep, wInc, wIst, wAst, wLst, wDup, wPop, wDup2, wGet, wPut, wPutZ, wIald, wLald, wIast, wLast, wLen, wRetI, wRetZ, wRetL, wRetA, wRetV, wM1, wM2, wCpy, wTab, tabW, nth, stL, stL2, dropL, keepL, mkL, padL, restOK, restOKn, tl_some, tl_none, id_eq, eq_self, true_and, and_true, bk_X4_passesAll_214, F_X4_passOne, F_X4_passes, cf_RI_e, cf_RRI_e]
  refine ⟨⟨c0 + 419, by omega, h19⟩, ?_⟩
  generalize e20 : uPn 20 M19 = M20 at hfin
  have q20 : msS 20 (uP1s M19 (mS 20 M19)) (uP1v M19 (mS 20 M19)) = M20 := e20
  rw [q20]
  have h20 : mS 33 M20 = nI (c0 + 420) := by rw [← e20]; exact uPn_33 20 (by decide) M19 h19
  clear q20 e20
  simp only [wIload, wAload, wLload, wK, wB, wDv, wU, wLB, wLU, wLS, wL2i, wLcmp, wIf1, wIf2, wKeep, wInc, wIst, wAst, wLst, wDup, wPop, wDup2, wGet, wPut, wPutZ, wIald, wLald, wIast, wLast, wLen, wRetI, wRetZ, wRetL, wRetA, wRetV, wM1, wM2, wCpy, wTab, tabW, nth, stL, stL2, dropL, keepL, mkL, padL, restOK, restOKn, tl_some, tl_none, id_eq, eq_self, true_and, and_true, bk_X4_passesAll_226, F_X4_passOne, F_X4_passes, cf_RI_e, cf_RRI_e]
  refine ⟨⟨c0 + 420, by omega, h20⟩, ?_⟩
  generalize e21 : uPn 21 M20 = M21 at hfin
  have q21 : msS 21 (uP1s M20 (mS 21 M20)) (uP1v M20 (mS 21 M20)) = M21 := e21
  rw [q21]
  have h21 : mS 33 M21 = nI (c0 + 421) := by rw [← e21]; exact uPn_33 21 (by decide) M20 h20
  clear q21 e21
  simp only [wIload, wAload, wLload, wK, wB, wDv, wU, wLB, wLU, wLS, wL2i, wLcmp, wIf1, wIf2, wKeep, wInc, wIst, wAst, wLst, wDup, wPop, wDup2, wGet, wPut, wPutZ, wIald, wLald, wIast, wLast, wLen, wRetI, wRetZ, wRetL, wRetA, wRetV, wM1, wM2, wCpy, wTab, tabW, nth, stL, stL2, dropL, keepL, mkL, padL, restOK, restOKn, tl_some, tl_none, id_eq, eq_self, true_and, and_true, bk_X4_passesAll_250, bk_X4_passesAll_238, F_X4_passOne, F_X4_passes, cf_RI_e, cf_RRI_e]
  refine ⟨⟨c0 + 421, by omega, h21⟩, ?_⟩
  generalize e22 : uPn 22 M21 = M22 at hfin
  have q22 : msS 22 (uP1s M21 (mS 22 M21)) (uP1v M21 (mS 22 M21)) = M22 := e22
  rw [q22]
  clear q22 e22
  exact hfin
end
