noncomputable section
def kSk (s : Nat → Int64) : Nat → Int64 := s
def kaSk (s : Nat → Int64) (i : Nat) (v : Int64) : Nat → Int64 := vp_updL s i v
def encK (B : Bx) (g : Nat → Nat) (s : Nat → Int64) : va_W := [(g 20, .inl (B.2.2.1, 1024, .inr (.inl (kSk s))))]
theorem heK_0 (B : Bx) (g : Nat → Nat) : ∀ s : (Nat → Int64), (encK B g s)[0]? = some (g 20, .inl (B.2.2.1, 1024, .inr (.inl (kSk s)))) := fun _ => rfl
set_option maxRecDepth 20000 in
theorem fr_ST_K (B : Bx) (g : Nat → Nat) (t : Nat) : FrOK (encST B g t) (encK B g) fSSk fsSSk [4] [0, 1, 2, 3, 5, 6, 7, 8, 9, 10] [0, 1, 2, 3, 10, 4, 5, 6, 7, 8, 9] := ⟨fun _ => rfl, rfl, rfl, by decide, rfl, fun S => ⟨[(g 16, .inr (1, [.ref (g 17), .int (fSHd S), .ref (g 18), .ref (g 19), .ref (g 20), .ref (g 21), .int (fSFi S)])), (g 17, .inl (B.2.1, 8, .inl (fSNh S))), (g 18, .inl (B.2.1, 56, .inl (fSGo S))), (g 19, .inl (B.2.2.1, 56, .inr (.inl (fSSm S)))), (g 21, .inl (B.2.1, 1024, .inl (fSSu S))), (g t, .inr (2, [.ref (g (t + 1)), .int (fTPp S), .ref (g (t + 2)), .int (fTNn S), .ref (g (t + 3)), .int (fTHh S), .ref (g (t + 4)), .int (fTYr S)])), (g (t + 1), .inl (B.2.1, 42, .inl (fTPt S))), (g (t + 2), .inl (B.2.1, 72, .inl (fTNt S))), (g (t + 3), .inl (B.2.1, 1350, .inl (fTBt S))), (g (t + 4), .inl (B.2.1, 4, .inl (fTSe S)))], rfl, fun _ => rfl⟩⟩
theorem cf_RJ_q {σ : Type} (b0 : Nat) (pre : σ → Int64 → Prop) (f : σ → Int64 → Option Value) (g : σ → Int64 → σ) : ∀ av s, (cf_RJ b0 pre f g).1 av s → av.length = 2 := by
  intro av s h
  simp only [cf_RJ] at h
  split at h
  · rfl
  · exact h.elim
def fillK (a : Nat → Int64) (n : Nat) (v : Int64) : Nat → Int64 := fun i => if i < n then v else a i
theorem fillK_s (a : Nat → Int64) (n : Nat) (v : Int64) : vp_updL (fillK a n v) n v = fillK a (n + 1) v := by
  funext i
  unfold vp_updL fillK
  split <;> grind
def F_J7_fill_d0a16 (g : Nat → Nat) : CF (Nat → Int64) := cf_RJ (g 20) (fun _ _ => True) (fun _ _ => none) (fun s v => fillK s 1024 v)

def bk_J7_fill_d0a16_0 (g : Nat → Nat) (Post : Option Value → (Nat → Int64) → Prop) (K6 : PT (Nat → Int64)) (L : Lc) (st : List Value) (s : (Nat → Int64)) : Prop :=
  (wK (.int 0) <| wIst 3 <| wAload 0 <| wLen (g 20) 1024 <| wIst 4 <| wKeep [true, true, false, true, true] K6) L st s
set_option maxRecDepth 20000 in
theorem s_J7_fill_d0a16_0 {X : Cx} (B : Bx) (g : Nat → Nat) {Post : Option Value → (Nat → Int64) → Prop} (C : OkX X (gx B) cJ7_fill_d0a16 5 wsJ7_fill_d0a16 RJ7 (rmD 0)) (R : RtX X (gx B) none (encK B g) Post) {K6 : PT (Nat → Int64)} (hK6 : Snd X (gx B) 5 (encK B g) 6 K6) : Snd X (gx B) 5 (encK B g) 0 (bk_J7_fill_d0a16_0 g Post K6) := by
  unfold bk_J7_fill_d0a16_0
  refine s_iconst C (by decide) dJ7_fill_d0a16_0 ?_
  refine s_istore_n C rfl (by decide) dJ7_fill_d0a16_1 ?_
  refine s_aload_n C rfl dJ7_fill_d0a16_2 ?_
  refine s_alen C (t0 := 1) (heK_0 B g) rfl (fun _ => rfl) dJ7_fill_d0a16_3 ?_
  refine s_istore C (by decide) dJ7_fill_d0a16_4 ?_
  exact s_keep _ hK6
def bk_J7_fill_d0a16_6 (g : Nat → Nat) (Post : Option Value → (Nat → Int64) → Prop) (K6 : PT (Nat → Int64)) (L : Lc) (st : List Value) (s : (Nat → Int64)) : Prop :=
  (wIload 3 <| wIload 4 <| wIf2 (fun x y => y ≤ x) (wRetV Post) (wAload 0 <| wIload 3 <| wLload 1 <| wLast (g 20) 1024 kaSk <| wInc 3 1 <| wKeep [true, true, false, true, true] K6)) L st s
set_option maxRecDepth 20000 in
theorem s_J7_fill_d0a16_6 {X : Cx} (B : Bx) (g : Nat → Nat) {Post : Option Value → (Nat → Int64) → Prop} (C : OkX X (gx B) cJ7_fill_d0a16 5 wsJ7_fill_d0a16 RJ7 (rmD 0)) (R : RtX X (gx B) none (encK B g) Post) {K6 : PT (Nat → Int64)} (hK6 : Snd X (gx B) 5 (encK B g) 6 K6) : Snd X (gx B) 5 (encK B g) 6 (bk_J7_fill_d0a16_6 g Post K6) := by
  unfold bk_J7_fill_d0a16_6
  refine s_iload_n C rfl dJ7_fill_d0a16_6 ?_
  refine s_iload C dJ7_fill_d0a16_7 ?_
  refine s_icmp_ge C (tgt := 22) (by decide) dJ7_fill_d0a16_9 ?_ ?_
  · exact s_vret C R dJ7_fill_d0a16_22
  · refine s_aload_n C rfl dJ7_fill_d0a16_12 ?_
    refine s_iload_n C rfl dJ7_fill_d0a16_13 ?_
    refine s_lload_n C rfl dJ7_fill_d0a16_14 ?_
    refine s_last C (heK_0 B g) (fun _ _ _ => rfl) dJ7_fill_d0a16_15 ?_
    refine s_iinc C (by decide) (by decide) dJ7_fill_d0a16_16 ?_
    refine s_goto C (tgt := 6) (by decide) dJ7_fill_d0a16_19 ?_
    exact s_keep _ hK6
def I_fil (g : Nat → Nat) (a : Nat → Int64) (v : Int64) (n : Nat) (L : Lc) (st : List Value) (s : Nat → Int64) : Prop := ∃ i, n + i = 1024 ∧ st = [] ∧ s = fillK a i v ∧ L = [some (.ref (g 20)), some (.long v), none, some (.int (nI i)), some (.int 1024)]
theorem k_J7_fill_d0a16 (B : Bx) (g : Nat → Nat) : MtF (gx B) yJ7_fill_d0a16 wsJ7_fill_d0a16 (rmD 0) (encK B g) (F_J7_fill_d0a16 g) := by
  refine cf_RJ_i (fun l a v _ => Mt.of (P := bk_J7_fill_d0a16_0 g _ (fun L st s => ∃ n, I_fil g a v n L st s)) (by decide) rfl (Nat.le_of_ble_eq_true rfl) rfl (fun X C R => s_J7_fill_d0a16_0 B g C R (snd_loop _ (I_fil g a v) (fun K hK => s_J7_fill_d0a16_6 B g C R hK) ?_)) ?_)
  · rintro K n L st s ⟨i, hi, rfl, rfl, rfl⟩ hK
    simp only [wIload, wAload, wLload, wK, wB, wDv, wU, wLB, wLU, wLS, wL2i, wLcmp, wIf1, wIf2, wKeep, wInc, wIst, wAst, wLst, wDup, wPop, wDup2, wGet, wPut, wPutZ, wIald, wLald, wIast, wLast, wLen, wRetI, wRetZ, wRetL, wRetA, wRetV, wM1, wM2, wCpy, wTab, tabW, nth, stL, stL2, dropL, keepL, mkL, padL, restOK, restOKn, tl_some, tl_none, id_eq, eq_self, true_and, and_true, bk_J7_fill_d0a16_0, bk_J7_fill_d0a16_6]
    rcases Nat.lt_or_ge i 1024 with hlt | hge
    · have h1 : ¬ (1024 : Int32) ≤ nI i := nI_ge (a := i) (b := 1024) hlt (by decide)
      have w0 : vp_in (nI i) 1024 := vp_in_nI hlt (by decide)
      have c0 : (nI i).toNatClampNeg = i := nI_clamp (by omega)
      have hc := hK (n - 1) _ _ _ (by omega) ⟨i + 1, by omega, rfl, rfl, rfl⟩
      rw [← nI_1, ← fillK_s] at hc
      simp only [h1, w0, c0, false_implies, true_implies, not_true_eq_false, not_false_eq_true, true_and, and_true, implies_true, eq_self, ne_eq, true_or, or_true, false_or, or_false, and_self]
      exact hc
    · have h1 : (1024 : Int32) ≤ nI i := nI_le (a := 1024) (b := i) hge (by omega)
      have h2 : i = 1024 := by omega
      subst h2
      simp only [h1, false_implies, true_implies, not_true_eq_false, not_false_eq_true, true_and, and_true, implies_true, eq_self, ne_eq, true_or, or_true, false_or, or_false, and_self]
  · simp only [wIload, wAload, wLload, wK, wB, wDv, wU, wLB, wLU, wLS, wL2i, wLcmp, wIf1, wIf2, wKeep, wInc, wIst, wAst, wLst, wDup, wPop, wDup2, wGet, wPut, wPutZ, wIald, wLald, wIast, wLast, wLen, wRetI, wRetZ, wRetL, wRetA, wRetV, wM1, wM2, wCpy, wTab, tabW, nth, stL, stL2, dropL, keepL, mkL, padL, restOK, restOKn, tl_some, tl_none, id_eq, eq_self, true_and, and_true, bk_J7_fill_d0a16_0, bk_J7_fill_d0a16_6]
    exact ⟨1024, 0, by omega, rfl, rfl, rfl⟩
def moP (m : Int64) : Nat → Nat → Int32 → SS → Int32 × SS
  | _, 0, b, S => (b, S)
  | p, n + 1, b, S => if b < (smWith (smF 8) 0 p m S).1 then moP m (p + 1) n (smWith (smF 8) 0 p m S).1 (esFi (smWith (smF 8) 0 p m S).2 (nI p)) else moP m (p + 1) n b (smWith (smF 8) 0 p m S).2
theorem moP_s (m : Int64) (p n : Nat) (b : Int32) (S : SS) : moP m p (n + 1) b S = if b < (smWith (smF 8) 0 p m S).1 then moP m (p + 1) n (smWith (smF 8) 0 p m S).1 (esFi (smWith (smF 8) 0 p m S).2 (nI p)) else moP m (p + 1) n b (smWith (smF 8) 0 p m S).2 := rfl
def moH (m : Int64) : Nat → Nat → ET → ET
  | _, 0, E => E
  | h, n + 1, E => moH m (h + 1) n (sFore E (nI h) m)
theorem moH_s (m : Int64) (h n : Nat) (E : ET) : moH m h (n + 1) E = moH m (h + 1) n (sFore E (nI h) m) := rfl
def moE (m : Int64) (r : Int32 × SS) : Int32 × SS := if r.1 < (smF 8 1 m r.2).1 then ((smF 8 1 m r.2).1, esFi (smF 8 1 m r.2).2 (-9)) else (r.1, (smF 8 1 m r.2).2)
def mo0 (E : ET) : ET := fsSSk (fsS E (sList (fT E) (fS E))) (fillK (eSk (sList (fT E) (fS E))) 1024 0)
def mo1 (E : ET) : ET := fsT (mo0 E) (sMayT (fS (mo0 E)) (fT (mo0 E)) 0)
def moM (E : ET) : Int64 := sMayB (fS (mo0 E)) (fT (mo0 E)) 0
def mo2 (E : ET) : ET := moH (moM E) 0 (sHands (fS (mo1 E))) (mo1 E)
def sMost (E : ET) : Int32 × ET := ((moE (moM E) (moP (moM E) 0 7 (-1) (esFi (fS (mo2 E)) (-9)))).1, fsS (mo2 E) (moE (moM E) (moP (moM E) 0 7 (-1) (esFi (fS (mo2 E)) (-9)))).2)
theorem fsN_hd (h : Nat) (q : Int32) (may : Int64) : ∀ n i E, eHd (fS (fsN h q may i n E)) = eHd (fS E) := by
  intro n
  induction n with
  | zero => exact fun _ _ => rfl
  | succ n ih => intro i E; rw [fsN_s, ih, fsStep_hd]
theorem sFore_hd (E : ET) (h : Int32) (m : Int64) : eHd (fS (sFore E h m)) = eHd (fS E) := by unfold sFore; exact fsN_hd _ _ _ _ _ _
theorem moH_hd (m : Int64) : ∀ n h E, eHd (fS (moH m h n E)) = eHd (fS E) := by
  intro n
  induction n with
  | zero => exact fun _ _ => rfl
  | succ n ih => intro i E; rw [moH_s, ih, sFore_hd]
def F_X1_mostOf (g : Nat → Nat) (t : Nat) : CF ET := cf_RR (g 16) (g t) (fun S => yOk (fT S)) (fun S => some (.int (sMost S).1)) (fun S => (sMost S).2)
theorem inw_X1_mostOf_X1 : ∀ w ∈ u_ws RX1 TX1 7, w ∈ wsX1_mostOf := by decide +kernel
theorem inw_X1_mostOf_X2 : ∀ w ∈ u_ws RX2 TX2 8, w ∈ wsX1_mostOf := by decide +kernel
def bk_X1_mostOf_0 (g : Nat → Nat) (t : Nat) (Post : Option Value → ET → Prop) (K23 : PT ET) (L : Lc) (st : List Value) (s : ET) : Prop :=
  (wAload 0 <| wAload 1 <| wCallR 2 (F_X1_listHands g t) id (fun _ u => u) <| wAload 0 <| wGet (g 16) (fun _ => .ref (g 20)) <| wK (.long 0) <| wCallR 2 (F_J7_fill_d0a16 g) fSSk fsSSk <| wAload 0 <| wAload 1 <| wK (.int 0) <| wCallR 3 (F_X1_mayFrom g t) id (fun _ u => u) <| wLst 2 <| wK (.int 0) <| wIst 4 <| wKeep [true, true, true, false, true, false, false] K23) L st s
set_option maxRecDepth 20000 in
theorem s_X1_mostOf_0 {X : Cx} (B : Bx) (g : Nat → Nat) (t : Nat) {Post : Option Value → ET → Prop} (C : OkX X (gx B) cX1_mostOf 7 wsX1_mostOf RX1 (rmD 20)) (R : RtX X (gx B) (some .int) (encST B g t) Post) {K23 : PT ET} (hK23 : Snd X (gx B) 7 (encST B g t) 23 K23) : Snd X (gx B) 7 (encST B g t) 0 (bk_X1_mostOf_0 g t Post K23) := by
  unfold bk_X1_mostOf_0
  refine s_aload_n C rfl dX1_mostOf_0 ?_
  refine s_aload_n C rfl dX1_mostOf_1 ?_
  refine s_callV C (fr_ST_ST B g t) (k_X1_listHands B g t) gX1_mostOf_X1_listHands rfl (by decide +kernel) ⟨rfl, rfl⟩ (by decide) rfl (fun s => ⟨_, heST_0 B g t s⟩) (cf_RR_r _ _ _ _ _) dX1_mostOf_2 ?_
  refine s_aload_n C rfl dX1_mostOf_5 ?_
  refine s_get C inw_X1_mostOf_X1 rfl (k := 4) (by decide) (by decide +kernel) (heST_0 B g t) (fun _ => rfl) dX1_mostOf_6 ?_
  refine s_lconst C (by decide) dX1_mostOf_9 ?_
  refine s_callS C (fr_ST_K B g t) (k_J7_fill_d0a16 B g) gX1_mostOf_J7_fill_d0a16 rfl (by decide +kernel) ⟨rfl, rfl⟩ (by decide) (cf_RJ_q _ _ _ _) dX1_mostOf_10 ?_
  refine s_aload_n C rfl dX1_mostOf_13 ?_
  refine s_aload_n C rfl dX1_mostOf_14 ?_
  refine s_iconst C (by decide) dX1_mostOf_15 ?_
  refine s_callV C (fr_ST_ST B g t) (k_X1_mayFrom B g t) gX1_mostOf_X1_mayFrom rfl (by decide +kernel) ⟨rfl, rfl⟩ (by decide) rfl (fun s => ⟨_, heST_0 B g t s⟩) (cf_RRI_r _ _ _ _ _) dX1_mostOf_16 ?_
  refine s_lstore_n C rfl (by decide) dX1_mostOf_19 ?_
  refine s_iconst C (by decide) dX1_mostOf_20 ?_
  refine s_istore C (by decide) dX1_mostOf_21 ?_
  exact s_keep _ hK23
def bk_X1_mostOf_23 (g : Nat → Nat) (t : Nat) (Post : Option Value → ET → Prop) (K23 : PT ET) (K58 : PT ET) (L : Lc) (st : List Value) (s : ET) : Prop :=
  (wIload 4 <| wAload 0 <| wGet (g 16) (fun s => .int (fSHd s)) <| wIf2 (fun x y => y ≤ x) (wAload 0 <| wK (.int (-9)) <| wPut (g 16) fsSFi <| wK (.int (-1)) <| wIst 4 <| wK (.int 0) <| wIst 5 <| wKeep [true, false, true, false, true, true, false] K58) (wAload 0 <| wAload 1 <| wIload 4 <| wLload 2 <| wCallR 4 (F_X1_foresee g t) id (fun _ u => u) <| wInc 4 1 <| wKeep [true, true, true, false, true, false, false] K23)) L st s
set_option maxRecDepth 20000 in
theorem s_X1_mostOf_23 {X : Cx} (B : Bx) (g : Nat → Nat) (t : Nat) {Post : Option Value → ET → Prop} (C : OkX X (gx B) cX1_mostOf 7 wsX1_mostOf RX1 (rmD 20)) (R : RtX X (gx B) (some .int) (encST B g t) Post) {K23 : PT ET} (hK23 : Snd X (gx B) 7 (encST B g t) 23 K23) {K58 : PT ET} (hK58 : Snd X (gx B) 7 (encST B g t) 58 K58) : Snd X (gx B) 7 (encST B g t) 23 (bk_X1_mostOf_23 g t Post K23 K58) := by
  unfold bk_X1_mostOf_23
  refine s_iload C dX1_mostOf_23 ?_
  refine s_aload_n C rfl dX1_mostOf_25 ?_
  refine s_get C inw_X1_mostOf_X1 rfl (k := 1) (by decide) (by decide +kernel) (heST_0 B g t) (fun _ => rfl) dX1_mostOf_26 ?_
  refine s_icmp_ge C (tgt := 46) (by decide) dX1_mostOf_29 ?_ ?_
  · refine s_aload_n C rfl dX1_mostOf_46 ?_
    refine s_bipush C (by decide) dX1_mostOf_47 ?_
    refine s_put C inw_X1_mostOf_X1 rfl (k := 6) (by decide) (by decide +kernel) tyX1_ok nmX1 (by decide +kernel) (by decide +kernel) (heST_0 B g t) (fun _ => Nat.le_of_ble_eq_true rfl) (fun _ _ => rfl) dX1_mostOf_49 ?_
    refine s_iconst C (by decide) dX1_mostOf_52 ?_
    refine s_istore C (by decide) dX1_mostOf_53 ?_
    refine s_iconst C (by decide) dX1_mostOf_55 ?_
    refine s_istore C (by decide) dX1_mostOf_56 ?_
    exact s_keep _ hK58
  · refine s_aload_n C rfl dX1_mostOf_32 ?_
    refine s_aload_n C rfl dX1_mostOf_33 ?_
    refine s_iload C dX1_mostOf_34 ?_
    refine s_lload_n C rfl dX1_mostOf_36 ?_
    refine s_callV C (fr_ST_ST B g t) (k_X1_foresee B g t) gX1_mostOf_X1_foresee rfl (by decide +kernel) ⟨rfl, rfl⟩ (by decide) rfl (fun s => ⟨_, heST_0 B g t s⟩) (cf_RRIJ_r _ _ _ _ _) dX1_mostOf_37 ?_
    refine s_iinc C (by decide) (by decide) dX1_mostOf_40 ?_
    refine s_goto C (tgt := 23) (by decide) dX1_mostOf_43 ?_
    exact s_keep _ hK23
def bk_X1_mostOf_92 (g : Nat → Nat) (t : Nat) (Post : Option Value → ET → Prop) (K58 : PT ET) (L : Lc) (st : List Value) (s : ET) : Prop :=
  (wInc 5 1 <| wKeep [true, false, true, false, true, true, false] K58) L st s
set_option maxRecDepth 20000 in
theorem s_X1_mostOf_92 {X : Cx} (B : Bx) (g : Nat → Nat) (t : Nat) {Post : Option Value → ET → Prop} (C : OkX X (gx B) cX1_mostOf 7 wsX1_mostOf RX1 (rmD 20)) (R : RtX X (gx B) (some .int) (encST B g t) Post) {K58 : PT ET} (hK58 : Snd X (gx B) 7 (encST B g t) 58 K58) : Snd X (gx B) 7 (encST B g t) 92 (bk_X1_mostOf_92 g t Post K58) := by
  unfold bk_X1_mostOf_92
  refine s_iinc C (by decide) (by decide) dX1_mostOf_92 ?_
  refine s_goto C (tgt := 58) (by decide) dX1_mostOf_95 ?_
  exact s_keep _ hK58
def bk_X1_mostOf_123 (g : Nat → Nat) (t : Nat) (Post : Option Value → ET → Prop)  (L : Lc) (st : List Value) (s : ET) : Prop :=
  (wIload 4 <| wRetI Post) L st s
set_option maxRecDepth 20000 in
theorem s_X1_mostOf_123 {X : Cx} (B : Bx) (g : Nat → Nat) (t : Nat) {Post : Option Value → ET → Prop} (C : OkX X (gx B) cX1_mostOf 7 wsX1_mostOf RX1 (rmD 20)) (R : RtX X (gx B) (some .int) (encST B g t) Post)  : Snd X (gx B) 7 (encST B g t) 123 (bk_X1_mostOf_123 g t Post ) := by
  unfold bk_X1_mostOf_123
  refine s_iload C dX1_mostOf_123 ?_
  exact s_iret C R dX1_mostOf_125
def bk_X1_mostOf_58 (g : Nat → Nat) (t : Nat) (Post : Option Value → ET → Prop) (K58 : PT ET) (L : Lc) (st : List Value) (s : ET) : Prop :=
  (wIload 5 <| wK (.int 7) <| wIf2 (fun x y => y ≤ x) (wAload 0 <| wK (.int 1) <| wLload 2 <| wCallR 3 (F_X1_sumFrom g 8) fS fsS <| wIst 5 <| wIload 5 <| wIload 4 <| wIf2 (fun x y => x ≤ y) (bk_X1_mostOf_123 g t Post ) (wIload 5 <| wIst 4 <| wAload 0 <| wK (.int (-9)) <| wPut (g 16) fsSFi <| bk_X1_mostOf_123 g t Post )) (wAload 0 <| wK (.int 0) <| wIload 5 <| wLload 2 <| wCallR 4 (F_X1_sumWith g 8) fS fsS <| wIst 6 <| wIload 6 <| wIload 4 <| wIf2 (fun x y => x ≤ y) (bk_X1_mostOf_92 g t Post K58) (wIload 6 <| wIst 4 <| wAload 0 <| wIload 5 <| wPut (g 16) fsSFi <| bk_X1_mostOf_92 g t Post K58))) L st s
set_option maxRecDepth 20000 in
theorem s_X1_mostOf_58 {X : Cx} (B : Bx) (g : Nat → Nat) (t : Nat) {Post : Option Value → ET → Prop} (C : OkX X (gx B) cX1_mostOf 7 wsX1_mostOf RX1 (rmD 20)) (R : RtX X (gx B) (some .int) (encST B g t) Post) {K58 : PT ET} (hK58 : Snd X (gx B) 7 (encST B g t) 58 K58) : Snd X (gx B) 7 (encST B g t) 58 (bk_X1_mostOf_58 g t Post K58) := by
  unfold bk_X1_mostOf_58
  refine s_iload C dX1_mostOf_58 ?_
  refine s_bipush C (by decide) dX1_mostOf_60 ?_
  refine s_icmp_ge C (tgt := 98) (by decide) dX1_mostOf_62 ?_ ?_
  · refine s_aload_n C rfl dX1_mostOf_98 ?_
    refine s_iconst C (by decide) dX1_mostOf_99 ?_
    refine s_lload_n C rfl dX1_mostOf_100 ?_
    refine s_callV C (fr_ST_S B g t) (k_X1_sumFrom B g) gX1_mostOf_X1_sumFrom rfl (by decide +kernel) ⟨rfl, rfl⟩ (by decide) rfl (fun s => ⟨_, heST_0 B g t s⟩) (cf_RIJ_r _ _ _ _) dX1_mostOf_101 ?_
    refine s_istore C (by decide) dX1_mostOf_104 ?_
    refine s_iload C dX1_mostOf_106 ?_
    refine s_iload C dX1_mostOf_108 ?_
    refine s_icmp_le C (tgt := 123) (by decide) dX1_mostOf_110 ?_ ?_
    · exact s_X1_mostOf_123 B g t C R 
    · refine s_iload C dX1_mostOf_113 ?_
      refine s_istore C (by decide) dX1_mostOf_115 ?_
      refine s_aload_n C rfl dX1_mostOf_117 ?_
      refine s_bipush C (by decide) dX1_mostOf_118 ?_
      refine s_put C inw_X1_mostOf_X1 rfl (k := 6) (by decide) (by decide +kernel) tyX1_ok nmX1 (by decide +kernel) (by decide +kernel) (heST_0 B g t) (fun _ => Nat.le_of_ble_eq_true rfl) (fun _ _ => rfl) dX1_mostOf_120 ?_
      exact s_X1_mostOf_123 B g t C R 
  · refine s_aload_n C rfl dX1_mostOf_65 ?_
    refine s_iconst C (by decide) dX1_mostOf_66 ?_
    refine s_iload C dX1_mostOf_67 ?_
    refine s_lload_n C rfl dX1_mostOf_69 ?_
    refine s_callV C (fr_ST_S B g t) (k_X1_sumWith B g) gX1_mostOf_X1_sumWith rfl (by decide +kernel) ⟨rfl, rfl⟩ (by decide) rfl (fun s => ⟨_, heST_0 B g t s⟩) (cf_RIIJ_r _ _ _ _) dX1_mostOf_70 ?_
    refine s_istore C (by decide) dX1_mostOf_73 ?_
    refine s_iload C dX1_mostOf_75 ?_
    refine s_iload C dX1_mostOf_77 ?_
    refine s_icmp_le C (tgt := 92) (by decide) dX1_mostOf_79 ?_ ?_
    · exact s_X1_mostOf_92 B g t C R hK58
    · refine s_iload C dX1_mostOf_82 ?_
      refine s_istore C (by decide) dX1_mostOf_84 ?_
      refine s_aload_n C rfl dX1_mostOf_86 ?_
      refine s_iload C dX1_mostOf_87 ?_
      refine s_put C inw_X1_mostOf_X1 rfl (k := 6) (by decide) (by decide +kernel) tyX1_ok nmX1 (by decide +kernel) (by decide +kernel) (heST_0 B g t) (fun _ => Nat.le_of_ble_eq_true rfl) (fun _ _ => rfl) dX1_mostOf_89 ?_
      exact s_X1_mostOf_92 B g t C R hK58
def moPost (E : ET) (fin : Int32 × SS) : Option Value → ET → Prop := fun o u => o = some (.int fin.1) ∧ u = fsS E fin.2
def I_mo58 (g : Nat → Nat) (E : ET) (m : Int64) (fin : Int32 × SS) (n : Nat) (L : Lc) (st : List Value) (s : ET) : Prop := ∃ (p : Nat) (b : Int32) (S : SS), n + p = 7 ∧ st = [] ∧ s = fsS E S ∧ L = [some (.ref (g 16)), none, some (.long m), none, some (.int b), some (.int (nI p)), none] ∧ moE m (moP m p n b S) = fin
def I_mo23 (g : Nat → Nat) (t : Nat) (E2 : ET) (m : Int64) (n : Nat) (L : Lc) (st : List Value) (s : ET) : Prop := ∃ (h : Nat) (E : ET) (N : Nat), N ≤ 8 ∧ eHd (fS E) = nI N ∧ n + h = N ∧ st = [] ∧ s = E ∧ L = [some (.ref (g 16)), some (.ref (g t)), some (.long m), none, some (.int (nI h)), none, none] ∧ moH m h n E = E2
theorem k_X1_mostOf (B : Bx) (g : Nat → Nat) (t : Nat) : MtF (gx B) yX1_mostOf wsX1_mostOf (rmD 20) (encST B g t) (F_X1_mostOf g t) := by
  refine cf_RR_i (fun l E hy => ?_)
  have hs : sMost E = ((moE (moM E) (moP (moM E) 0 7 (-1) (esFi (fS (mo2 E)) (-9)))).1, fsS (mo2 E) (moE (moM E) (moP (moM E) 0 7 (-1) (esFi (fS (mo2 E)) (-9)))).2) := rfl
  rw [hs]
  generalize hm : moM E = m
  generalize hE2 : mo2 E = E2
  generalize hfin : moE m (moP m 0 7 (-1) (esFi (fS E2) (-9))) = fin
  have hl := sList_ok (fT E) (fS E)
  refine Mt.of (P := bk_X1_mostOf_0 g t (moPost E2 fin) (fun L st s => ∃ n, I_mo23 g t E2 m n L st s)) (by decide) rfl (Nat.le_of_ble_eq_true rfl) rfl (fun X C R => s_X1_mostOf_0 B g t C R (snd_loop (fun K => bk_X1_mostOf_23 g t (moPost E2 fin) K (fun L st s => ∃ n, I_mo58 g E2 m fin n L st s)) (I_mo23 g t E2 m) (fun K hK => s_X1_mostOf_23 B g t C R hK (snd_loop (fun K => bk_X1_mostOf_58 g t (moPost E2 fin) K) (I_mo58 g E2 m fin) (fun K hK => s_X1_mostOf_58 B g t C R hK) ?_)) ?_)) ?_
  · rintro K n L st s ⟨p, b, S, hn, rfl, rfl, rfl, hf⟩ hK
    simp only [wIload, wAload, wLload, wK, wB, wDv, wU, wLB, wLU, wLS, wL2i, wLcmp, wIf1, wIf2, wKeep, wInc, wIst, wAst, wLst, wDup, wPop, wDup2, wGet, wPut, wPutZ, wIald, wLald, wIast, wLast, wLen, wRetI, wRetZ, wRetL, wRetA, wRetV, wM1, wM2, wCpy, wTab, tabW, nth, stL, stL2, dropL, keepL, mkL, padL, restOK, restOKn, tl_some, tl_none, id_eq, eq_self, true_and, and_true, bk_X1_mostOf_0, bk_X1_mostOf_23, bk_X1_mostOf_92, bk_X1_mostOf_123, bk_X1_mostOf_58, F_J7_fill_d0a16, F_X1_foresee, F_X1_listHands, F_X1_mayFrom, F_X1_sumFrom, F_X1_sumWith, cf_RIIJ_e, cf_RIJ_e, cf_RJ_e, cf_RRIJ_e, cf_RRI_e, cf_RR_e, fg_S_S, fg_S_T, fg_T_S, fg_T_T, fe_S, fo_S, fe_T, fo_T, fsSFi, moPost]
    have z0 : (0 : Int32).toNatClampNeg = 0 := rfl
    have z1 : (1 : Int32).toNatClampNeg = 1 := rfl
    rcases Nat.lt_or_ge p 7 with hlt | hge
    · have h1 : ¬ (7 : Int32) ≤ nI p := nI_ge (a := p) (b := 7) hlt (by decide)
      have cp : (nI p).toNatClampNeg = p := nI_clamp (by omega)
      obtain ⟨n, rfl⟩ : ∃ m, n = m + 1 := ⟨n - 1, by omega⟩
      rw [moP_s] at hf
      have pr : (∃ k, k < 8 ∧ 8 ≤ k + 8 ∧ (0 : Int32) = nI k) ∧ ∃ q, q < 7 ∧ nI p = nI q := ⟨⟨0, by omega, by omega, rfl⟩, p, hlt, rfl⟩
      simp only [h1, z0, cp, false_implies, true_implies, not_true_eq_false, not_false_eq_true, true_and, and_true, implies_true, eq_self, ne_eq, true_or, or_true, false_or, or_false, and_self]
      generalize hq : smWith (smF 8) 0 p m S = q at hf ⊢
      by_cases h2 : b < q.1
      · rw [if_pos h2] at hf
        have h3 : ¬ q.1 ≤ b := Int32.not_le.mpr h2
        have hc := hK n _ _ _ (by omega) ⟨p + 1, _, _, by omega, rfl, rfl, rfl, hf⟩
        rw [← nI_1] at hc
        simp only [h3, false_implies, true_implies, not_true_eq_false, not_false_eq_true, true_and, and_true, implies_true, eq_self, ne_eq, true_or, or_true, false_or, or_false, and_self]
        exact ⟨pr, hc⟩
      · rw [if_neg h2] at hf
        have h3 : q.1 ≤ b := Int32.not_lt.mp h2
        have hc := hK n _ _ _ (by omega) ⟨p + 1, _, _, by omega, rfl, rfl, rfl, hf⟩
        rw [← nI_1] at hc
        simp only [h3, false_implies, true_implies, not_true_eq_false, not_false_eq_true, true_and, and_true, implies_true, eq_self, ne_eq, true_or, or_true, false_or, or_false, and_self]
        exact ⟨pr, hc⟩
    · have h1 : (7 : Int32) ≤ nI p := nI_le (a := 7) (b := p) hge (by omega)
      have h0 : n = 0 := by omega
      subst h0
      have hf : moE m (b, S) = fin := hf
      unfold moE at hf
      dsimp only at hf
      have pr : ∃ k, k ≤ 8 ∧ 9 ≤ k + 8 ∧ (1 : Int32) = nI k := ⟨1, by omega, by omega, rfl⟩
      simp only [h1, z1, false_implies, true_implies, not_true_eq_false, not_false_eq_true, true_and, and_true, implies_true, eq_self, ne_eq, true_or, or_true, false_or, or_false, and_self]
      refine ⟨pr, ?_⟩
      generalize hq : smF 8 1 m S = q at hf ⊢
      by_cases h2 : b < q.1
      · rw [if_pos h2] at hf
        have h3 : ¬ q.1 ≤ b := Int32.not_le.mpr h2
        subst hf
        simp only [h3, false_implies, true_implies, not_true_eq_false, not_false_eq_true, true_and, and_true, implies_true, eq_self, ne_eq, true_or, or_true, false_or, or_false, and_self]
      · rw [if_neg h2] at hf
        have h3 : q.1 ≤ b := Int32.not_lt.mp h2
        subst hf
        simp only [h3, false_implies, true_implies, not_true_eq_false, not_false_eq_true, true_and, and_true, implies_true, eq_self, ne_eq, true_or, or_true, false_or, or_false, and_self]
  · rintro K n L st s ⟨h, F, N, hN, hd, hn, rfl, rfl, rfl, hf⟩ hK
    simp only [wIload, wAload, wLload, wK, wB, wDv, wU, wLB, wLU, wLS, wL2i, wLcmp, wIf1, wIf2, wKeep, wInc, wIst, wAst, wLst, wDup, wPop, wDup2, wGet, wPut, wPutZ, wIald, wLald, wIast, wLast, wLen, wRetI, wRetZ, wRetL, wRetA, wRetV, wM1, wM2, wCpy, wTab, tabW, nth, stL, stL2, dropL, keepL, mkL, padL, restOK, restOKn, tl_some, tl_none, id_eq, eq_self, true_and, and_true, bk_X1_mostOf_0, bk_X1_mostOf_23, bk_X1_mostOf_92, bk_X1_mostOf_123, bk_X1_mostOf_58, F_J7_fill_d0a16, F_X1_foresee, F_X1_listHands, F_X1_mayFrom, F_X1_sumFrom, F_X1_sumWith, cf_RIIJ_e, cf_RIJ_e, cf_RJ_e, cf_RRIJ_e, cf_RRI_e, cf_RR_e, fg_S_S, fg_S_T, fg_T_S, fg_T_T, fe_S, fo_S, fe_T, fo_T, fSHd, fsSFi, moPost]
    rw [hd]
    rcases Nat.lt_or_ge h N with hlt | hge
    · have h1 : ¬ nI N ≤ nI h := nI_ge (a := h) (b := N) hlt (by omega)
      obtain ⟨n, rfl⟩ : ∃ m, n = m + 1 := ⟨n - 1, by omega⟩
      rw [moH_s] at hf
      have hc := hK n _ _ _ (by omega) ⟨h + 1, _, N, hN, by rw [sFore_hd]; exact hd, by omega, rfl, rfl, rfl, hf⟩
      rw [← nI_1] at hc
      simp only [h1, false_implies, true_implies, not_true_eq_false, not_false_eq_true, true_and, and_true, implies_true, eq_self, ne_eq, true_or, or_true, false_or, or_false, and_self]
      exact ⟨⟨⟨N, hN, hd⟩, ⟨h, by omega, rfl⟩⟩, hc⟩
    · have h1 : nI N ≤ nI h := nI_le hge (by omega)
      have h0 : n = 0 := by omega
      subst h0
      have hf : s = E2 := hf
      subst hf
      simp only [h1, false_implies, true_implies, not_true_eq_false, not_false_eq_true, true_and, and_true, implies_true, eq_self, ne_eq, true_or, or_true, false_or, or_false, and_self]
      exact ⟨7, 0, -1, _, rfl, rfl, rfl, rfl, hfin⟩
  · simp only [wIload, wAload, wLload, wK, wB, wDv, wU, wLB, wLU, wLS, wL2i, wLcmp, wIf1, wIf2, wKeep, wInc, wIst, wAst, wLst, wDup, wPop, wDup2, wGet, wPut, wPutZ, wIald, wLald, wIast, wLast, wLen, wRetI, wRetZ, wRetL, wRetA, wRetV, wM1, wM2, wCpy, wTab, tabW, nth, stL, stL2, dropL, keepL, mkL, padL, restOK, restOKn, tl_some, tl_none, id_eq, eq_self, true_and, and_true, bk_X1_mostOf_0, bk_X1_mostOf_23, bk_X1_mostOf_92, bk_X1_mostOf_123, bk_X1_mostOf_58, F_J7_fill_d0a16, F_X1_foresee, F_X1_listHands, F_X1_mayFrom, F_X1_sumFrom, F_X1_sumWith, cf_RIIJ_e, cf_RIJ_e, cf_RJ_e, cf_RRIJ_e, cf_RRI_e, cf_RR_e]
    obtain ⟨N, hN, hNe⟩ := hl
    refine ⟨hy, ⟨⟨N, hN, hNe⟩, ⟨0, by omega, rfl⟩⟩, N, 0, mo1 E, N, hN, hNe, by omega, rfl, rfl, ?_, ?_⟩
    · rw [← hm]; rfl
    · rw [← hE2, ← hm]
      have e : sHands (fS (mo1 E)) = N := by
        unfold sHands
        rw [show eHd (fS (mo1 E)) = nI N from hNe, nI_clamp (by omega)]
      unfold mo2
      rw [e]
end
