noncomputable section
theorem nI_sub {a b : Nat} (h : b ≤ a) : nI a - nI b = nI (a - b) := by
  have e : nI a = nI (a - b) + nI b := by rw [nI_add, Nat.sub_add_cancel h]
  rw [e]
  exact Int32.add_sub_cancel _ _
def uHd (M : MS) (n : Nat) : Nat := if uOpen M n = true then (mA 7 M n - mA 9 M n).toNatClampNeg else 0
def ujB (M : MS) (n k : Nat) : Prop := k < uRow M ∧ uOne M (mA 34 M k) = true ∧ uMayW M (mA 34 M k) (nI n) = true
def ujW (M : MS) (n k : Nat) : MS := uW M (mA 34 M k) (mA 4 M n) (mA 6 M n) (nI n)
noncomputable def ujH (n : Nat) : Nat → Nat → MS → Bool × Nat × MS
  | 0, k, M => (false, k, M)
  | m + 1, k, M => @ite _ (ujB M n k) (Classical.propDecidable _) (ujH n m (k + 1) (ujW M n k)) (true, k, M)
theorem ujH_p {n m k : Nat} {M : MS} (h : ujB M n k) : ujH n (m + 1) k M = ujH n m (k + 1) (ujW M n k) := if_pos h
theorem ujH_n {n m k : Nat} {M : MS} (h : ¬ ujB M n k) : ujH n (m + 1) k M = (true, k, M) := if_neg h
noncomputable def ujN : Nat → Nat → Nat → MS → Bool × Nat × MS
  | _, 0, k, M => (false, k, M)
  | n, m + 1, k, M => if (ujH n (uHd M n) k M).1 = true then ujH n (uHd M n) k M else ujN (n + 1) m (ujH n (uHd M n) k M).2.1 (ujH n (uHd M n) k M).2.2
theorem ujN_s (n m k : Nat) (M : MS) : ujN n (m + 1) k M = if (ujH n (uHd M n) k M).1 = true then ujH n (uHd M n) k M else ujN (n + 1) m (ujH n (uHd M n) k M).2.1 (ujH n (uHd M n) k M).2.2 := rfl
def ujI (k : Nat) (M : MS) : Prop := k ≤ uRow M ∧ mOK (60 + k) M ∧ haB M
theorem uOpen_dh {M : MS} {n : Nat} (h : haB M) (hn : n < 13) (ho : uOpen M n = true) : ∃ d h : Nat, d < h ∧ h ≤ 3 ∧ mA 7 M n = nI h ∧ mA 9 M n = nI d ∧ mA 8 M n = mS 22 M := by
  obtain ⟨⟨hh, h1, h2⟩, d, h3, h4⟩ := h n hn
  unfold uOpen at ho
  rw [Bool.and_eq_true] at ho
  have o1 := of_decide_eq_true ho.1
  have o2 := of_decide_eq_true ho.2
  rw [h2, h4, nI_lt_x (by omega), nI_clamp (by omega)] at o2
  exact ⟨d, hh, o2, h1, h2, h4, o1⟩
theorem uHd_e {M : MS} {n : Nat} (h : haB M) (hn : n < 13) {d hh : Nat} (h1 : d ≤ hh) (h2 : hh ≤ 3) (e1 : mA 7 M n = nI hh) (e2 : mA 9 M n = nI d) (e3 : mA 8 M n = mS 22 M) : uHd M n = hh - d := by
  unfold uHd uOpen
  rw [e1, e2, e3, nI_sub h1, nI_clamp (by omega)]
  by_cases hd : d < hh
  · have : nI d < nI hh := by rw [nI_lt_x (by omega), nI_clamp (by omega)]; exact hd
    rw [if_pos (by simp only [decide_true, Bool.true_and, this])]
  · have : ¬ nI d < nI hh := by rw [nI_lt_x (by omega), nI_clamp (by omega)]; exact hd
    rw [if_neg (by simp only [decide_true, Bool.true_and, this, decide_false]; exact Bool.false_ne_true)]
    omega
theorem ujW_I {M : MS} {n k : Nat} (hn : n < 12) (h : ujI k M) (hb : ujB M n k) : ujI (k + 1) (ujW M n k) ∧ uHd M n = uHd (ujW M n k) n + 1 ∧ (∀ i, ¬ i = 17 → mS i (ujW M n k) = mS i M) ∧ ∀ i, (i < 9 ∨ 14 < i) → mA i (ujW M n k) = mA i M := by
  obtain ⟨h1, h2, h3⟩ := h
  have ho : uOpen M n = true := by
    have := hb.2.2
    unfold uMayW at this
    rw [nI_clamp (by omega)] at this
    exact (Bool.and_eq_true _ _ ▸ this).1
  obtain ⟨d, hh, d1, d2, d3, d4, d5⟩ := uOpen_dh h3 (by omega) ho
  have sS : ∀ i, ¬ i = 17 → mS i (ujW M n k) = mS i M := fun i hi => uW_S i hi _ _ _ _ _
  have sA : ∀ i, (i < 9 ∨ 14 < i) → mA i (ujW M n k) = mA i M := fun i hi => uW_A i hi _ _ _ _ _
  have s9 : mA 9 (ujW M n k) = upd (mA 9 M) n (nI (d + 1)) := by
    unfold ujW
    rw [uW_9, if_neg (by rw [Int32.not_lt]; exact nI_le (a := 0) (Nat.zero_le _) (by omega)), nI_clamp (by omega), d4, nI_1]
  have e9 : mA 9 (ujW M n k) n = nI (d + 1) := by rw [s9, upd_eq]
  have hB : haB (ujW M n k) := by
    intro j hj
    rw [sA 7 (by omega)]
    refine ⟨(h3 j hj).1, ?_⟩
    by_cases hjn : j = n
    · rw [hjn, e9]
      exact ⟨d + 1, by omega, rfl⟩
    · rw [s9, upd_ne hjn]
      exact (h3 j hj).2
  refine ⟨⟨?_, mOK_W h2 _ _ _ _, hB⟩, ?_, sS, sA⟩
  · unfold uRow
    rw [sS 35 (by decide)]
    exact hb.1
  · rw [uHd_e h3 (by omega) (by omega) d2 d3 d4 d5, uHd_e hB (by omega) (show d + 1 ≤ hh by omega) d2 (by rw [sA 7 (by omega)]; exact d3) e9 (by rw [sA 8 (by omega), sS 22 (by decide)]; exact d5)]
    omega
theorem ujH_I {n : Nat} (hn : n < 12) : ∀ (m k : Nat) (M : MS), ujI k M → m = uHd M n → ujI (ujH n m k M).2.1 (ujH n m k M).2.2 ∧ (∀ i, ¬ i = 17 → mS i (ujH n m k M).2.2 = mS i M) ∧ ∀ i, (i < 9 ∨ 14 < i) → mA i (ujH n m k M).2.2 = mA i M := by
  intro m
  induction m with
  | zero => exact fun k M h _ => ⟨h, fun _ _ => rfl, fun _ _ => rfl⟩
  | succ m ih =>
    intro k M h hm
    by_cases hb : ujB M n k
    · rw [ujH_p hb]
      obtain ⟨w1, w2, w3, w4⟩ := ujW_I hn h hb
      obtain ⟨i1, i2, i3⟩ := ih (k + 1) _ w1 (by omega)
      exact ⟨i1, fun i hi => (i2 i hi).trans (w3 i hi), fun i hi => (i3 i hi).trans (w4 i hi)⟩
    · rw [ujH_n hb]
      exact ⟨h, fun _ _ => rfl, fun _ _ => rfl⟩
def ujR (r : Bool × Nat × MS) : Int32 := if r.1 = true then nI r.2.1 else if r.2.1 < uRow r.2.2 then nI r.2.1 else -9
def F_X4_judged (g : Nat → Nat) : CF MS := cf_R (g 30) (fun M => mOK 60 M ∧ haB M) (fun M => some (.int (ujR (ujN 0 (uNeeds M) 0 M)))) (fun M => (ujN 0 (uNeeds M) 0 M).2.2)
theorem inw_X4_judged_X4 : ∀ w ∈ u_ws RX4 TX4 45, w ∈ wsX4_judged := by decide +kernel
def bk_X4_judged_0 (g : Nat → Nat) (Post : Option Value → MS → Prop) (K4 : PT MS) (L : Lc) (st : List Value) (s : MS) : Prop :=
  (wK (.int 0) <| wIst 1 <| wK (.int 0) <| wIst 2 <| wKeep [true, true, true] K4) L st s
set_option maxRecDepth 20000 in
theorem s_X4_judged_0 {X : Cx} (B : Bx) (g : Nat → Nat) {Post : Option Value → MS → Prop} (C : OkX X (gx B) cX4_judged 3 wsX4_judged RX4 (rmD 4)) (R : RtX X (gx B) (some .int) (encM B g) Post) {K4 : PT MS} (hK4 : Snd X (gx B) 3 (encM B g) 4 K4) : Snd X (gx B) 3 (encM B g) 0 (bk_X4_judged_0 g Post K4) := by
  unfold bk_X4_judged_0
  refine s_iconst C (by decide) dX4_judged_0 ?_
  refine s_istore_n C rfl (by decide) dX4_judged_1 ?_
  refine s_iconst C (by decide) dX4_judged_2 ?_
  refine s_istore_n C rfl (by decide) dX4_judged_3 ?_
  exact s_keep _ hK4
def bk_X4_judged_106 (g : Nat → Nat) (Post : Option Value → MS → Prop)  (L : Lc) (st : List Value) (s : MS) : Prop :=
  (wRetI Post) L st s
set_option maxRecDepth 20000 in
theorem s_X4_judged_106 {X : Cx} (B : Bx) (g : Nat → Nat) {Post : Option Value → MS → Prop} (C : OkX X (gx B) cX4_judged 3 wsX4_judged RX4 (rmD 4)) (R : RtX X (gx B) (some .int) (encM B g) Post)  : Snd X (gx B) 3 (encM B g) 106 (bk_X4_judged_106 g Post ) := by
  unfold bk_X4_judged_106
  exact s_iret C R dX4_judged_106
def bk_X4_judged_4 (g : Nat → Nat) (Post : Option Value → MS → Prop) (K12 : PT MS) (L : Lc) (st : List Value) (s : MS) : Prop :=
  (wIload 2 <| wAload 0 <| wGet (g 30) (fun s => .int (mS 16 s)) <| wIf2 (fun x y => y ≤ x) (wIload 1 <| wAload 0 <| wGet (g 30) (fun s => .int (mS 35 s)) <| wIf2 (fun x y => y ≤ x) (wK (.int (-9)) <| bk_X4_judged_106 g Post ) (wIload 1 <| bk_X4_judged_106 g Post )) (wKeep [true, true, true] K12)) L st s
set_option maxRecDepth 20000 in
theorem s_X4_judged_4 {X : Cx} (B : Bx) (g : Nat → Nat) {Post : Option Value → MS → Prop} (C : OkX X (gx B) cX4_judged 3 wsX4_judged RX4 (rmD 4)) (R : RtX X (gx B) (some .int) (encM B g) Post) {K12 : PT MS} (hK12 : Snd X (gx B) 3 (encM B g) 12 K12) : Snd X (gx B) 3 (encM B g) 4 (bk_X4_judged_4 g Post K12) := by
  unfold bk_X4_judged_4
  refine s_iload_n C rfl dX4_judged_4 ?_
  refine s_aload_n C rfl dX4_judged_5 ?_
  refine s_get C inw_X4_judged_X4 rfl (k := 16) (by decide) (by decide +kernel) (heM_0 B g) (fun _ => rfl) dX4_judged_6 ?_
  refine s_icmp_ge C (tgt := 92) (by decide) dX4_judged_9 ?_ ?_
  · refine s_iload_n C rfl dX4_judged_92 ?_
    refine s_aload_n C rfl dX4_judged_93 ?_
    refine s_get C inw_X4_judged_X4 rfl (k := 35) (by decide) (by decide +kernel) (heM_0 B g) (fun _ => rfl) dX4_judged_94 ?_
    refine s_icmp_ge C (tgt := 104) (by decide) dX4_judged_97 ?_ ?_
    · refine s_bipush C (by decide) dX4_judged_104 ?_
      exact s_X4_judged_106 B g C R 
    · refine s_iload_n C rfl dX4_judged_100 ?_
      refine s_goto C (tgt := 106) (by decide) dX4_judged_101 ?_
      exact s_X4_judged_106 B g C R 
  · exact s_keep _ hK12
def bk_X4_judged_55 (g : Nat → Nat) (Post : Option Value → MS → Prop)  (L : Lc) (st : List Value) (s : MS) : Prop :=
  (wIload 1 <| wRetI Post) L st s
set_option maxRecDepth 20000 in
theorem s_X4_judged_55 {X : Cx} (B : Bx) (g : Nat → Nat) {Post : Option Value → MS → Prop} (C : OkX X (gx B) cX4_judged 3 wsX4_judged RX4 (rmD 4)) (R : RtX X (gx B) (some .int) (encM B g) Post)  : Snd X (gx B) 3 (encM B g) 55 (bk_X4_judged_55 g Post ) := by
  unfold bk_X4_judged_55
  refine s_iload_n C rfl dX4_judged_55 ?_
  exact s_iret C R dX4_judged_56
def bk_X4_judged_12 (g : Nat → Nat) (Post : Option Value → MS → Prop) (K4 : PT MS) (K12 : PT MS) (L : Lc) (st : List Value) (s : MS) : Prop :=
  (wAload 0 <| wIload 2 <| wCallR 2 (F_X4_isOpen g) id (fun _ u => u) <| wIf1 (fun x => x = 0) (wInc 2 1 <| wKeep [true, true, true] K4) (wIload 1 <| wAload 0 <| wGet (g 30) (fun s => .int (mS 35 s)) <| wIf2 (fun x y => x = y) (bk_X4_judged_55 g Post ) (wAload 0 <| wAload 0 <| wGet (g 30) (fun _ => .ref (g 65)) <| wIload 1 <| wIald (g 65) 10 (mA 34) <| wCallR 2 (F_X4_isOne g) id (fun _ u => u) <| wIf1 (fun x => x = 0) (bk_X4_judged_55 g Post ) (wAload 0 <| wAload 0 <| wGet (g 30) (fun _ => .ref (g 65)) <| wIload 1 <| wIald (g 65) 10 (mA 34) <| wIload 2 <| wCallR 3 (F_X4_mayWith g) id (fun _ u => u) <| wIf1 (fun x => x = 0) (bk_X4_judged_55 g Post ) (wAload 0 <| wAload 0 <| wGet (g 30) (fun _ => .ref (g 65)) <| wIload 1 <| wIald (g 65) 10 (mA 34) <| wAload 0 <| wGet (g 30) (fun _ => .ref (g 35)) <| wIload 2 <| wIald (g 35) 13 (mA 4) <| wAload 0 <| wGet (g 30) (fun _ => .ref (g 37)) <| wIload 2 <| wIald (g 37) 13 (mA 6) <| wIload 2 <| wCallR 5 (F_X4_writes g) id (fun _ u => u) <| wInc 1 1 <| wKeep [true, true, true] K12))))) L st s
set_option maxRecDepth 20000 in
theorem s_X4_judged_12 {X : Cx} (B : Bx) (g : Nat → Nat) {Post : Option Value → MS → Prop} (C : OkX X (gx B) cX4_judged 3 wsX4_judged RX4 (rmD 4)) (R : RtX X (gx B) (some .int) (encM B g) Post) {K4 : PT MS} (hK4 : Snd X (gx B) 3 (encM B g) 4 K4) {K12 : PT MS} (hK12 : Snd X (gx B) 3 (encM B g) 12 K12) : Snd X (gx B) 3 (encM B g) 12 (bk_X4_judged_12 g Post K4 K12) := by
  unfold bk_X4_judged_12
  refine s_aload_n C rfl dX4_judged_12 ?_
  refine s_iload_n C rfl dX4_judged_13 ?_
  refine s_callV C (fr_M_M B g) (k_X4_isOpen B g) gX4_judged_X4_isOpen rfl (by decide +kernel) ⟨rfl, rfl⟩ (by decide) rfl (fun s => ⟨_, heM_0 B g s⟩) (cf_RI_r _ _ _ _) dX4_judged_14 ?_
  refine s_if_eq C (tgt := 86) (by decide) dX4_judged_17 ?_ ?_
  · refine s_iinc C (by decide) (by decide) dX4_judged_86 ?_
    refine s_goto C (tgt := 4) (by decide) dX4_judged_89 ?_
    exact s_keep _ hK4
  · refine s_iload_n C rfl dX4_judged_20 ?_
    refine s_aload_n C rfl dX4_judged_21 ?_
    refine s_get C inw_X4_judged_X4 rfl (k := 35) (by decide) (by decide +kernel) (heM_0 B g) (fun _ => rfl) dX4_judged_22 ?_
    refine s_icmp_eq C (tgt := 55) (by decide) dX4_judged_25 ?_ ?_
    · exact s_X4_judged_55 B g C R 
    · refine s_aload_n C rfl dX4_judged_28 ?_
      refine s_aload_n C rfl dX4_judged_29 ?_
      refine s_get C inw_X4_judged_X4 rfl (k := 34) (by decide) (by decide +kernel) (heM_0 B g) (fun _ => rfl) dX4_judged_30 ?_
      refine s_iload_n C rfl dX4_judged_33 ?_
      refine s_iald C (heM_21 B g) dX4_judged_34 ?_
      refine s_callV C (fr_M_M B g) (k_X4_isOne B g) gX4_judged_X4_isOne rfl (by decide +kernel) ⟨rfl, rfl⟩ (by decide) rfl (fun s => ⟨_, heM_0 B g s⟩) (cf_RI_r _ _ _ _) dX4_judged_35 ?_
      refine s_if_eq C (tgt := 55) (by decide) dX4_judged_38 ?_ ?_
      · exact s_X4_judged_55 B g C R 
      · refine s_aload_n C rfl dX4_judged_41 ?_
        refine s_aload_n C rfl dX4_judged_42 ?_
        refine s_get C inw_X4_judged_X4 rfl (k := 34) (by decide) (by decide +kernel) (heM_0 B g) (fun _ => rfl) dX4_judged_43 ?_
        refine s_iload_n C rfl dX4_judged_46 ?_
        refine s_iald C (heM_21 B g) dX4_judged_47 ?_
        refine s_iload_n C rfl dX4_judged_48 ?_
        refine s_callV C (fr_M_M B g) (k_X4_mayWith B g) gX4_judged_X4_mayWith rfl (by decide +kernel) ⟨rfl, rfl⟩ (by decide) rfl (fun s => ⟨_, heM_0 B g s⟩) (cf_RII_r _ _ _ _) dX4_judged_49 ?_
        refine s_if_ne C (tgt := 57) (by decide) dX4_judged_52 ?_ ?_
        · refine s_aload_n C rfl dX4_judged_57 ?_
          refine s_aload_n C rfl dX4_judged_58 ?_
          refine s_get C inw_X4_judged_X4 rfl (k := 34) (by decide) (by decide +kernel) (heM_0 B g) (fun _ => rfl) dX4_judged_59 ?_
          refine s_iload_n C rfl dX4_judged_62 ?_
          refine s_iald C (heM_21 B g) dX4_judged_63 ?_
          refine s_aload_n C rfl dX4_judged_64 ?_
          refine s_get C inw_X4_judged_X4 rfl (k := 4) (by decide) (by decide +kernel) (heM_0 B g) (fun _ => rfl) dX4_judged_65 ?_
          refine s_iload_n C rfl dX4_judged_68 ?_
          refine s_iald C (heM_5 B g) dX4_judged_69 ?_
          refine s_aload_n C rfl dX4_judged_70 ?_
          refine s_get C inw_X4_judged_X4 rfl (k := 6) (by decide) (by decide +kernel) (heM_0 B g) (fun _ => rfl) dX4_judged_71 ?_
          refine s_iload_n C rfl dX4_judged_74 ?_
          refine s_iald C (heM_7 B g) dX4_judged_75 ?_
          refine s_iload_n C rfl dX4_judged_76 ?_
          refine s_callV C (fr_M_M B g) (k_X4_writes B g) gX4_judged_X4_writes rfl (by decide +kernel) ⟨rfl, rfl⟩ (by decide) rfl (fun s => ⟨_, heM_0 B g s⟩) (cf_RIIII_r _ _ _ _) dX4_judged_77 ?_
          refine s_iinc C (by decide) (by decide) dX4_judged_80 ?_
          refine s_goto C (tgt := 12) (by decide) dX4_judged_83 ?_
          exact s_keep _ hK12
        · exact s_X4_judged_55 B g C R 
abbrev uJPost (fin : Bool × Nat × MS) : Option Value → MS → Prop := fun o u => o = some (.int (ujR fin)) ∧ u = fin.2.2
def I_u12 (g : Nat → Nat) (fin : Bool × Nat × MS) (need : Nat) (K4 : PT MS) (n : Nat) (L : Lc) (st : List Value) (s : MS) : Prop := ∃ (k : Nat), need < 12 ∧ ujI k s ∧ n = uHd s need ∧ st = [] ∧ L = [some (.ref (g 30)), some (.int (nI k)), some (.int (nI need))] ∧ ∀ r, ujH need n k s = r → (r.1 = true → r = fin) ∧ (r.1 = false → K4 [some (.ref (g 30)), some (.int (nI r.2.1)), some (.int (nI (need + 1)))] [] r.2.2)
def J_u12 (g : Nat → Nat) (fin : Bool × Nat × MS) (K4 : PT MS) : PT MS := fun L st s => ∃ need, ∃ n, I_u12 g fin need K4 n L st s
def I_u4 (g : Nat → Nat) (fin : Bool × Nat × MS) (n : Nat) (L : Lc) (st : List Value) (s : MS) : Prop := ∃ (k need : Nat), ujI k s ∧ n + need = uNeeds s ∧ st = [] ∧ L = [some (.ref (g 30)), some (.int (nI k)), some (.int (nI need))] ∧ ujN need n k s = fin
theorem uj12 {X : Cx} (B : Bx) (g : Nat → Nat) (fin : Bool × Nat × MS) (C : OkX X (gx B) cX4_judged 3 wsX4_judged RX4 (rmD 4)) (R : RtX X (gx B) (some .int) (encM B g) (uJPost fin)) {K4 : PT MS} (hK4 : Snd X (gx B) 3 (encM B g) 4 K4) : Snd X (gx B) 3 (encM B g) 12 (J_u12 g fin K4) := by
  refine Snd.ex (fun need => snd_loop _ (I_u12 g fin need K4) (fun K hK => s_X4_judged_12 B g C R hK4 hK) ?_)
  rintro K n L st s ⟨k, hn, hI, rfl, rfl, rfl, hr⟩ hK
  obtain ⟨i1, i2, i3⟩ := hI
  have hk10 := (rwB_c i2.2.2.2.2).2
  have erow := (rwB_c i2.2.2.2.2).1
  have cn : (nI need).toNatClampNeg = need := nI_clamp (by omega)
  have ck : (nI k).toNatClampNeg = k := nI_clamp (by omega)
  have x13 : ixB 13 (nI need) := ⟨need, by omega, rfl⟩
  have w13 : vp_in (nI need) 13 := vp_in_nI (by omega) (by decide)
  have h400 := hpB_le i2.1 (show 60 + k ≤ 400 by omega)
  have h399 := hpB_le i2.1 (show 60 + k ≤ 399 by omega)
  have hnw := i2.2.1
  have e12 : nI need + 1 = nI (need + 1) := nI_1 _
  have ek1 : nI k + 1 = nI (k + 1) := nI_1 _
  simp only [wIload, wAload, wLload, wK, wB, wDv, wU, wLB, wLU, wLS, wL2i, wLcmp, wIf1, wIf2, wKeep, wInc, wIst, wAst, wLst, wDup, wPop, wDup2, wGet, wPut, wPutZ, wIald, wLald, wIast, wLast, wLen, wRetI, wRetZ, wRetL, wRetA, wRetV, wM1, wM2, wCpy, wTab, tabW, nth, stL, stL2, dropL, keepL, mkL, padL, restOK, restOKn, tl_some, tl_none, id_eq, eq_self, true_and, and_true, bk_X4_judged_0, bk_X4_judged_106, bk_X4_judged_4, bk_X4_judged_55, bk_X4_judged_12, F_X4_isOne, F_X4_isOpen, F_X4_mayWith, F_X4_writes, cf_RIIII_e, cf_RII_e, cf_RI_e, b2i_eq0, x13, cn, ck, w13, h400, h399, hnw, erow, e12, ek1]
  have hj : ∀ r, ujH need (uHd s need) k s = (true, k, s) → r = (some (Value.int (nI k)) = some (Value.int (ujR fin)) ∧ s = fin.2.2) → r := by
    rintro r h rfl
    have := (hr _ h).1 rfl
    subst this
    exact ⟨rfl, rfl⟩
  cases ho : uOpen s need
  · have h0 : uHd s need = 0 := by unfold uHd; rw [ho]; rfl
    simp only [ho, false_implies, true_implies, not_true_eq_false, not_false_eq_true, true_and, and_true, implies_true, eq_self, ne_eq, true_or, or_true, false_or, or_false, and_self]
    rw [h0] at hr
    exact (hr _ rfl).2 rfl
  · obtain ⟨d, hh, d1, d2, d3, d4, d5⟩ := uOpen_dh i3 (by omega) ho
    have h1 : uHd s need = (hh - d - 1) + 1 := by rw [uHd_e i3 (by omega) (by omega) d2 d3 d4 d5]; omega
    by_cases hb : ujB s need k
    · have hb0 := hb
      obtain ⟨b1, b2, b3⟩ := hb
      have n1 : ¬ nI k = nI (uRow s) := fun z => by have := congrArg Int32.toNatClampNeg z; rw [nI_clamp (by omega), nI_clamp (by omega)] at this; omega
      have w0 : vp_in (nI k) 10 := vp_in_nI (by omega) (by decide)
      have x7 : ixB 7 (mA 34 s k) := uOne_ix i2.2.2.2.1 b2
      obtain ⟨w1, w2, w3, w4⟩ := ujW_I hn ⟨i1, i2, i3⟩ hb0
      simp only [ho, n1, w0, b2, b3, x7, Bool.true_eq_false, false_implies, true_implies, not_true_eq_false, not_false_eq_true, true_and, and_true, implies_true, eq_self, ne_eq, true_or, or_true, false_or, or_false, and_self]
      have := hK (uHd (ujW s need k) need) _ _ _ (by omega) ⟨k + 1, hn, w1, rfl, rfl, rfl, fun r h => hr r (by rw [w2, ujH_p hb0]; exact h)⟩
      exact this
    · have he : ujH need (uHd s need) k s = (true, k, s) := by rw [h1, ujH_n hb]
      have hf := (hr _ he).1 rfl
      by_cases h2 : k = uRow s
      · have n1 : nI k = nI (uRow s) := by rw [← h2]
        simp only [ho, n1, Bool.true_eq_false, false_implies, true_implies, not_true_eq_false, not_false_eq_true, true_and, and_true, implies_true, eq_self, ne_eq, true_or, or_true, false_or, or_false, and_self]
        subst hf
        exact ⟨by rw [← h2]; rfl, rfl⟩
      · have hlt : k < uRow s := by omega
        have n1 : ¬ nI k = nI (uRow s) := fun z => by have := congrArg Int32.toNatClampNeg z; rw [nI_clamp (by omega), nI_clamp (by omega)] at this; omega
        have w0 : vp_in (nI k) 10 := vp_in_nI (by omega) (by decide)
        cases b2 : uOne s (mA 34 s k)
        · simp only [ho, n1, w0, b2, Bool.true_eq_false, false_implies, true_implies, not_true_eq_false, not_false_eq_true, true_and, and_true, implies_true, eq_self, ne_eq, true_or, or_true, false_or, or_false, and_self]
          subst hf
          all_goals first | done | exact ⟨rfl, rfl⟩ | exact rfl | exact b2i_01 _ | exact ⟨b2i_01 _, rfl, rfl⟩ | exact ⟨b2i_01 _, rfl⟩ | exact ⟨rfl, rfl, rfl⟩ | exact trivial | exact Or.inl trivial | simp only [or_true, true_or, and_self]
        · have x7 : ixB 7 (mA 34 s k) := uOne_ix i2.2.2.2.1 b2
          have b3 : uMayW s (mA 34 s k) (nI need) = false := by
            cases b3 : uMayW s (mA 34 s k) (nI need)
            · rfl
            · exact absurd ⟨hlt, b2, b3⟩ hb
          simp only [ho, n1, w0, b2, b3, x7, Bool.true_eq_false, false_implies, true_implies, not_true_eq_false, not_false_eq_true, true_and, and_true, implies_true, eq_self, ne_eq, true_or, or_true, false_or, or_false, and_self]
          subst hf
          all_goals first | done | exact ⟨rfl, rfl⟩ | exact rfl | exact b2i_01 _ | exact ⟨b2i_01 _, rfl, rfl⟩ | exact ⟨b2i_01 _, rfl⟩ | exact ⟨rfl, rfl, rfl⟩ | exact trivial | exact Or.inl trivial | simp only [or_true, true_or, and_self]
theorem k_X4_judged (B : Bx) (g : Nat → Nat) : MtF (gx B) yX4_judged wsX4_judged (rmD 4) (encM B g) (F_X4_judged g) := by
  refine cf_R_i (fun l M h => ?_)
  generalize hfin : ujN 0 (uNeeds M) 0 M = fin
  refine Mt.of (P := bk_X4_judged_0 g (uJPost fin) (fun L st s => ∃ n, I_u4 g fin n L st s)) (by decide) rfl (Nat.le_of_ble_eq_true rfl) rfl (fun X C R => s_X4_judged_0 B g C R (snd_loop (fun K => bk_X4_judged_4 g (uJPost fin) (J_u12 g fin K)) (I_u4 g fin) (fun K hK => s_X4_judged_4 B g C R (uj12 B g fin C R hK)) ?_)) ?_
  · rintro K n L st s ⟨k, need, hI, hn, rfl, rfl, hf⟩ hK
    obtain ⟨e1, e2⟩ := nnB_c hI.2.1.2.2.1
    have hk10 := (rwB_c hI.2.1.2.2.2.2).2
    have erow := (rwB_c hI.2.1.2.2.2.2).1
    have i1 := hI.1
    simp only [wIload, wAload, wLload, wK, wB, wDv, wU, wLB, wLU, wLS, wL2i, wLcmp, wIf1, wIf2, wKeep, wInc, wIst, wAst, wLst, wDup, wPop, wDup2, wGet, wPut, wPutZ, wIald, wLald, wIast, wLast, wLen, wRetI, wRetZ, wRetL, wRetA, wRetV, wM1, wM2, wCpy, wTab, tabW, nth, stL, stL2, dropL, keepL, mkL, padL, restOK, restOKn, tl_some, tl_none, id_eq, eq_self, true_and, and_true, bk_X4_judged_0, bk_X4_judged_106, bk_X4_judged_4, bk_X4_judged_55, bk_X4_judged_12, F_X4_isOne, F_X4_isOpen, F_X4_mayWith, F_X4_writes, cf_RIIII_e, cf_RII_e, cf_RI_e, e1, erow]
    rcases Nat.lt_or_ge need (uNeeds s) with hlt | hge
    · have h1 : ¬ nI (uNeeds s) ≤ nI need := nI_ge hlt (by omega)
      obtain ⟨n, rfl⟩ : ∃ m, n = m + 1 := ⟨n - 1, by omega⟩
      rw [ujN_s] at hf
      simp only [h1, false_implies, true_implies, not_true_eq_false, not_false_eq_true, true_and, and_true, implies_true, eq_self, ne_eq, true_or, or_true, false_or, or_false, and_self]
      obtain ⟨o1, o2, o3⟩ := ujH_I (n := need) (by omega) (uHd s need) k s hI rfl
      refine ⟨need, uHd s need, k, by omega, hI, rfl, rfl, rfl, ?_⟩
      intro r hr
      rw [hr] at hf o1 o2
      refine ⟨fun h => ?_, fun h => ?_⟩
      · rw [if_pos h] at hf; exact hf
      · rw [if_neg (by rw [h]; exact Bool.false_ne_true)] at hf
        refine hK n _ _ _ (by omega) ⟨r.2.1, need + 1, o1, ?_, rfl, rfl, hf⟩
        unfold uNeeds at hn ⊢
        rw [o2 16 (by decide)]
        omega
    · have h1 : nI (uNeeds s) ≤ nI need := nI_le hge (by omega)
      have h0 : n = 0 := by omega
      subst h0
      have hf : (false, k, s) = fin := hf
      subst hf
      simp only [h1, false_implies, true_implies, not_true_eq_false, not_false_eq_true, true_and, and_true, implies_true, eq_self, ne_eq, true_or, or_true, false_or, or_false, and_self]
      by_cases h2 : k < uRow s
      · have h3 : ¬ nI (uRow s) ≤ nI k := nI_ge h2 (by omega)
        have e : ujR (false, k, s) = nI k := by unfold ujR; rw [if_neg Bool.false_ne_true, if_pos h2]
        simp only [h3, false_implies, true_implies, not_true_eq_false, not_false_eq_true, true_and, and_true, implies_true, eq_self, ne_eq, true_or, or_true, false_or, or_false, and_self]
        exact ⟨by rw [e], rfl⟩
      · have h3 : nI (uRow s) ≤ nI k := nI_le (by omega) (by omega)
        have e : ujR (false, k, s) = -9 := by unfold ujR; rw [if_neg Bool.false_ne_true, if_neg h2]
        simp only [h3, false_implies, true_implies, not_true_eq_false, not_false_eq_true, true_and, and_true, implies_true, eq_self, ne_eq, true_or, or_true, false_or, or_false, and_self]
        exact ⟨by rw [e], rfl⟩
  · simp only [wIload, wAload, wLload, wK, wB, wDv, wU, wLB, wLU, wLS, wL2i, wLcmp, wIf1, wIf2, wKeep, wInc, wIst, wAst, wLst, wDup, wPop, wDup2, wGet, wPut, wPutZ, wIald, wLald, wIast, wLast, wLen, wRetI, wRetZ, wRetL, wRetA, wRetV, wM1, wM2, wCpy, wTab, tabW, nth, stL, stL2, dropL, keepL, mkL, padL, restOK, restOKn, tl_some, tl_none, id_eq, eq_self, true_and, and_true, bk_X4_judged_0, bk_X4_judged_106, bk_X4_judged_4, bk_X4_judged_55, bk_X4_judged_12, F_X4_isOne, F_X4_isOpen, F_X4_mayWith, F_X4_writes, cf_RIIII_e, cf_RII_e, cf_RI_e]
    exact ⟨uNeeds M, 0, 0, ⟨Nat.zero_le _, h.1, h.2⟩, Nat.add_zero _, rfl, rfl, hfin⟩
def ujS (M : MS) : Bool × Nat × MS := ujN 0 (uNeeds M) 0 M
def v_judge (M : MS) : Int32 × MS := (ujR (ujS (uPA M 1 1)), msS 35 (uPA (ujS (uPA M 1 1)).2.2 1 0) 0)
def F_X4_judge (g : Nat → Nat) : CF MS := cf_R (g 30) (fun M => mPub M) (fun M => some (.int (v_judge M).1)) (fun M => (v_judge M).2)
theorem inw_X4_judge_X4 : ∀ w ∈ u_ws RX4 TX4 45, w ∈ wsX4_judge := by decide +kernel
def bk_X4_judge_0 (g : Nat → Nat) (Post : Option Value → MS → Prop)  (L : Lc) (st : List Value) (s : MS) : Prop :=
  (wAload 0 <| wK (.int 1) <| wK (.int 1) <| wCallR 3 (F_X4_passesAll g) id (fun _ u => u) <| wAload 0 <| wCallR 1 (F_X4_judged g) id (fun _ u => u) <| wIst 1 <| wAload 0 <| wK (.int 1) <| wK (.int 0) <| wCallR 3 (F_X4_passesAll g) id (fun _ u => u) <| wAload 0 <| wK (.int 0) <| wPut (g 30) (msS 35) <| wIload 1 <| wRetI Post) L st s
set_option maxRecDepth 20000 in
theorem s_X4_judge_0 {X : Cx} (B : Bx) (g : Nat → Nat) {Post : Option Value → MS → Prop} (C : OkX X (gx B) cX4_judge 2 wsX4_judge RX4 (rmD 5)) (R : RtX X (gx B) (some .int) (encM B g) Post)  : Snd X (gx B) 2 (encM B g) 0 (bk_X4_judge_0 g Post ) := by
  unfold bk_X4_judge_0
  refine s_aload_n C rfl dX4_judge_0 ?_
  refine s_iconst C (by decide) dX4_judge_1 ?_
  refine s_iconst C (by decide) dX4_judge_2 ?_
  refine s_callV C (fr_M_M B g) (k_X4_passesAll B g) gX4_judge_X4_passesAll rfl (by decide +kernel) ⟨rfl, rfl⟩ (by decide) rfl (fun s => ⟨_, heM_0 B g s⟩) (cf_RII_r _ _ _ _) dX4_judge_3 ?_
  refine s_aload_n C rfl dX4_judge_6 ?_
  refine s_callV C (fr_M_M B g) (k_X4_judged B g) gX4_judge_X4_judged rfl (by decide +kernel) ⟨rfl, rfl⟩ (by decide) rfl (fun s => ⟨_, heM_0 B g s⟩) (cf_R_r _ _ _ _) dX4_judge_7 ?_
  refine s_istore_n C rfl (by decide) dX4_judge_10 ?_
  refine s_aload_n C rfl dX4_judge_11 ?_
  refine s_iconst C (by decide) dX4_judge_12 ?_
  refine s_iconst C (by decide) dX4_judge_13 ?_
  refine s_callV C (fr_M_M B g) (k_X4_passesAll B g) gX4_judge_X4_passesAll rfl (by decide +kernel) ⟨rfl, rfl⟩ (by decide) rfl (fun s => ⟨_, heM_0 B g s⟩) (cf_RII_r _ _ _ _) dX4_judge_14 ?_
  refine s_aload_n C rfl dX4_judge_17 ?_
  refine s_iconst C (by decide) dX4_judge_18 ?_
  refine s_put C inw_X4_judge_X4 rfl (k := 35) (by decide) (by decide +kernel) tyX4_ok nmX4 (by decide +kernel) (by decide +kernel) (heM_0 B g) (fun _ => Nat.le_of_ble_eq_true rfl) (fun _ _ => rfl) dX4_judge_19 ?_
  refine s_iload_n C rfl dX4_judge_22 ?_
  exact s_iret C R dX4_judge_23
theorem haB_keep {M : MS} (h : haB M) : haB (uPA M 1 1) := by
  obtain ⟨p1, p2, -, -⟩ := uPA_keep (show 1 ≤ 1 by omega) M
  rw [show (nI 1 : Int32) = 1 from rfl] at p2
  intro n hn
  rw [p2 7 (by decide), p2 9 (by decide)]
  exact h n hn
theorem k_X4_judge (B : Bx) (g : Nat → Nat) : MtF (gx B) yX4_judge wsX4_judge (rmD 5) (encM B g) (F_X4_judge g) := by
  refine cf_R_i (fun l M h => Mt.of (by decide) rfl (Nat.le_of_ble_eq_true rfl) rfl (fun X C R => s_X4_judge_0 B g C R) ?_)
  have z1 : ((1 : Int32) = 0 ∨ (1 : Int32) = 1) ∧ ((0 : Int32) = 0 ∨ (0 : Int32) = 1) := ⟨Or.inr rfl, Or.inl rfl⟩
  have p1 := (mOK_keep h.1).1
  have p2 := haB_keep h.2.1
  unfold v_judge ujS
  simp only [wIload, wAload, wLload, wK, wB, wDv, wU, wLB, wLU, wLS, wL2i, wLcmp, wIf1, wIf2, wKeep, wInc, wIst, wAst, wLst, wDup, wPop, wDup2, wGet, wPut, wPutZ, wIald, wLald, wIast, wLast, wLen, wRetI, wRetZ, wRetL, wRetA, wRetV, wM1, wM2, wCpy, wTab, tabW, nth, stL, stL2, dropL, keepL, mkL, padL, restOK, restOKn, tl_some, tl_none, id_eq, eq_self, true_and, and_true, bk_X4_judge_0, F_X4_judged, F_X4_passesAll, cf_RII_e, cf_R_e, z1, p1, p2]
  all_goals first | done | exact ⟨rfl, rfl⟩ | exact rfl | exact b2i_01 _ | exact ⟨b2i_01 _, rfl, rfl⟩ | exact ⟨b2i_01 _, rfl⟩ | exact ⟨rfl, rfl, rfl⟩ | exact trivial | exact Or.inl trivial | simp only [or_true, true_or, and_self]
def uOpenN (M : MS) : Nat → Int32
  | 0 => 0
  | k + 1 => uOpenN M k + b2i (uOpen M k)
def v_count (M : MS) (w : Int32) : Int32 := if uIn w 11 16 = true then mA 0 M (w - 10).toNatClampNeg else if w = 0 then mS 15 M else if w = 1 then mS 16 M else if w = 2 then mS 17 M else if w = 3 then uOpenN M (uNeeds M) else if w = 4 then mS 22 M else if w = 5 then mS 27 M else if w = 6 then mS 35 M else if w = 7 then mS 18 M else -9
def F_X4_count (g : Nat → Nat) : CF MS := cf_RI (g 30) (fun M _ => mPub M) (fun M w => some (.int (v_count M w))) (fun M _ => M)
theorem inw_X4_count_X4 : ∀ w ∈ u_ws RX4 TX4 45, w ∈ wsX4_count := by decide +kernel
def bk_X4_count_0 (g : Nat → Nat) (Post : Option Value → MS → Prop) (K89 : PT MS) (L : Lc) (st : List Value) (s : MS) : Prop :=
  (wIload 1 <| wK (.int 11) <| wK (.int 16) <| wCallR 3 (F_X4_isIn) (fun _ => ()) (fun s _ => s) <| wIf1 (fun x => x = 0) (wK (.int 0) <| wIst 2 <| wIload 1 <| wTab [(0, wAload 0 <| wGet (g 30) (fun s => .int (mS 15 s)) <| wRetI Post), (1, wAload 0 <| wGet (g 30) (fun s => .int (mS 16 s)) <| wRetI Post), (2, wAload 0 <| wGet (g 30) (fun s => .int (mS 17 s)) <| wRetI Post), (3, wK (.int 0) <| wIst 3 <| wKeep [true, false, true, true] K89), (4, wAload 0 <| wGet (g 30) (fun s => .int (mS 22 s)) <| wRetI Post), (5, wAload 0 <| wGet (g 30) (fun s => .int (mS 27 s)) <| wRetI Post), (6, wAload 0 <| wGet (g 30) (fun s => .int (mS 35 s)) <| wRetI Post), (7, wAload 0 <| wGet (g 30) (fun s => .int (mS 18 s)) <| wRetI Post)] (wK (.int (-9)) <| wRetI Post)) (wAload 0 <| wGet (g 30) (fun _ => .ref (g 31)) <| wIload 1 <| wK (.int 10) <| wB (fun x y => x - y) <| wIald (g 31) 7 (mA 0) <| wRetI Post)) L st s
set_option maxRecDepth 20000 in
theorem s_X4_count_0 {X : Cx} (B : Bx) (g : Nat → Nat) {Post : Option Value → MS → Prop} (C : OkX X (gx B) cX4_count 4 wsX4_count RX4 (rmD 1)) (R : RtX X (gx B) (some .int) (encM B g) Post) {K89 : PT MS} (hK89 : Snd X (gx B) 4 (encM B g) 89 K89) : Snd X (gx B) 4 (encM B g) 0 (bk_X4_count_0 g Post K89) := by
  unfold bk_X4_count_0
  refine s_iload_n C rfl dX4_count_0 ?_
  refine s_bipush C (by decide) dX4_count_1 ?_
  refine s_bipush C (by decide) dX4_count_3 ?_
  refine s_callS C (fr_M_E B g) (k_X4_isIn B) gX4_count_X4_isIn rfl (by decide +kernel) ⟨rfl, rfl⟩ (by decide) (cf_III_r _ _ _) dX4_count_5 ?_
  refine s_if_eq C (tgt := 21) (by decide) dX4_count_8 ?_ ?_
  · refine s_iconst C (by decide) dX4_count_21 ?_
    refine s_istore_n C rfl (by decide) dX4_count_22 ?_
    refine s_iload_n C rfl dX4_count_23 ?_
    refine s_tab C 141 [72, 77, 82, 87, 121, 126, 131, 136] dX4_count_24 (by decide) (by decide) rfl rfl rfl ?_ ?_
    · refine s_bipush C (by decide) dX4_count_141 ?_
      exact s_iret C R dX4_count_143
    · refine ⟨?_, ?_, ?_, ?_, ?_, ?_, ?_, ?_, trivial⟩
      · refine s_aload_n C rfl dX4_count_72 ?_
        refine s_get C inw_X4_count_X4 rfl (k := 15) (by decide) (by decide +kernel) (heM_0 B g) (fun _ => rfl) dX4_count_73 ?_
        exact s_iret C R dX4_count_76
      · refine s_aload_n C rfl dX4_count_77 ?_
        refine s_get C inw_X4_count_X4 rfl (k := 16) (by decide) (by decide +kernel) (heM_0 B g) (fun _ => rfl) dX4_count_78 ?_
        exact s_iret C R dX4_count_81
      · refine s_aload_n C rfl dX4_count_82 ?_
        refine s_get C inw_X4_count_X4 rfl (k := 17) (by decide) (by decide +kernel) (heM_0 B g) (fun _ => rfl) dX4_count_83 ?_
        exact s_iret C R dX4_count_86
      · refine s_iconst C (by decide) dX4_count_87 ?_
        refine s_istore_n C rfl (by decide) dX4_count_88 ?_
        exact s_keep _ hK89
      · refine s_aload_n C rfl dX4_count_121 ?_
        refine s_get C inw_X4_count_X4 rfl (k := 22) (by decide) (by decide +kernel) (heM_0 B g) (fun _ => rfl) dX4_count_122 ?_
        exact s_iret C R dX4_count_125
      · refine s_aload_n C rfl dX4_count_126 ?_
        refine s_get C inw_X4_count_X4 rfl (k := 27) (by decide) (by decide +kernel) (heM_0 B g) (fun _ => rfl) dX4_count_127 ?_
        exact s_iret C R dX4_count_130
      · refine s_aload_n C rfl dX4_count_131 ?_
        refine s_get C inw_X4_count_X4 rfl (k := 35) (by decide) (by decide +kernel) (heM_0 B g) (fun _ => rfl) dX4_count_132 ?_
        exact s_iret C R dX4_count_135
      · refine s_aload_n C rfl dX4_count_136 ?_
        refine s_get C inw_X4_count_X4 rfl (k := 18) (by decide) (by decide +kernel) (heM_0 B g) (fun _ => rfl) dX4_count_137 ?_
        exact s_iret C R dX4_count_140
  · refine s_aload_n C rfl dX4_count_11 ?_
    refine s_get C inw_X4_count_X4 rfl (k := 0) (by decide) (by decide +kernel) (heM_0 B g) (fun _ => rfl) dX4_count_12 ?_
    refine s_iload_n C rfl dX4_count_15 ?_
    refine s_bipush C (by decide) dX4_count_16 ?_
    refine s_isub C dX4_count_18 ?_
    refine s_iald C (heM_1 B g) dX4_count_19 ?_
    exact s_iret C R dX4_count_20
def bk_X4_count_111 (g : Nat → Nat) (Post : Option Value → MS → Prop) (K89 : PT MS) (L : Lc) (st : List Value) (s : MS) : Prop :=
  (wB (fun x y => x + y) <| wIst 2 <| wInc 3 1 <| wKeep [true, false, true, true] K89) L st s
set_option maxRecDepth 20000 in
theorem s_X4_count_111 {X : Cx} (B : Bx) (g : Nat → Nat) {Post : Option Value → MS → Prop} (C : OkX X (gx B) cX4_count 4 wsX4_count RX4 (rmD 1)) (R : RtX X (gx B) (some .int) (encM B g) Post) {K89 : PT MS} (hK89 : Snd X (gx B) 4 (encM B g) 89 K89) : Snd X (gx B) 4 (encM B g) 111 (bk_X4_count_111 g Post K89) := by
  unfold bk_X4_count_111
  refine s_iadd C dX4_count_111 ?_
  refine s_istore_n C rfl (by decide) dX4_count_112 ?_
  refine s_iinc C (by decide) (by decide) dX4_count_113 ?_
  refine s_goto C (tgt := 89) (by decide) dX4_count_116 ?_
  exact s_keep _ hK89
def bk_X4_count_89 (g : Nat → Nat) (Post : Option Value → MS → Prop) (K89 : PT MS) (L : Lc) (st : List Value) (s : MS) : Prop :=
  (wIload 3 <| wAload 0 <| wGet (g 30) (fun s => .int (mS 16 s)) <| wIf2 (fun x y => y ≤ x) (wIload 2 <| wRetI Post) (wIload 2 <| wAload 0 <| wIload 3 <| wCallR 2 (F_X4_isOpen g) id (fun _ u => u) <| wIf1 (fun x => x = 0) (wK (.int 0) <| bk_X4_count_111 g Post K89) (wK (.int 1) <| bk_X4_count_111 g Post K89))) L st s
set_option maxRecDepth 20000 in
theorem s_X4_count_89 {X : Cx} (B : Bx) (g : Nat → Nat) {Post : Option Value → MS → Prop} (C : OkX X (gx B) cX4_count 4 wsX4_count RX4 (rmD 1)) (R : RtX X (gx B) (some .int) (encM B g) Post) {K89 : PT MS} (hK89 : Snd X (gx B) 4 (encM B g) 89 K89) : Snd X (gx B) 4 (encM B g) 89 (bk_X4_count_89 g Post K89) := by
  unfold bk_X4_count_89
  refine s_iload_n C rfl dX4_count_89 ?_
  refine s_aload_n C rfl dX4_count_90 ?_
  refine s_get C inw_X4_count_X4 rfl (k := 16) (by decide) (by decide +kernel) (heM_0 B g) (fun _ => rfl) dX4_count_91 ?_
  refine s_icmp_ge C (tgt := 119) (by decide) dX4_count_94 ?_ ?_
  · refine s_iload_n C rfl dX4_count_119 ?_
    exact s_iret C R dX4_count_120
  · refine s_iload_n C rfl dX4_count_97 ?_
    refine s_aload_n C rfl dX4_count_98 ?_
    refine s_iload_n C rfl dX4_count_99 ?_
    refine s_callV C (fr_M_M B g) (k_X4_isOpen B g) gX4_count_X4_isOpen rfl (by decide +kernel) ⟨rfl, rfl⟩ (by decide) rfl (fun s => ⟨_, heM_0 B g s⟩) (cf_RI_r _ _ _ _) dX4_count_100 ?_
    refine s_if_eq C (tgt := 110) (by decide) dX4_count_103 ?_ ?_
    · refine s_iconst C (by decide) dX4_count_110 ?_
      exact s_X4_count_111 B g C R hK89
    · refine s_iconst C (by decide) dX4_count_106 ?_
      refine s_goto C (tgt := 111) (by decide) dX4_count_107 ?_
      exact s_X4_count_111 B g C R hK89
def I_cnt (g : Nat → Nat) (M : MS) (n : Nat) (L : Lc) (st : List Value) (s : MS) : Prop := ∃ k : Nat, n + k = uNeeds M ∧ s = M ∧ st = [] ∧ L = [some (.ref (g 30)), none, some (.int (uOpenN M k)), some (.int (nI k))]
theorem k_X4_count (B : Bx) (g : Nat → Nat) : MtF (gx B) yX4_count wsX4_count (rmD 1) (encM B g) (F_X4_count g) := by
  refine cf_RI_i (fun l M w h => ?_)
  generalize hr : v_count M w = r
  obtain ⟨e1, e2⟩ := nnB_c h.1.2.2.1
  refine Mt.of (P := bk_X4_count_0 g (fun o u => o = some (.int r) ∧ u = M) (fun L st s => r = uOpenN M (uNeeds M) ∧ ∃ n, I_cnt g M n L st s)) (by decide) rfl (Nat.le_of_ble_eq_true rfl) rfl (fun X C R => s_X4_count_0 B g C R (Snd.imp (fun hc => snd_loop _ (I_cnt g M) (fun K hK => s_X4_count_89 B g C R hK) ?_))) ?_
  · rintro K n L st s ⟨k, hn, rfl, rfl, rfl⟩ hK
    subst hc
    simp only [wIload, wAload, wLload, wK, wB, wDv, wU, wLB, wLU, wLS, wL2i, wLcmp, wIf1, wIf2, wKeep, wInc, wIst, wAst, wLst, wDup, wPop, wDup2, wGet, wPut, wPutZ, wIald, wLald, wIast, wLast, wLen, wRetI, wRetZ, wRetL, wRetA, wRetV, wM1, wM2, wCpy, wTab, tabW, nth, stL, stL2, dropL, keepL, mkL, padL, restOK, restOKn, tl_some, tl_none, id_eq, eq_self, true_and, and_true, bk_X4_count_0, bk_X4_count_111, bk_X4_count_89, F_X4_isIn, F_X4_isOpen, cf_III_e, cf_RI_e, b2i_eq0, e1]
    rcases Nat.lt_or_ge k (uNeeds s) with hlt | hge
    · have h1 : ¬ nI (uNeeds s) ≤ nI k := nI_ge hlt (by omega)
      have x13 : ixB 13 (nI k) := ⟨k, by omega, rfl⟩
      have ck : (nI k).toNatClampNeg = k := nI_clamp (by omega)
      have hk := hK (n - 1) [some (.ref (g 30)), none, some (.int (uOpenN s (k + 1))), some (.int (nI (k + 1)))] [] s (by omega) ⟨k + 1, by omega, rfl, rfl, rfl⟩
      have e : uOpenN s (k + 1) = uOpenN s k + b2i (uOpen s k) := rfl
      rw [e] at hk
      simp only [h1, x13, ck, false_implies, true_implies, not_true_eq_false, not_false_eq_true, true_and, and_true, implies_true, eq_self, ne_eq, true_or, or_true, false_or, or_false, and_self]
      rw [nI_1]
      cases ho : uOpen s k
      · rw [ho] at hk
        simp only [ho, false_implies, true_implies, not_true_eq_false, not_false_eq_true, true_and, and_true, implies_true, eq_self, ne_eq, true_or, or_true, false_or, or_false, and_self]
        exact hk
      · rw [ho] at hk
        simp only [ho, Bool.true_eq_false, false_implies, true_implies, not_true_eq_false, not_false_eq_true, true_and, and_true, implies_true, eq_self, ne_eq, true_or, or_true, false_or, or_false, and_self]
        exact hk
    · have h1 : nI (uNeeds s) ≤ nI k := nI_le hge (by omega)
      simp only [h1, false_implies, true_implies, not_true_eq_false, not_false_eq_true, true_and, and_true, implies_true, eq_self, ne_eq, true_or, or_true, false_or, or_false, and_self]
      rw [show k = uNeeds s by omega]
  · have h7 : uIn w 11 16 = true → vp_in (w - 10) 7 := fun z => by
      unfold uIn at z
      have := of_decide_eq_true z
      obtain ⟨j, hj, rfl⟩ := nI_of (x := w) (Int32.not_lt.mpr (Int32.le_trans (by decide) this.1))
      have h3 := (le_nI (k := 16) (by decide)).mp this.2
      have h4 : nI 11 ≤ nI j := this.1
      rw [le_nI hj] at h4
      rw [nI_clamp (by decide)] at h4
      rw [nI_clamp hj] at h3
      have e : nI j - 10 = nI (j - 10) := nI_sub (a := j) (b := 10) (by omega)
      rw [e]
      exact vp_in_nI (by omega) (by decide)
    unfold v_count at hr
    simp only [wIload, wAload, wLload, wK, wB, wDv, wU, wLB, wLU, wLS, wL2i, wLcmp, wIf1, wIf2, wKeep, wInc, wIst, wAst, wLst, wDup, wPop, wDup2, wGet, wPut, wPutZ, wIald, wLald, wIast, wLast, wLen, wRetI, wRetZ, wRetL, wRetA, wRetV, wM1, wM2, wCpy, wTab, tabW, nth, stL, stL2, dropL, keepL, mkL, padL, restOK, restOKn, tl_some, tl_none, id_eq, eq_self, true_and, and_true, bk_X4_count_0, bk_X4_count_111, bk_X4_count_89, F_X4_isIn, F_X4_isOpen, cf_III_e, cf_RI_e, b2i_eq0]
    cases hi : uIn w 11 16
    · rw [hi] at hr
      simp only [Bool.false_eq_true, reduceIte] at hr
      simp only [hi, false_implies, true_implies, not_true_eq_false, not_false_eq_true, true_and, and_true, implies_true, eq_self, ne_eq, true_or, or_true, false_or, or_false, and_self]
      repeat' first | refine And.intro ?_ ?_ | intro _
      all_goals first | grind | exact ⟨uNeeds M, 0, Nat.add_zero _, rfl, rfl, rfl⟩
    · have w7 := h7 hi
      rw [if_pos hi] at hr
      subst hr
      simp only [hi, w7, Bool.true_eq_false, false_implies, true_implies, not_true_eq_false, not_false_eq_true, true_and, and_true, implies_true, eq_self, ne_eq, true_or, or_true, false_or, or_false, and_self]
      all_goals first | done | exact ⟨rfl, rfl⟩ | exact rfl | exact b2i_01 _ | exact ⟨b2i_01 _, rfl, rfl⟩ | exact ⟨b2i_01 _, rfl⟩ | exact ⟨rfl, rfl, rfl⟩ | exact trivial | exact Or.inl trivial | simp only [or_true, true_or, and_self]
end
