noncomputable section
def haB (M : MS) : Prop := ∀ n, n < 13 → (∃ h, h ≤ 3 ∧ mA 7 M n = nI h) ∧ (∃ d, d ≤ 3 ∧ mA 9 M n = nI d)
def yrB (M : MS) : Prop := ∃ y, y < 1000 ∧ mS 22 M = nI y
/-- one hand of a need in a run: sum, model -/
def uHs (r n : Int32) (x : Int32 × MS) : Int32 × MS :=
  if uChose x.2 r n < 0 then (if mS 37 x.2 ≤ 0 then (x.1, msS 36 x.2 (mS 36 x.2 + 1)) else (x.1 + 3 * mA 6 x.2 n.toNatClampNeg, msS 37 x.2 (mS 37 x.2 - 1)))
  else (x.1 + uGood x.2 (uChose x.2 r n).toNatClampNeg n.toNatClampNeg, uW x.2 (uChose x.2 r n) (mA 4 x.2 n.toNatClampNeg) (mA 6 x.2 n.toNatClampNeg) n)
theorem uHs_1 (r n sm : Int32) (M : MS) (h : uChose M r n < 0) (h2 : mS 37 M ≤ 0) : uHs r n (sm, M) = (sm, msS 36 M (mS 36 M + 1)) := by
  unfold uHs; dsimp only; rw [if_pos h, if_pos h2]
theorem uHs_2 (r n sm : Int32) (M : MS) (h : uChose M r n < 0) (h2 : ¬ mS 37 M ≤ 0) : uHs r n (sm, M) = (sm + 3 * mA 6 M n.toNatClampNeg, msS 37 M (mS 37 M - 1)) := by
  unfold uHs; dsimp only; rw [if_pos h, if_neg h2]
theorem uHs_3 (r n sm : Int32) (M : MS) (h : ¬ uChose M r n < 0) : uHs r n (sm, M) = (sm + uGood M (uChose M r n).toNatClampNeg n.toNatClampNeg, uW M (uChose M r n) (mA 4 M n.toNatClampNeg) (mA 6 M n.toNatClampNeg) n) := by
  unfold uHs; dsimp only; rw [if_neg h]
theorem uHs_cases (r n : Int32) (x : Int32 × MS) {P : Int32 × MS → Prop} (h1 : ∀ v w, P (v, msS 36 x.2 w)) (h2 : ∀ v w, P (v, msS 37 x.2 w)) (h3 : ∀ v p a c, P (v, uW x.2 p a c n)) : P (uHs r n x) := by
  unfold uHs
  split
  · split
    · exact h1 _ _
    · exact h2 _ _
  · exact h3 _ _ _ _
theorem mOK_of {b : Nat} {M M' : MS} (h : mOK b M) (hS : ∀ i, ¬ i = 36 → ¬ i = 37 → mS i M' = mS i M) (hA : ∀ i, mA i M' = mA i M) : mOK b M' := ⟨hpB_of h.1 (hS 17 (by decide) (by decide)), nwB_of h.2.1 (hA 4) (hA 5), nnB_of h.2.2.1 (hS 16 (by decide) (by decide)), ppB_of h.2.2.2.1 (hS 15 (by decide) (by decide)), rwB_of h.2.2.2.2 (hS 35 (by decide) (by decide))⟩
theorem mS_ne {i j : Nat} {M : MS} {v : Int32} (h : ¬ i = j) : mS i (msS j M v) = mS i M := by rw [mS_S, if_neg h]
theorem uHs_ok {b : Nat} {M : MS} (h : mOK b M) (r n sm : Int32) : mOK (b + 1) (uHs r n (sm, M)).2 := by
  refine uHs_cases r n (sm, M) (P := fun z => mOK (b + 1) z.2) (fun v w => mOK_le (mOK_of h (fun i h1 h2 => mS_ne h1) (fun i => rfl)) (by omega)) (fun v w => mOK_le (mOK_of h (fun i h1 h2 => mS_ne h2) (fun i => rfl)) (by omega)) (fun v p a c => mOK_W h _ _ _ _)
theorem uHs_S (i : Nat) (h1 : ¬ i = 17) (h2 : ¬ i = 36) (h3 : ¬ i = 37) (r n : Int32) (x : Int32 × MS) : mS i (uHs r n x).2 = mS i x.2 := uHs_cases r n x (P := fun z => mS i z.2 = mS i x.2) (fun _ _ => mS_ne h2) (fun _ _ => mS_ne h3) (fun _ _ _ _ => uW_S i h1 _ _ _ _ _)
theorem uHs_A (i : Nat) (hi : i < 9 ∨ 14 < i) (r n : Int32) (x : Int32 × MS) : mA i (uHs r n x).2 = mA i x.2 := uHs_cases r n x (P := fun z => mA i z.2 = mA i x.2) (fun _ _ => rfl) (fun _ _ => rfl) (fun _ _ _ _ => uW_A i hi _ _ _ _ _)
theorem nI_nn {q : Nat} (h : q < 2 ^ 31) : ¬ nI q < 0 := Int32.not_lt.mpr (nI_le (a := 0) (b := q) (by omega) (by omega))
/-- what is had of a need, behind one hand of it -/
theorem uHs_had {M : MS} {q k : Nat} (hq : q < 13) (hd : ∃ d, mA 9 M q = nI d ∧ d + (k + 1) ≤ 3) (r sm : Int32) : (∃ d, mA 9 (uHs r (nI q) (sm, M)).2 q = nI d ∧ d + k ≤ 3) ∧ ∀ j, ¬ j = q → mA 9 (uHs r (nI q) (sm, M)).2 j = mA 9 M j := by
  obtain ⟨d, h1, h2⟩ := hd
  refine uHs_cases r (nI q) (sm, M) (P := fun z => (∃ d, mA 9 z.2 q = nI d ∧ d + k ≤ 3) ∧ ∀ j, ¬ j = q → mA 9 z.2 j = mA 9 M j) (fun v w => ⟨⟨d, h1, by omega⟩, fun j _ => rfl⟩) (fun v w => ⟨⟨d, h1, by omega⟩, fun j _ => rfl⟩) (fun v p a c => ?_)
  dsimp only
  rw [uW_9, if_neg (nI_nn (by omega)), nI_clamp (by omega)]
  exact ⟨⟨d + 1, by rw [upd_eq, h1, nI_1], by omega⟩, fun j hj => upd_ne hj⟩
theorem haB_Hs {M : MS} {q k : Nat} (h : haB M) (hq : q < 13) (hd : ∃ d, mA 9 M q = nI d ∧ d + (k + 1) ≤ 3) (r sm : Int32) : haB (uHs r (nI q) (sm, M)).2 := by
  obtain ⟨⟨d, e1, e2⟩, e3⟩ := uHs_had hq hd r sm
  intro n hn
  rw [uHs_A 7 (by omega)]
  refine ⟨(h n hn).1, ?_⟩
  by_cases e : n = q
  · subst e
    exact ⟨d, by omega, e1⟩
  · rw [e3 n e]
    exact (h n hn).2
theorem sub33 : ∀ a, a < 4 → ∀ b, b < 4 → (nI a - nI b).toNatClampNeg = a - b := by decide
def uRN (M : MS) (r n : Int32) : Int32 × MS := iterN (uHs r n) (mA 7 M n.toNatClampNeg - mA 9 M n.toNatClampNeg).toNatClampNeg (0, M)
def F_X4_runsNeed (g : Nat → Nat) : CF MS := cf_RII (g 30) (fun M _ n => ixB 12 n ∧ mOK 397 M ∧ haB M) (fun M r n => some (.int (uRN M r n).1)) (fun M r n => (uRN M r n).2)
theorem inw_X4_runsNeed_X4 : ∀ w ∈ u_ws RX4 TX4 45, w ∈ wsX4_runsNeed := by decide +kernel
def bk_X4_runsNeed_0 (g : Nat → Nat) (Post : Option Value → MS → Prop) (K17 : PT MS) (L : Lc) (st : List Value) (s : MS) : Prop :=
  (wK (.int 0) <| wIst 3 <| wAload 0 <| wGet (g 30) (fun _ => .ref (g 38)) <| wIload 2 <| wIald (g 38) 13 (mA 7) <| wAload 0 <| wGet (g 30) (fun _ => .ref (g 40)) <| wIload 2 <| wIald (g 40) 13 (mA 9) <| wB (fun x y => x - y) <| wIst 4 <| wKeep [true, true, true, true, true, false] K17) L st s
set_option maxRecDepth 20000 in
theorem s_X4_runsNeed_0 {X : Cx} (B : Bx) (g : Nat → Nat) {Post : Option Value → MS → Prop} (C : OkX X (gx B) cX4_runsNeed 6 wsX4_runsNeed RX4 (rmD 6)) (R : RtX X (gx B) (some .int) (encM B g) Post) {K17 : PT MS} (hK17 : Snd X (gx B) 6 (encM B g) 17 K17) : Snd X (gx B) 6 (encM B g) 0 (bk_X4_runsNeed_0 g Post K17) := by
  unfold bk_X4_runsNeed_0
  refine s_iconst C (by decide) dX4_runsNeed_0 ?_
  refine s_istore_n C rfl (by decide) dX4_runsNeed_1 ?_
  refine s_aload_n C rfl dX4_runsNeed_2 ?_
  refine s_get C inw_X4_runsNeed_X4 rfl (k := 7) (by decide) (by decide +kernel) (heM_0 B g) (fun _ => rfl) dX4_runsNeed_3 ?_
  refine s_iload_n C rfl dX4_runsNeed_6 ?_
  refine s_iald C (heM_8 B g) dX4_runsNeed_7 ?_
  refine s_aload_n C rfl dX4_runsNeed_8 ?_
  refine s_get C inw_X4_runsNeed_X4 rfl (k := 9) (by decide) (by decide +kernel) (heM_0 B g) (fun _ => rfl) dX4_runsNeed_9 ?_
  refine s_iload_n C rfl dX4_runsNeed_12 ?_
  refine s_iald C (heM_10 B g) dX4_runsNeed_13 ?_
  refine s_isub C dX4_runsNeed_14 ?_
  refine s_istore C (by decide) dX4_runsNeed_15 ?_
  exact s_keep _ hK17
def bk_X4_runsNeed_108 (g : Nat → Nat) (Post : Option Value → MS → Prop) (K17 : PT MS) (L : Lc) (st : List Value) (s : MS) : Prop :=
  (wInc 4 (-1) <| wKeep [true, true, true, true, true, false] K17) L st s
set_option maxRecDepth 20000 in
theorem s_X4_runsNeed_108 {X : Cx} (B : Bx) (g : Nat → Nat) {Post : Option Value → MS → Prop} (C : OkX X (gx B) cX4_runsNeed 6 wsX4_runsNeed RX4 (rmD 6)) (R : RtX X (gx B) (some .int) (encM B g) Post) {K17 : PT MS} (hK17 : Snd X (gx B) 6 (encM B g) 17 K17) : Snd X (gx B) 6 (encM B g) 108 (bk_X4_runsNeed_108 g Post K17) := by
  unfold bk_X4_runsNeed_108
  refine s_iinc C (by decide) (by decide) dX4_runsNeed_108 ?_
  refine s_goto C (tgt := 17) (by decide) dX4_runsNeed_111 ?_
  exact s_keep _ hK17
def bk_X4_runsNeed_17 (g : Nat → Nat) (Post : Option Value → MS → Prop) (K17 : PT MS) (L : Lc) (st : List Value) (s : MS) : Prop :=
  (wIload 4 <| wIf1 (fun x => x ≤ 0) (wIload 3 <| wRetI Post) (wAload 0 <| wIload 1 <| wIload 2 <| wCallR 3 (F_X4_chooses g) id (fun _ u => u) <| wIst 5 <| wIload 5 <| wIf1 (fun x => x < 0) (wAload 0 <| wGet (g 30) (fun s => .int (mS 37 s)) <| wIf1 (fun x => x ≤ 0) (wAload 0 <| wDup <| wGet (g 30) (fun s => .int (mS 36 s)) <| wK (.int 1) <| wB (fun x y => x + y) <| wPut (g 30) (msS 36) <| bk_X4_runsNeed_108 g Post K17) (wAload 0 <| wDup <| wGet (g 30) (fun s => .int (mS 37 s)) <| wK (.int 1) <| wB (fun x y => x - y) <| wPut (g 30) (msS 37) <| wIload 3 <| wK (.int 3) <| wAload 0 <| wGet (g 30) (fun _ => .ref (g 37)) <| wIload 2 <| wIald (g 37) 13 (mA 6) <| wB (fun x y => x * y) <| wB (fun x y => x + y) <| wIst 3 <| bk_X4_runsNeed_108 g Post K17)) (wIload 3 <| wAload 0 <| wIload 5 <| wIload 2 <| wCallR 3 (F_X4_goodOf g) id (fun _ u => u) <| wB (fun x y => x + y) <| wIst 3 <| wAload 0 <| wIload 5 <| wAload 0 <| wGet (g 30) (fun _ => .ref (g 35)) <| wIload 2 <| wIald (g 35) 13 (mA 4) <| wAload 0 <| wGet (g 30) (fun _ => .ref (g 37)) <| wIload 2 <| wIald (g 37) 13 (mA 6) <| wIload 2 <| wCallR 5 (F_X4_writes g) id (fun _ u => u) <| bk_X4_runsNeed_108 g Post K17))) L st s
set_option maxRecDepth 20000 in
theorem s_X4_runsNeed_17 {X : Cx} (B : Bx) (g : Nat → Nat) {Post : Option Value → MS → Prop} (C : OkX X (gx B) cX4_runsNeed 6 wsX4_runsNeed RX4 (rmD 6)) (R : RtX X (gx B) (some .int) (encM B g) Post) {K17 : PT MS} (hK17 : Snd X (gx B) 6 (encM B g) 17 K17) : Snd X (gx B) 6 (encM B g) 17 (bk_X4_runsNeed_17 g Post K17) := by
  unfold bk_X4_runsNeed_17
  refine s_iload C dX4_runsNeed_17 ?_
  refine s_if_le C (tgt := 114) (by decide) dX4_runsNeed_19 ?_ ?_
  · refine s_iload_n C rfl dX4_runsNeed_114 ?_
    exact s_iret C R dX4_runsNeed_115
  · refine s_aload_n C rfl dX4_runsNeed_22 ?_
    refine s_iload_n C rfl dX4_runsNeed_23 ?_
    refine s_iload_n C rfl dX4_runsNeed_24 ?_
    refine s_callV C (fr_M_M B g) (k_X4_chooses B g) gX4_runsNeed_X4_chooses rfl (by decide +kernel) ⟨rfl, rfl⟩ (by decide) rfl (fun s => ⟨_, heM_0 B g s⟩) (cf_RII_r _ _ _ _) dX4_runsNeed_25 ?_
    refine s_istore C (by decide) dX4_runsNeed_28 ?_
    refine s_iload C dX4_runsNeed_30 ?_
    refine s_if_lt C (tgt := 67) (by decide) dX4_runsNeed_32 ?_ ?_
    · refine s_aload_n C rfl dX4_runsNeed_67 ?_
      refine s_get C inw_X4_runsNeed_X4 rfl (k := 37) (by decide) (by decide +kernel) (heM_0 B g) (fun _ => rfl) dX4_runsNeed_68 ?_
      refine s_if_le C (tgt := 98) (by decide) dX4_runsNeed_71 ?_ ?_
      · refine s_aload_n C rfl dX4_runsNeed_98 ?_
        refine s_dup C dX4_runsNeed_99 ?_
        refine s_get C inw_X4_runsNeed_X4 rfl (k := 36) (by decide) (by decide +kernel) (heM_0 B g) (fun _ => rfl) dX4_runsNeed_100 ?_
        refine s_iconst C (by decide) dX4_runsNeed_103 ?_
        refine s_iadd C dX4_runsNeed_104 ?_
        refine s_put C inw_X4_runsNeed_X4 rfl (k := 36) (by decide) (by decide +kernel) tyX4_ok nmX4 (by decide +kernel) (by decide +kernel) (heM_0 B g) (fun _ => Nat.le_of_ble_eq_true rfl) (fun _ _ => rfl) dX4_runsNeed_105 ?_
        exact s_X4_runsNeed_108 B g C R hK17
      · refine s_aload_n C rfl dX4_runsNeed_74 ?_
        refine s_dup C dX4_runsNeed_75 ?_
        refine s_get C inw_X4_runsNeed_X4 rfl (k := 37) (by decide) (by decide +kernel) (heM_0 B g) (fun _ => rfl) dX4_runsNeed_76 ?_
        refine s_iconst C (by decide) dX4_runsNeed_79 ?_
        refine s_isub C dX4_runsNeed_80 ?_
        refine s_put C inw_X4_runsNeed_X4 rfl (k := 37) (by decide) (by decide +kernel) tyX4_ok nmX4 (by decide +kernel) (by decide +kernel) (heM_0 B g) (fun _ => Nat.le_of_ble_eq_true rfl) (fun _ _ => rfl) dX4_runsNeed_81 ?_
        refine s_iload_n C rfl dX4_runsNeed_84 ?_
        refine s_iconst C (by decide) dX4_runsNeed_85 ?_
        refine s_aload_n C rfl dX4_runsNeed_86 ?_
        refine s_get C inw_X4_runsNeed_X4 rfl (k := 6) (by decide) (by decide +kernel) (heM_0 B g) (fun _ => rfl) dX4_runsNeed_87 ?_
        refine s_iload_n C rfl dX4_runsNeed_90 ?_
        refine s_iald C (heM_7 B g) dX4_runsNeed_91 ?_
        refine s_imul C dX4_runsNeed_92 ?_
        refine s_iadd C dX4_runsNeed_93 ?_
        refine s_istore_n C rfl (by decide) dX4_runsNeed_94 ?_
        refine s_goto C (tgt := 108) (by decide) dX4_runsNeed_95 ?_
        exact s_X4_runsNeed_108 B g C R hK17
    · refine s_iload_n C rfl dX4_runsNeed_35 ?_
      refine s_aload_n C rfl dX4_runsNeed_36 ?_
      refine s_iload C dX4_runsNeed_37 ?_
      refine s_iload_n C rfl dX4_runsNeed_39 ?_
      refine s_callV C (fr_M_M B g) (k_X4_goodOf B g) gX4_runsNeed_X4_goodOf rfl (by decide +kernel) ⟨rfl, rfl⟩ (by decide) rfl (fun s => ⟨_, heM_0 B g s⟩) (cf_RII_r _ _ _ _) dX4_runsNeed_40 ?_
      refine s_iadd C dX4_runsNeed_43 ?_
      refine s_istore_n C rfl (by decide) dX4_runsNeed_44 ?_
      refine s_aload_n C rfl dX4_runsNeed_45 ?_
      refine s_iload C dX4_runsNeed_46 ?_
      refine s_aload_n C rfl dX4_runsNeed_48 ?_
      refine s_get C inw_X4_runsNeed_X4 rfl (k := 4) (by decide) (by decide +kernel) (heM_0 B g) (fun _ => rfl) dX4_runsNeed_49 ?_
      refine s_iload_n C rfl dX4_runsNeed_52 ?_
      refine s_iald C (heM_5 B g) dX4_runsNeed_53 ?_
      refine s_aload_n C rfl dX4_runsNeed_54 ?_
      refine s_get C inw_X4_runsNeed_X4 rfl (k := 6) (by decide) (by decide +kernel) (heM_0 B g) (fun _ => rfl) dX4_runsNeed_55 ?_
      refine s_iload_n C rfl dX4_runsNeed_58 ?_
      refine s_iald C (heM_7 B g) dX4_runsNeed_59 ?_
      refine s_iload_n C rfl dX4_runsNeed_60 ?_
      refine s_callV C (fr_M_M B g) (k_X4_writes B g) gX4_runsNeed_X4_writes rfl (by decide +kernel) ⟨rfl, rfl⟩ (by decide) rfl (fun s => ⟨_, heM_0 B g s⟩) (cf_RIIII_r _ _ _ _) dX4_runsNeed_61 ?_
      refine s_goto C (tgt := 108) (by decide) dX4_runsNeed_64 ?_
      exact s_X4_runsNeed_108 B g C R hK17
theorem le0_clamp (x : Int32) : x ≤ 0 ↔ x.toNatClampNeg = 0 := by
  have := le_nI (x := x) (k := 0) (by decide)
  rw [show (nI 0 : Int32) = 0 from rfl] at this
  rw [this]
  omega
theorem clamp_dec {x : Int32} {m : Nat} (h : x.toNatClampNeg = m + 1) : (x + -1).toNatClampNeg = m := by
  have hb := clamp_lt x
  have h0 : ¬ x < 0 := fun z => by
    have := (le0_clamp x).mp (Int32.le_of_lt z)
    omega
  obtain ⟨j, hj, rfl⟩ := nI_of h0
  rw [nI_clamp hj] at h
  subst h
  rw [← Int32.sub_eq_add_neg, nI_pred, nI_clamp (by omega)]
def I_rn (g : Nat → Nat) (r : Int32) (q : Nat) (fin : Int32 × MS) (n : Nat) (L : Lc) (st : List Value) (s : MS) : Prop := ∃ (x sm : Int32), x.toNatClampNeg = n ∧ (∃ b, b + n ≤ 400 ∧ mOK b s) ∧ (∃ d, mA 9 s q = nI d ∧ d + n ≤ 3) ∧ st = [] ∧ L = [some (.ref (g 30)), some (.int r), some (.int (nI q)), some (.int sm), some (.int x), none] ∧ iterN (uHs r (nI q)) n (sm, s) = fin
theorem iterN_s {α : Type} (f : α → α) (n : Nat) (a : α) : iterN f (n + 1) a = iterN f n (f a) := rfl
theorem k_X4_runsNeed (B : Bx) (g : Nat → Nat) : MtF (gx B) yX4_runsNeed wsX4_runsNeed (rmD 6) (encM B g) (F_X4_runsNeed g) := by
  refine cf_RII_i (fun l M r n h => ?_)
  obtain ⟨⟨q, hq, rfl⟩, hok, hha⟩ := h
  have cq : (nI q).toNatClampNeg = q := nI_clamp (by omega)
  generalize hfin : uRN M r (nI q) = fin
  unfold uRN at hfin
  rw [cq] at hfin
  obtain ⟨⟨h, hh, eh⟩, d, hd, ed⟩ := hha q (by omega)
  have hsub := sub33 h (by omega) d (by omega)
  rw [← eh, ← ed] at hsub
  refine Mt.of (P := bk_X4_runsNeed_0 g (fun o u => o = some (.int fin.1) ∧ u = fin.2) (fun L st s => ∃ n, I_rn g r q fin n L st s)) (by decide) rfl (Nat.le_of_ble_eq_true rfl) rfl (fun X C R => s_X4_runsNeed_0 B g C R (snd_loop _ (I_rn g r q fin) (fun K hK => s_X4_runsNeed_17 B g C R hK) ?_)) ?_
  · rintro K n L st s ⟨x, sm, hx, ⟨b, hb, hm⟩, hda, rfl, rfl, hf⟩ hK
    have w0 : vp_in (nI q) 13 := vp_in_nI (by omega) (by decide)
    simp only [wIload, wAload, wLload, wK, wB, wDv, wU, wLB, wLU, wLS, wL2i, wLcmp, wIf1, wIf2, wKeep, wInc, wIst, wAst, wLst, wDup, wPop, wDup2, wGet, wPut, wPutZ, wIald, wLald, wIast, wLast, wLen, wRetI, wRetZ, wRetL, wRetA, wRetV, wM1, wM2, wCpy, wTab, tabW, nth, stL, stL2, dropL, keepL, mkL, padL, restOK, restOKn, tl_some, tl_none, id_eq, eq_self, true_and, and_true, bk_X4_runsNeed_0, bk_X4_runsNeed_108, bk_X4_runsNeed_17, F_X4_chooses, F_X4_goodOf, F_X4_writes, cf_RIIII_e, cf_RII_e, mS_S, mA_A, mS_A, mA_S, mS_a, mA_a, Nat.reduceEqDiff, reduceIte]
    rcases n with _ | n
    · have h1 : x ≤ 0 := (le0_clamp x).mpr hx
      have hf : (sm, s) = fin := hf
      subst hf
      simp only [h1, false_implies, true_implies, not_true_eq_false, not_false_eq_true, true_and, and_true, implies_true, eq_self, ne_eq, true_or, or_true, false_or, or_false, and_self]
    · have h1 : ¬ x ≤ 0 := fun z => by have := (le0_clamp x).mp z; omega
      rw [iterN_s] at hf
      have hm2 : mOK 400 s := mOK_le hm (by omega)
      have hc : ∀ sm' M', uHs r (nI q) (sm, s) = (sm', M') → K [some (.ref (g 30)), some (.int r), some (.int (nI q)), some (.int sm'), some (.int (x + -1)), none] [] M' := by
        intro sm' M' e
        have o1 := uHs_ok hm r (nI q) sm
        have o2 := uHs_had (by omega) hda r sm
        rw [e] at hf o1 o2
        exact hK n _ _ _ (by omega) ⟨x + -1, sm', clamp_dec hx, ⟨b + 1, by omega, o1⟩, o2.1, rfl, rfl, hf⟩
      have iq : ixB 13 (nI q) := ⟨q, by omega, rfl⟩
      simp only [h1, w0, cq, hm2, iq, false_implies, true_implies, not_true_eq_false, not_false_eq_true, true_and, and_true, implies_true, eq_self, ne_eq, true_or, or_true, false_or, or_false, and_self]
      by_cases h2 : uChose s r (nI q) < 0
      · by_cases h3 : mS 37 s ≤ 0
        · have := hc _ _ (uHs_1 _ _ _ _ h2 h3)
          simp only [h2, h3, false_implies, true_implies, not_true_eq_false, not_false_eq_true, true_and, and_true, implies_true, eq_self, ne_eq, true_or, or_true, false_or, or_false, and_self]
          exact this
        · have := hc _ _ (uHs_2 _ _ _ _ h2 h3)
          rw [cq] at this
          simp only [h2, h3, false_implies, true_implies, not_true_eq_false, not_false_eq_true, true_and, and_true, implies_true, eq_self, ne_eq, true_or, or_true, false_or, or_false, and_self]
          exact this
      · have := hc _ _ (uHs_3 _ _ _ _ h2)
        rw [cq] at this
        have px := (uChose_ix hm r (nI q)).resolve_left h2
        have pw : hpB 399 s := hpB_le hm.1 (by omega)
        have hnw := hm.2.1
        simp only [h2, px, pw, hnw, false_implies, true_implies, not_true_eq_false, not_false_eq_true, true_and, and_true, implies_true, eq_self, ne_eq, true_or, or_true, false_or, or_false, and_self]
        exact this
  · have w0 : vp_in (nI q) 13 := vp_in_nI (by omega) (by decide)
    simp only [wIload, wAload, wLload, wK, wB, wDv, wU, wLB, wLU, wLS, wL2i, wLcmp, wIf1, wIf2, wKeep, wInc, wIst, wAst, wLst, wDup, wPop, wDup2, wGet, wPut, wPutZ, wIald, wLald, wIast, wLast, wLen, wRetI, wRetZ, wRetL, wRetA, wRetV, wM1, wM2, wCpy, wTab, tabW, nth, stL, stL2, dropL, keepL, mkL, padL, restOK, restOKn, tl_some, tl_none, id_eq, eq_self, true_and, and_true, bk_X4_runsNeed_0, bk_X4_runsNeed_108, bk_X4_runsNeed_17, F_X4_chooses, F_X4_goodOf, F_X4_writes, cf_RIIII_e, cf_RII_e, w0, cq]
    exact ⟨_, _, 0, rfl, ⟨397, by omega, hok⟩, ⟨d, ed, by omega⟩, rfl, rfl, hfin⟩
def sumN (f : Nat → Nat) : Nat → Nat
  | 0 => 0
  | n + 1 => sumN f n + f n
theorem sumN_le {f : Nat → Nat} {b : Nat} : ∀ n, (∀ k, k < n → f k ≤ b) → sumN f n ≤ n * b := by
  intro n
  induction n with
  | zero => intro _; exact Nat.zero_le _
  | succ n ih =>
    intro h
    have h1 := ih (fun k hk => h k (by omega))
    have h2 := h n (by omega)
    rw [Nat.succ_mul]
    show sumN f n + f n ≤ n * b + b
    omega
theorem sumN_congr {f f' : Nat → Nat} : ∀ n, (∀ k, k < n → f k = f' k) → sumN f n = sumN f' n := by
  intro n
  induction n with
  | zero => intro _; rfl
  | succ n ih =>
    intro h
    show sumN f n + f n = sumN f' n + f' n
    rw [ih (fun k hk => h k (by omega)), h n (by omega)]
theorem sumN_one {f f' : Nat → Nat} {q : Nat} : ∀ n, q < n → (∀ k, k < n → ¬ k = q → f' k = f k) → sumN f' n + f q = sumN f n + f' q := by
  intro n
  induction n with
  | zero => intro h; omega
  | succ n ih =>
    intro h hk
    show sumN f' n + f' n + f q = sumN f n + f n + f' q
    by_cases e : q = n
    · subst e
      rw [sumN_congr (f := f') (f' := f) q (fun k hkq => hk k (by omega) (by omega))]
      omega
    · have := ih (by omega) (fun k hkn hkq => hk k (by omega) hkq)
      rw [hk n (by omega) (fun z => e z.symm)]
      omega
def cntH (M : MS) : Nat := sumN (fun k => (mA 9 M k).toNatClampNeg) 12
/-- what holds all along a run -/
def rI (a b : Nat) (M : MS) : Prop := (nwB M ∧ nnB M ∧ ppB M ∧ rwB M) ∧ haB M ∧ ∃ H, mS 17 M = nI H ∧ H + a = cntH M + b
theorem cntH_le {M : MS} (h : haB M) : cntH M ≤ 36 := by
  refine sumN_le (b := 3) 12 (fun k hk => ?_)
  obtain ⟨d, h1, h2⟩ := (h k (by omega)).2
  show (mA 9 M k).toNatClampNeg ≤ 3
  rw [h2, nI_clamp (by omega)]
  exact h1
theorem rI_ok {a b : Nat} {M : MS} (h : rI a b M) (hb : b ≤ 60) : mOK 96 M := by
  obtain ⟨h1, h2, H, h3, h4⟩ := h
  have := cntH_le h2
  exact ⟨⟨H, by omega, h3⟩, h1⟩
theorem rI_Hs {a b q k : Nat} {M : MS} (h : rI a b M) (hb : b ≤ 60) (hq : q < 12) (hd : ∃ d, mA 9 M q = nI d ∧ d + (k + 1) ≤ 3) (r sm : Int32) : rI a b (uHs r (nI q) (sm, M)).2 := by
  have hok := rI_ok h hb
  obtain ⟨h1, h2, H, h3, h4⟩ := h
  have o1 := uHs_ok hok r (nI q) sm
  refine ⟨o1.2, haB_Hs h2 (by omega) hd r sm, ?_⟩
  obtain ⟨d, e1, e2⟩ := hd
  refine uHs_cases r (nI q) (sm, M) (P := fun z => ∃ H, mS 17 z.2 = nI H ∧ H + a = cntH z.2 + b) (fun v w => ⟨H, h3, h4⟩) (fun v w => ⟨H, h3, h4⟩) (fun v p x y => ⟨H + 1, by dsimp only; rw [uW_17, h3, nI_1], ?_⟩)
  have hc : cntH (uW M p x y (nI q)) + d = cntH M + (d + 1) := by
    have e9 := uW_9 M p x y (nI q)
    rw [if_neg (nI_nn (by omega)), nI_clamp (by omega)] at e9
    have hs := sumN_one (f := fun k => (mA 9 M k).toNatClampNeg) (f' := fun k => (mA 9 (uW M p x y (nI q)) k).toNatClampNeg) (q := q) 12 hq (fun k _ hkq => by rw [e9, upd_ne hkq])
    have h5 : (mA 9 M q).toNatClampNeg = d := by rw [e1, nI_clamp (by omega)]
    have h6 : (mA 9 (uW M p x y (nI q)) q).toNatClampNeg = d + 1 := by rw [e9, upd_eq, e1, nI_1, nI_clamp (by omega)]
    rw [h5, h6] at hs
    exact hs
  dsimp only
  omega
theorem rI_iter {a b q : Nat} (hb : b ≤ 60) (hq : q < 12) (r : Int32) : ∀ (k : Nat) (sm : Int32) (M : MS), rI a b M → (∃ d, mA 9 M q = nI d ∧ d + k ≤ 3) → rI a b (iterN (uHs r (nI q)) k (sm, M)).2 ∧ (∀ i, ¬ i = 17 → ¬ i = 36 → ¬ i = 37 → mS i (iterN (uHs r (nI q)) k (sm, M)).2 = mS i M) ∧ ∀ i, (i < 9 ∨ 14 < i) → mA i (iterN (uHs r (nI q)) k (sm, M)).2 = mA i M := by
  intro k
  induction k with
  | zero => exact fun sm M h _ => ⟨h, fun _ _ _ _ => rfl, fun _ _ => rfl⟩
  | succ k ih =>
    intro sm M h hd
    rw [iterN_s]
    have o1 := rI_Hs h hb hq hd r sm
    have o2 := uHs_had (by omega) hd r sm
    have o3 := fun i (h1 : ¬ i = 17) (h2 : ¬ i = 36) (h3 : ¬ i = 37) => uHs_S i h1 h2 h3 r (nI q) (sm, M)
    have o4 := fun i (hi : i < 9 ∨ 14 < i) => uHs_A i hi r (nI q) (sm, M)
    generalize uHs r (nI q) (sm, M) = z at o1 o2 o3 o4 ⊢
    obtain ⟨sm', M'⟩ := z
    obtain ⟨i1, i2, i3⟩ := ih sm' M' o1 o2.1
    exact ⟨i1, fun i h1 h2 h3 => (i2 i h1 h2 h3).trans (o3 i h1 h2 h3), fun i hi => (i3 i hi).trans (o4 i hi)⟩
theorem rI_RN {a b q : Nat} {M : MS} (h : rI a b M) (hb : b ≤ 60) (hq : q < 12) (r : Int32) : rI a b (uRN M r (nI q)).2 ∧ (∀ i, ¬ i = 17 → ¬ i = 36 → ¬ i = 37 → mS i (uRN M r (nI q)).2 = mS i M) ∧ ∀ i, (i < 9 ∨ 14 < i) → mA i (uRN M r (nI q)).2 = mA i M := by
  unfold uRN
  rw [nI_clamp (by omega)]
  obtain ⟨⟨hh, h1, h2⟩, d, h3, h4⟩ := h.2.1 q (by omega)
  rw [h2, h4, sub33 hh (by omega) d (by omega)]
  exact rI_iter hb hq r _ 0 M h ⟨d, h4, by omega⟩
/-- one need in a run -/
def uNd (r : Int32) (k : Nat) (x : Int32 × MS) : Int32 × MS := if mA 8 x.2 k = mS 22 x.2 then (x.1 + (uRN x.2 r (nI k)).1, (uRN x.2 r (nI k)).2) else x
theorem uNd_1 (r sm : Int32) (k : Nat) (M : MS) (h : mA 8 M k = mS 22 M) : uNd r k (sm, M) = (sm + (uRN M r (nI k)).1, (uRN M r (nI k)).2) := by unfold uNd; dsimp only; rw [if_pos h]
theorem uNd_2 (r sm : Int32) (k : Nat) (M : MS) (h : ¬ mA 8 M k = mS 22 M) : uNd r k (sm, M) = (sm, M) := by unfold uNd; dsimp only; rw [if_neg h]
theorem rI_Nd {a b q : Nat} {M : MS} (h : rI a b M) (hb : b ≤ 60) (hq : q < 12) (r sm : Int32) : rI a b (uNd r q (sm, M)).2 ∧ (∀ i, ¬ i = 17 → ¬ i = 36 → ¬ i = 37 → mS i (uNd r q (sm, M)).2 = mS i M) ∧ ∀ i, (i < 9 ∨ 14 < i) → mA i (uNd r q (sm, M)).2 = mA i M := by
  by_cases e : mA 8 M q = mS 22 M
  · rw [uNd_1 _ _ _ _ e]
    exact rI_RN h hb hq r
  · rw [uNd_2 _ _ _ _ e]
    exact ⟨h, fun _ _ _ _ => rfl, fun _ _ => rfl⟩
theorem upto_s {α : Type} (f : Nat → α → α) (k n : Nat) (a : α) : upto f k (n + 1) a = upto f (k + 1) n (f k a) := rfl
theorem rI_upto {a b : Nat} (hb : b ≤ 60) (r : Int32) : ∀ (n k : Nat) (sm : Int32) (M : MS), rI a b M → k + n ≤ 12 → rI a b (upto (uNd r) k n (sm, M)).2 ∧ (∀ i, ¬ i = 17 → ¬ i = 36 → ¬ i = 37 → mS i (upto (uNd r) k n (sm, M)).2 = mS i M) ∧ ∀ i, (i < 9 ∨ 14 < i) → mA i (upto (uNd r) k n (sm, M)).2 = mA i M := by
  intro n
  induction n with
  | zero => exact fun k sm M h _ => ⟨h, fun _ _ _ _ => rfl, fun _ _ => rfl⟩
  | succ n ih =>
    intro k sm M h hk
    rw [upto_s]
    obtain ⟨o1, o2, o3⟩ := rI_Nd h hb (show k < 12 by omega) r sm
    generalize uNd r k (sm, M) = z at o1 o2 o3 ⊢
    obtain ⟨sm', M'⟩ := z
    obtain ⟨i1, i2, i3⟩ := ih (k + 1) sm' M' o1 (by omega)
    exact ⟨i1, fun i h1 h2 h3 => (i2 i h1 h2 h3).trans (o2 i h1 h2 h3), fun i hi => (i3 i hi).trans (o3 i hi)⟩
def uYr (r : Int32) (x : Int32 × MS) : Int32 × MS := ((upto (uNd r) 0 (uNeeds x.2) x).1, msS 22 (upto (uNd r) 0 (uNeeds x.2) x).2 (mS 22 (upto (uNd r) 0 (uNeeds x.2) x).2 + 1))
theorem uYr_e (r sm : Int32) (M : MS) {z : Int32 × MS} (h : upto (uNd r) 0 (uNeeds M) (sm, M) = z) : uYr r (sm, M) = (z.1, msS 22 z.2 (mS 22 z.2 + 1)) := by subst h; rfl
def uR0 (M : MS) (f : Int32) : MS := msS 37 (msS 36 (uPA M 1 1) 0) f
def uRz (M : MS) (r f : Int32) : Int32 × MS := iterN (uYr r) (10 - (mS 22 M).toNatClampNeg) (0, uR0 M f)
def uRun (M : MS) (r f : Int32) : Int32 × MS := ((uRz M r f).1, uPA (uRz M r f).2 1 0)
def rnPre (M : MS) : Prop := mOK 60 M ∧ haB M ∧ yrB M
def F_X4_runOf (g : Nat → Nat) : CF MS := cf_RII (g 30) (fun M _ _ => rnPre M) (fun M r f => some (.int (uRun M r f).1)) (fun M r f => (uRun M r f).2)
theorem inw_X4_runOf_X4 : ∀ w ∈ u_ws RX4 TX4 45, w ∈ wsX4_runOf := by decide +kernel
def bk_X4_runOf_0 (g : Nat → Nat) (Post : Option Value → MS → Prop) (K18 : PT MS) (L : Lc) (st : List Value) (s : MS) : Prop :=
  (wAload 0 <| wK (.int 1) <| wK (.int 1) <| wCallR 3 (F_X4_passesAll g) id (fun _ u => u) <| wAload 0 <| wK (.int 0) <| wPut (g 30) (msS 36) <| wAload 0 <| wIload 2 <| wPut (g 30) (msS 37) <| wK (.int 0) <| wIst 3 <| wKeep [true, true, false, true, false] K18) L st s
set_option maxRecDepth 20000 in
theorem s_X4_runOf_0 {X : Cx} (B : Bx) (g : Nat → Nat) {Post : Option Value → MS → Prop} (C : OkX X (gx B) cX4_runOf 5 wsX4_runOf RX4 (rmD 7)) (R : RtX X (gx B) (some .int) (encM B g) Post) {K18 : PT MS} (hK18 : Snd X (gx B) 5 (encM B g) 18 K18) : Snd X (gx B) 5 (encM B g) 0 (bk_X4_runOf_0 g Post K18) := by
  unfold bk_X4_runOf_0
  refine s_aload_n C rfl dX4_runOf_0 ?_
  refine s_iconst C (by decide) dX4_runOf_1 ?_
  refine s_iconst C (by decide) dX4_runOf_2 ?_
  refine s_callV C (fr_M_M B g) (k_X4_passesAll B g) gX4_runOf_X4_passesAll rfl (by decide +kernel) ⟨rfl, rfl⟩ (by decide) rfl (fun s => ⟨_, heM_0 B g s⟩) (cf_RII_r _ _ _ _) dX4_runOf_3 ?_
  refine s_aload_n C rfl dX4_runOf_6 ?_
  refine s_iconst C (by decide) dX4_runOf_7 ?_
  refine s_put C inw_X4_runOf_X4 rfl (k := 36) (by decide) (by decide +kernel) tyX4_ok nmX4 (by decide +kernel) (by decide +kernel) (heM_0 B g) (fun _ => Nat.le_of_ble_eq_true rfl) (fun _ _ => rfl) dX4_runOf_8 ?_
  refine s_aload_n C rfl dX4_runOf_11 ?_
  refine s_iload_n C rfl dX4_runOf_12 ?_
  refine s_put C inw_X4_runOf_X4 rfl (k := 37) (by decide) (by decide +kernel) tyX4_ok nmX4 (by decide +kernel) (by decide +kernel) (heM_0 B g) (fun _ => Nat.le_of_ble_eq_true rfl) (fun _ _ => rfl) dX4_runOf_13 ?_
  refine s_iconst C (by decide) dX4_runOf_16 ?_
  refine s_istore_n C rfl (by decide) dX4_runOf_17 ?_
  exact s_keep _ hK18
def bk_X4_runOf_18 (g : Nat → Nat) (Post : Option Value → MS → Prop) (K30 : PT MS) (L : Lc) (st : List Value) (s : MS) : Prop :=
  (wAload 0 <| wGet (g 30) (fun s => .int (mS 22 s)) <| wK (.int 9) <| wIf2 (fun x y => y < x) (wAload 0 <| wK (.int 1) <| wK (.int 0) <| wCallR 3 (F_X4_passesAll g) id (fun _ u => u) <| wIload 3 <| wRetI Post) (wK (.int 0) <| wIst 4 <| wKeep [true, true, false, true, true] K30)) L st s
set_option maxRecDepth 20000 in
theorem s_X4_runOf_18 {X : Cx} (B : Bx) (g : Nat → Nat) {Post : Option Value → MS → Prop} (C : OkX X (gx B) cX4_runOf 5 wsX4_runOf RX4 (rmD 7)) (R : RtX X (gx B) (some .int) (encM B g) Post) {K30 : PT MS} (hK30 : Snd X (gx B) 5 (encM B g) 30 K30) : Snd X (gx B) 5 (encM B g) 18 (bk_X4_runOf_18 g Post K30) := by
  unfold bk_X4_runOf_18
  refine s_aload_n C rfl dX4_runOf_18 ?_
  refine s_get C inw_X4_runOf_X4 rfl (k := 22) (by decide) (by decide +kernel) (heM_0 B g) (fun _ => rfl) dX4_runOf_19 ?_
  refine s_bipush C (by decide) dX4_runOf_22 ?_
  refine s_icmp_gt C (tgt := 86) (by decide) dX4_runOf_24 ?_ ?_
  · refine s_aload_n C rfl dX4_runOf_86 ?_
    refine s_iconst C (by decide) dX4_runOf_87 ?_
    refine s_iconst C (by decide) dX4_runOf_88 ?_
    refine s_callV C (fr_M_M B g) (k_X4_passesAll B g) gX4_runOf_X4_passesAll rfl (by decide +kernel) ⟨rfl, rfl⟩ (by decide) rfl (fun s => ⟨_, heM_0 B g s⟩) (cf_RII_r _ _ _ _) dX4_runOf_89 ?_
    refine s_iload_n C rfl dX4_runOf_92 ?_
    exact s_iret C R dX4_runOf_93
  · refine s_iconst C (by decide) dX4_runOf_27 ?_
    refine s_istore C (by decide) dX4_runOf_28 ?_
    exact s_keep _ hK30
def bk_X4_runOf_65 (g : Nat → Nat) (Post : Option Value → MS → Prop) (K30 : PT MS) (L : Lc) (st : List Value) (s : MS) : Prop :=
  (wB (fun x y => x + y) <| wIst 3 <| wInc 4 1 <| wKeep [true, true, false, true, true] K30) L st s
set_option maxRecDepth 20000 in
theorem s_X4_runOf_65 {X : Cx} (B : Bx) (g : Nat → Nat) {Post : Option Value → MS → Prop} (C : OkX X (gx B) cX4_runOf 5 wsX4_runOf RX4 (rmD 7)) (R : RtX X (gx B) (some .int) (encM B g) Post) {K30 : PT MS} (hK30 : Snd X (gx B) 5 (encM B g) 30 K30) : Snd X (gx B) 5 (encM B g) 65 (bk_X4_runOf_65 g Post K30) := by
  unfold bk_X4_runOf_65
  refine s_iadd C dX4_runOf_65 ?_
  refine s_istore_n C rfl (by decide) dX4_runOf_66 ?_
  refine s_iinc C (by decide) (by decide) dX4_runOf_67 ?_
  refine s_goto C (tgt := 30) (by decide) dX4_runOf_70 ?_
  exact s_keep _ hK30
def bk_X4_runOf_30 (g : Nat → Nat) (Post : Option Value → MS → Prop) (K18 : PT MS) (K30 : PT MS) (L : Lc) (st : List Value) (s : MS) : Prop :=
  (wIload 4 <| wAload 0 <| wGet (g 30) (fun s => .int (mS 16 s)) <| wIf2 (fun x y => y ≤ x) (wAload 0 <| wDup <| wGet (g 30) (fun s => .int (mS 22 s)) <| wK (.int 1) <| wB (fun x y => x + y) <| wPut (g 30) (msS 22) <| wKeep [true, true, false, true, false] K18) (wIload 3 <| wAload 0 <| wGet (g 30) (fun _ => .ref (g 39)) <| wIload 4 <| wIald (g 39) 13 (mA 8) <| wAload 0 <| wGet (g 30) (fun s => .int (mS 22 s)) <| wIf2 (fun x y => x = y) (wAload 0 <| wIload 1 <| wIload 4 <| wCallR 3 (F_X4_runsNeed g) id (fun _ u => u) <| bk_X4_runOf_65 g Post K30) (wK (.int 0) <| bk_X4_runOf_65 g Post K30))) L st s
set_option maxRecDepth 20000 in
theorem s_X4_runOf_30 {X : Cx} (B : Bx) (g : Nat → Nat) {Post : Option Value → MS → Prop} (C : OkX X (gx B) cX4_runOf 5 wsX4_runOf RX4 (rmD 7)) (R : RtX X (gx B) (some .int) (encM B g) Post) {K18 : PT MS} (hK18 : Snd X (gx B) 5 (encM B g) 18 K18) {K30 : PT MS} (hK30 : Snd X (gx B) 5 (encM B g) 30 K30) : Snd X (gx B) 5 (encM B g) 30 (bk_X4_runOf_30 g Post K18 K30) := by
  unfold bk_X4_runOf_30
  refine s_iload C dX4_runOf_30 ?_
  refine s_aload_n C rfl dX4_runOf_32 ?_
  refine s_get C inw_X4_runOf_X4 rfl (k := 16) (by decide) (by decide +kernel) (heM_0 B g) (fun _ => rfl) dX4_runOf_33 ?_
  refine s_icmp_ge C (tgt := 73) (by decide) dX4_runOf_36 ?_ ?_
  · refine s_aload_n C rfl dX4_runOf_73 ?_
    refine s_dup C dX4_runOf_74 ?_
    refine s_get C inw_X4_runOf_X4 rfl (k := 22) (by decide) (by decide +kernel) (heM_0 B g) (fun _ => rfl) dX4_runOf_75 ?_
    refine s_iconst C (by decide) dX4_runOf_78 ?_
    refine s_iadd C dX4_runOf_79 ?_
    refine s_put C inw_X4_runOf_X4 rfl (k := 22) (by decide) (by decide +kernel) tyX4_ok nmX4 (by decide +kernel) (by decide +kernel) (heM_0 B g) (fun _ => Nat.le_of_ble_eq_true rfl) (fun _ _ => rfl) dX4_runOf_80 ?_
    refine s_goto C (tgt := 18) (by decide) dX4_runOf_83 ?_
    exact s_keep _ hK18
  · refine s_iload_n C rfl dX4_runOf_39 ?_
    refine s_aload_n C rfl dX4_runOf_40 ?_
    refine s_get C inw_X4_runOf_X4 rfl (k := 8) (by decide) (by decide +kernel) (heM_0 B g) (fun _ => rfl) dX4_runOf_41 ?_
    refine s_iload C dX4_runOf_44 ?_
    refine s_iald C (heM_9 B g) dX4_runOf_46 ?_
    refine s_aload_n C rfl dX4_runOf_47 ?_
    refine s_get C inw_X4_runOf_X4 rfl (k := 22) (by decide) (by decide +kernel) (heM_0 B g) (fun _ => rfl) dX4_runOf_48 ?_
    refine s_icmp_ne C (tgt := 64) (by decide) dX4_runOf_51 ?_ ?_
    · refine s_iconst C (by decide) dX4_runOf_64 ?_
      exact s_X4_runOf_65 B g C R hK30
    · refine s_aload_n C rfl dX4_runOf_54 ?_
      refine s_iload_n C rfl dX4_runOf_55 ?_
      refine s_iload C dX4_runOf_56 ?_
      refine s_callV C (fr_M_M B g) (k_X4_runsNeed B g) gX4_runOf_X4_runsNeed rfl (by decide +kernel) ⟨rfl, rfl⟩ (by decide) rfl (fun s => ⟨_, heM_0 B g s⟩) (cf_RII_r _ _ _ _) dX4_runOf_58 ?_
      refine s_goto C (tgt := 65) (by decide) dX4_runOf_61 ?_
      exact s_X4_runOf_65 B g C R hK30
def I_r30 (g : Nat → Nat) (a b : Nat) (r : Int32) (K18 : PT MS) (n : Nat) (L : Lc) (st : List Value) (s : MS) : Prop := ∃ (k : Nat) (sm : Int32), n + k = uNeeds s ∧ rI a b s ∧ st = [] ∧ L = [some (.ref (g 30)), some (.int r), none, some (.int sm), some (.int (nI k))] ∧ ∀ z, upto (uNd r) k n (sm, s) = z → K18 [some (.ref (g 30)), some (.int r), none, some (.int z.1), none] [] (msS 22 z.2 (mS 22 z.2 + 1))
def I_r18 (g : Nat → Nat) (a b : Nat) (r : Int32) (fin : Int32 × MS) (n : Nat) (L : Lc) (st : List Value) (s : MS) : Prop := ∃ (sm : Int32) (y : Nat), n = 10 - y ∧ y < 2000 ∧ mS 22 s = nI y ∧ rI a b s ∧ st = [] ∧ L = [some (.ref (g 30)), some (.int r), none, some (.int sm), none] ∧ iterN (uYr r) n (sm, s) = fin
theorem run30 {X : Cx} (B : Bx) (g : Nat → Nat) (a b : Nat) (hb : b ≤ 60) (r : Int32) {Post : Option Value → MS → Prop} (C : OkX X (gx B) cX4_runOf 5 wsX4_runOf RX4 (rmD 7)) (R : RtX X (gx B) (some .int) (encM B g) Post) {K18 : PT MS} (hK18 : Snd X (gx B) 5 (encM B g) 18 K18) : Snd X (gx B) 5 (encM B g) 30 (fun L st s => ∃ n, I_r30 g a b r K18 n L st s) := by
  refine snd_loop (fun K => bk_X4_runOf_30 g Post K18 K) (I_r30 g a b r K18) (fun K hK => s_X4_runOf_30 B g C R hK18 hK) ?_
  rintro K n L st s ⟨k, sm, hk, hr, rfl, rfl, hz⟩ hK
  have hok := rI_ok hr hb
  obtain ⟨e1, e2⟩ := nnB_c hok.2.2.1
  simp only [wIload, wAload, wLload, wK, wB, wDv, wU, wLB, wLU, wLS, wL2i, wLcmp, wIf1, wIf2, wKeep, wInc, wIst, wAst, wLst, wDup, wPop, wDup2, wGet, wPut, wPutZ, wIald, wLald, wIast, wLast, wLen, wRetI, wRetZ, wRetL, wRetA, wRetV, wM1, wM2, wCpy, wTab, tabW, nth, stL, stL2, dropL, keepL, mkL, padL, restOK, restOKn, tl_some, tl_none, id_eq, eq_self, true_and, and_true, bk_X4_runOf_0, bk_X4_runOf_18, bk_X4_runOf_65, bk_X4_runOf_30, F_X4_passesAll, F_X4_runsNeed, cf_RII_e, mS_S, mA_A, mS_A, mA_S, mS_a, mA_a, Nat.reduceEqDiff, reduceIte]
  rw [e1]
  rcases Nat.lt_or_ge k (uNeeds s) with hlt | hge
  · have h1 : ¬ nI (uNeeds s) ≤ nI k := nI_ge hlt (by omega)
    obtain ⟨n, rfl⟩ : ∃ m, n = m + 1 := ⟨n - 1, by omega⟩
    have ck : (nI k).toNatClampNeg = k := nI_clamp (by omega)
    have w0 : vp_in (nI k) 13 := vp_in_nI (by omega) (by decide)
    have hc : ∀ sm' M', uNd r k (sm, s) = (sm', M') → K [some (.ref (g 30)), some (.int r), none, some (.int sm'), some (.int (nI k + 1))] [] M' := by
      intro sm' M' e
      obtain ⟨o1, o2, o3⟩ := rI_Nd hr hb (show k < 12 by omega) r sm
      rw [e] at o1 o2
      rw [nI_1]
      refine hK n _ _ _ (by omega) ⟨k + 1, sm', ?_, o1, rfl, rfl, fun z h => hz z (by rw [upto_s, e]; exact h)⟩
      unfold uNeeds
      rw [o2 16 (by decide) (by decide) (by decide)]
      unfold uNeeds at hk
      omega
    have pr : ixB 12 (nI k) ∧ mOK 397 s ∧ haB s := ⟨⟨k, by omega, rfl⟩, mOK_le hok (by omega), hr.2.1⟩
    by_cases h2 : mA 8 s k = mS 22 s
    · have := hc _ _ (uNd_1 _ _ _ _ h2)
      simp only [h1, ck, w0, h2, pr, false_implies, true_implies, not_true_eq_false, not_false_eq_true, true_and, and_true, implies_true, eq_self, ne_eq, true_or, or_true, false_or, or_false, and_self]
      exact this
    · have := hc _ _ (uNd_2 _ _ _ _ h2)
      simp only [h1, ck, w0, h2, Int32.add_zero, false_implies, true_implies, not_true_eq_false, not_false_eq_true, true_and, and_true, implies_true, eq_self, ne_eq, true_or, or_true, false_or, or_false, and_self]
      exact this
  · have h1 : nI (uNeeds s) ≤ nI k := nI_le hge (by omega)
    have h0 : n = 0 := by omega
    subst h0
    simp only [h1, false_implies, true_implies, not_true_eq_false, not_false_eq_true, true_and, and_true, implies_true, eq_self, ne_eq, true_or, or_true, false_or, or_false, and_self]
    exact hz (sm, s) rfl
theorem rI_yr {a b : Nat} {M : MS} (h : rI a b M) (v : Int32) : rI a b (msS 22 M v) := h
theorem k_X4_runOf (B : Bx) (g : Nat → Nat) : MtF (gx B) yX4_runOf wsX4_runOf (rmD 7) (encM B g) (F_X4_runOf g) := by
  refine cf_RII_i (fun l M r f h => ?_)
  obtain ⟨hok, hha, y0, hy0, ey0⟩ := h
  have hru : uRun M r f = ((uRz M r f).1, uPA (uRz M r f).2 1 0) := rfl
  rw [hru]
  obtain ⟨p1, p2, -, -⟩ := uPA_keep (show 1 ≤ 1 by omega) M
  rw [show (nI 1 : Int32) = 1 from rfl] at p1 p2
  have hr0 : rI (cntH M) (uHelps M) (uR0 M f) := by
    have q1 : ∀ i, ¬ i = 32 → ¬ i = 33 → ¬ i = 36 → ¬ i = 37 → mS i (uR0 M f) = mS i M := fun i h1 h2 h3 h4 => by unfold uR0; rw [mS_ne h4, mS_ne h3, p1 i h1 h2]
    have q2 : ∀ i, ¬ i = 30 → mA i (uR0 M f) = mA i M := fun i h1 => by unfold uR0; rw [mA_S, mA_S]; exact p2 i h1
    refine ⟨⟨nwB_of hok.2.1 (q2 4 (by decide)) (q2 5 (by decide)), nnB_of hok.2.2.1 (q1 16 (by decide) (by decide) (by decide) (by decide)), ppB_of hok.2.2.2.1 (q1 15 (by decide) (by decide) (by decide) (by decide)), rwB_of hok.2.2.2.2 (q1 35 (by decide) (by decide) (by decide) (by decide))⟩, ?_, uHelps M, ?_, ?_⟩
    · intro n hn
      rw [q2 7 (by decide), q2 9 (by decide)]
      exact hha n hn
    · rw [q1 17 (by decide) (by decide) (by decide) (by decide)]
      exact (hpB_c hok.1 (by decide)).1
    · unfold cntH
      rw [q2 9 (by decide), Nat.add_comm]
  have hb : uHelps M ≤ 60 := (hpB_c hok.1 (by decide)).2
  generalize hfin : uRz M r f = fin
  unfold uRz at hfin
  rw [ey0, nI_clamp (by omega)] at hfin
  have hy1 : mS 22 (uR0 M f) = nI y0 := by rw [← ey0, ← p1 22 (by decide) (by decide)]; unfold uR0; rw [mS_ne (by decide), mS_ne (by decide)]
  generalize cntH M = a at hr0
  generalize uHelps M = b at hr0 hb
  refine Mt.of (P := bk_X4_runOf_0 g (fun o u => o = some (.int fin.1) ∧ u = uPA fin.2 1 0) (fun L st s => ∃ n, I_r18 g a b r fin n L st s)) (by decide) rfl (Nat.le_of_ble_eq_true rfl) rfl (fun X C R => s_X4_runOf_0 B g C R (snd_loop (fun K => bk_X4_runOf_18 g (fun o u => o = some (.int fin.1) ∧ u = uPA fin.2 1 0) (fun L st s => ∃ n, I_r30 g a b r K n L st s)) (I_r18 g a b r fin) (fun K hK => s_X4_runOf_18 B g C R (run30 B g a b hb r C R hK)) ?_)) ?_
  · rintro K n L st s ⟨sm, y, hn, hy, ey, hr, rfl, rfl, hf⟩ hK
    simp only [wIload, wAload, wLload, wK, wB, wDv, wU, wLB, wLU, wLS, wL2i, wLcmp, wIf1, wIf2, wKeep, wInc, wIst, wAst, wLst, wDup, wPop, wDup2, wGet, wPut, wPutZ, wIald, wLald, wIast, wLast, wLen, wRetI, wRetZ, wRetL, wRetA, wRetV, wM1, wM2, wCpy, wTab, tabW, nth, stL, stL2, dropL, keepL, mkL, padL, restOK, restOKn, tl_some, tl_none, id_eq, eq_self, true_and, and_true, bk_X4_runOf_0, bk_X4_runOf_18, bk_X4_runOf_65, bk_X4_runOf_30, F_X4_passesAll, F_X4_runsNeed, cf_RII_e, mS_S, mA_A, mS_A, mA_S, mS_a, mA_a, Nat.reduceEqDiff, reduceIte]
    rw [ey]
    have hok := rI_ok hr hb
    obtain ⟨e1, e2⟩ := nnB_c hok.2.2.1
    rcases Nat.lt_or_ge y 10 with hlt | hge
    · have h1 : ¬ (9 : Int32) < nI y := Int32.not_lt.mpr (nI_le (b := 9) (a := y) (by omega) (by decide))
      obtain ⟨n, rfl⟩ : ∃ m, n = m + 1 := ⟨n - 1, by omega⟩
      rw [iterN_s] at hf
      simp only [h1, false_implies, true_implies, not_true_eq_false, not_false_eq_true, true_and, and_true, implies_true, eq_self, ne_eq, true_or, or_true, false_or, or_false, and_self]
      refine ⟨uNeeds s, 0, sm, Nat.add_zero _, hr, rfl, rfl, fun z hz => ?_⟩
      rw [uYr_e r sm s hz] at hf
      obtain ⟨o1, o2, o3⟩ := rI_upto hb r (uNeeds s) 0 sm s hr (by omega)
      rw [hz] at o1 o2
      have ey2 : mS 22 z.2 = nI y := by rw [o2 22 (by decide) (by decide) (by decide)]; exact ey
      refine hK n _ _ _ (by omega) ⟨z.1, y + 1, by omega, by omega, ?_, rI_yr o1 _, rfl, rfl, hf⟩
      rw [mS_S, if_pos rfl, ey2, nI_1]
    · have h1 : (9 : Int32) < nI y := Int32.not_le.mp (nI_ge (a := 9) (b := y) (by omega) (by omega))
      have h0 : n = 0 := by omega
      subst h0
      have hf : (sm, s) = fin := hf
      subst hf
      simp only [h1, false_implies, true_implies, not_true_eq_false, not_false_eq_true, true_and, and_true, implies_true, eq_self, ne_eq, true_or, or_true, false_or, or_false, and_self]
      all_goals first | done | exact ⟨Or.inr rfl, Or.inl rfl⟩ | trivial
  · simp only [wIload, wAload, wLload, wK, wB, wDv, wU, wLB, wLU, wLS, wL2i, wLcmp, wIf1, wIf2, wKeep, wInc, wIst, wAst, wLst, wDup, wPop, wDup2, wGet, wPut, wPutZ, wIald, wLald, wIast, wLast, wLen, wRetI, wRetZ, wRetL, wRetA, wRetV, wM1, wM2, wCpy, wTab, tabW, nth, stL, stL2, dropL, keepL, mkL, padL, restOK, restOKn, tl_some, tl_none, id_eq, eq_self, true_and, and_true, bk_X4_runOf_0, bk_X4_runOf_18, bk_X4_runOf_65, bk_X4_runOf_30, F_X4_passesAll, F_X4_runsNeed, cf_RII_e]
    refine ⟨by simp, 10 - y0, 0, y0, rfl, by omega, hy1, hr0, rfl, rfl, hfin⟩
end
