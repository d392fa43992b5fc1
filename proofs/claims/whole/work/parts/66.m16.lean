noncomputable section
theorem uAns_okA {b : Nat} {M : MS} (h : mOK b M) {p q gr : Int32} (hp : ixB 7 p) (hq : ixB 4 q) (r : Int32) : mOK (b + 1) (uAns (uAsk M p q gr) r).2 := uAns_ok (mOK_ask h hp hq) r
theorem uLY_ok {r h : Int32} (hh : ixB 4 h) : ∀ (n k b : Nat) {M : MS}, k + n ≤ 7 → mOK b M → mOK (b + n) (uLY r h k n M).2 ∧ ∀ i, ¬ i = 17 → ¬ i = 22 → mS i (uLY r h k n M).2 = mS i M := by
  intro n
  induction n with
  | zero => exact fun k b M _ hm => ⟨hm, fun i _ h2 => by show (if i = 22 then _ else mS i M) = _; rw [if_neg h2]⟩
  | succ n ih =>
    intro k b M hk hm
    rw [uLY_s]
    have h1 := uAns_okA hm (p := nI k) (gr := 5) ⟨k, by omega, rfl⟩ hh r
    have h2 : ∀ i, ¬ i = 17 → mS i (uAns (uAsk M (nI k) h 5) r).2 = mS i M := fun i hi => uAns_S i hi _ r
    generalize uAns (uAsk M (nI k) h 5) r = y at h1 h2 ⊢
    split
    · exact ⟨mOK_le h1 (by omega), fun i hi _ => h2 i hi⟩
    · obtain ⟨i1, i2⟩ := ih (k + 1) (b + 1) (by omega) h1
      exact ⟨mOK_le i1 (by omega), fun i hi hj => (i2 i hi hj).trans (h2 i hi)⟩
def mlF (r h : Int32) : Nat → Nat → MS → Int32 × MS
  | 0, y, M => (nI y, M)
  | n + 1, y, M => if (uLY r h 0 (uPeople M) M).1 = true then mlF r h n (y + 1) (uLY r h 0 (uPeople M) M).2 else (nI y, (uLY r h 0 (uPeople M) M).2)
theorem mlF_s (r h : Int32) (n y : Nat) (M : MS) : mlF r h (n + 1) y M = if (uLY r h 0 (uPeople M) M).1 = true then mlF r h n (y + 1) (uLY r h 0 (uPeople M) M).2 else (nI y, (uLY r h 0 (uPeople M) M).2) := rfl
def uLa (M : MS) (r h : Int32) : Int32 × MS := mlF r h 30 0 (uPA M 1 1)
def v_lasts (M : MS) (r h : Int32) : Int32 × MS := if 0 ≤ r ∧ r < 6 then (if uIn h 0 3 = true then (if mS 15 M = 0 then (-3, uNo M (-3)) else ((uLa M r h).1, uPA (uLa M r h).2 1 0)) else (-1, uNo M (-1))) else (-2, uNo M (-2))
def F_X4_lasts (g : Nat → Nat) : CF MS := cf_RII (g 30) (fun M _ _ => mPub M) (fun M r h => some (.int (v_lasts M r h).1)) (fun M r h => (v_lasts M r h).2)
theorem inw_X4_lasts_X4 : ∀ w ∈ u_ws RX4 TX4 45, w ∈ wsX4_lasts := by decide +kernel
def bk_X4_lasts_0 (g : Nat → Nat) (Post : Option Value → MS → Prop) (K51 : PT MS) (L : Lc) (st : List Value) (s : MS) : Prop :=
  (wIload 1 <| wCallR 1 (F_X4_isRule) (fun _ => ()) (fun s _ => s) <| wIf1 (fun x => x = 0) (wAload 0 <| wK (.int (-2)) <| wCallR 2 (F_X4_no g) id (fun _ u => u) <| wRetI Post) (wIload 2 <| wK (.int 0) <| wK (.int 3) <| wCallR 3 (F_X4_isIn) (fun _ => ()) (fun s _ => s) <| wIf1 (fun x => x = 0) (wAload 0 <| wK (.int (-1)) <| wCallR 2 (F_X4_no g) id (fun _ u => u) <| wRetI Post) (wAload 0 <| wGet (g 30) (fun s => .int (mS 15 s)) <| wIf1 (fun x => x = 0) (wAload 0 <| wK (.int (-3)) <| wCallR 2 (F_X4_no g) id (fun _ u => u) <| wRetI Post) (wAload 0 <| wK (.int 1) <| wK (.int 1) <| wCallR 3 (F_X4_passesAll g) id (fun _ u => u) <| wK (.int 0) <| wIst 3 <| wKeep [true, true, true, true] K51)))) L st s
set_option maxRecDepth 20000 in
theorem s_X4_lasts_0 {X : Cx} (B : Bx) (g : Nat → Nat) {Post : Option Value → MS → Prop} (C : OkX X (gx B) cX4_lasts 4 wsX4_lasts RX4 (rmD 8)) (R : RtX X (gx B) (some .int) (encM B g) Post) {K51 : PT MS} (hK51 : Snd X (gx B) 4 (encM B g) 51 K51) : Snd X (gx B) 4 (encM B g) 0 (bk_X4_lasts_0 g Post K51) := by
  unfold bk_X4_lasts_0
  refine s_iload_n C rfl dX4_lasts_0 ?_
  refine s_callS C (fr_M_E B g) (k_X4_isRule B) gX4_lasts_X4_isRule rfl (by decide +kernel) ⟨rfl, rfl⟩ (by decide) (cf_I_r _ _ _) dX4_lasts_1 ?_
  refine s_if_ne C (tgt := 14) (by decide) dX4_lasts_4 ?_ ?_
  · refine s_iload_n C rfl dX4_lasts_14 ?_
    refine s_iconst C (by decide) dX4_lasts_15 ?_
    refine s_iconst C (by decide) dX4_lasts_16 ?_
    refine s_callS C (fr_M_E B g) (k_X4_isIn B) gX4_lasts_X4_isIn rfl (by decide +kernel) ⟨rfl, rfl⟩ (by decide) (cf_III_r _ _ _) dX4_lasts_17 ?_
    refine s_if_ne C (tgt := 29) (by decide) dX4_lasts_20 ?_ ?_
    · refine s_aload_n C rfl dX4_lasts_29 ?_
      refine s_get C inw_X4_lasts_X4 rfl (k := 15) (by decide) (by decide +kernel) (heM_0 B g) (fun _ => rfl) dX4_lasts_30 ?_
      refine s_if_ne C (tgt := 43) (by decide) dX4_lasts_33 ?_ ?_
      · refine s_aload_n C rfl dX4_lasts_43 ?_
        refine s_iconst C (by decide) dX4_lasts_44 ?_
        refine s_iconst C (by decide) dX4_lasts_45 ?_
        refine s_callV C (fr_M_M B g) (k_X4_passesAll B g) gX4_lasts_X4_passesAll rfl (by decide +kernel) ⟨rfl, rfl⟩ (by decide) rfl (fun s => ⟨_, heM_0 B g s⟩) (cf_RII_r _ _ _ _) dX4_lasts_46 ?_
        refine s_iconst C (by decide) dX4_lasts_49 ?_
        refine s_istore_n C rfl (by decide) dX4_lasts_50 ?_
        exact s_keep _ hK51
      · refine s_aload_n C rfl dX4_lasts_36 ?_
        refine s_bipush C (by decide) dX4_lasts_37 ?_
        refine s_callV C (fr_M_M B g) (k_X4_no B g) gX4_lasts_X4_no rfl (by decide +kernel) ⟨rfl, rfl⟩ (by decide) rfl (fun s => ⟨_, heM_0 B g s⟩) (cf_RI_r _ _ _ _) dX4_lasts_39 ?_
        exact s_iret C R dX4_lasts_42
    · refine s_aload_n C rfl dX4_lasts_23 ?_
      refine s_iconst C (by decide) dX4_lasts_24 ?_
      refine s_callV C (fr_M_M B g) (k_X4_no B g) gX4_lasts_X4_no rfl (by decide +kernel) ⟨rfl, rfl⟩ (by decide) rfl (fun s => ⟨_, heM_0 B g s⟩) (cf_RI_r _ _ _ _) dX4_lasts_25 ?_
      exact s_iret C R dX4_lasts_28
  · refine s_aload_n C rfl dX4_lasts_7 ?_
    refine s_bipush C (by decide) dX4_lasts_8 ?_
    refine s_callV C (fr_M_M B g) (k_X4_no B g) gX4_lasts_X4_no rfl (by decide +kernel) ⟨rfl, rfl⟩ (by decide) rfl (fun s => ⟨_, heM_0 B g s⟩) (cf_RI_r _ _ _ _) dX4_lasts_10 ?_
    exact s_iret C R dX4_lasts_13
def bk_X4_lasts_72 (g : Nat → Nat) (Post : Option Value → MS → Prop)  (L : Lc) (st : List Value) (s : MS) : Prop :=
  (wAload 0 <| wK (.int 1) <| wK (.int 0) <| wCallR 3 (F_X4_passesAll g) id (fun _ u => u) <| wIload 3 <| wRetI Post) L st s
set_option maxRecDepth 20000 in
theorem s_X4_lasts_72 {X : Cx} (B : Bx) (g : Nat → Nat) {Post : Option Value → MS → Prop} (C : OkX X (gx B) cX4_lasts 4 wsX4_lasts RX4 (rmD 8)) (R : RtX X (gx B) (some .int) (encM B g) Post)  : Snd X (gx B) 4 (encM B g) 72 (bk_X4_lasts_72 g Post ) := by
  unfold bk_X4_lasts_72
  refine s_aload_n C rfl dX4_lasts_72 ?_
  refine s_iconst C (by decide) dX4_lasts_73 ?_
  refine s_iconst C (by decide) dX4_lasts_74 ?_
  refine s_callV C (fr_M_M B g) (k_X4_passesAll B g) gX4_lasts_X4_passesAll rfl (by decide +kernel) ⟨rfl, rfl⟩ (by decide) rfl (fun s => ⟨_, heM_0 B g s⟩) (cf_RII_r _ _ _ _) dX4_lasts_75 ?_
  refine s_iload_n C rfl dX4_lasts_78 ?_
  exact s_iret C R dX4_lasts_79
def bk_X4_lasts_51 (g : Nat → Nat) (Post : Option Value → MS → Prop) (K51 : PT MS) (L : Lc) (st : List Value) (s : MS) : Prop :=
  (wIload 3 <| wK (.int 30) <| wIf2 (fun x y => y ≤ x) (bk_X4_lasts_72 g Post ) (wAload 0 <| wIload 1 <| wIload 2 <| wCallR 3 (F_X4_lastsYear g) id (fun _ u => u) <| wIf1 (fun x => x = 0) (bk_X4_lasts_72 g Post ) (wInc 3 1 <| wKeep [true, true, true, true] K51))) L st s
set_option maxRecDepth 20000 in
theorem s_X4_lasts_51 {X : Cx} (B : Bx) (g : Nat → Nat) {Post : Option Value → MS → Prop} (C : OkX X (gx B) cX4_lasts 4 wsX4_lasts RX4 (rmD 8)) (R : RtX X (gx B) (some .int) (encM B g) Post) {K51 : PT MS} (hK51 : Snd X (gx B) 4 (encM B g) 51 K51) : Snd X (gx B) 4 (encM B g) 51 (bk_X4_lasts_51 g Post K51) := by
  unfold bk_X4_lasts_51
  refine s_iload_n C rfl dX4_lasts_51 ?_
  refine s_bipush C (by decide) dX4_lasts_52 ?_
  refine s_icmp_ge C (tgt := 72) (by decide) dX4_lasts_54 ?_ ?_
  · exact s_X4_lasts_72 B g C R 
  · refine s_aload_n C rfl dX4_lasts_57 ?_
    refine s_iload_n C rfl dX4_lasts_58 ?_
    refine s_iload_n C rfl dX4_lasts_59 ?_
    refine s_callV C (fr_M_M B g) (k_X4_lastsYear B g) gX4_lasts_X4_lastsYear rfl (by decide +kernel) ⟨rfl, rfl⟩ (by decide) rfl (fun s => ⟨_, heM_0 B g s⟩) (cf_RII_r _ _ _ _) dX4_lasts_60 ?_
    refine s_if_eq C (tgt := 72) (by decide) dX4_lasts_63 ?_ ?_
    · exact s_X4_lasts_72 B g C R 
    · refine s_iinc C (by decide) (by decide) dX4_lasts_66 ?_
      refine s_goto C (tgt := 51) (by decide) dX4_lasts_69 ?_
      exact s_keep _ hK51
theorem mOK_keep {b : Nat} {M : MS} (h : mOK b M) : mOK b (uPA M 1 1) ∧ uPeople (uPA M 1 1) = uPeople M ∧ uNeeds (uPA M 1 1) = uNeeds M ∧ uRow (uPA M 1 1) = uRow M := by
  obtain ⟨p1, p2, -, -⟩ := uPA_keep (show 1 ≤ 1 by omega) M
  rw [show (nI 1 : Int32) = 1 from rfl] at p1 p2
  refine ⟨⟨hpB_of h.1 (p1 17 (by decide) (by decide)), nwB_of h.2.1 (p2 4 (by decide)) (p2 5 (by decide)), nnB_of h.2.2.1 (p1 16 (by decide) (by decide)), ppB_of h.2.2.2.1 (p1 15 (by decide) (by decide)), rwB_of h.2.2.2.2 (p1 35 (by decide) (by decide))⟩, ?_, ?_, ?_⟩
  · unfold uPeople; rw [p1 15 (by decide) (by decide)]
  · unfold uNeeds; rw [p1 16 (by decide) (by decide)]
  · unfold uRow; rw [p1 35 (by decide) (by decide)]
theorem ixB4_in {h : Int32} (hh : uIn h 0 3 = true) : ixB 4 h := by
  unfold uIn at hh
  have := of_decide_eq_true hh
  obtain ⟨j, hj, rfl⟩ := nI_of (Int32.not_lt.mpr this.1)
  have h3 := (le_nI (k := 3) (by decide)).mp this.2
  rw [nI_clamp hj] at h3
  exact ⟨j, by omega, rfl⟩
def I_la (g : Nat → Nat) (r h : Int32) (fin : Int32 × MS) (n : Nat) (L : Lc) (st : List Value) (s : MS) : Prop := ∃ (y : Nat), n + y = 30 ∧ mOK (60 + 7 * y) s ∧ st = [] ∧ L = [some (.ref (g 30)), some (.int r), some (.int h), some (.int (nI y))] ∧ mlF r h n y s = fin
theorem k_X4_lasts (B : Bx) (g : Nat → Nat) : MtF (gx B) yX4_lasts wsX4_lasts (rmD 8) (encM B g) (F_X4_lasts g) := by
  refine cf_RII_i (fun l M r h hp => ?_)
  generalize hv : v_lasts M r h = v
  unfold v_lasts at hv
  generalize hfin : uLa M r h = fin at hv
  unfold uLa at hfin
  refine Mt.of (P := bk_X4_lasts_0 g (fun o u => o = some (.int v.1) ∧ u = v.2) (fun L st s => (v = (fin.1, uPA fin.2 1 0) ∧ ixB 4 h) ∧ ∃ n, I_la g r h fin n L st s)) (by decide) rfl (Nat.le_of_ble_eq_true rfl) rfl (fun X C R => s_X4_lasts_0 B g C R (Snd.imp (fun hc => snd_loop _ (I_la g r h fin) (fun K hK => s_X4_lasts_51 B g C R hK) ?_))) ?_
  · rintro K n L st s ⟨y, hn, hm, rfl, rfl, hf⟩ hK
    obtain ⟨ev, hh⟩ := hc
    subst ev
    have z1 : ((1 : Int32) = 0 ∨ (1 : Int32) = 1) ∧ ((0 : Int32) = 0 ∨ (0 : Int32) = 1) := ⟨Or.inr rfl, Or.inl rfl⟩
    simp only [wIload, wAload, wLload, wK, wB, wDv, wU, wLB, wLU, wLS, wL2i, wLcmp, wIf1, wIf2, wKeep, wInc, wIst, wAst, wLst, wDup, wPop, wDup2, wGet, wPut, wPutZ, wIald, wLald, wIast, wLast, wLen, wRetI, wRetZ, wRetL, wRetA, wRetV, wM1, wM2, wCpy, wTab, tabW, nth, stL, stL2, dropL, keepL, mkL, padL, restOK, restOKn, tl_some, tl_none, id_eq, eq_self, true_and, and_true, bk_X4_lasts_0, bk_X4_lasts_72, bk_X4_lasts_51, F_X4_isIn, F_X4_isRule, F_X4_lastsYear, F_X4_no, F_X4_passesAll, cf_III_e, cf_I_e, cf_RII_e, cf_RI_e, b2i_eq0, z1]
    rcases Nat.lt_or_ge y 30 with hlt | hge
    · have h2 : ¬ (30 : Int32) ≤ nI y := nI_ge (a := y) (b := 30) hlt (by omega)
      obtain ⟨n, rfl⟩ : ∃ m, n = m + 1 := ⟨n - 1, by omega⟩
      rw [mlF_s] at hf
      have hm3 : mOK 393 s := mOK_le hm (by omega)
      have hp7 := (ppB_c hm.2.2.2.1).2
      have hm2 := (uLY_ok hh (uPeople s) 0 (60 + 7 * y) (r := r) (by omega) hm).1
      simp only [h2, hm3, hh, false_implies, true_implies, not_true_eq_false, not_false_eq_true, true_and, and_true, implies_true, eq_self, ne_eq, true_or, or_true, false_or, or_false, and_self]
      generalize uLY r h 0 (uPeople s) s = x at hf hm2 ⊢
      obtain ⟨xb, x⟩ := x
      cases xb
      · simp only [Bool.false_eq_true, reduceIte] at hf
        subst hf
        simp only [false_implies, true_implies, not_true_eq_false, not_false_eq_true, true_and, and_true, implies_true, eq_self, ne_eq, true_or, or_true, false_or, or_false, and_self]
        all_goals first | done | exact ⟨rfl, rfl⟩ | exact rfl | exact b2i_01 _ | exact ⟨b2i_01 _, rfl, rfl⟩ | exact ⟨b2i_01 _, rfl⟩ | exact ⟨rfl, rfl, rfl⟩ | exact trivial | exact Or.inl trivial
      · rw [if_pos rfl] at hf
        simp only [Bool.true_eq_false, false_implies, true_implies, not_true_eq_false, not_false_eq_true, true_and, and_true, implies_true, eq_self, ne_eq, true_or, or_true, false_or, or_false, and_self]
        rw [nI_1]
        exact hK n _ _ _ (by omega) ⟨y + 1, by omega, mOK_le hm2 (by omega), rfl, rfl, hf⟩
    · have h2 : (30 : Int32) ≤ nI y := nI_le (a := 30) hge (by omega)
      have h0 : n = 0 := by omega
      subst h0
      have hf : (nI y, s) = fin := hf
      subst hf
      simp only [h2, false_implies, true_implies, not_true_eq_false, not_false_eq_true, true_and, and_true, implies_true, eq_self, ne_eq, true_or, or_true, false_or, or_false, and_self]
      all_goals first | done | exact ⟨rfl, rfl⟩ | exact rfl | exact b2i_01 _ | exact ⟨b2i_01 _, rfl, rfl⟩ | exact ⟨b2i_01 _, rfl⟩ | exact ⟨rfl, rfl, rfl⟩ | exact trivial | exact Or.inl trivial
  · have z1 : ((1 : Int32) = 0 ∨ (1 : Int32) = 1) := Or.inr rfl
    simp only [wIload, wAload, wLload, wK, wB, wDv, wU, wLB, wLU, wLS, wL2i, wLcmp, wIf1, wIf2, wKeep, wInc, wIst, wAst, wLst, wDup, wPop, wDup2, wGet, wPut, wPutZ, wIald, wLald, wIast, wLast, wLen, wRetI, wRetZ, wRetL, wRetA, wRetV, wM1, wM2, wCpy, wTab, tabW, nth, stL, stL2, dropL, keepL, mkL, padL, restOK, restOKn, tl_some, tl_none, id_eq, eq_self, true_and, and_true, bk_X4_lasts_0, bk_X4_lasts_72, bk_X4_lasts_51, F_X4_isIn, F_X4_isRule, F_X4_lastsYear, F_X4_no, F_X4_passesAll, cf_III_e, cf_I_e, cf_RII_e, cf_RI_e, b2i_eq0, refI1, refI2, refI3, z1, decide_eq_false_iff_not]
    by_cases hr : 0 ≤ r ∧ r < 6
    · rw [if_pos hr] at hv
      cases hi : uIn h 0 3
      · rw [if_neg (by rw [hi]; decide)] at hv
        subst hv
        simp only [hr, hi, false_implies, true_implies, not_true_eq_false, not_false_eq_true, true_and, and_true, implies_true, eq_self, ne_eq, true_or, or_true, false_or, or_false, and_self]
        all_goals first | done | exact ⟨rfl, rfl⟩ | exact rfl | exact b2i_01 _ | exact ⟨b2i_01 _, rfl, rfl⟩ | exact ⟨b2i_01 _, rfl⟩ | exact ⟨rfl, rfl, rfl⟩ | exact trivial | exact Or.inl trivial
      · rw [if_pos hi] at hv
        by_cases hp0 : mS 15 M = 0
        · rw [if_pos hp0] at hv
          subst hv
          simp only [hr, hi, hp0, Bool.true_eq_false, false_implies, true_implies, not_true_eq_false, not_false_eq_true, true_and, and_true, implies_true, eq_self, ne_eq, true_or, or_true, false_or, or_false, and_self]
          all_goals first | done | exact ⟨rfl, rfl⟩ | exact rfl | exact b2i_01 _ | exact ⟨b2i_01 _, rfl, rfl⟩ | exact ⟨b2i_01 _, rfl⟩ | exact ⟨rfl, rfl, rfl⟩ | exact trivial | exact Or.inl trivial
        · rw [if_neg hp0] at hv
          simp only [hr, hi, hp0, Bool.true_eq_false, false_implies, true_implies, not_true_eq_false, not_false_eq_true, true_and, and_true, implies_true, eq_self, ne_eq, true_or, or_true, false_or, or_false, and_self]
          exact ⟨⟨hv.symm, ixB4_in hi⟩, 30, 0, rfl, (mOK_keep hp.1).1, rfl, rfl, hfin⟩
    · rw [if_neg hr] at hv
      subst hv
      simp only [hr, false_implies, true_implies, not_true_eq_false, not_false_eq_true, true_and, and_true, implies_true, eq_self, ne_eq, true_or, or_true, false_or, or_false, and_self]
      all_goals first | done | exact ⟨rfl, rfl⟩ | exact rfl | exact b2i_01 _ | exact ⟨b2i_01 _, rfl, rfl⟩ | exact ⟨b2i_01 _, rfl⟩ | exact ⟨rfl, rfl, rfl⟩ | exact trivial | exact Or.inl trivial
end
