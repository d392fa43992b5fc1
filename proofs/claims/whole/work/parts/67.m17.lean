noncomputable section
theorem drawF_ix (z : Int32) {k : Nat} (h0 : 0 < k) (hk : k < 2 ^ 31) : ixB k (drawF z (nI k)) := by
  rw [drawF_eq]
  have hz : ¬ (z &&& 2147483647) < 0 := by
    rw [Int32.lt_iff_toInt_lt]
    have h1 : (z &&& 2147483647).toBitVec.msb = false := by
      show (z.toBitVec &&& (2147483647 : Int32).toBitVec).msb = false
      rw [BitVec.msb_and]
      have : (2147483647 : Int32).toBitVec.msb = false := by decide
      rw [this, Bool.and_false]
    have h2 : 0 ≤ (z &&& 2147483647).toBitVec.toInt := by
      rw [BitVec.toInt_eq_msb_cond, h1]
      exact Int.natCast_nonneg _
    show ¬ (z &&& 2147483647).toBitVec.toInt < 0
    omega
  obtain ⟨a, ha, e⟩ := nI_of hz
  rw [e]
  have e1 : nI a / 65536 = nI (a / 65536) := pk_div ha (by decide) (by decide)
  rw [e1]
  have hb : a / 65536 < 2 ^ 31 := Nat.lt_of_le_of_lt (Nat.div_le_self _ _) ha
  generalize a / 65536 = b at hb
  rw [pk_div hb h0 hk, pk_mul]
  have hm := Nat.div_add_mod b k
  refine ⟨b % k, Nat.mod_lt _ h0, ?_⟩
  have hs : b = b % k + b / k * k := by rw [Nat.mul_comm (b / k) k]; omega
  have : nI b = nI (b % k) + nI (b / k * k) := by rw [nI_add, ← hs]
  rw [this]
  exact Int32.add_sub_cancel _ _
def sdA (M : MS) : MS := msS 44 M (nxSeed (mS 44 M))
def sdQ (M : MS) : MS := uAsk (sdA (sdA (sdA M))) (drawF (nxSeed (mS 44 M)) (mS 15 M)) (drawF (nxSeed (mS 44 (sdA M))) 4) (1 + drawF (nxSeed (mS 44 (sdA (sdA M)))) 9)
def sdZ (k : Nat) (M : MS) : MS := if nI k - nI k / 3 * 3 = 2 then msS 22 M (mS 22 M + 1) else M
def usF (r : Int32) : Nat → Nat → Int32 → MS → Int32 × MS
  | _, 0, sm, M => (sm, M)
  | k, n + 1, sm, M => usF r (k + 1) n (sm + (if (uAns (sdQ M) r).1 < 0 then 0 else (uAns (sdQ M) r).1)) (sdZ k (uAns (sdQ M) r).2)
theorem usF_s (r : Int32) (k n : Nat) (sm : Int32) (M : MS) : usF r k (n + 1) sm M = usF r (k + 1) n (sm + (if (uAns (sdQ M) r).1 < 0 then 0 else (uAns (sdQ M) r).1)) (sdZ k (uAns (sdQ M) r).2) := rfl
def uSd (M : MS) (r n z : Int32) : Int32 × MS := usF r 0 (3 * n).toNatClampNeg 0 (msS 44 (uPA M 1 1) z)
def v_seeds (M : MS) (r n z : Int32) : Int32 × MS := if 0 ≤ r ∧ r < 6 then (if n < 1 then (-4, uNo M (-4)) else if 10 < n then (-6, uNo M (-6)) else if mS 15 M = 0 then (-3, uNo M (-3)) else ((uSd M r n z).1, uPA (uSd M r n z).2 1 0)) else (-2, uNo M (-2))
def F_X4_seeds (g : Nat → Nat) : CF MS := cf_RIII (g 30) (fun M _ _ _ => mPub M) (fun M r n z => some (.int (v_seeds M r n z).1)) (fun M r n z => (v_seeds M r n z).2)
theorem inw_X4_seeds_X4 : ∀ w ∈ u_ws RX4 TX4 45, w ∈ wsX4_seeds := by decide +kernel
def bk_X4_seeds_0 (g : Nat → Nat) (Post : Option Value → MS → Prop) (K66 : PT MS) (L : Lc) (st : List Value) (s : MS) : Prop :=
  (wIload 1 <| wCallR 1 (F_X4_isRule) (fun _ => ()) (fun s _ => s) <| wIf1 (fun x => x = 0) (wAload 0 <| wK (.int (-2)) <| wCallR 2 (F_X4_no g) id (fun _ u => u) <| wRetI Post) (wIload 2 <| wK (.int 1) <| wK (.int 10) <| wCallR 3 (F_X4_bound) (fun _ => ()) (fun s _ => s) <| wIst 4 <| wIload 4 <| wIf1 (fun x => x = 0) (wAload 0 <| wGet (g 30) (fun s => .int (mS 15 s)) <| wIf1 (fun x => x = 0) (wAload 0 <| wK (.int (-3)) <| wCallR 2 (F_X4_no g) id (fun _ u => u) <| wRetI Post) (wAload 0 <| wK (.int 1) <| wK (.int 1) <| wCallR 3 (F_X4_passesAll g) id (fun _ u => u) <| wAload 0 <| wIload 3 <| wPut (g 30) (msS 44) <| wK (.int 0) <| wIst 5 <| wK (.int 0) <| wIst 6 <| wKeep [true, true, true, false, false, true, true, false, false] K66)) (wAload 0 <| wIload 4 <| wCallR 2 (F_X4_no g) id (fun _ u => u) <| wRetI Post))) L st s
set_option maxRecDepth 20000 in
theorem s_X4_seeds_0 {X : Cx} (B : Bx) (g : Nat → Nat) {Post : Option Value → MS → Prop} (C : OkX X (gx B) cX4_seeds 9 wsX4_seeds RX4 (rmD 7)) (R : RtX X (gx B) (some .int) (encM B g) Post) {K66 : PT MS} (hK66 : Snd X (gx B) 9 (encM B g) 66 K66) : Snd X (gx B) 9 (encM B g) 0 (bk_X4_seeds_0 g Post K66) := by
  unfold bk_X4_seeds_0
  refine s_iload_n C rfl dX4_seeds_0 ?_
  refine s_callS C (fr_M_E B g) (k_X4_isRule B) gX4_seeds_X4_isRule rfl (by decide +kernel) ⟨rfl, rfl⟩ (by decide) (cf_I_r _ _ _) dX4_seeds_1 ?_
  refine s_if_ne C (tgt := 14) (by decide) dX4_seeds_4 ?_ ?_
  · refine s_iload_n C rfl dX4_seeds_14 ?_
    refine s_iconst C (by decide) dX4_seeds_15 ?_
    refine s_bipush C (by decide) dX4_seeds_16 ?_
    refine s_callS C (fr_M_E B g) (k_X4_bound B) gX4_seeds_X4_bound rfl (by decide +kernel) ⟨rfl, rfl⟩ (by decide) (cf_III_r _ _ _) dX4_seeds_18 ?_
    refine s_istore C (by decide) dX4_seeds_21 ?_
    refine s_iload C dX4_seeds_23 ?_
    refine s_if_eq C (tgt := 35) (by decide) dX4_seeds_25 ?_ ?_
    · refine s_aload_n C rfl dX4_seeds_35 ?_
      refine s_get C inw_X4_seeds_X4 rfl (k := 15) (by decide) (by decide +kernel) (heM_0 B g) (fun _ => rfl) dX4_seeds_36 ?_
      refine s_if_ne C (tgt := 49) (by decide) dX4_seeds_39 ?_ ?_
      · refine s_aload_n C rfl dX4_seeds_49 ?_
        refine s_iconst C (by decide) dX4_seeds_50 ?_
        refine s_iconst C (by decide) dX4_seeds_51 ?_
        refine s_callV C (fr_M_M B g) (k_X4_passesAll B g) gX4_seeds_X4_passesAll rfl (by decide +kernel) ⟨rfl, rfl⟩ (by decide) rfl (fun s => ⟨_, heM_0 B g s⟩) (cf_RII_r _ _ _ _) dX4_seeds_52 ?_
        refine s_aload_n C rfl dX4_seeds_55 ?_
        refine s_iload_n C rfl dX4_seeds_56 ?_
        refine s_put C inw_X4_seeds_X4 rfl (k := 44) (by decide) (by decide +kernel) tyX4_ok nmX4 (by decide +kernel) (by decide +kernel) (heM_0 B g) (fun _ => Nat.le_of_ble_eq_true rfl) (fun _ _ => rfl) dX4_seeds_57 ?_
        refine s_iconst C (by decide) dX4_seeds_60 ?_
        refine s_istore C (by decide) dX4_seeds_61 ?_
        refine s_iconst C (by decide) dX4_seeds_63 ?_
        refine s_istore C (by decide) dX4_seeds_64 ?_
        exact s_keep _ hK66
      · refine s_aload_n C rfl dX4_seeds_42 ?_
        refine s_bipush C (by decide) dX4_seeds_43 ?_
        refine s_callV C (fr_M_M B g) (k_X4_no B g) gX4_seeds_X4_no rfl (by decide +kernel) ⟨rfl, rfl⟩ (by decide) rfl (fun s => ⟨_, heM_0 B g s⟩) (cf_RI_r _ _ _ _) dX4_seeds_45 ?_
        exact s_iret C R dX4_seeds_48
    · refine s_aload_n C rfl dX4_seeds_28 ?_
      refine s_iload C dX4_seeds_29 ?_
      refine s_callV C (fr_M_M B g) (k_X4_no B g) gX4_seeds_X4_no rfl (by decide +kernel) ⟨rfl, rfl⟩ (by decide) rfl (fun s => ⟨_, heM_0 B g s⟩) (cf_RI_r _ _ _ _) dX4_seeds_31 ?_
      exact s_iret C R dX4_seeds_34
  · refine s_aload_n C rfl dX4_seeds_7 ?_
    refine s_bipush C (by decide) dX4_seeds_8 ?_
    refine s_callV C (fr_M_M B g) (k_X4_no B g) gX4_seeds_X4_no rfl (by decide +kernel) ⟨rfl, rfl⟩ (by decide) rfl (fun s => ⟨_, heM_0 B g s⟩) (cf_RI_r _ _ _ _) dX4_seeds_10 ?_
    exact s_iret C R dX4_seeds_13
def bk_X4_seeds_138 (g : Nat → Nat) (Post : Option Value → MS → Prop) (K66 : PT MS) (L : Lc) (st : List Value) (s : MS) : Prop :=
  (wInc 6 1 <| wKeep [true, true, true, false, false, true, true, false, false] K66) L st s
set_option maxRecDepth 20000 in
theorem s_X4_seeds_138 {X : Cx} (B : Bx) (g : Nat → Nat) {Post : Option Value → MS → Prop} (C : OkX X (gx B) cX4_seeds 9 wsX4_seeds RX4 (rmD 7)) (R : RtX X (gx B) (some .int) (encM B g) Post) {K66 : PT MS} (hK66 : Snd X (gx B) 9 (encM B g) 66 K66) : Snd X (gx B) 9 (encM B g) 138 (bk_X4_seeds_138 g Post K66) := by
  unfold bk_X4_seeds_138
  refine s_iinc C (by decide) (by decide) dX4_seeds_138 ?_
  refine s_goto C (tgt := 66) (by decide) dX4_seeds_141 ?_
  exact s_keep _ hK66
def bk_X4_seeds_66 (g : Nat → Nat) (Post : Option Value → MS → Prop) (K66 : PT MS) (L : Lc) (st : List Value) (s : MS) : Prop :=
  (wIload 6 <| wK (.int 3) <| wIload 2 <| wB (fun x y => x * y) <| wIf2 (fun x y => y ≤ x) (wAload 0 <| wK (.int 1) <| wK (.int 0) <| wCallR 3 (F_X4_passesAll g) id (fun _ u => u) <| wIload 5 <| wRetI Post) (wAload 0 <| wAload 0 <| wGet (g 30) (fun s => .int (mS 15 s)) <| wCallR 2 (F_X4_draw g) id (fun _ u => u) <| wIst 7 <| wAload 0 <| wK (.int 4) <| wCallR 2 (F_X4_draw g) id (fun _ u => u) <| wIst 8 <| wAload 0 <| wIload 7 <| wIload 8 <| wK (.int 1) <| wAload 0 <| wK (.int 9) <| wCallR 2 (F_X4_draw g) id (fun _ u => u) <| wB (fun x y => x + y) <| wCallR 4 (F_X4_asks g) id (fun _ u => u) <| wIload 5 <| wAload 0 <| wIload 1 <| wCallR 2 (F_X4_answers g) id (fun _ u => u) <| wCallR 1 (F_X4_above) (fun _ => ()) (fun s _ => s) <| wB (fun x y => x + y) <| wIst 5 <| wIload 6 <| wK (.int 3) <| wDv (fun x y => x - x / y * y) <| wK (.int 2) <| wIf2 (fun x y => x = y) (wAload 0 <| wDup <| wGet (g 30) (fun s => .int (mS 22 s)) <| wK (.int 1) <| wB (fun x y => x + y) <| wPut (g 30) (msS 22) <| bk_X4_seeds_138 g Post K66) (bk_X4_seeds_138 g Post K66))) L st s
set_option maxRecDepth 20000 in
theorem s_X4_seeds_66 {X : Cx} (B : Bx) (g : Nat → Nat) {Post : Option Value → MS → Prop} (C : OkX X (gx B) cX4_seeds 9 wsX4_seeds RX4 (rmD 7)) (R : RtX X (gx B) (some .int) (encM B g) Post) {K66 : PT MS} (hK66 : Snd X (gx B) 9 (encM B g) 66 K66) : Snd X (gx B) 9 (encM B g) 66 (bk_X4_seeds_66 g Post K66) := by
  unfold bk_X4_seeds_66
  refine s_iload C dX4_seeds_66 ?_
  refine s_iconst C (by decide) dX4_seeds_68 ?_
  refine s_iload_n C rfl dX4_seeds_69 ?_
  refine s_imul C dX4_seeds_70 ?_
  refine s_icmp_ge C (tgt := 144) (by decide) dX4_seeds_71 ?_ ?_
  · refine s_aload_n C rfl dX4_seeds_144 ?_
    refine s_iconst C (by decide) dX4_seeds_145 ?_
    refine s_iconst C (by decide) dX4_seeds_146 ?_
    refine s_callV C (fr_M_M B g) (k_X4_passesAll B g) gX4_seeds_X4_passesAll rfl (by decide +kernel) ⟨rfl, rfl⟩ (by decide) rfl (fun s => ⟨_, heM_0 B g s⟩) (cf_RII_r _ _ _ _) dX4_seeds_147 ?_
    refine s_iload C dX4_seeds_150 ?_
    exact s_iret C R dX4_seeds_152
  · refine s_aload_n C rfl dX4_seeds_74 ?_
    refine s_aload_n C rfl dX4_seeds_75 ?_
    refine s_get C inw_X4_seeds_X4 rfl (k := 15) (by decide) (by decide +kernel) (heM_0 B g) (fun _ => rfl) dX4_seeds_76 ?_
    refine s_callV C (fr_M_M B g) (k_X4_draw B g) gX4_seeds_X4_draw rfl (by decide +kernel) ⟨rfl, rfl⟩ (by decide) rfl (fun s => ⟨_, heM_0 B g s⟩) (cf_RI_r _ _ _ _) dX4_seeds_79 ?_
    refine s_istore C (by decide) dX4_seeds_82 ?_
    refine s_aload_n C rfl dX4_seeds_84 ?_
    refine s_iconst C (by decide) dX4_seeds_85 ?_
    refine s_callV C (fr_M_M B g) (k_X4_draw B g) gX4_seeds_X4_draw rfl (by decide +kernel) ⟨rfl, rfl⟩ (by decide) rfl (fun s => ⟨_, heM_0 B g s⟩) (cf_RI_r _ _ _ _) dX4_seeds_86 ?_
    refine s_istore C (by decide) dX4_seeds_89 ?_
    refine s_aload_n C rfl dX4_seeds_91 ?_
    refine s_iload C dX4_seeds_92 ?_
    refine s_iload C dX4_seeds_94 ?_
    refine s_iconst C (by decide) dX4_seeds_96 ?_
    refine s_aload_n C rfl dX4_seeds_97 ?_
    refine s_bipush C (by decide) dX4_seeds_98 ?_
    refine s_callV C (fr_M_M B g) (k_X4_draw B g) gX4_seeds_X4_draw rfl (by decide +kernel) ⟨rfl, rfl⟩ (by decide) rfl (fun s => ⟨_, heM_0 B g s⟩) (cf_RI_r _ _ _ _) dX4_seeds_100 ?_
    refine s_iadd C dX4_seeds_103 ?_
    refine s_callV C (fr_M_M B g) (k_X4_asks B g) gX4_seeds_X4_asks rfl (by decide +kernel) ⟨rfl, rfl⟩ (by decide) rfl (fun s => ⟨_, heM_0 B g s⟩) (cf_RIII_r _ _ _ _) dX4_seeds_104 ?_
    refine s_iload C dX4_seeds_107 ?_
    refine s_aload_n C rfl dX4_seeds_109 ?_
    refine s_iload_n C rfl dX4_seeds_110 ?_
    refine s_callV C (fr_M_M B g) (k_X4_answers B g) gX4_seeds_X4_answers rfl (by decide +kernel) ⟨rfl, rfl⟩ (by decide) rfl (fun s => ⟨_, heM_0 B g s⟩) (cf_RI_r _ _ _ _) dX4_seeds_111 ?_
    refine s_callS C (fr_M_E B g) (k_X4_above B) gX4_seeds_X4_above rfl (by decide +kernel) ⟨rfl, rfl⟩ (by decide) (cf_I_r _ _ _) dX4_seeds_114 ?_
    refine s_iadd C dX4_seeds_117 ?_
    refine s_istore C (by decide) dX4_seeds_118 ?_
    refine s_iload C dX4_seeds_120 ?_
    refine s_iconst C (by decide) dX4_seeds_122 ?_
    refine s_irem C dX4_seeds_123 ?_
    refine s_iconst C (by decide) dX4_seeds_124 ?_
    refine s_icmp_ne C (tgt := 138) (by decide) dX4_seeds_125 ?_ ?_
    · exact s_X4_seeds_138 B g C R hK66
    · refine s_aload_n C rfl dX4_seeds_128 ?_
      refine s_dup C dX4_seeds_129 ?_
      refine s_get C inw_X4_seeds_X4 rfl (k := 22) (by decide) (by decide +kernel) (heM_0 B g) (fun _ => rfl) dX4_seeds_130 ?_
      refine s_iconst C (by decide) dX4_seeds_133 ?_
      refine s_iadd C dX4_seeds_134 ?_
      refine s_put C inw_X4_seeds_X4 rfl (k := 22) (by decide) (by decide +kernel) tyX4_ok nmX4 (by decide +kernel) (by decide +kernel) (heM_0 B g) (fun _ => Nat.le_of_ble_eq_true rfl) (fun _ _ => rfl) dX4_seeds_135 ?_
      exact s_X4_seeds_138 B g C R hK66
theorem sdQ_ok {b : Nat} {M : MS} (h : mOK b M) (h0 : ¬ mS 15 M = 0) : mOK b (sdQ M) ∧ ∀ i, ¬ i = 44 → mS i (sdQ M) = mS i M := by
  obtain ⟨e, h7⟩ := ppB_c h.2.2.2.1
  have hp : 0 < uPeople M := Nat.pos_of_ne_zero (fun z => h0 (by rw [e, z]; rfl))
  have hA : mOK b (sdA (sdA (sdA M))) := h
  have i1 : ixB 7 (drawF (nxSeed (mS 44 M)) (mS 15 M)) := by rw [e]; exact ixB_le (drawF_ix _ hp (by omega)) h7
  have i2 : ixB 4 (drawF (nxSeed (mS 44 (sdA M))) 4) := drawF_ix _ (k := 4) (by decide) (by decide)
  refine ⟨mOK_ask hA i1 i2, fun i hi => ?_⟩
  show mS i (sdA (sdA (sdA M))) = mS i M
  unfold sdA
  rw [mS_S, if_neg hi, mS_S, if_neg hi, mS_S, if_neg hi]
theorem mOK_lots {b : Nat} {M : MS} (h : mOK b M) (z : Int32) : mOK b (msS 44 M z) := h
def I_usd (g : Nat → Nat) (r n : Int32) (m : Nat) (fin : Int32 × MS) (j : Nat) (L : Lc) (st : List Value) (s : MS) : Prop := ∃ (k : Nat) (sm : Int32), j + k = m ∧ mOK (60 + k) s ∧ ¬ mS 15 s = 0 ∧ st = [] ∧ L = [some (.ref (g 30)), some (.int r), some (.int n), none, none, some (.int sm), some (.int (nI k)), none, none] ∧ usF r k j sm s = fin
theorem sdZ_ok {b : Nat} {M : MS} (h : mOK b M) (k : Nat) : mOK b (sdZ k M) ∧ mS 15 (sdZ k M) = mS 15 M := by
  unfold sdZ
  split
  · exact ⟨h, rfl⟩
  · exact ⟨h, rfl⟩
theorem k_X4_seeds (B : Bx) (g : Nat → Nat) : MtF (gx B) yX4_seeds wsX4_seeds (rmD 7) (encM B g) (F_X4_seeds g) := by
  refine cf_RIII_i (fun l M r n z hp => ?_)
  generalize hv : v_seeds M r n z = v
  unfold v_seeds at hv
  generalize hfin : uSd M r n z = fin at hv
  unfold uSd at hfin
  refine Mt.of (P := bk_X4_seeds_0 g (fun o u => o = some (.int v.1) ∧ u = v.2) (fun L st s => (v = (fin.1, uPA fin.2 1 0) ∧ ∃ q, q ≤ 10 ∧ n = nI q) ∧ ∃ j, I_usd g r n (3 * n).toNatClampNeg fin j L st s)) (by decide) rfl (Nat.le_of_ble_eq_true rfl) rfl (fun X C R => s_X4_seeds_0 B g C R (Snd.imp (fun hc => snd_loop _ (I_usd g r n (3 * n).toNatClampNeg fin) (fun K hK => s_X4_seeds_66 B g C R hK) ?_))) ?_
  · rintro K j L st s ⟨k, sm, hn, hm, hs0, rfl, rfl, hf⟩ hK
    obtain ⟨ev, q, hq, rfl⟩ := hc
    have e3 : (3 : Int32) * nI q = nI (3 * q) := pk_mul 3 q
    rw [e3, nI_clamp (show 3 * q < 2 ^ 31 by omega)] at hn hK
    subst ev
    have z1 : ((1 : Int32) = 0 ∨ (1 : Int32) = 1) ∧ ((0 : Int32) = 0 ∨ (0 : Int32) = 1) := ⟨Or.inr rfl, Or.inl rfl⟩
    have n3 : ¬ (3 : Int32) = 0 := by decide
    have n4 : ¬ (4 : Int32) = 0 := by decide
    have n9 : ¬ (9 : Int32) = 0 := by decide
    simp only [wIload, wAload, wLload, wK, wB, wDv, wU, wLB, wLU, wLS, wL2i, wLcmp, wIf1, wIf2, wKeep, wInc, wIst, wAst, wLst, wDup, wPop, wDup2, wGet, wPut, wPutZ, wIald, wLald, wIast, wLast, wLen, wRetI, wRetZ, wRetL, wRetA, wRetV, wM1, wM2, wCpy, wTab, tabW, nth, stL, stL2, dropL, keepL, mkL, padL, restOK, restOKn, tl_some, tl_none, id_eq, eq_self, true_and, and_true, bk_X4_seeds_0, bk_X4_seeds_138, bk_X4_seeds_66, F_X4_above, F_X4_answers, F_X4_asks, F_X4_bound, F_X4_draw, F_X4_isRule, F_X4_no, F_X4_passesAll, cf_III_e, cf_I_e, cf_RIII_e, cf_RII_e, cf_RI_e, mS_S, mA_A, mS_A, mA_S, mS_a, mA_a, Nat.reduceEqDiff, reduceIte, b2i_eq0, z1, e3]
    rcases Nat.lt_or_ge k (3 * q) with hlt | hge
    · have h2 : ¬ nI (3 * q) ≤ nI k := nI_ge hlt (by omega)
      obtain ⟨j, rfl⟩ : ∃ m, j = m + 1 := ⟨j - 1, by omega⟩
      rw [usF_s] at hf
      obtain ⟨q1, q2⟩ := sdQ_ok hm hs0
      have a1 := uAns_ok q1 r
      have a2 : mS 15 (uAns (sdQ s) r).2 = mS 15 s := (uAns_S 15 (by decide) _ r).trans (q2 15 (by decide))
      have q3 : mOK 399 (sdQ s) := mOK_le q1 (by omega)
      have eq : uAsk (msS 44 (msS 44 (msS 44 s (nxSeed (mS 44 s))) (nxSeed (nxSeed (mS 44 s)))) (nxSeed (nxSeed (nxSeed (mS 44 s))))) (drawF (nxSeed (mS 44 s)) (mS 15 s)) (drawF (nxSeed (nxSeed (mS 44 s))) 4) (1 + drawF (nxSeed (nxSeed (nxSeed (mS 44 s)))) 9) = sdQ s := rfl
      simp only [h2, n3, n4, n9, hs0, false_implies, true_implies, not_true_eq_false, not_false_eq_true, true_and, and_true, implies_true, eq_self, ne_eq, true_or, or_true, false_or, or_false, and_self]
      rw [eq]
      simp only [q3, false_implies, true_implies, not_true_eq_false, not_false_eq_true, true_and, and_true, implies_true, eq_self, ne_eq, true_or, or_true, false_or, or_false, and_self]
      generalize uAns (sdQ s) r = y at hf a1 a2 ⊢
      obtain ⟨z2, z3⟩ := sdZ_ok a1 k
      have hgo := hK j [some (.ref (g 30)), some (.int r), some (.int (nI q)), none, none, some (.int (sm + if y.1 < 0 then 0 else y.1)), some (.int (nI (k + 1))), none, none] [] (sdZ k y.2) (by omega) ⟨k + 1, _, by omega, z2, by rw [z3, a2]; exact hs0, rfl, rfl, hf⟩
      rw [nI_1]
      by_cases h4 : nI k - nI k / 3 * 3 = 2
      · have e : sdZ k y.2 = msS 22 y.2 (mS 22 y.2 + 1) := if_pos h4
        rw [e] at hgo
        simp only [h4, false_implies, true_implies, not_true_eq_false, not_false_eq_true, true_and, and_true, implies_true, eq_self, ne_eq, true_or, or_true, false_or, or_false, and_self]
        exact hgo
      · have e : sdZ k y.2 = y.2 := if_neg h4
        rw [e] at hgo
        simp only [h4, false_implies, true_implies, not_true_eq_false, not_false_eq_true, true_and, and_true, implies_true, eq_self, ne_eq, true_or, or_true, false_or, or_false, and_self]
        exact hgo
    · have h2 : nI (3 * q) ≤ nI k := nI_le hge (by omega)
      have h0 : j = 0 := by omega
      subst h0
      have hf : (sm, s) = fin := hf
      subst hf
      simp only [h2, false_implies, true_implies, not_true_eq_false, not_false_eq_true, true_and, and_true, implies_true, eq_self, ne_eq, true_or, or_true, false_or, or_false, and_self]
      all_goals first | done | exact ⟨rfl, rfl⟩ | exact rfl | exact b2i_01 _ | exact ⟨b2i_01 _, rfl, rfl⟩ | exact ⟨b2i_01 _, rfl⟩ | exact ⟨rfl, rfl, rfl⟩ | exact trivial | exact Or.inl trivial
  · have z1 : ((1 : Int32) = 0 ∨ (1 : Int32) = 1) := Or.inr rfl
    have a1 : ¬ (-4 : Int32) = 0 := by decide
    have a2 : ¬ (-6 : Int32) = 0 := by decide
    simp only [wIload, wAload, wLload, wK, wB, wDv, wU, wLB, wLU, wLS, wL2i, wLcmp, wIf1, wIf2, wKeep, wInc, wIst, wAst, wLst, wDup, wPop, wDup2, wGet, wPut, wPutZ, wIald, wLald, wIast, wLast, wLen, wRetI, wRetZ, wRetL, wRetA, wRetV, wM1, wM2, wCpy, wTab, tabW, nth, stL, stL2, dropL, keepL, mkL, padL, restOK, restOKn, tl_some, tl_none, id_eq, eq_self, true_and, and_true, bk_X4_seeds_0, bk_X4_seeds_138, bk_X4_seeds_66, F_X4_above, F_X4_answers, F_X4_asks, F_X4_bound, F_X4_draw, F_X4_isRule, F_X4_no, F_X4_passesAll, cf_III_e, cf_I_e, cf_RIII_e, cf_RII_e, cf_RI_e, mS_S, mA_A, mS_A, mA_S, mS_a, mA_a, Nat.reduceEqDiff, reduceIte, b2i_eq0, refI2, refI3, z1, decide_eq_false_iff_not]
    unfold uBd
    by_cases hr : 0 ≤ r ∧ r < 6
    · rw [if_pos hr] at hv
      by_cases h1 : n < 1
      · rw [if_pos h1] at hv
        subst hv
        simp only [hr, h1, if_true, a1, refI4, false_implies, true_implies, not_true_eq_false, not_false_eq_true, true_and, and_true, implies_true, eq_self, ne_eq, true_or, or_true, false_or, or_false, and_self]
        all_goals first | done | exact ⟨rfl, rfl⟩ | exact rfl | exact b2i_01 _ | exact ⟨b2i_01 _, rfl, rfl⟩ | exact ⟨b2i_01 _, rfl⟩ | exact ⟨rfl, rfl, rfl⟩ | exact trivial | exact Or.inl trivial
      · rw [if_neg h1] at hv
        by_cases h2 : 10 < n
        · rw [if_pos h2] at hv
          subst hv
          simp only [hr, h1, h2, if_true, if_false, a2, refI6, false_implies, true_implies, not_true_eq_false, not_false_eq_true, true_and, and_true, implies_true, eq_self, ne_eq, true_or, or_true, false_or, or_false, and_self]
          all_goals first | done | exact ⟨rfl, rfl⟩ | exact rfl | exact b2i_01 _ | exact ⟨b2i_01 _, rfl, rfl⟩ | exact ⟨b2i_01 _, rfl⟩ | exact ⟨rfl, rfl, rfl⟩ | exact trivial | exact Or.inl trivial
        · rw [if_neg h2] at hv
          by_cases hp0 : mS 15 M = 0
          · rw [if_pos hp0] at hv
            subst hv
            simp only [hr, h1, h2, hp0, if_true, if_false, false_implies, true_implies, not_true_eq_false, not_false_eq_true, true_and, and_true, implies_true, eq_self, ne_eq, true_or, or_true, false_or, or_false, and_self]
            all_goals first | done | exact ⟨rfl, rfl⟩ | exact rfl | exact b2i_01 _ | exact ⟨b2i_01 _, rfl, rfl⟩ | exact ⟨b2i_01 _, rfl⟩ | exact ⟨rfl, rfl, rfl⟩ | exact trivial | exact Or.inl trivial
          · rw [if_neg hp0] at hv
            have hq : ∃ q, q ≤ 10 ∧ n = nI q := by
              have h3 : ¬ n < 0 := fun h => h1 (Int32.lt_trans h (by decide))
              obtain ⟨q, hq, rfl⟩ := nI_of h3
              have h2 : ¬ nI 10 < nI q := h2
              rw [nI_lt_x (by decide), nI_clamp (by omega)] at h2
              exact ⟨q, by omega, rfl⟩
            obtain ⟨p1, p2, -, -⟩ := uPA_keep (show 1 ≤ 1 by omega) M
            rw [show (nI 1 : Int32) = 1 from rfl] at p1
            simp only [hr, h1, h2, hp0, if_false, false_implies, true_implies, not_true_eq_false, not_false_eq_true, true_and, and_true, implies_true, eq_self, ne_eq, true_or, or_true, false_or, or_false, and_self]
            have hm := (mOK_keep hp.1).1
            have hU0 : ¬ mS 15 (uPA M 1 1) = 0 := by rw [p1 15 (by decide) (by decide)]; exact hp0
            generalize uPA M 1 1 = U at hm hU0 hfin ⊢
            exact ⟨⟨hv.symm, hq⟩, _, 0, 0, Nat.add_zero _, mOK_lots hm z, hU0, rfl, rfl, hfin⟩
    · rw [if_neg hr] at hv
      subst hv
      simp only [hr, false_implies, true_implies, not_true_eq_false, not_false_eq_true, true_and, and_true, implies_true, eq_self, ne_eq, true_or, or_true, false_or, or_false, and_self]
      all_goals first | done | exact ⟨rfl, rfl⟩ | exact rfl | exact b2i_01 _ | exact ⟨b2i_01 _, rfl, rfl⟩ | exact ⟨b2i_01 _, rfl⟩ | exact ⟨rfl, rfl, rfl⟩ | exact trivial | exact Or.inl trivial
end
