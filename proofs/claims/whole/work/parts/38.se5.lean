noncomputable section
def smWith (f : Nat → Int64 → SS → Int32 × SS) (h p : Nat) (m : Int64) (S : SS) : Int32 × SS := if m &&& sBit (nI h) (nI p) = 0 then (-1, S) else (eGo S (fsAt h p) + (f (h + 1) (m &&& eSm S (fsAt h p)) S).1, (f (h + 1) (m &&& eSm S (fsAt h p)) S).2)
def jmax (x y : Int32) : Int32 := if x < y then y else x
def smLoop (f : Nat → Int64 → SS → Int32 × SS) (h : Nat) (m : Int64) : Nat → Nat → Int32 → SS → Int32 × SS
  | _, 0, b, S => (b, S)
  | p, n + 1, b, S => smLoop f h m (p + 1) n (jmax b (smWith f h p m S).1) (smWith f h p m S).2
theorem smLoop_s (f : Nat → Int64 → SS → Int32 × SS) (h : Nat) (m : Int64) (p n : Nat) (b : Int32) (S : SS) : smLoop f h m p (n + 1) b S = smLoop f h m (p + 1) n (jmax b (smWith f h p m S).1) (smWith f h p m S).2 := rfl
def inSl (k : Int32) : Bool := decide (¬ k < 0 ∧ k < 1024)
def smEnd (m : Int64) (r : Int32 × SS) : Int32 × SS := (r.1, if inSl (sSlot m) = true then eaSu (eaSk r.2 (sSlot m).toNatClampNeg m) (sSlot m).toNatClampNeg r.1 else r.2)
def smF : Nat → Nat → Int64 → SS → Int32 × SS
  | 0, _, _, S => (0, S)
  | n + 1, h, m, S => if sHands S ≤ h ∨ 8 ≤ h then (0, S) else if m &&& sFrom (nI h) = 0 then (0, S) else if inSl (sSlot (m &&& sFrom (nI h))) = true ∧ eSk S (sSlot (m &&& sFrom (nI h))).toNatClampNeg = m &&& sFrom (nI h) then (eSu S (sSlot (m &&& sFrom (nI h))).toNatClampNeg, S) else smEnd (m &&& sFrom (nI h)) (smLoop (smF n) h (m &&& sFrom (nI h)) 0 7 (smF n (h + 1) (m &&& sFrom (nI h)) S).1 (smF n (h + 1) (m &&& sFrom (nI h)) S).2)
def F_X1_sumFrom (g : Nat → Nat) (n : Nat) : CF SS := cf_RIJ (g 16) (fun _ h _ => ∃ k, k ≤ 8 ∧ 9 ≤ k + n ∧ h = nI k) (fun S h m => some (.int (smF n h.toNatClampNeg m S).1)) (fun S h m => (smF n h.toNatClampNeg m S).2)
def F_X1_sumWith (g : Nat → Nat) (n : Nat) : CF SS := cf_RIIJ (g 16) (fun _ h p _ => (∃ k, k < 8 ∧ 8 ≤ k + n ∧ h = nI k) ∧ ∃ q, q < 7 ∧ p = nI q) (fun S h p m => some (.int (smWith (smF n) h.toNatClampNeg p.toNatClampNeg m S).1)) (fun S h p m => (smWith (smF n) h.toNatClampNeg p.toNatClampNeg m S).2)
theorem inw_X1_sumWith_X1 : ∀ w ∈ u_ws RX1 TX1 7, w ∈ wsX1_sumWith := by decide +kernel
def bk_X1_sumWith_57 (g : Nat → Nat) (n : Nat) (Post : Option Value → SS → Prop)  (L : Lc) (st : List Value) (s : SS) : Prop :=
  (wK (.int (-1)) <| wRetI Post) L st s
set_option maxRecDepth 20000 in
theorem s_X1_sumWith_57 {X : Cx} (B : Bx) (g : Nat → Nat) (n : Nat) (hF : MtF (gx B) yX1_sumFrom wsX1_sumFrom (rmD (2 * n + 2)) (encS B g) (F_X1_sumFrom g n)) {Post : Option Value → SS → Prop} (C : OkX X (gx B) cX1_sumWith 7 wsX1_sumWith RX1 (rmD (2 * n + 3))) (R : RtX X (gx B) (some .int) (encS B g) Post)  : Snd X (gx B) 7 (encS B g) 57 (bk_X1_sumWith_57 g n Post ) := by
  unfold bk_X1_sumWith_57
  refine s_iconst C (by decide) dX1_sumWith_57 ?_
  exact s_iret C R dX1_sumWith_58
def bk_X1_sumWith_38 (g : Nat → Nat) (n : Nat) (Post : Option Value → SS → Prop)  (L : Lc) (st : List Value) (s : SS) : Prop :=
  (wIst 6 <| wIload 6 <| wIf1 (fun x => x = 0) (bk_X1_sumWith_57 g n Post ) (wLload 3 <| wIload 1 <| wIload 2 <| wCallR 2 (F_X1_bitOf) (fun _ => ()) (fun s _ => s) <| wLB (fun x y => x &&& y) <| wK (.long 0) <| wLcmp <| wIf1 (fun x => x = 0) (bk_X1_sumWith_57 g n Post ) (wAload 0 <| wGet (g 16) (fun _ => .ref (g 18)) <| wIload 5 <| wIald (g 18) 56 eGo <| wAload 0 <| wIload 1 <| wK (.int 1) <| wB (fun x y => x + y) <| wLload 3 <| wAload 0 <| wGet (g 16) (fun _ => .ref (g 19)) <| wIload 5 <| wLald (g 19) 56 eSm <| wLB (fun x y => x &&& y) <| wCallR 3 (F_X1_sumFrom g n) id (fun _ u => u) <| wB (fun x y => x + y) <| wRetI Post))) L st s
set_option maxRecDepth 20000 in
theorem s_X1_sumWith_38 {X : Cx} (B : Bx) (g : Nat → Nat) (n : Nat) (hF : MtF (gx B) yX1_sumFrom wsX1_sumFrom (rmD (2 * n + 2)) (encS B g) (F_X1_sumFrom g n)) {Post : Option Value → SS → Prop} (C : OkX X (gx B) cX1_sumWith 7 wsX1_sumWith RX1 (rmD (2 * n + 3))) (R : RtX X (gx B) (some .int) (encS B g) Post)  : Snd X (gx B) 7 (encS B g) 38 (bk_X1_sumWith_38 g n Post ) := by
  unfold bk_X1_sumWith_38
  refine s_istore C (by decide) dX1_sumWith_38 ?_
  refine s_iload C dX1_sumWith_40 ?_
  refine s_if_eq C (tgt := 57) (by decide) dX1_sumWith_42 ?_ ?_
  · exact s_X1_sumWith_57 B g n hF C R 
  · refine s_lload_n C rfl dX1_sumWith_45 ?_
    refine s_iload_n C rfl dX1_sumWith_46 ?_
    refine s_iload_n C rfl dX1_sumWith_47 ?_
    refine s_callS C (fr_S_E B g) (k_X1_bitOf B) gX1_sumWith_X1_bitOf rfl (by decide +kernel) ⟨rfl, rfl⟩ (by simp only [rmD]; omega) (cf_II_r _ _ _) dX1_sumWith_48 ?_
    refine s_land C dX1_sumWith_51 ?_
    refine s_lconst C (by decide) dX1_sumWith_52 ?_
    refine s_lcmp C dX1_sumWith_53 ?_
    refine s_if_ne C (tgt := 59) (by decide) dX1_sumWith_54 ?_ ?_
    · refine s_aload_n C rfl dX1_sumWith_59 ?_
      refine s_get C inw_X1_sumWith_X1 rfl (k := 2) (by decide) (by decide +kernel) (heS_0 B g) (fun _ => rfl) dX1_sumWith_60 ?_
      refine s_iload C dX1_sumWith_63 ?_
      refine s_iald C (heS_2 B g) dX1_sumWith_65 ?_
      refine s_aload_n C rfl dX1_sumWith_66 ?_
      refine s_iload_n C rfl dX1_sumWith_67 ?_
      refine s_iconst C (by decide) dX1_sumWith_68 ?_
      refine s_iadd C dX1_sumWith_69 ?_
      refine s_lload_n C rfl dX1_sumWith_70 ?_
      refine s_aload_n C rfl dX1_sumWith_71 ?_
      refine s_get C inw_X1_sumWith_X1 rfl (k := 3) (by decide) (by decide +kernel) (heS_0 B g) (fun _ => rfl) dX1_sumWith_72 ?_
      refine s_iload C dX1_sumWith_75 ?_
      refine s_lald C (heS_3 B g) dX1_sumWith_77 ?_
      refine s_land C dX1_sumWith_78 ?_
      refine s_callV C (fr_S_S B g) hF gX1_sumWith_X1_sumFrom rfl (by decide +kernel) ⟨rfl, rfl⟩ (by simp only [rmD]; omega) rfl (fun s => ⟨_, heS_0 B g s⟩) (cf_RIJ_r _ _ _ _) dX1_sumWith_79 ?_
      refine s_iadd C dX1_sumWith_82 ?_
      exact s_iret C R dX1_sumWith_83
    · exact s_X1_sumWith_57 B g n hF C R 
def bk_X1_sumWith_37 (g : Nat → Nat) (n : Nat) (Post : Option Value → SS → Prop)  (L : Lc) (st : List Value) (s : SS) : Prop :=
  (wK (.int 0) <| bk_X1_sumWith_38 g n Post ) L st s
set_option maxRecDepth 20000 in
theorem s_X1_sumWith_37 {X : Cx} (B : Bx) (g : Nat → Nat) (n : Nat) (hF : MtF (gx B) yX1_sumFrom wsX1_sumFrom (rmD (2 * n + 2)) (encS B g) (F_X1_sumFrom g n)) {Post : Option Value → SS → Prop} (C : OkX X (gx B) cX1_sumWith 7 wsX1_sumWith RX1 (rmD (2 * n + 3))) (R : RtX X (gx B) (some .int) (encS B g) Post)  : Snd X (gx B) 7 (encS B g) 37 (bk_X1_sumWith_37 g n Post ) := by
  unfold bk_X1_sumWith_37
  refine s_iconst C (by decide) dX1_sumWith_37 ?_
  exact s_X1_sumWith_38 B g n hF C R 
def bk_X1_sumWith_0 (g : Nat → Nat) (n : Nat) (Post : Option Value → SS → Prop)  (L : Lc) (st : List Value) (s : SS) : Prop :=
  (wIload 1 <| wK (.int 7) <| wB (fun x y => x * y) <| wIload 2 <| wB (fun x y => x + y) <| wIst 5 <| wIload 5 <| wIf1 (fun x => x < 0) (bk_X1_sumWith_37 g n Post ) (wIload 5 <| wAload 0 <| wGet (g 16) (fun _ => .ref (g 18)) <| wLen (g 18) 56 <| wIf2 (fun x y => y ≤ x) (bk_X1_sumWith_37 g n Post ) (wIload 5 <| wAload 0 <| wGet (g 16) (fun _ => .ref (g 19)) <| wLen (g 19) 56 <| wIf2 (fun x y => y ≤ x) (bk_X1_sumWith_37 g n Post ) (wK (.int 1) <| bk_X1_sumWith_38 g n Post )))) L st s
set_option maxRecDepth 20000 in
theorem s_X1_sumWith_0 {X : Cx} (B : Bx) (g : Nat → Nat) (n : Nat) (hF : MtF (gx B) yX1_sumFrom wsX1_sumFrom (rmD (2 * n + 2)) (encS B g) (F_X1_sumFrom g n)) {Post : Option Value → SS → Prop} (C : OkX X (gx B) cX1_sumWith 7 wsX1_sumWith RX1 (rmD (2 * n + 3))) (R : RtX X (gx B) (some .int) (encS B g) Post)  : Snd X (gx B) 7 (encS B g) 0 (bk_X1_sumWith_0 g n Post ) := by
  unfold bk_X1_sumWith_0
  refine s_iload_n C rfl dX1_sumWith_0 ?_
  refine s_bipush C (by decide) dX1_sumWith_1 ?_
  refine s_imul C dX1_sumWith_3 ?_
  refine s_iload_n C rfl dX1_sumWith_4 ?_
  refine s_iadd C dX1_sumWith_5 ?_
  refine s_istore C (by decide) dX1_sumWith_6 ?_
  refine s_iload C dX1_sumWith_8 ?_
  refine s_if_lt C (tgt := 37) (by decide) dX1_sumWith_10 ?_ ?_
  · exact s_X1_sumWith_37 B g n hF C R 
  · refine s_iload C dX1_sumWith_13 ?_
    refine s_aload_n C rfl dX1_sumWith_15 ?_
    refine s_get C inw_X1_sumWith_X1 rfl (k := 2) (by decide) (by decide +kernel) (heS_0 B g) (fun _ => rfl) dX1_sumWith_16 ?_
    refine s_alen C (t0 := 0) (heS_2 B g) rfl (fun _ => rfl) dX1_sumWith_19 ?_
    refine s_icmp_ge C (tgt := 37) (by decide) dX1_sumWith_20 ?_ ?_
    · exact s_X1_sumWith_37 B g n hF C R 
    · refine s_iload C dX1_sumWith_23 ?_
      refine s_aload_n C rfl dX1_sumWith_25 ?_
      refine s_get C inw_X1_sumWith_X1 rfl (k := 3) (by decide) (by decide +kernel) (heS_0 B g) (fun _ => rfl) dX1_sumWith_26 ?_
      refine s_alen C (t0 := 1) (heS_3 B g) rfl (fun _ => rfl) dX1_sumWith_29 ?_
      refine s_icmp_ge C (tgt := 37) (by decide) dX1_sumWith_30 ?_ ?_
      · exact s_X1_sumWith_37 B g n hF C R 
      · refine s_iconst C (by decide) dX1_sumWith_33 ?_
        refine s_goto C (tgt := 38) (by decide) dX1_sumWith_34 ?_
        exact s_X1_sumWith_38 B g n hF C R 
theorem inw_X1_sumFrom_X1 : ∀ w ∈ u_ws RX1 TX1 7, w ∈ wsX1_sumFrom := by decide +kernel
def bk_X1_sumFrom_14 (g : Nat → Nat) (n : Nat) (Post : Option Value → SS → Prop)  (L : Lc) (st : List Value) (s : SS) : Prop :=
  (wK (.int 0) <| wRetI Post) L st s
set_option maxRecDepth 20000 in
theorem s_X1_sumFrom_14 {X : Cx} (B : Bx) (g : Nat → Nat) (n : Nat) (hF : MtF (gx B) yX1_sumFrom wsX1_sumFrom (rmD (2 * n + 2)) (encS B g) (F_X1_sumFrom g n)) (hW : MtF (gx B) yX1_sumWith wsX1_sumWith (rmD (2 * n + 3)) (encS B g) (F_X1_sumWith g n)) {Post : Option Value → SS → Prop} (C : OkX X (gx B) cX1_sumFrom 10 wsX1_sumFrom RX1 (rmD (2 * n + 4))) (R : RtX X (gx B) (some .int) (encS B g) Post)  : Snd X (gx B) 10 (encS B g) 14 (bk_X1_sumFrom_14 g n Post ) := by
  unfold bk_X1_sumFrom_14
  refine s_iconst C (by decide) dX1_sumFrom_14 ?_
  exact s_iret C R dX1_sumFrom_15
def bk_X1_sumFrom_98 (g : Nat → Nat) (n : Nat) (Post : Option Value → SS → Prop) (K112 : PT SS) (L : Lc) (st : List Value) (s : SS) : Prop :=
  (wAload 0 <| wIload 1 <| wK (.int 1) <| wB (fun x y => x + y) <| wLload 4 <| wCallR 3 (F_X1_sumFrom g n) id (fun _ u => u) <| wIst 8 <| wK (.int 0) <| wIst 9 <| wKeep [true, true, false, false, true, false, true, true, true, true] K112) L st s
set_option maxRecDepth 20000 in
theorem s_X1_sumFrom_98 {X : Cx} (B : Bx) (g : Nat → Nat) (n : Nat) (hF : MtF (gx B) yX1_sumFrom wsX1_sumFrom (rmD (2 * n + 2)) (encS B g) (F_X1_sumFrom g n)) (hW : MtF (gx B) yX1_sumWith wsX1_sumWith (rmD (2 * n + 3)) (encS B g) (F_X1_sumWith g n)) {Post : Option Value → SS → Prop} (C : OkX X (gx B) cX1_sumFrom 10 wsX1_sumFrom RX1 (rmD (2 * n + 4))) (R : RtX X (gx B) (some .int) (encS B g) Post) {K112 : PT SS} (hK112 : Snd X (gx B) 10 (encS B g) 112 K112) : Snd X (gx B) 10 (encS B g) 98 (bk_X1_sumFrom_98 g n Post K112) := by
  unfold bk_X1_sumFrom_98
  refine s_aload_n C rfl dX1_sumFrom_98 ?_
  refine s_iload_n C rfl dX1_sumFrom_99 ?_
  refine s_iconst C (by decide) dX1_sumFrom_100 ?_
  refine s_iadd C dX1_sumFrom_101 ?_
  refine s_lload C dX1_sumFrom_102 ?_
  refine s_callV C (fr_S_S B g) hF gX1_sumFrom_X1_sumFrom rfl (by decide +kernel) ⟨rfl, rfl⟩ (by simp only [rmD]; omega) rfl (fun s => ⟨_, heS_0 B g s⟩) (cf_RIJ_r _ _ _ _) dX1_sumFrom_104 ?_
  refine s_istore C (by decide) dX1_sumFrom_107 ?_
  refine s_iconst C (by decide) dX1_sumFrom_109 ?_
  refine s_istore C (by decide) dX1_sumFrom_110 ?_
  exact s_keep _ hK112
def bk_X1_sumFrom_70 (g : Nat → Nat) (n : Nat) (Post : Option Value → SS → Prop) (K112 : PT SS) (L : Lc) (st : List Value) (s : SS) : Prop :=
  (wIst 7 <| wIload 7 <| wIf1 (fun x => x = 0) (bk_X1_sumFrom_98 g n Post K112) (wAload 0 <| wGet (g 16) (fun _ => .ref (g 20)) <| wIload 6 <| wLald (g 20) 1024 eSk <| wLload 4 <| wLcmp <| wIf1 (fun x => x = 0) (wAload 0 <| wGet (g 16) (fun _ => .ref (g 21)) <| wIload 6 <| wIald (g 21) 1024 eSu <| wRetI Post) (bk_X1_sumFrom_98 g n Post K112))) L st s
set_option maxRecDepth 20000 in
theorem s_X1_sumFrom_70 {X : Cx} (B : Bx) (g : Nat → Nat) (n : Nat) (hF : MtF (gx B) yX1_sumFrom wsX1_sumFrom (rmD (2 * n + 2)) (encS B g) (F_X1_sumFrom g n)) (hW : MtF (gx B) yX1_sumWith wsX1_sumWith (rmD (2 * n + 3)) (encS B g) (F_X1_sumWith g n)) {Post : Option Value → SS → Prop} (C : OkX X (gx B) cX1_sumFrom 10 wsX1_sumFrom RX1 (rmD (2 * n + 4))) (R : RtX X (gx B) (some .int) (encS B g) Post) {K112 : PT SS} (hK112 : Snd X (gx B) 10 (encS B g) 112 K112) : Snd X (gx B) 10 (encS B g) 70 (bk_X1_sumFrom_70 g n Post K112) := by
  unfold bk_X1_sumFrom_70
  refine s_istore C (by decide) dX1_sumFrom_70 ?_
  refine s_iload C dX1_sumFrom_72 ?_
  refine s_if_eq C (tgt := 98) (by decide) dX1_sumFrom_74 ?_ ?_
  · exact s_X1_sumFrom_98 B g n hF hW C R hK112
  · refine s_aload_n C rfl dX1_sumFrom_77 ?_
    refine s_get C inw_X1_sumFrom_X1 rfl (k := 4) (by decide) (by decide +kernel) (heS_0 B g) (fun _ => rfl) dX1_sumFrom_78 ?_
    refine s_iload C dX1_sumFrom_81 ?_
    refine s_lald C (heS_4 B g) dX1_sumFrom_83 ?_
    refine s_lload C dX1_sumFrom_84 ?_
    refine s_lcmp C dX1_sumFrom_86 ?_
    refine s_if_ne C (tgt := 98) (by decide) dX1_sumFrom_87 ?_ ?_
    · exact s_X1_sumFrom_98 B g n hF hW C R hK112
    · refine s_aload_n C rfl dX1_sumFrom_90 ?_
      refine s_get C inw_X1_sumFrom_X1 rfl (k := 5) (by decide) (by decide +kernel) (heS_0 B g) (fun _ => rfl) dX1_sumFrom_91 ?_
      refine s_iload C dX1_sumFrom_94 ?_
      refine s_iald C (heS_5 B g) dX1_sumFrom_96 ?_
      exact s_iret C R dX1_sumFrom_97
def bk_X1_sumFrom_69 (g : Nat → Nat) (n : Nat) (Post : Option Value → SS → Prop) (K112 : PT SS) (L : Lc) (st : List Value) (s : SS) : Prop :=
  (wK (.int 0) <| bk_X1_sumFrom_70 g n Post K112) L st s
set_option maxRecDepth 20000 in
theorem s_X1_sumFrom_69 {X : Cx} (B : Bx) (g : Nat → Nat) (n : Nat) (hF : MtF (gx B) yX1_sumFrom wsX1_sumFrom (rmD (2 * n + 2)) (encS B g) (F_X1_sumFrom g n)) (hW : MtF (gx B) yX1_sumWith wsX1_sumWith (rmD (2 * n + 3)) (encS B g) (F_X1_sumWith g n)) {Post : Option Value → SS → Prop} (C : OkX X (gx B) cX1_sumFrom 10 wsX1_sumFrom RX1 (rmD (2 * n + 4))) (R : RtX X (gx B) (some .int) (encS B g) Post) {K112 : PT SS} (hK112 : Snd X (gx B) 10 (encS B g) 112 K112) : Snd X (gx B) 10 (encS B g) 69 (bk_X1_sumFrom_69 g n Post K112) := by
  unfold bk_X1_sumFrom_69
  refine s_iconst C (by decide) dX1_sumFrom_69 ?_
  exact s_X1_sumFrom_70 B g n hF hW C R hK112
def bk_X1_sumFrom_0 (g : Nat → Nat) (n : Nat) (Post : Option Value → SS → Prop) (K112 : PT SS) (L : Lc) (st : List Value) (s : SS) : Prop :=
  (wIload 1 <| wAload 0 <| wGet (g 16) (fun s => .int (eHd s)) <| wIf2 (fun x y => y ≤ x) (bk_X1_sumFrom_14 g n Post ) (wIload 1 <| wK (.int 8) <| wIf2 (fun x y => x < y) (wLload 2 <| wIload 1 <| wCallR 1 (F_X1_bitsFrom) (fun _ => ()) (fun s _ => s) <| wLB (fun x y => x &&& y) <| wLst 4 <| wLload 4 <| wK (.long 0) <| wLcmp <| wIf1 (fun x => x = 0) (wK (.int 0) <| wRetI Post) (wLload 4 <| wCallR 1 (F_X1_slotOf) (fun _ => ()) (fun s _ => s) <| wIst 6 <| wIload 6 <| wIf1 (fun x => x < 0) (bk_X1_sumFrom_69 g n Post K112) (wIload 6 <| wAload 0 <| wGet (g 16) (fun _ => .ref (g 20)) <| wLen (g 20) 1024 <| wIf2 (fun x y => y ≤ x) (bk_X1_sumFrom_69 g n Post K112) (wIload 6 <| wAload 0 <| wGet (g 16) (fun _ => .ref (g 21)) <| wLen (g 21) 1024 <| wIf2 (fun x y => y ≤ x) (bk_X1_sumFrom_69 g n Post K112) (wK (.int 1) <| bk_X1_sumFrom_70 g n Post K112))))) (bk_X1_sumFrom_14 g n Post ))) L st s
set_option maxRecDepth 20000 in
theorem s_X1_sumFrom_0 {X : Cx} (B : Bx) (g : Nat → Nat) (n : Nat) (hF : MtF (gx B) yX1_sumFrom wsX1_sumFrom (rmD (2 * n + 2)) (encS B g) (F_X1_sumFrom g n)) (hW : MtF (gx B) yX1_sumWith wsX1_sumWith (rmD (2 * n + 3)) (encS B g) (F_X1_sumWith g n)) {Post : Option Value → SS → Prop} (C : OkX X (gx B) cX1_sumFrom 10 wsX1_sumFrom RX1 (rmD (2 * n + 4))) (R : RtX X (gx B) (some .int) (encS B g) Post) {K112 : PT SS} (hK112 : Snd X (gx B) 10 (encS B g) 112 K112) : Snd X (gx B) 10 (encS B g) 0 (bk_X1_sumFrom_0 g n Post K112) := by
  unfold bk_X1_sumFrom_0
  refine s_iload_n C rfl dX1_sumFrom_0 ?_
  refine s_aload_n C rfl dX1_sumFrom_1 ?_
  refine s_get C inw_X1_sumFrom_X1 rfl (k := 1) (by decide) (by decide +kernel) (heS_0 B g) (fun _ => rfl) dX1_sumFrom_2 ?_
  refine s_icmp_ge C (tgt := 14) (by decide) dX1_sumFrom_5 ?_ ?_
  · exact s_X1_sumFrom_14 B g n hF hW C R 
  · refine s_iload_n C rfl dX1_sumFrom_8 ?_
    refine s_bipush C (by decide) dX1_sumFrom_9 ?_
    refine s_icmp_lt C (tgt := 16) (by decide) dX1_sumFrom_11 ?_ ?_
    · refine s_lload_n C rfl dX1_sumFrom_16 ?_
      refine s_iload_n C rfl dX1_sumFrom_17 ?_
      refine s_callS C (fr_S_E B g) (k_X1_bitsFrom B) gX1_sumFrom_X1_bitsFrom rfl (by decide +kernel) ⟨rfl, rfl⟩ (by simp only [rmD]; omega) (cf_I_r _ _ _) dX1_sumFrom_18 ?_
      refine s_land C dX1_sumFrom_21 ?_
      refine s_lstore C (by decide) dX1_sumFrom_22 ?_
      refine s_lload C dX1_sumFrom_24 ?_
      refine s_lconst C (by decide) dX1_sumFrom_26 ?_
      refine s_lcmp C dX1_sumFrom_27 ?_
      refine s_if_ne C (tgt := 33) (by decide) dX1_sumFrom_28 ?_ ?_
      · refine s_lload C dX1_sumFrom_33 ?_
        refine s_callS C (fr_S_E B g) (k_X1_slotOf B) gX1_sumFrom_X1_slotOf rfl (by decide +kernel) ⟨rfl, rfl⟩ (by simp only [rmD]; omega) (cf_J_r _ _ _) dX1_sumFrom_35 ?_
        refine s_istore C (by decide) dX1_sumFrom_38 ?_
        refine s_iload C dX1_sumFrom_40 ?_
        refine s_if_lt C (tgt := 69) (by decide) dX1_sumFrom_42 ?_ ?_
        · exact s_X1_sumFrom_69 B g n hF hW C R hK112
        · refine s_iload C dX1_sumFrom_45 ?_
          refine s_aload_n C rfl dX1_sumFrom_47 ?_
          refine s_get C inw_X1_sumFrom_X1 rfl (k := 4) (by decide) (by decide +kernel) (heS_0 B g) (fun _ => rfl) dX1_sumFrom_48 ?_
          refine s_alen C (t0 := 1) (heS_4 B g) rfl (fun _ => rfl) dX1_sumFrom_51 ?_
          refine s_icmp_ge C (tgt := 69) (by decide) dX1_sumFrom_52 ?_ ?_
          · exact s_X1_sumFrom_69 B g n hF hW C R hK112
          · refine s_iload C dX1_sumFrom_55 ?_
            refine s_aload_n C rfl dX1_sumFrom_57 ?_
            refine s_get C inw_X1_sumFrom_X1 rfl (k := 5) (by decide) (by decide +kernel) (heS_0 B g) (fun _ => rfl) dX1_sumFrom_58 ?_
            refine s_alen C (t0 := 0) (heS_5 B g) rfl (fun _ => rfl) dX1_sumFrom_61 ?_
            refine s_icmp_ge C (tgt := 69) (by decide) dX1_sumFrom_62 ?_ ?_
            · exact s_X1_sumFrom_69 B g n hF hW C R hK112
            · refine s_iconst C (by decide) dX1_sumFrom_65 ?_
              refine s_goto C (tgt := 70) (by decide) dX1_sumFrom_66 ?_
              exact s_X1_sumFrom_70 B g n hF hW C R hK112
      · refine s_iconst C (by decide) dX1_sumFrom_31 ?_
        exact s_iret C R dX1_sumFrom_32
    · exact s_X1_sumFrom_14 B g n hF hW C R 
def bk_X1_sumFrom_164 (g : Nat → Nat) (n : Nat) (Post : Option Value → SS → Prop)  (L : Lc) (st : List Value) (s : SS) : Prop :=
  (wIload 8 <| wRetI Post) L st s
set_option maxRecDepth 20000 in
theorem s_X1_sumFrom_164 {X : Cx} (B : Bx) (g : Nat → Nat) (n : Nat) (hF : MtF (gx B) yX1_sumFrom wsX1_sumFrom (rmD (2 * n + 2)) (encS B g) (F_X1_sumFrom g n)) (hW : MtF (gx B) yX1_sumWith wsX1_sumWith (rmD (2 * n + 3)) (encS B g) (F_X1_sumWith g n)) {Post : Option Value → SS → Prop} (C : OkX X (gx B) cX1_sumFrom 10 wsX1_sumFrom RX1 (rmD (2 * n + 4))) (R : RtX X (gx B) (some .int) (encS B g) Post)  : Snd X (gx B) 10 (encS B g) 164 (bk_X1_sumFrom_164 g n Post ) := by
  unfold bk_X1_sumFrom_164
  refine s_iload C dX1_sumFrom_164 ?_
  exact s_iret C R dX1_sumFrom_166
def bk_X1_sumFrom_112 (g : Nat → Nat) (n : Nat) (Post : Option Value → SS → Prop) (K112 : PT SS) (L : Lc) (st : List Value) (s : SS) : Prop :=
  (wIload 9 <| wK (.int 7) <| wIf2 (fun x y => y ≤ x) (wIload 7 <| wIf1 (fun x => x = 0) (bk_X1_sumFrom_164 g n Post ) (wAload 0 <| wGet (g 16) (fun _ => .ref (g 20)) <| wIload 6 <| wLload 4 <| wLast (g 20) 1024 eaSk <| wAload 0 <| wGet (g 16) (fun _ => .ref (g 21)) <| wIload 6 <| wIload 8 <| wIast (g 21) 1024 eaSu <| bk_X1_sumFrom_164 g n Post )) (wIload 8 <| wAload 0 <| wIload 1 <| wIload 9 <| wLload 4 <| wCallR 4 (F_X1_sumWith g n) id (fun _ u => u) <| wM2 (fun x y => if x < y then y else x) <| wIst 8 <| wInc 9 1 <| wKeep [true, true, false, false, true, false, true, true, true, true] K112)) L st s
set_option maxRecDepth 20000 in
theorem s_X1_sumFrom_112 {X : Cx} (B : Bx) (g : Nat → Nat) (n : Nat) (hF : MtF (gx B) yX1_sumFrom wsX1_sumFrom (rmD (2 * n + 2)) (encS B g) (F_X1_sumFrom g n)) (hW : MtF (gx B) yX1_sumWith wsX1_sumWith (rmD (2 * n + 3)) (encS B g) (F_X1_sumWith g n)) {Post : Option Value → SS → Prop} (C : OkX X (gx B) cX1_sumFrom 10 wsX1_sumFrom RX1 (rmD (2 * n + 4))) (R : RtX X (gx B) (some .int) (encS B g) Post) {K112 : PT SS} (hK112 : Snd X (gx B) 10 (encS B g) 112 K112) : Snd X (gx B) 10 (encS B g) 112 (bk_X1_sumFrom_112 g n Post K112) := by
  unfold bk_X1_sumFrom_112
  refine s_iload C dX1_sumFrom_112 ?_
  refine s_bipush C (by decide) dX1_sumFrom_114 ?_
  refine s_icmp_ge C (tgt := 141) (by decide) dX1_sumFrom_116 ?_ ?_
  · refine s_iload C dX1_sumFrom_141 ?_
    refine s_if_eq C (tgt := 164) (by decide) dX1_sumFrom_143 ?_ ?_
    · exact s_X1_sumFrom_164 B g n hF hW C R 
    · refine s_aload_n C rfl dX1_sumFrom_146 ?_
      refine s_get C inw_X1_sumFrom_X1 rfl (k := 4) (by decide) (by decide +kernel) (heS_0 B g) (fun _ => rfl) dX1_sumFrom_147 ?_
      refine s_iload C dX1_sumFrom_150 ?_
      refine s_lload C dX1_sumFrom_152 ?_
      refine s_last C (heS_4 B g) (fun _ _ _ => rfl) dX1_sumFrom_154 ?_
      refine s_aload_n C rfl dX1_sumFrom_155 ?_
      refine s_get C inw_X1_sumFrom_X1 rfl (k := 5) (by decide) (by decide +kernel) (heS_0 B g) (fun _ => rfl) dX1_sumFrom_156 ?_
      refine s_iload C dX1_sumFrom_159 ?_
      refine s_iload C dX1_sumFrom_161 ?_
      refine s_iast C (heS_5 B g) (fun _ _ _ => rfl) dX1_sumFrom_163 ?_
      exact s_X1_sumFrom_164 B g n hF hW C R 
  · refine s_iload C dX1_sumFrom_119 ?_
    refine s_aload_n C rfl dX1_sumFrom_121 ?_
    refine s_iload_n C rfl dX1_sumFrom_122 ?_
    refine s_iload C dX1_sumFrom_123 ?_
    refine s_lload C dX1_sumFrom_125 ?_
    refine s_callV C (fr_S_S B g) hW gX1_sumFrom_X1_sumWith rfl (by decide +kernel) ⟨rfl, rfl⟩ (by simp only [rmD]; omega) rfl (fun s => ⟨_, heS_0 B g s⟩) (cf_RIIJ_r _ _ _ _) dX1_sumFrom_127 ?_
    refine s_mmax C (by decide +kernel) (by decide +kernel) (by decide +kernel) (by decide +kernel) (by simp only [rmD]; omega) dX1_sumFrom_130 ?_
    refine s_istore C (by decide) dX1_sumFrom_133 ?_
    refine s_iinc C (by decide) (by decide) dX1_sumFrom_135 ?_
    refine s_goto C (tgt := 112) (by decide) dX1_sumFrom_138 ?_
    exact s_keep _ hK112
theorem kW (B : Bx) (g : Nat → Nat) (n : Nat) (hF : MtF (gx B) yX1_sumFrom wsX1_sumFrom (rmD (2 * n + 2)) (encS B g) (F_X1_sumFrom g n)) : MtF (gx B) yX1_sumWith wsX1_sumWith (rmD (2 * n + 3)) (encS B g) (F_X1_sumWith g n) := by
  refine cf_RIIJ_i (fun l S x y m hp => ?_)
  obtain ⟨⟨h, hh, hn, rfl⟩, p, hp, rfl⟩ := hp
  have ch : (nI h).toNatClampNeg = h := nI_clamp (by omega)
  have cp : (nI p).toNatClampNeg = p := nI_clamp (by omega)
  have e7 : nI h * 7 + nI p = nI (fsAt h p) := by unfold fsAt; rw [show (7 : Int32) = nI 7 from rfl, pk_mul, nI_add]
  have hat : fsAt h p < 56 := by unfold fsAt; omega
  have h2 : ¬ nI (fsAt h p) < 0 := Int32.not_lt.mpr (nI_le (a := 0) (b := fsAt h p) (by omega) (by omega))
  have h3 : ¬ (56 : Int32) ≤ nI (fsAt h p) := nI_ge (a := fsAt h p) (b := 56) hat (by decide)
  have c2 : (nI (fsAt h p)).toNatClampNeg = fsAt h p := nI_clamp (by omega)
  have w0 : vp_in (nI (fsAt h p)) 56 := vp_in_nI hat (by decide)
  have c3 : (nI h + 1).toNatClampNeg = h + 1 := by rw [nI_1, nI_clamp (by omega)]
  refine Mt.of (P := bk_X1_sumWith_0 g n _) (by decide) rfl (Nat.le_of_ble_eq_true rfl) rfl (fun X C R => s_X1_sumWith_0 B g n hF C R) ?_
  simp only [wIload, wAload, wLload, wK, wB, wDv, wU, wLB, wLU, wLS, wL2i, wLcmp, wIf1, wIf2, wKeep, wInc, wIst, wAst, wLst, wDup, wPop, wDup2, wGet, wPut, wPutZ, wIald, wLald, wIast, wLast, wLen, wRetI, wRetZ, wRetL, wRetA, wRetV, wM1, wM2, wCpy, wTab, tabW, nth, stL, stL2, dropL, keepL, mkL, padL, restOK, restOKn, tl_some, tl_none, id_eq, eq_self, true_and, and_true, bk_X1_sumWith_57, bk_X1_sumWith_38, bk_X1_sumWith_37, bk_X1_sumWith_0, F_X1_bitOf, F_X1_sumFrom, cf_II_e, cf_RIJ_e, lcmp0]
  rw [e7, ch, cp]
  generalize hr : smWith (smF n) h p m S = r
  unfold smWith at hr
  simp only [h2, h3, w0, c2, c3, n10, false_implies, true_implies, not_true_eq_false, not_false_eq_true, true_and, and_true, implies_true, eq_self, ne_eq, true_or, or_true, false_or, or_false, and_self]
  by_cases hb : m &&& sBit (nI h) (nI p) = 0
  · rw [if_pos hb] at hr
    subst hr
    simp only [hb, false_implies, true_implies, not_true_eq_false, not_false_eq_true, true_and, and_true, implies_true, eq_self, ne_eq, true_or, or_true, false_or, or_false, and_self]
  · rw [if_neg hb] at hr
    subst hr
    simp only [hb, false_implies, true_implies, not_true_eq_false, not_false_eq_true, true_and, and_true, implies_true, eq_self, ne_eq, true_or, or_true, false_or, or_false, and_self]
    exact ⟨h + 1, by omega, by omega, nI_1 h⟩
def SPost (r : Int32 × SS) : Option Value → SS → Prop := fun o u => o = some (.int r.1) ∧ u = r.2
def I_s112 (g : Nat → Nat) (n h : Nat) (m : Int64) (fin : Int32 × SS) (k : Nat) (L : Lc) (st : List Value) (s : SS) : Prop := ∃ (p : Nat) (b : Int32), k + p = 7 ∧ st = [] ∧ L = [some (.ref (g 16)), some (.int (nI h)), none, none, some (.long m), none, some (.int (sSlot m)), some (.int (b2i (inSl (sSlot m)))), some (.int b), some (.int (nI p))] ∧ smEnd m (smLoop (smF n) h m p k b s) = fin
theorem v1024 {k : Int32} : ¬ k < 0 → k < 1024 → vp_in k 1024 := by
  intro h1 h2
  obtain ⟨a, ha, ea⟩ := ixN' (n := 1024) rfl h1 h2
  exact vpN ea ha (by decide)
end
