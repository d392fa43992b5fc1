noncomputable section
/-- the best of the first hand's tries, from c on: one more than its sum, and who -/
def gB (W : Nat → Nat) (av : Nat → Bool) : Nat → Nat → Nat × Int32 → Nat × Int32
  | 0, _, x => x
  | k + 1, c, x => gB W av k (c + 1) (if av c = true ∧ x.1 ≤ W c then (W c + 1, nI c) else x)
theorem gB_s (W : Nat → Nat) (av : Nat → Bool) (k c : Nat) (x : Nat × Int32) : gB W av (k + 1) c x = gB W av k (c + 1) (if av c = true ∧ x.1 ≤ W c then (W c + 1, nI c) else x) := rfl
def gE (V : Nat) (x : Nat × Int32) : Nat × Int32 := if x.1 ≤ V then (V + 1, -9) else x
theorem m1_toInt {a : Nat} (h : a < 2 ^ 30) : (nI a + -1).toInt = (a : Int) - 1 := by
  rw [← Int32.sub_eq_add_neg]
  exact nI_subi (b := 1) h (by decide)
theorem m1_lt {a b : Nat} (ha : a < 2 ^ 30) (hb : b < 2 ^ 30) : nI a + -1 < nI b ↔ a ≤ b := by
  rw [Int32.lt_iff_toInt_lt, m1_toInt ha, nI_toInt (by omega)]
  omega
theorem m1_up (a : Nat) : nI a = nI (a + 1) + -1 := by
  rw [← Int32.sub_eq_add_neg]
  exact (nI_sub (a := a + 1) (b := 1) (by omega)).symm
theorem gB_le {W : Nat → Nat} {av : Nat → Bool} (hW : ∀ c, W c ≤ 2000) : ∀ k c x, x.1 ≤ 2001 → (gB W av k c x).1 ≤ 2001 := by
  intro k
  induction k with
  | zero => exact fun _ _ h => h
  | succ k ih =>
    intro c x h
    rw [gB_s]
    refine ih _ _ ?_
    have := hW c
    split
    · show W c + 1 ≤ 2001; omega
    · exact h
section MP
variable {gd : Nat → Nat → Nat} {st : Nat → Nat → Nat → Nat → Bool} {may : Int64} {D : Nat}
theorem moP_V (hb : ∀ h p, gd h p ≤ 165) (hD : D ≤ 8) {m : Int64} (hm : subB m may) : ∀ k p (x : Nat × Int32) S, p + k = 7 → x.1 ≤ 2001 → eFi S = x.2 → SP gd st may D S →
    (moP m p k (nI x.1 + -1) S).1 = nI (gB (Wv gd st D 0 (bt m)) (bt m 0) k p x).1 + -1 ∧ eFi (moP m p k (nI x.1 + -1) S).2 = (gB (Wv gd st D 0 (bt m)) (bt m 0) k p x).2 ∧ SP gd st may D (moP m p k (nI x.1 + -1) S).2 := by
  intro k
  induction k with
  | zero => exact fun p x S _ _ hf hS => ⟨rfl, hf, hS⟩
  | succ k ih =>
    intro p x S hp hx hf hS
    have hW := Wv_le (st := st) hb hD 0 (bt m) p
    obtain ⟨w1, w2, w3, w4⟩ := smWith_V hb hD (show 0 < 8 by decide) (f := smF 8) (fun m S h1 h2 => smF_V hb hD 8 1 m S (by decide) h1 h2) (show p < 7 by omega) hm hS
    rw [moP_s, gB_s]
    cases hbit : bt m 0 p
    · have e := w1 hbit
      rw [e] at w3 ⊢
      have hn : ¬ nI x.1 + -1 < -1 := by
        rw [Int32.lt_iff_toInt_lt, m1_toInt (by omega)]
        show ¬ ((x.1 : Int) - 1 < -1)
        omega
      rw [if_neg hn, if_neg (fun z => absurd z.1 Bool.false_ne_true)]
      exact ih (p + 1) x S (by omega) hx hf hS
    · have e := w2 hbit
      rw [e]
      by_cases hc : x.1 ≤ Wv gd st D 0 (bt m) p
      · rw [if_pos ((m1_lt (by omega) (by omega)).mpr hc), if_pos ⟨rfl, hc⟩, m1_up (Wv gd st D 0 (bt m) p)]
        exact ih (p + 1) (Wv gd st D 0 (bt m) p + 1, nI p) _ (by omega) (by show Wv gd st D 0 (bt m) p + 1 ≤ 2001; omega) rfl w3
      · rw [if_neg (fun z => hc ((m1_lt (by omega) (by omega)).mp z)), if_neg (fun z => hc z.2)]
        exact ih (p + 1) x _ (by omega) hx (w4.trans hf) w3
theorem moE_V (hb : ∀ h p, gd h p ≤ 165) (hD : D ≤ 8) {m : Int64} (hm : subB m may) {x : Nat × Int32} {r : Int32 × SS} (hx : x.1 ≤ 2001) (hr : r.1 = nI x.1 + -1) (hf : eFi r.2 = x.2) (hS : SP gd st may D r.2) :
    (moE m r).1 = nI (gE (Vl gd st (D - 1) 1 (bt m)) x).1 + -1 ∧ eFi (moE m r).2 = (gE (Vl gd st (D - 1) 1 (bt m)) x).2 := by
  obtain ⟨s1, s2, s3⟩ := smF_V hb hD 8 1 m r.2 (by decide) hS hm
  have hle := Vl_le (st := st) hb (D - 1) 1 (bt m)
  unfold moE gE
  rw [s1, hr]
  by_cases hc : x.1 ≤ Vl gd st (D - 1) 1 (bt m)
  · rw [if_pos ((m1_lt (by omega) (by omega)).mpr hc), if_pos hc, ← m1_up]
    exact ⟨rfl, rfl⟩
  · rw [if_neg (fun z => hc ((m1_lt (by omega) (by omega)).mp z)), if_neg hc]
    exact ⟨rfl, s3.trans hf⟩
end MP
theorem gB_ext {W W2 : Nat → Nat} {av av2 : Nat → Bool} : ∀ k c x, (∀ j, c ≤ j → j < c + k → W j = W2 j ∧ av j = av2 j) → gB W av k c x = gB W2 av2 k c x := by
  intro k
  induction k with
  | zero => exact fun _ _ _ => rfl
  | succ k ih =>
    intro c x h
    rw [gB_s, gB_s, (h c (Nat.le_refl _) (by omega)).1, (h c (Nat.le_refl _) (by omega)).2]
    exact ih (c + 1) _ (fun j h1 h2 => h j (by omega) (by omega))
/-- the most, and who helps first: of the model's rows -/
def mBest (M : MS) (l : List Nat) : Nat × Int32 := gE (Vl (gd0M M l) (st0M M l) (l.length - 1) 1 (a0M M l)) (gB (Wv (gd0M M l) (st0M M l) l.length 0 (a0M M l)) (a0M M l 0) 7 0 (0, -9))
theorem R_most {E : ET} {M : MS} (hT : RT (fT E) M) (hB : SB M (HLs M)) (hyr : yrB M) (h8 : (HLs M).length ≤ 8) : (sMost E).1 = nI (mBest M (HLs M)).1 + -1 ∧ eFi (fS (sMost E).2) = (mBest M (HLs M)).2 := by
  obtain ⟨y0, hy1, hy2⟩ := hyr
  have eyr : tYr (fT E) = nI y0 := hT.1.1.2.2.1.trans hy2
  have hTy : RTy (fT E) M := by
    unfold RTy
    rw [← hT.1.1.2.2.1]
    exact hT
  have eH : HLs M = hlY M y0 (10 - y0) := by unfold HLs; rw [hy2, nI_clamp (by omega)]
  obtain ⟨q1, q2⟩ := LS_lhY hT hB.1.2.1 (10 - y0) y0 (esHd (fS E) 0) [] (by omega) ⟨by show 0 ≤ 8; omega, rfl, fun j hj => absurd hj (Nat.not_lt_zero j)⟩ (by rw [← eH]; show 0 + _ ≤ 8; omega)
  rw [← eH] at q1
  have q1 : LsS (lhY (fT E) y0 (10 - y0) (esHd (fS E) 0)) (HLs M) := q1
  have eL : sList (fT E) (fS E) = lhY (fT E) y0 (10 - y0) (esHd (fS E) 0) := by unfold sList; rw [eyr, nI_clamp (by omega)]
  generalize HLs M = l at *
  have hS0 : LsS (fS (mo0 E)) l := by
    have : LsS (sList (fT E) (fS E)) l := by rw [eL]; exact q1
    exact this
  have hT0 : RTy (fT (mo0 E)) M := hTy
  have hm : ∀ j q, j < 8 → q < 7 → bt (moM E) j q = a0M M l j q := fun j q hj hq => by
    have := mayB_b hS0 hB.2 hT0 (h0 := 0) (Nat.zero_le _) hj hq
    rw [decide_eq_true (Nat.zero_le j), Bool.true_and] at this
    exact this
  have hT1 : RTy (fT (mo1 E)) M := mfT_y _ _ _ _ hT0
  have hS1 : LsS (fS (mo1 E)) l := hS0
  have eHd : sHands (fS (mo1 E)) = l.length := by unfold sHands; rw [hS1.2.1, nI_clamp (by omega)]
  have hk1 : ∀ i, i < 1024 → eSk (fS (mo1 E)) i = 0 := fun i hi => by
    show (if i < 1024 then (0 : Int64) else _) = 0
    rw [if_pos hi]
  obtain ⟨t1, t2, t3, t4⟩ := moH_F hB hm l.length 0 (mo1 E) (fun _ _ => False) (Nat.zero_add _) hS1 hT1 (fun a b _ _ hd => hd.elim)
  have e2 : mo2 E = moH (moM E) 0 l.length (mo1 E) := by unfold mo2; rw [eHd]
  have hb : ∀ h p, gd0M M l h p ≤ 165 := fun h p => Nat.min_le_left _ _
  have hsub : subB (moM E) (moM E) := fun _ _ _ _ h => h
  have hSP : SP (gd0M M l) (st0M M l) (moM E) l.length (esFi (fS (mo2 E)) (-9)) := by
    rw [e2]
    refine ⟨t1.2.1, fun h p hh hp hbit => ?_, fun i hi hne => ?_⟩
    · rw [hm h p hh hp] at hbit
      have hlt : h < l.length := by
        unfold a0M at hbit
        exact of_decide_eq_true (Bool.and_eq_true _ _ ▸ hbit).1
      exact t4 h p hlt hp (Or.inr (Nat.zero_le _)) hbit
    · have : eSk (fS (moH (moM E) 0 l.length (mo1 E))) i = 0 := by rw [t3]; exact hk1 i hi
      exact absurd this hne
  obtain ⟨r1, r2, r3⟩ := moP_V hb h8 hsub 7 0 (0, -9) (esFi (fS (mo2 E)) (-9)) rfl (by show 0 ≤ 2001; omega) rfl hSP
  have hW : ∀ c, Wv (gd0M M l) (st0M M l) l.length 0 (bt (moM E)) c ≤ 2000 := fun c => Wv_le hb h8 0 _ c
  have hle := gB_le (av := bt (moM E) 0) hW 7 0 (0, -9) (by show 0 ≤ 2001; omega)
  obtain ⟨s1, s2⟩ := moE_V hb h8 hsub hle r1 r2 r3
  have eV : Vl (gd0M M l) (st0M M l) (l.length - 1) 1 (bt (moM E)) = Vl (gd0M M l) (st0M M l) (l.length - 1) 1 (a0M M l) := Vl_ext _ _ _ _ (fun j q h1 h2 h3 => hm j q (by omega) h3)
  have eG : gB (Wv (gd0M M l) (st0M M l) l.length 0 (bt (moM E))) (bt (moM E) 0) 7 0 (0, -9) = gB (Wv (gd0M M l) (st0M M l) l.length 0 (a0M M l)) (a0M M l 0) 7 0 (0, -9) := gB_ext _ _ _ (fun j h1 h2 => by
    refine ⟨?_, hm 0 j (by decide) (by omega)⟩
    unfold Wv
    rw [hm 0 j (by decide) (by omega)]
    have : Vl (gd0M M l) (st0M M l) (l.length - (0 + 1)) (0 + 1) (stA (bt (moM E)) (st0M M l) 0 j) = Vl (gd0M M l) (st0M M l) (l.length - (0 + 1)) (0 + 1) (stA (a0M M l) (st0M M l) 0 j) := Vl_ext _ _ _ _ (fun i q h1 h2 h3 => by unfold stA; rw [hm i q (by omega) h3])
    rw [this])
  rw [eV, eG] at s1 s2
  exact ⟨s1, s2⟩
end
