noncomputable section
/-- the model reads at p what the class has there -/
def AtL (L : LtS) (s : MS) (p t : Nat) : Prop := mS 28 s = nI p ∧ mS 27 s = nI t ∧ p ≤ t ∧ t ≤ 64 ∧ lLn L = nI t ∧ ∀ j, j < t → lFd L j = mA 23 s j
theorem uNx_l {L : LtS} {s : MS} {p t : Nat} (h : AtL L s p t) : uNx s = lLet L (nI p) := by
  obtain ⟨h1, h2, h3, h4, h5, h6⟩ := h
  unfold uNx lLet
  rw [h1, h2, h5]
  by_cases hp : p < t
  · rw [if_pos ((nI_ltJ (by omega) (by omega)).mpr hp), if_neg, nI_clamp (by omega)]
    · exact (h6 p hp).symm
    · rintro (z | z | z)
      · exact nI_nlt0 (by omega) z
      · rw [nI_leJ (by omega) (by omega)] at z
        omega
      · have z : nI 64 ≤ nI p := z
        rw [nI_leJ (by omega) (by omega)] at z
        omega
  · rw [if_neg (fun z => hp ((nI_ltJ (by omega) (by omega)).mp z)), if_pos (Or.inr (Or.inl ((nI_leJ (by omega) (by omega)).mpr (by omega))))]
theorem lt_l {L : LtS} {s : MS} {p t : Nat} (h : AtL L s p t) (hn : ¬ lLet L (nI p) = -1) : p < t := by
  have h1 := uNx_lt (M := s) (by rw [uNx_l h]; exact hn)
  obtain ⟨e1, e2, h3, h4, -, -⟩ := h
  rw [e1, e2, nI_ltJ (by omega) (by omega)] at h1
  exact h1
theorem uDg_l {L : LtS} {s : MS} {p t : Nat} (h : AtL L s p t) : uDg s = lDig L (nI p) := by
  unfold uDg uIn lDig
  rw [uNx_l h]
theorem lDig_lt {L : LtS} {s : MS} {p t : Nat} (h : AtL L s p t) (hd : lDig L (nI p) = true) : p < t := lt_l h (fun z => by
  unfold lDig at hd
  rw [z] at hd
  exact absurd hd (by decide))
theorem AtL_go {L : LtS} {s : MS} {p t : Nat} (h : AtL L s p t) (hp : p < t) : AtL L (uGo s) (p + 1) t := by
  obtain ⟨h1, h2, h3, h4, h5, h6⟩ := h
  exact ⟨by unfold uGo; rw [mS_S, if_pos rfl, h1]; exact nI_1 p, h2, hp, h4, h5, h6⟩
theorem AtL_told {L : LtS} {s : MS} {p t : Nat} (h : AtL L s p t) (k : Nat) (v : Int32) : AtL L (maA 26 s k v) p t := h
/-- the letters of a form, one after the other -/
def lJ (L : LtS) : List Int32 → Nat → Bool × Nat
  | [], p => (true, p)
  | c :: cs, p => if (if c = 100 then lDig L (nI p) else decide (lLet L (nI p) = c)) = true then lJ L cs (p + 1) else (false, p)
theorem lJ_c (L : LtS) (c : Int32) (cs : List Int32) (p : Nat) : lJ L (c :: cs) p = if (if c = 100 then lDig L (nI p) else decide (lLet L (nI p) = c)) = true then lJ L cs (p + 1) else (false, p) := rfl
theorem lJ_app (L : LtS) (b : List Int32) : ∀ (a : List Int32) (p : Nat), lJ L (a ++ b) p = if (lJ L a p).1 = true then lJ L b (lJ L a p).2 else (false, (lJ L a p).2) := by
  intro a
  induction a with
  | nil => exact fun p => by rw [List.nil_append]; exact (if_pos rfl).symm
  | cons c cs ih =>
    intro p
    rw [List.cons_append, lJ_c, lJ_c]
    by_cases h : (if c = 100 then lDig L (nI p) else decide (lLet L (nI p) = c)) = true
    · rw [if_pos h, if_pos h]
      exact ih (p + 1)
    · rw [if_neg h, if_neg h]
      exact (if_neg Bool.false_ne_true).symm
theorem lJ_len (L : LtS) : ∀ (a : List Int32) (p : Nat), (lJ L a p).1 = true → (lJ L a p).2 = p + a.length := by
  intro a
  induction a with
  | nil => exact fun p _ => rfl
  | cons c cs ih =>
    intro p h
    rw [lJ_c] at h ⊢
    by_cases hc : (if c = 100 then lDig L (nI p) else decide (lLet L (nI p) = c)) = true
    · rw [if_pos hc] at h ⊢
      rw [ih (p + 1) h, List.length_cons]
      omega
    · rw [if_neg hc] at h
      exact absurd h Bool.false_ne_true
/-- the class's look at a form -/
theorem lIn_J (L : LtS) (ri : Nat) : ∀ (cs : List Int32) (i p : Nat), (∀ j, j < cs.length → chR ri (i + j) = cs.getD j 0) → (lIn L ri i cs.length p).1 = (lJ L cs (p + 1)).1 ∧ (if (lJ L cs (p + 1)).1 = true then (lIn L ri i cs.length p).2 + 1 = (lJ L cs (p + 1)).2 else (lIn L ri i cs.length p).2 = (lJ L cs (p + 1)).2) := by
  intro cs
  induction cs with
  | nil => exact fun i p _ => ⟨rfl, by rw [if_pos (show (lJ L [] (p + 1)).1 = true from rfl)]; rfl⟩
  | cons c cs ih =>
    intro i p h
    have h0 : chR ri i = c := h 0 (by rw [List.length_cons]; omega)
    have hs := ih (i + 1) (p + 1) (fun j hj => by
      have := h (j + 1) (by rw [List.length_cons]; omega)
      rw [show i + 1 + j = i + (j + 1) by omega, this]
      rfl)
    rw [List.length_cons, lIn_s, lJ_c]
    unfold lFits
    rw [h0]
    by_cases hc : (if c = 100 then lDig L (nI (p + 1)) else decide (lLet L (nI (p + 1)) = c)) = true
    · rw [if_pos hc, if_pos hc]
      exact hs
    · rw [if_neg hc, if_neg hc]
      exact ⟨rfl, by rw [if_neg (show ¬ (false, p + 1).1 = true from Bool.false_ne_true)]⟩
/-- what was read is as the form asks; nothing before q was told -/
def Sp (L : LtS) (q : Nat) (s : MS) (p t : Nat) (r : Bool × MS) (cs : List Int32) : Prop := r.1 = (lJ L cs p).1 ∧ AtL L r.2 (lJ L cs p).2 t ∧ (∀ i, ¬ i = 28 → mS i r.2 = mS i s) ∧ (∀ i, ¬ i = 26 → mA i r.2 = mA i s) ∧ ∀ i, i < q → mA 26 r.2 i = mA 26 s i
theorem Sp_le {L : LtS} {q q2 : Nat} {s : MS} {p t : Nat} {r : Bool × MS} {cs : List Int32} (h : Sp L q s p t r cs) (hq : q2 ≤ q) : Sp L q2 s p t r cs := ⟨h.1, h.2.1, h.2.2.1, h.2.2.2.1, fun i hi => h.2.2.2.2 i (by omega)⟩
theorem Sp_an {L : LtS} {q : Nat} {s : MS} {p t : Nat} {r : Bool × MS} {a b : List Int32} {f : MS → Bool × MS} (h : Sp L q s p t r a) (hf : (lJ L a p).1 = true → Sp L q r.2 (lJ L a p).2 t (f r.2) b) : Sp L q s p t (anB r f) (a ++ b) := by
  unfold anB
  unfold Sp
  rw [lJ_app, h.1]
  by_cases hc : (lJ L a p).1 = true
  · obtain ⟨f1, f2, f3, f4, f5⟩ := hf hc
    rw [if_pos hc, if_pos hc]
    exact ⟨f1, f2, fun i hi => (f3 i hi).trans (h.2.2.1 i hi), fun i hi => (f4 i hi).trans (h.2.2.2.1 i hi), fun i hi => (f5 i hi).trans (h.2.2.2.2 i hi)⟩
  · rw [if_neg hc, if_neg hc]
    exact ⟨rfl, h.2⟩
theorem Sp_isN {L : LtS} {s : MS} {p t : Nat} (h : AtL L s p t) {c : Int32} (hc : ¬ c = 100) (hc1 : ¬ c = -1) (q : Nat) : Sp L q s p t (uIsN s c) [c] ∧ mA 26 (uIsN s c).2 = mA 26 s := by
  unfold Sp uIsN
  rw [lJ_c, if_neg hc, uNx_l h]
  by_cases e : lLet L (nI p) = c
  · rw [if_pos e, if_pos (decide_eq_true e)]
    refine ⟨⟨rfl, AtL_go h (lt_l h (by rw [e]; exact hc1)), fun i hi => ?_, fun _ _ => rfl, fun _ _ => rfl⟩, rfl⟩
    unfold uGo
    exact mS_ne hi
  · rw [if_neg e, if_neg (by rw [decide_eq_false e]; exact Bool.false_ne_true)]
    exact ⟨⟨rfl, h, fun _ _ => rfl, fun _ _ => rfl, fun _ _ => rfl⟩, rfl⟩
theorem z10 (x : Int32) : (10 : Int32) * 0 + x - 48 = x - 48 := by grind
theorem z20 (x y : Int32) : (10 : Int32) * (10 * 0 + x - 48) + y - 48 = (x - 48) * 10 + (y - 48) := by grind
theorem lDg_e {L : LtS} {p : Int32} (h : lDig L p = true) : lDg L p = lLet L p - 48 := if_pos h
theorem Sp_rd1 {L : LtS} {s : MS} {p t : Nat} (h : AtL L s p t) (q : Nat) : Sp L q s p t (uRd s q 1) [100] ∧ ((uRd s q 1).1 = true → mA 26 (uRd s q 1).2 q = lDg L (nI p)) := by
  unfold Sp uRd
  rw [lJ_c, if_pos rfl, uDg_l h]
  cases hd : lDig L (nI p)
  · rw [if_neg Bool.false_ne_true, if_neg Bool.false_ne_true]
    exact ⟨⟨rfl, h, fun _ _ => rfl, fun _ _ => rfl, fun _ _ => rfl⟩, fun z => absurd z Bool.false_ne_true⟩
  · rw [if_pos rfl, if_pos rfl]
    have e : rdL 1 0 s = (lDg L (nI p), uGo s) := by
      rw [rdL_s, uDg_l h, hd, if_pos rfl, uNx_l h, z10, lDg_e hd]
      rfl
    rw [e]
    refine ⟨⟨rfl, AtL_told (AtL_go h (lDig_lt h hd)) _ _, fun i hi => ?_, fun i hi => ?_, fun i hi => ?_⟩, fun _ => ?_⟩
    · dsimp only
      rw [mS_a]
      unfold uGo
      exact mS_ne hi
    · dsimp only
      rw [mA_a, if_neg hi]
      rfl
    · dsimp only
      rw [mA_a, if_pos rfl, upd_ne (by omega)]
      rfl
    · dsimp only
      rw [mA_a, if_pos rfl, upd_eq]
theorem Sp_rd2 {L : LtS} {s : MS} {p t : Nat} (h : AtL L s p t) (q : Nat) : Sp L q s p t (uRd s q 2) (if lDig L (nI (p + 1)) = true then [100, 100] else [100]) ∧ ((uRd s q 2).1 = true → mA 26 (uRd s q 2).2 q = if lDig L (nI (p + 1)) = true then lDg L (nI p) * 10 + lDg L (nI (p + 1)) else lDg L (nI p)) := by
  have hc : ∀ cs, (lJ L ((100 : Int32) :: cs) p) = if lDig L (nI p) = true then lJ L cs (p + 1) else (false, p) := fun cs => by rw [lJ_c, if_pos rfl]
  unfold Sp uRd
  rw [uDg_l h]
  cases hd : lDig L (nI p)
  · rw [if_neg Bool.false_ne_true]
    have e : lJ L (if lDig L (nI (p + 1)) = true then [100, 100] else [100]) p = (false, p) := by
      split
      · rw [hc, hd, if_neg Bool.false_ne_true]
      · rw [hc, hd, if_neg Bool.false_ne_true]
    rw [e]
    exact ⟨⟨rfl, h, fun _ _ => rfl, fun _ _ => rfl, fun _ _ => rfl⟩, fun z => absurd z Bool.false_ne_true⟩
  · rw [if_pos rfl]
    have h1 := AtL_go h (lDig_lt h hd)
    cases hd2 : lDig L (nI (p + 1))
    · have e : rdL 2 0 s = (lDg L (nI p), uGo s) := by
        rw [rdL_s, uDg_l h, hd, if_pos rfl, rdL_s, uDg_l h1, hd2, if_neg Bool.false_ne_true, uNx_l h, z10, lDg_e hd]
      rw [e, if_neg Bool.false_ne_true, if_neg Bool.false_ne_true, hc, hd, if_pos rfl]
      refine ⟨⟨rfl, AtL_told h1 _ _, fun i hi => ?_, fun i hi => ?_, fun i hi => ?_⟩, fun _ => ?_⟩
      · dsimp only
        rw [mS_a]
        unfold uGo
        exact mS_ne hi
      · dsimp only
        rw [mA_a, if_neg hi]
        rfl
      · dsimp only
        rw [mA_a, if_pos rfl, upd_ne (by omega)]
        rfl
      · dsimp only
        rw [mA_a, if_pos rfl, upd_eq]
    · have h2 := AtL_go h1 (lDig_lt h1 hd2)
      have e : rdL 2 0 s = (lDg L (nI p) * 10 + lDg L (nI (p + 1)), uGo (uGo s)) := by
        rw [rdL_s, uDg_l h, hd, if_pos rfl, rdL_s, uDg_l h1, hd2, if_pos rfl, uNx_l h, uNx_l h1, z20, lDg_e hd, lDg_e hd2]
        rfl
      rw [e, if_pos rfl, if_pos rfl, hc, hd, if_pos rfl, lJ_c, if_pos rfl, hd2, if_pos rfl]
      refine ⟨⟨rfl, AtL_told h2 _ _, fun i hi => ?_, fun i hi => ?_, fun i hi => ?_⟩, fun _ => ?_⟩
      · dsimp only
        rw [mS_a]
        unfold uGo
        rw [mS_ne hi]
        exact mS_ne hi
      · dsimp only
        rw [mA_a, if_neg hi]
        rfl
      · dsimp only
        rw [mA_a, if_pos rfl, upd_ne (by omega)]
        rfl
      · dsimp only
        rw [mA_a, if_pos rfl, upd_eq]
theorem Sp_rds {L : LtS} {t : Nat} : ∀ (n q : Nat) (s : MS) (p : Nat), AtL L s p t → Sp L q s p t (uRds q n s) (List.replicate n 100) ∧ ((uRds q n s).1 = true → ∀ i, i < n → mA 26 (uRds q n s).2 (q + i) = lDg L (nI (p + i))) := by
  intro n
  induction n with
  | zero => exact fun q s p h => ⟨⟨rfl, h, fun _ _ => rfl, fun _ _ => rfl, fun _ _ => rfl⟩, fun _ i hi => absurd hi (Nat.not_lt_zero i)⟩
  | succ n ih =>
    intro q s p h
    obtain ⟨r1, r2⟩ := Sp_rd1 h q
    have hs : uRds q (n + 1) s = anB (uRd s q 1) (fun M => uRds (q + 1) n M) := rfl
    have hl : List.replicate (n + 1) (100 : Int32) = [100] ++ List.replicate n 100 := rfl
    have hp : (lJ L [100] p).1 = true → (lJ L [100] p).2 = p + 1 := fun z => lJ_len L [100] p z
    have hf : (lJ L [100] p).1 = true → Sp L (q + 1) (uRd s q 1).2 (p + 1) t (uRds (q + 1) n (uRd s q 1).2) (List.replicate n 100) ∧ ((uRds (q + 1) n (uRd s q 1).2).1 = true → ∀ i, i < n → mA 26 (uRds (q + 1) n (uRd s q 1).2).2 (q + 1 + i) = lDg L (nI (p + 1 + i))) := fun z => ih (q + 1) _ (p + 1) (by rw [← hp z]; exact r1.2.1)
    rw [hs, hl]
    refine ⟨Sp_an r1 (fun z => by rw [hp z]; exact Sp_le (hf z).1 (by omega)), fun ht i hi => ?_⟩
    unfold anB at ht ⊢
    by_cases hc : (uRd s q 1).1 = true
    · rw [if_pos hc] at ht ⊢
      dsimp only at ht ⊢
      obtain ⟨g1, g2⟩ := hf (by rw [← r1.1]; exact hc)
      rcases i with _ | i
      · exact (g1.2.2.2.2 q (by omega)).trans (r2 hc)
      · have := g2 ht i (by omega)
        rw [show q + (i + 1) = q + 1 + i by omega, show p + (i + 1) = p + 1 + i by omega]
        exact this
    · rw [if_neg hc] at ht
      exact absurd ht Bool.false_ne_true
end
