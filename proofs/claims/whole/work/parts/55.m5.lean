noncomputable section
def tot : List (Nat × Nat) → Nat
  | [] => 0
  | q :: l => q.2 + tot l
theorem tot_c (q : Nat × Nat) (l : List (Nat × Nat)) : tot (q :: l) = q.2 + tot l := rfl
theorem mA_P (i k : Nat) (M : MS) (u : PS) : mA i (msP k M u) = if i = k then u.2.2 else if i = 30 then u.2.1 else mA i M := rfl
theorem pS_mgP (i k : Nat) (M : MS) : pS i (mgP k M) = mS i M := rfl
theorem uPass_keep {k m c : Nat} {M : MS} (h : ¬ mS 32 M = 0) (hc : mS 33 M = nI c) (hb : c < 2 ^ 31) (hk : ¬ k = 30) : (∀ i, ¬ i = 33 → mS i (uPass k m M) = mS i M) ∧ (∀ i, ¬ i = 30 → mA i (uPass k m M) = mA i M) ∧ mA 30 (uPass k m M) = pasA (mA k M) (mA 30 M) 0 c m := by
  unfold uPass
  rw [hc, nI_clamp hb]
  unfold psP
  rw [if_neg (show ¬ pS 32 (mgP k M) = 0 from h)]
  refine ⟨fun i hi => ?_, fun i hi => ?_, ?_⟩
  · rw [mS_P, pS_S, if_neg hi]
    rfl
  · rw [mA_P, if_neg hi]
    split
    · rename_i e; rw [e]; rfl
    · rfl
  · rw [mA_P, if_neg (fun e => hk e.symm), if_pos rfl]
    rfl
theorem uPass_back {k m c : Nat} {M : MS} (h : mS 32 M = 0) (hc : mS 33 M = nI c) (hb : c < 2 ^ 31) (hk : ¬ k = 30) : (∀ i, ¬ i = 33 → mS i (uPass k m M) = mS i M) ∧ (∀ i, ¬ i = k → mA i (uPass k m M) = mA i M) ∧ mA k (uPass k m M) = pasA (mA 30 M) (mA k M) c 0 m := by
  unfold uPass
  rw [hc, nI_clamp hb]
  unfold psP
  rw [if_pos (show pS 32 (mgP k M) = 0 from h)]
  refine ⟨fun i hi => ?_, fun i hi => ?_, ?_⟩
  · rw [mS_P, pS_S, if_neg hi]
    rfl
  · rw [mA_P, if_neg hi]
    split
    · rename_i e; rw [e]; rfl
    · rfl
  · rw [mA_P, if_pos rfl]
    rfl
theorem kpL : ∀ (l : List (Nat × Nat)) (s s' : MS) (c : Nat), l.foldl (fun s q => uPass q.1 q.2 s) s = s' → ¬ mS 32 s = 0 → mS 33 s = nI c → c + tot l < 2 ^ 31 → (∀ q ∈ l, ¬ q.1 = 30) →
    mS 33 s' = nI (c + tot l) ∧ (∀ i, ¬ i = 33 → mS i s' = mS i s) ∧ (∀ i, ¬ i = 30 → mA i s' = mA i s) ∧ (∀ j, (j < c ∨ c + tot l ≤ j) → mA 30 s' j = mA 30 s j) ∧ (∀ l1 k m l2, l = l1 ++ (k, m) :: l2 → ∀ j, j < m → mA 30 s' (c + tot l1 + j) = mA k s j) := by
  intro l
  induction l with
  | nil =>
    intro s s' c hs h hc hb hk
    have hs : s = s' := hs
    subst hs
    exact ⟨hc, fun _ _ => rfl, fun _ _ => rfl, fun _ _ => rfl, fun l1 k m l2 h => by cases l1 <;> cases h⟩
  | cons q l ih =>
    intro s s' c hs h hc hb hk
    rw [tot_c] at hb
    have hk0 := hk q List.mem_cons_self
    obtain ⟨a1, a2, a3⟩ := uPass_keep (k := q.1) (m := q.2) h hc (by omega) hk0
    have a4 := uPass_33 q.1 q.2 s hc (by omega)
    obtain ⟨b1, b2, b3, b4, b5⟩ := ih (uPass q.1 q.2 s) s' (c + q.2) hs (by rw [a1 32 (by decide)]; exact h) a4 (by omega) (fun x hx => hk x (List.mem_cons_of_mem _ hx))
    refine ⟨by rw [b1, tot_c, Nat.add_assoc], fun i hi => by rw [b2 i hi, a1 i hi], fun i hi => by rw [b3 i hi, a2 i hi], fun j hj => ?_, fun l1 k m l2 he j hj => ?_⟩
    · rw [tot_c] at hj
      rw [b4 j (by omega), a3]
      unfold pasA
      rw [if_neg (by omega)]
    · cases l1 with
      | nil =>
        have he := List.cons.inj he
        have e1 : q = (k, m) := he.1
        subst e1
        have := b4 (c + tot [] + j) (Or.inl (by show c + 0 + j < c + m; omega))
        rw [this, a3]
        unfold pasA
        rw [if_pos (by show c ≤ c + 0 + j ∧ c + 0 + j < c + m; omega), show 0 + (c + tot [] + j - c) = j by show 0 + (c + 0 + j - c) = j; omega]
      | cons q' l1 =>
        have he := List.cons.inj he
        have e1 : q = q' := he.1
        subst e1
        have hm : (k, m) ∈ q :: l := List.mem_cons_of_mem _ (by rw [he.2]; exact List.mem_append_right _ List.mem_cons_self)
        have := b5 l1 k m l2 he.2 j hj
        rw [a2 k (hk _ hm)] at this
        rw [tot_c, ← this]
        exact congrArg _ (by omega)
theorem bkL : ∀ (l : List (Nat × Nat)) (s s' : MS) (c : Nat), l.foldl (fun s q => uPass q.1 q.2 s) s = s' → mS 32 s = 0 → mS 33 s = nI c → c + tot l < 2 ^ 31 → (∀ q ∈ l, ¬ q.1 = 30) →
    mS 33 s' = nI (c + tot l) ∧ (∀ i, ¬ i = 33 → mS i s' = mS i s) ∧ (∀ i, i ∉ l.map (fun q => q.1) → mA i s' = mA i s) ∧ (∀ l1 k m l2, l = l1 ++ (k, m) :: l2 → k ∉ l1.map (fun q => q.1) → k ∉ l2.map (fun q => q.1) → mA k s' = pasA (mA 30 s) (mA k s) (c + tot l1) 0 m) := by
  intro l
  induction l with
  | nil =>
    intro s s' c hs h hc hb hk
    have hs : s = s' := hs
    subst hs
    exact ⟨hc, fun _ _ => rfl, fun _ _ => rfl, fun l1 k m l2 h => by cases l1 <;> cases h⟩
  | cons q l ih =>
    intro s s' c hs h hc hb hk
    rw [tot_c] at hb
    have hk0 := hk q List.mem_cons_self
    obtain ⟨a1, a2, a3⟩ := uPass_back (k := q.1) (m := q.2) h hc (by omega) hk0
    have a4 := uPass_33 q.1 q.2 s hc (by omega)
    obtain ⟨b1, b2, b3, b5⟩ := ih (uPass q.1 q.2 s) s' (c + q.2) hs (by rw [a1 32 (by decide)]; exact h) a4 (by omega) (fun x hx => hk x (List.mem_cons_of_mem _ hx))
    refine ⟨by rw [b1, tot_c, Nat.add_assoc], fun i hi => by rw [b2 i hi, a1 i hi], fun i hi => ?_, fun l1 k m l2 he h1 h2 => ?_⟩
    · rw [List.map_cons, List.mem_cons] at hi
      rw [b3 i (fun z => hi (Or.inr z)), a2 i (fun z => hi (Or.inl z))]
    · cases l1 with
      | nil =>
        have he := List.cons.inj he
        have e1 : q = (k, m) := he.1
        subst e1
        have e2 := he.2
        subst e2
        rw [b3 k h2, a3]
        rfl
      | cons q' l1 =>
        have he := List.cons.inj he
        have e1 : q = q' := he.1
        subst e1
        rw [List.map_cons, List.mem_cons] at h1
        have := b5 l1 k m l2 he.2 (fun z => h1 (Or.inr z)) h2
        rw [this, a2 30 (fun e => hk0 e.symm), a2 k (fun z => h1 (Or.inl z)), tot_c, Nat.add_assoc]
theorem uPn_keep {f c : Nat} {M : MS} (h : ¬ mS 32 M = 0) (hc : mS 33 M = nI c) (hb : c < 2 ^ 31) (hf : ¬ f = 33) : (∀ i, ¬ i = 33 → mS i (uPn f M) = mS i M) ∧ (∀ i, ¬ i = 30 → mA i (uPn f M) = mA i M) ∧ mA 30 (uPn f M) = upd (mA 30 M) c (mS f M) := by
  unfold uPn uP1s uP1v
  rw [if_neg h, if_neg h, hc, nI_clamp hb]
  refine ⟨fun i hi => ?_, fun i hi => ?_, ?_⟩
  · rw [mS_S]
    split
    · rename_i e; rw [e]
    · rw [mS_S, if_neg hi]; rfl
  · rw [mA_S, mA_S, mA_a, if_neg hi]
  · rw [mA_S, mA_S, mA_a, if_pos rfl]
theorem uPn_back {f c : Nat} {M : MS} (h : mS 32 M = 0) (hc : mS 33 M = nI c) (hb : c < 2 ^ 31) (hf : ¬ f = 33) : (∀ i, ¬ i = 33 → ¬ i = f → mS i (uPn f M) = mS i M) ∧ (∀ i, mA i (uPn f M) = mA i M) ∧ mS f (uPn f M) = mA 30 M c := by
  unfold uPn uP1s uP1v
  rw [if_pos h, if_pos h, hc, nI_clamp hb]
  refine ⟨fun i hi hj => ?_, fun i => rfl, ?_⟩
  · rw [mS_S, if_neg hj, mS_S, if_neg hi]
  · rw [mS_S, if_pos rfl]
theorem kpS : ∀ (l : List Nat) (s s' : MS) (c : Nat), l.foldl (fun s f => uPn f s) s = s' → ¬ mS 32 s = 0 → mS 33 s = nI c → c + l.length < 2 ^ 31 → (∀ q ∈ l, ¬ q = 33) →
    (∀ i, ¬ i = 33 → mS i s' = mS i s) ∧ (∀ i, ¬ i = 30 → mA i s' = mA i s) ∧ (∀ j, (j < c ∨ c + l.length ≤ j) → mA 30 s' j = mA 30 s j) ∧ (∀ l1 f l2, l = l1 ++ f :: l2 → mA 30 s' (c + l1.length) = mS f s) := by
  intro l
  induction l with
  | nil =>
    intro s s' c hs h hc hb hk
    have hs : s = s' := hs
    subst hs
    exact ⟨fun _ _ => rfl, fun _ _ => rfl, fun _ _ => rfl, fun l1 f l2 h => by cases l1 <;> cases h⟩
  | cons q l ih =>
    intro s s' c hs h hc hb hk
    rw [List.length_cons] at hb
    have hk0 := hk q List.mem_cons_self
    obtain ⟨a1, a2, a3⟩ := uPn_keep (f := q) h hc (by omega) hk0
    have a4 := uPn_33 q (fun z => hk0 z.symm) s hc
    obtain ⟨b2, b3, b4, b5⟩ := ih (uPn q s) s' (c + 1) hs (by rw [a1 32 (by decide)]; exact h) a4 (by omega) (fun x hx => hk x (List.mem_cons_of_mem _ hx))
    refine ⟨fun i hi => by rw [b2 i hi, a1 i hi], fun i hi => by rw [b3 i hi, a2 i hi], fun j hj => ?_, fun l1 f l2 he => ?_⟩
    · rw [List.length_cons] at hj
      rw [b4 j (by omega), a3, upd_ne (by omega)]
    · cases l1 with
      | nil =>
        have he := List.cons.inj he
        have e1 : q = f := he.1
        subst e1
        rw [b4 _ (Or.inl (by show c + 0 < c + 1; omega)), a3]
        exact upd_eq
      | cons q' l1 =>
        have he := List.cons.inj he
        have e1 : q = q' := he.1
        subst e1
        have hm : f ∈ q :: l := List.mem_cons_of_mem _ (by rw [he.2]; exact List.mem_append_right _ List.mem_cons_self)
        have := b5 l1 f l2 he.2
        rw [a1 f (hk _ hm)] at this
        rw [← this]
        exact congrArg _ (by rw [List.length_cons]; omega)
theorem bkS : ∀ (l : List Nat) (s s' : MS) (c : Nat), l.foldl (fun s f => uPn f s) s = s' → mS 32 s = 0 → mS 33 s = nI c → c + l.length < 2 ^ 31 → (∀ q ∈ l, ¬ q = 33 ∧ ¬ q = 32) →
    (∀ i, ¬ i = 33 → i ∉ l → mS i s' = mS i s) ∧ (∀ i, mA i s' = mA i s) ∧ (∀ l1 f l2, l = l1 ++ f :: l2 → f ∉ l2 → mS f s' = mA 30 s (c + l1.length)) := by
  intro l
  induction l with
  | nil =>
    intro s s' c hs h hc hb hk
    have hs : s = s' := hs
    subst hs
    exact ⟨fun _ _ _ => rfl, fun _ => rfl, fun l1 f l2 h => by cases l1 <;> cases h⟩
  | cons q l ih =>
    intro s s' c hs h hc hb hk
    rw [List.length_cons] at hb
    have hk0 := hk q List.mem_cons_self
    obtain ⟨a1, a2, a3⟩ := uPn_back (f := q) h hc (by omega) hk0.1
    have a4 := uPn_33 q (fun z => hk0.1 z.symm) s hc
    obtain ⟨b2, b3, b5⟩ := ih (uPn q s) s' (c + 1) hs (by rw [a1 32 (by decide) (fun z => hk0.2 z.symm)]; exact h) a4 (by omega) (fun x hx => hk x (List.mem_cons_of_mem _ hx))
    refine ⟨fun i hi hj => ?_, fun i => by rw [b3 i, a2 i], fun l1 f l2 he h2 => ?_⟩
    · rw [List.mem_cons] at hj
      rw [b2 i hi (fun z => hj (Or.inr z)), a1 i hi (fun z => hj (Or.inl z))]
    · cases l1 with
      | nil =>
        have he := List.cons.inj he
        have e1 : q = f := he.1
        subst e1
        have e2 := he.2
        subst e2
        rw [b2 q hk0.1 h2, a3]
        rfl
      | cons q' l1 =>
        have he := List.cons.inj he
        have e1 : q = q' := he.1
        subst e1
        have := b5 l1 f l2 he.2 h2
        rw [this, a2 30]
        exact congrArg _ (by rw [List.length_cons]; omega)
/-- what is passed: array, how many, where -/
def paT : List (Nat × Nat × Nat) := [(1, 7, 0), (2, 7, 7), (3, 28, 14), (4, 12, 42), (5, 12, 54), (6, 12, 66), (7, 12, 78), (8, 12, 90), (9, 12, 102), (10, 60, 114), (11, 60, 174), (12, 60, 234), (13, 60, 294), (14, 60, 354)]
/-- K holds the town of M at place w -/
def kpt (w : Nat) (M : MS) (K : Nat → Int32) : Prop := (∀ q ∈ paT, ∀ j, j < q.2.1 → K (500 * w + q.2.2 + j) = mA q.1 M j) ∧ ∀ i, i < 8 → K (500 * w + 414 + i) = mS (15 + i) M
theorem cur_w {w : Nat} (hw : w ≤ 1) : (500 : Int32) * nI w = nI (500 * w) := by rw [show (500 : Int32) = nI 500 from rfl, pk_mul]
theorem uPA_keep {w : Nat} (hw : w ≤ 1) (M : MS) : (∀ i, ¬ i = 32 → ¬ i = 33 → mS i (uPA M (nI w) 1) = mS i M) ∧ (∀ i, ¬ i = 30 → mA i (uPA M (nI w) 1) = mA i M) ∧ kpt w M (mA 30 (uPA M (nI w) 1)) ∧ ∀ j, (j < 500 * w ∨ 500 * w + 422 ≤ j) → mA 30 (uPA M (nI w) 1) j = mA 30 M j := by
  unfold uPA
  generalize h0 : msS 32 (msS 33 M (500 * nI w)) 1 = s0
  have e32 : ¬ mS 32 s0 = 0 := by rw [← h0]; exact (by decide : ¬ (1 : Int32) = 0)
  have e33 : mS 33 s0 = nI (500 * w) := by rw [← h0, ← cur_w hw]; rfl
  have eS : ∀ i, ¬ i = 32 → ¬ i = 33 → mS i s0 = mS i M := fun i h1 h2 => by rw [← h0, mS_S, if_neg h1, mS_S, if_neg h2]
  have eA : ∀ i, mA i s0 = mA i M := fun i => by rw [← h0]; rfl
  generalize h1 : uPlist.foldl (fun s q => uPass q.1 q.2 s) s0 = s1
  obtain ⟨a1, a2, a3, a4, a5⟩ := kpL uPlist s0 s1 (500 * w) h1 e32 e33 (by show 500 * w + 414 < 2 ^ 31; omega) (by decide)
  generalize h2 : [15, 16, 17, 18, 19, 20, 21, 22].foldl (fun s f => uPn f s) s1 = s2
  have t0 : 500 * w + tot uPlist = 500 * w + 414 := rfl
  rw [t0] at a1 a4
  obtain ⟨b2, b3, b4, b5⟩ := kpS _ s1 s2 (500 * w + 414) h2 (by rw [a2 32 (by decide)]; exact e32) a1 (by show 500 * w + 414 + 8 < 2 ^ 31; omega) (by decide)
  have hl : ([15, 16, 17, 18, 19, 20, 21, 22] : List Nat).length = 8 := rfl
  rw [hl] at b4
  refine ⟨fun i h1 h2 => by rw [b2 i h2, a2 i h2, eS i h1 h2], fun i hi => by rw [b3 i hi, a3 i hi, eA i], ⟨?_, ?_⟩, fun j hj => by rw [b4 j (by omega), a4 j (by omega), eA]⟩
  · have key : ∀ l1 k m l2, uPlist = l1 ++ (k, m) :: l2 → ∀ o, tot l1 = o → o + m ≤ 414 → ∀ j, j < m → mA 30 s2 (500 * w + o + j) = mA k M j := by
      intro l1 k m l2 he o ho hb j hj
      rw [b4 _ (by omega), ← ho, a5 l1 k m l2 he j hj, eA]
    unfold paT
    simp only [List.forall_mem_cons]
    refine ⟨key [] 1 7 _ rfl 0 rfl (by decide), key [(1, 7)] 2 7 _ rfl 7 rfl (by decide), key [(1, 7), (2, 7)] 3 28 _ rfl 14 rfl (by decide), key [(1, 7), (2, 7), (3, 28)] 4 12 _ rfl 42 rfl (by decide), key [(1, 7), (2, 7), (3, 28), (4, 12)] 5 12 _ rfl 54 rfl (by decide), key [(1, 7), (2, 7), (3, 28), (4, 12), (5, 12)] 6 12 _ rfl 66 rfl (by decide), key [(1, 7), (2, 7), (3, 28), (4, 12), (5, 12), (6, 12)] 7 12 _ rfl 78 rfl (by decide), key [(1, 7), (2, 7), (3, 28), (4, 12), (5, 12), (6, 12), (7, 12)] 8 12 _ rfl 90 rfl (by decide), key [(1, 7), (2, 7), (3, 28), (4, 12), (5, 12), (6, 12), (7, 12), (8, 12)] 9 12 _ rfl 102 rfl (by decide), key [(1, 7), (2, 7), (3, 28), (4, 12), (5, 12), (6, 12), (7, 12), (8, 12), (9, 12)] 10 60 _ rfl 114 rfl (by decide), key [(1, 7), (2, 7), (3, 28), (4, 12), (5, 12), (6, 12), (7, 12), (8, 12), (9, 12), (10, 60)] 11 60 _ rfl 174 rfl (by decide), key [(1, 7), (2, 7), (3, 28), (4, 12), (5, 12), (6, 12), (7, 12), (8, 12), (9, 12), (10, 60), (11, 60)] 12 60 _ rfl 234 rfl (by decide), key [(1, 7), (2, 7), (3, 28), (4, 12), (5, 12), (6, 12), (7, 12), (8, 12), (9, 12), (10, 60), (11, 60), (12, 60)] 13 60 _ rfl 294 rfl (by decide), key [(1, 7), (2, 7), (3, 28), (4, 12), (5, 12), (6, 12), (7, 12), (8, 12), (9, 12), (10, 60), (11, 60), (12, 60), (13, 60)] 14 60 _ rfl 354 rfl (by decide), fun _ h => absurd h List.not_mem_nil⟩
  · intro i hi
    have key : ∀ l1 f l2, [15, 16, 17, 18, 19, 20, 21, 22] = l1 ++ f :: l2 → ¬ f = 32 → ¬ f = 33 → mA 30 s2 (500 * w + 414 + l1.length) = mS f M := by
      intro l1 f l2 he h1 h2
      rw [b5 l1 f l2 he, a2 f h2, eS f h1 h2]
    rcases i with _ | _ | _ | _ | _ | _ | _ | _ | i
    · exact key [] 15 _ rfl (by decide) (by decide)
    · exact key [15] 16 _ rfl (by decide) (by decide)
    · exact key [15, 16] 17 _ rfl (by decide) (by decide)
    · exact key [15, 16, 17] 18 _ rfl (by decide) (by decide)
    · exact key [15, 16, 17, 18] 19 _ rfl (by decide) (by decide)
    · exact key [15, 16, 17, 18, 19] 20 _ rfl (by decide) (by decide)
    · exact key [15, 16, 17, 18, 19, 20] 21 _ rfl (by decide) (by decide)
    · exact key [15, 16, 17, 18, 19, 20, 21] 22 _ rfl (by decide) (by decide)
    · omega
theorem kpt_of {w : Nat} {M M' : MS} {K K' : Nat → Int32} (h : kpt w M K) (hK : ∀ j, 500 * w ≤ j → j < 500 * w + 422 → K' j = K j) (hA : ∀ i, 1 ≤ i → i ≤ 14 → mA i M' = mA i M) (hS : ∀ i, i < 8 → mS (15 + i) M' = mS (15 + i) M) : kpt w M' K' := by
  refine ⟨fun q hq j hj => ?_, fun i hi => ?_⟩
  · have hb : 1 ≤ q.1 ∧ q.1 ≤ 14 ∧ q.2.2 + q.2.1 ≤ 414 := by
      have : ∀ q ∈ paT, 1 ≤ q.1 ∧ q.1 ≤ 14 ∧ q.2.2 + q.2.1 ≤ 414 := by decide
      exact this q hq
    rw [hK _ (by omega) (by omega), h.1 q hq j hj, hA _ hb.1 hb.2.1]
  · rw [hK _ (by omega) (by omega), h.2 i hi, hS i hi]
/-- the same town -/
def eqT (A C : MS) : Prop := (∀ q ∈ uPlist, ∀ j, j < q.2 → mA q.1 A j = mA q.1 C j) ∧ ∀ i, i < 8 → mS (15 + i) A = mS (15 + i) C
theorem uPA_back {w : Nat} (hw : w ≤ 1) (M : MS) : (∀ i, ¬ i = 32 → ¬ i = 33 → (i < 15 ∨ 22 < i) → mS i (uPA M (nI w) 0) = mS i M) ∧ (∀ i, (i = 0 ∨ 14 < i) → mA i (uPA M (nI w) 0) = mA i M) ∧ (∀ q ∈ paT, mA q.1 (uPA M (nI w) 0) = pasA (mA 30 M) (mA q.1 M) (500 * w + q.2.2) 0 q.2.1) ∧ ∀ i, i < 8 → mS (15 + i) (uPA M (nI w) 0) = mA 30 M (500 * w + 414 + i) := by
  unfold uPA
  generalize h0 : msS 32 (msS 33 M (500 * nI w)) 0 = s0
  have e32 : mS 32 s0 = 0 := by rw [← h0]; rfl
  have e33 : mS 33 s0 = nI (500 * w) := by rw [← h0, ← cur_w hw]; rfl
  have eS : ∀ i, ¬ i = 32 → ¬ i = 33 → mS i s0 = mS i M := fun i h1 h2 => by rw [← h0, mS_S, if_neg h1, mS_S, if_neg h2]
  have eA : ∀ i, mA i s0 = mA i M := fun i => by rw [← h0]; rfl
  generalize h1 : uPlist.foldl (fun s q => uPass q.1 q.2 s) s0 = s1
  obtain ⟨a1, a2, a3, a5⟩ := bkL uPlist s0 s1 (500 * w) h1 e32 e33 (by show 500 * w + 414 < 2 ^ 31; omega) (by decide)
  generalize h2 : [15, 16, 17, 18, 19, 20, 21, 22].foldl (fun s f => uPn f s) s1 = s2
  have t0 : 500 * w + tot uPlist = 500 * w + 414 := rfl
  rw [t0] at a1
  obtain ⟨b2, b3, b5⟩ := bkS _ s1 s2 (500 * w + 414) h2 (by rw [a2 32 (by decide)]; exact e32) a1 (by show 500 * w + 414 + 8 < 2 ^ 31; omega) (by decide)
  have hkeys : ∀ i, (i = 0 ∨ 14 < i) → i ∉ uPlist.map (fun q => q.1) := by
    intro i hi hm
    have : ∀ x ∈ uPlist.map (fun q => q.1), 1 ≤ x ∧ x ≤ 14 := by decide
    have := this i hm
    omega
  have hfs : ∀ i, (i < 15 ∨ 22 < i) → i ∉ [15, 16, 17, 18, 19, 20, 21, 22] := by
    intro i hi hm
    have : ∀ x ∈ [15, 16, 17, 18, 19, 20, 21, 22], 15 ≤ x ∧ x ≤ 22 := by decide
    have := this i hm
    omega
  refine ⟨fun i h1 h2 h3 => by rw [b2 i h2 (hfs i h3), a2 i h2, eS i h1 h2], fun i hi => by rw [b3 i, a3 i (hkeys i hi), eA i], ?_, ?_⟩
  · have key : ∀ l1 k m l2, uPlist = l1 ++ (k, m) :: l2 → ∀ o, tot l1 = o → k ∉ l1.map (fun q => q.1) → k ∉ l2.map (fun q => q.1) → mA k s2 = pasA (mA 30 M) (mA k M) (500 * w + o) 0 m := by
      intro l1 k m l2 he o ho hn1 hn2
      rw [b3, a5 l1 k m l2 he hn1 hn2, eA, eA, ho]
    unfold paT
    simp only [List.forall_mem_cons]
    refine ⟨key [] 1 7 _ rfl 0 rfl (by decide) (by decide), key [(1, 7)] 2 7 _ rfl 7 rfl (by decide) (by decide), key [(1, 7), (2, 7)] 3 28 _ rfl 14 rfl (by decide) (by decide), key [(1, 7), (2, 7), (3, 28)] 4 12 _ rfl 42 rfl (by decide) (by decide), key [(1, 7), (2, 7), (3, 28), (4, 12)] 5 12 _ rfl 54 rfl (by decide) (by decide), key [(1, 7), (2, 7), (3, 28), (4, 12), (5, 12)] 6 12 _ rfl 66 rfl (by decide) (by decide), key [(1, 7), (2, 7), (3, 28), (4, 12), (5, 12), (6, 12)] 7 12 _ rfl 78 rfl (by decide) (by decide), key [(1, 7), (2, 7), (3, 28), (4, 12), (5, 12), (6, 12), (7, 12)] 8 12 _ rfl 90 rfl (by decide) (by decide), key [(1, 7), (2, 7), (3, 28), (4, 12), (5, 12), (6, 12), (7, 12), (8, 12)] 9 12 _ rfl 102 rfl (by decide) (by decide), key [(1, 7), (2, 7), (3, 28), (4, 12), (5, 12), (6, 12), (7, 12), (8, 12), (9, 12)] 10 60 _ rfl 114 rfl (by decide) (by decide), key [(1, 7), (2, 7), (3, 28), (4, 12), (5, 12), (6, 12), (7, 12), (8, 12), (9, 12), (10, 60)] 11 60 _ rfl 174 rfl (by decide) (by decide), key [(1, 7), (2, 7), (3, 28), (4, 12), (5, 12), (6, 12), (7, 12), (8, 12), (9, 12), (10, 60), (11, 60)] 12 60 _ rfl 234 rfl (by decide) (by decide), key [(1, 7), (2, 7), (3, 28), (4, 12), (5, 12), (6, 12), (7, 12), (8, 12), (9, 12), (10, 60), (11, 60), (12, 60)] 13 60 _ rfl 294 rfl (by decide) (by decide), key [(1, 7), (2, 7), (3, 28), (4, 12), (5, 12), (6, 12), (7, 12), (8, 12), (9, 12), (10, 60), (11, 60), (12, 60), (13, 60)] 14 60 _ rfl 354 rfl (by decide) (by decide), fun _ h => absurd h List.not_mem_nil⟩
  · intro i hi
    have key : ∀ l1 f l2, [15, 16, 17, 18, 19, 20, 21, 22] = l1 ++ f :: l2 → f ∉ l2 → mS f s2 = mA 30 M (500 * w + 414 + l1.length) := by
      intro l1 f l2 he hn
      rw [b5 l1 f l2 he hn, a3 30 (hkeys 30 (Or.inr (by decide))), eA]
    rcases i with _ | _ | _ | _ | _ | _ | _ | _ | i
    · exact key [] 15 _ rfl (by decide)
    · exact key [15] 16 _ rfl (by decide)
    · exact key [15, 16] 17 _ rfl (by decide)
    · exact key [15, 16, 17] 18 _ rfl (by decide)
    · exact key [15, 16, 17, 18] 19 _ rfl (by decide)
    · exact key [15, 16, 17, 18, 19] 20 _ rfl (by decide)
    · exact key [15, 16, 17, 18, 19, 20] 21 _ rfl (by decide)
    · exact key [15, 16, 17, 18, 19, 20, 21] 22 _ rfl (by decide)
    · omega
/-- behind the putting back of what was kept of M0 -/
theorem uPA_eqT {w : Nat} (hw : w ≤ 1) {M M0 : MS} (h : kpt w M0 (mA 30 M)) : eqT (uPA M (nI w) 0) M0 ∧ (∀ q ∈ uPlist, ∀ j, q.2 ≤ j → mA q.1 (uPA M (nI w) 0) j = mA q.1 M j) := by
  obtain ⟨-, -, a3, a4⟩ := uPA_back hw M
  have hq : ∀ q ∈ uPlist, ∃ o, (q.1, q.2, o) ∈ paT := by
    unfold uPlist
    simp only [List.forall_mem_cons]
    exact ⟨⟨0, by decide⟩, ⟨7, by decide⟩, ⟨14, by decide⟩, ⟨42, by decide⟩, ⟨54, by decide⟩, ⟨66, by decide⟩, ⟨78, by decide⟩, ⟨90, by decide⟩, ⟨102, by decide⟩, ⟨114, by decide⟩, ⟨174, by decide⟩, ⟨234, by decide⟩, ⟨294, by decide⟩, ⟨354, by decide⟩, fun _ h => absurd h List.not_mem_nil⟩
  refine ⟨⟨fun q hm j hj => ?_, fun i hi => by rw [a4 i hi, h.2 i hi]⟩, fun q hm j hj => ?_⟩
  · obtain ⟨o, ho⟩ := hq q hm
    have e1 := a3 _ ho
    have e2 := h.1 _ ho j hj
    dsimp only at e1 e2
    rw [e1, ← e2]
    unfold pasA
    rw [if_pos (by omega)]
    exact congrArg _ (by omega)
  · obtain ⟨o, ho⟩ := hq q hm
    have e1 := a3 _ ho
    dsimp only at e1
    rw [e1]
    unfold pasA
    rw [if_neg (by omega)]
end
