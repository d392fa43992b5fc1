noncomputable section
def hC (M : MS) (y k : Nat) : Nat := if Yn M k = y then HLn M k else 0
/-- the hands that are left in a year, and in years -/
def hlK (M : MS) (y : Nat) : Nat → Nat → List Nat
  | _, 0 => []
  | k, n + 1 => List.replicate (hC M y k) k ++ hlK M y (k + 1) n
def hlY (M : MS) : Nat → Nat → List Nat
  | _, 0 => []
  | y, n + 1 => hlK M y 0 (uNeeds M) ++ hlY M (y + 1) n
def HLs (M : MS) : List Nat := hlY M (mS 22 M).toNatClampNeg (10 - (mS 22 M).toNatClampNeg)
def LsS (S : SS) (l : List Nat) : Prop := l.length ≤ 8 ∧ eHd S = nI l.length ∧ ∀ j, j < l.length → eNh S j = nI (l.getD j 0)
theorem getD_app {l : List Nat} {k j : Nat} (h : j < l.length) : (l ++ [k]).getD j 0 = l.getD j 0 := by
  rw [List.getD_eq_getElem?_getD, List.getD_eq_getElem?_getD, List.getElem?_append_left h]
theorem getD_end {l : List Nat} {k : Nat} : (l ++ [k]).getD l.length 0 = k := by
  rw [List.getD_eq_getElem?_getD, List.getElem?_append_right (Nat.le_refl _), Nat.sub_self]
  rfl
theorem LS_push {S : SS} {l : List Nat} (h : LsS S l) (hl : l.length < 8) (k : Nat) : LsS (sPush S (nI k)) (l ++ [k]) ∧ eSk (sPush S (nI k)) = eSk S := by
  obtain ⟨h1, h2, h3⟩ := h
  unfold sPush
  rw [h2, if_pos (show nI l.length < (8 : Int32) from (nI_ltJ (b := 8) (by omega) (by decide)).mpr hl), nI_clamp (by omega), nI_1]
  refine ⟨⟨by rw [List.length_append]; show l.length + 1 ≤ 8; omega, by rw [List.length_append]; rfl, fun j hj => ?_⟩, rfl⟩
  rw [List.length_append] at hj
  have hj : j < l.length + 1 := hj
  show (if j = l.length then nI k else eNh S j) = _
  by_cases e : j = l.length
  · rw [if_pos e, e, getD_end]
  · rw [if_neg e, getD_app (by omega)]
    exact h3 j (by omega)
theorem LS_pushN (k : Nat) : ∀ n (S : SS) (l : List Nat), LsS S l → l.length + n ≤ 8 → LsS (sPushN (nI k) n S) (l ++ List.replicate n k) ∧ eSk (sPushN (nI k) n S) = eSk S := by
  intro n
  induction n with
  | zero => exact fun S l h _ => ⟨by rw [List.replicate_zero, List.append_nil]; exact h, rfl⟩
  | succ n ih =>
    intro S l h hl
    rw [sPushN_s]
    obtain ⟨p1, p2⟩ := LS_push h (by omega) k
    obtain ⟨i1, i2⟩ := ih _ _ p1 (by rw [List.length_append]; show l.length + 1 + n ≤ 8; omega)
    rw [List.append_assoc] at i1
    exact ⟨i1, i2.trans p2⟩
theorem lhC_n {T : TS} {M : MS} (h : RT T M) (hv : VB M) {k y : Nat} (hk : k < uNeeds M) (hy : y < 1000) : (lhC T (nI y) (nI k)).toNatClampNeg = hC M y k := by
  have h12 := (nnB_c h.2.1.2).2
  obtain ⟨⟨yy, y1, y2⟩, -⟩ := hv k hk
  have hhl : HLn M k ≤ 3 := by
    obtain ⟨-, hh, d, d1, d2, d3, d4⟩ := hv k hk
    unfold HLn
    rw [d3, d4, nI_clamp (by omega), nI_clamp (by omega)]
    omega
  unfold lhC hC
  rw [RN_y (h.2.2.1 k (by omega)), y2, tHL_n h hv hk, Yn_e y2 y1]
  by_cases e : yy = y
  · rw [if_pos e, if_pos (by rw [e]), nI_clamp (by omega)]
  · rw [if_neg e, if_neg (fun z => e ((nI_inj (by omega) (by omega)).mp z))]
    rfl
theorem LS_lhK {T : TS} {M : MS} (h : RT T M) (hv : VB M) {y : Nat} (hy : y < 1000) : ∀ n k (S : SS) (l : List Nat), k + n ≤ uNeeds M → LsS S l → l.length + (hlK M y k n).length ≤ 8 → LsS (lhK T (nI y) k n S) (l ++ hlK M y k n) ∧ eSk (lhK T (nI y) k n S) = eSk S := by
  intro n
  induction n with
  | zero => exact fun k S l _ hS _ => ⟨by show LsS S (l ++ []); rw [List.append_nil]; exact hS, rfl⟩
  | succ n ih =>
    intro k S l hk hS hl
    simp only [hlK] at hl ⊢
    rw [List.length_append, List.length_replicate] at hl
    rw [lhK_s, lhC_n h hv (show k < uNeeds M by omega) hy]
    obtain ⟨p1, p2⟩ := LS_pushN k (hC M y k) S l hS (by omega)
    obtain ⟨i1, i2⟩ := ih (k + 1) _ _ (by omega) p1 (by rw [List.length_append, List.length_replicate]; omega)
    rw [List.append_assoc] at i1
    exact ⟨i1, i2.trans p2⟩
theorem LS_lhY {T : TS} {M : MS} (h : RT T M) (hv : VB M) : ∀ n y (S : SS) (l : List Nat), y + n < 1000 → LsS S l → l.length + (hlY M y n).length ≤ 8 → LsS (lhY T y n S) (l ++ hlY M y n) ∧ eSk (lhY T y n S) = eSk S := by
  have en : tNeeds T = uNeeds M := by unfold tNeeds uNeeds; rw [h.2.1.1]
  intro n
  induction n with
  | zero => exact fun y S l _ hS _ => ⟨by show LsS S (l ++ []); rw [List.append_nil]; exact hS, rfl⟩
  | succ n ih =>
    intro y S l hy hS hl
    simp only [hlY] at hl ⊢
    rw [List.length_append] at hl
    rw [lhY_s, en]
    obtain ⟨p1, p2⟩ := LS_lhK h hv (show y < 1000 by omega) (uNeeds M) 0 S l (by omega) hS (by omega)
    obtain ⟨i1, i2⟩ := ih (y + 1) _ _ (by omega) p1 (by rw [List.length_append]; omega)
    rw [List.append_assoc] at i1
    exact ⟨i1, i2.trans p2⟩
/-- the model's rows of hands -/
def LmM (M : MS) (l : List Nat) : Prop := l.length ≤ 8 ∧ mS 42 M = nI l.length ∧ ∀ j, j < l.length → mA 38 M j = nI (l.getD j 0)
theorem LM_push {M : MS} {l : List Nat} (h : LmM M l) (hl : l.length < 8) (k : Nat) : LmM (msS 42 (maA 38 M (mS 42 M).toNatClampNeg (nI k)) (mS 42 M + 1)) (l ++ [k]) := by
  obtain ⟨h1, h2, h3⟩ := h
  rw [h2, nI_clamp (by omega), nI_1]
  refine ⟨by rw [List.length_append]; show l.length + 1 ≤ 8; omega, by rw [List.length_append, mS_S, if_pos rfl]; rfl, fun j hj => ?_⟩
  rw [List.length_append] at hj
  have hj : j < l.length + 1 := hj
  show (if j = l.length then nI k else mA 38 M j) = _
  by_cases e : j = l.length
  · rw [if_pos e, e, getD_end]
  · rw [if_neg e, getD_app (by omega)]
    exact h3 j (by omega)
theorem fhL_L (k : Nat) : ∀ n (M : MS) (l : List Nat), LmM M l → (l.length + n ≤ 8 → (fhL k n M).1 = true ∧ LmM (fhL k n M).2 (l ++ List.replicate n k)) ∧ (8 < l.length + n → (fhL k n M).1 = false) := by
  intro n
  induction n with
  | zero => exact fun M l h => ⟨fun _ => ⟨rfl, by rw [List.replicate_zero, List.append_nil]; exact h⟩, fun z => absurd h.1 (by omega)⟩
  | succ n ih =>
    intro M l h
    rw [fhL_s]
    by_cases h8 : l.length = 8
    · rw [if_pos (by rw [h.2.1, h8]; rfl)]
      exact ⟨fun z => absurd z (by omega), fun _ => rfl⟩
    · have n8 : ¬ mS 42 M = 8 := fun z => by
        rw [h.2.1] at z
        have z : nI l.length = nI 8 := z
        rw [nI_inj (by have := h.1; omega) (by decide)] at z
        exact h8 z
      rw [if_neg n8]
      have hp := LM_push h (by have := h.1; omega) k
      obtain ⟨i1, i2⟩ := ih _ _ hp
      rw [List.length_append] at i1 i2
      refine ⟨fun z => ?_, fun z => i2 (by show 8 < l.length + 1 + n; omega)⟩
      obtain ⟨a1, a2⟩ := i1 (by show l.length + 1 + n ≤ 8; omega)
      rw [List.append_assoc] at a2
      exact ⟨a1, a2⟩
theorem fhS_Y {M M2 : MS} (h : fhS M M2) (k : Nat) : Yn M2 k = Yn M k := by unfold Yn; rw [h.2 8 (by decide) (by decide)]
theorem fhS_HL {M M2 : MS} (h : fhS M M2) (k : Nat) : HLn M2 k = HLn M k := by unfold HLn; rw [h.2 7 (by decide) (by decide), h.2 9 (by decide) (by decide)]
theorem fhS_nn {M M2 : MS} (h : fhS M M2) : uNeeds M2 = uNeeds M := by unfold uNeeds; rw [h.1 16 (by decide)]
theorem fhS_K {M M2 : MS} (h : fhS M M2) (y : Nat) : ∀ n k, hlK M2 y k n = hlK M y k n := by
  intro n
  induction n with
  | zero => exact fun _ => rfl
  | succ n ih =>
    intro k
    simp only [hlK]
    rw [ih]
    unfold hC
    rw [fhS_Y h, fhS_HL h]
theorem fhS_hY {M M2 : MS} (h : fhS M M2) : ∀ n y, hlY M2 y n = hlY M y n := by
  intro n
  induction n with
  | zero => exact fun _ => rfl
  | succ n ih =>
    intro y
    simp only [hlY]
    rw [ih, fhS_K h, fhS_nn h]
/-- how many needs of a year -/
def yC (M : MS) (y k : Nat) : Nat := if Yn M k = y then 1 else 0
def cK (M : MS) (y : Nat) : Nat → Nat → Nat
  | _, 0 => 0
  | k, n + 1 => yC M y k + cK M y (k + 1) n
def cY (M : MS) : Nat → Nat → Nat
  | _, 0 => 0
  | y, n + 1 => cK M y 0 (uNeeds M) + cY M (y + 1) n
theorem fhS_cK {M M2 : MS} (h : fhS M M2) (y : Nat) : ∀ n k, cK M2 y k n = cK M y k n := by
  intro n
  induction n with
  | zero => exact fun _ => rfl
  | succ n ih =>
    intro k
    simp only [cK]
    rw [ih]
    unfold yC
    rw [fhS_Y h]
theorem fhS_cY {M M2 : MS} (h : fhS M M2) : ∀ n y, cY M2 y n = cY M y n := by
  intro n
  induction n with
  | zero => exact fun _ => rfl
  | succ n ih =>
    intro y
    simp only [cY]
    rw [ih, fhS_cK h, fhS_nn h]
theorem fhS_VB {M M2 : MS} (h : fhS M M2) (hv : VB M) : VB M2 := by
  intro n hn
  rw [fhS_nn h] at hn
  rw [h.2 8 (by decide) (by decide), h.2 7 (by decide) (by decide), h.2 9 (by decide) (by decide)]
  exact hv n hn
theorem fhC_n {M : MS} (hv : VB M) {k : Nat} (hk : k < uNeeds M) : fhC M k = HLn M k := by
  obtain ⟨-, hh, d, d1, d2, d3, d4⟩ := hv k hk
  unfold fhC HLn
  rw [d3, d4, clamp_sub (by omega) (by omega), nI_clamp (by omega), nI_clamp (by omega)]
theorem fhN_L {y : Nat} (hy : y < 1000) : ∀ n k c (M : MS) (l : List Nat), VB M → k + n ≤ uNeeds M → LmM M l → (l.length + (hlK M y k n).length ≤ 8 → (fhN (nI y) k n (nI c) M).1 = true ∧ (fhN (nI y) k n (nI c) M).2.1 = nI (c + cK M y k n) ∧ LmM (fhN (nI y) k n (nI c) M).2.2 (l ++ hlK M y k n)) ∧ (8 < l.length + (hlK M y k n).length → (fhN (nI y) k n (nI c) M).1 = false) := by
  intro n
  induction n with
  | zero => exact fun k c M l _ _ h => ⟨fun _ => ⟨rfl, rfl, by show LmM M (l ++ []); rw [List.append_nil]; exact h⟩, fun z => absurd h.1 (by have : 8 < l.length + 0 := z; omega)⟩
  | succ n ih =>
    intro k c M l hv hk h
    obtain ⟨⟨yy, y1, y2⟩, -⟩ := hv k (by omega)
    have eY := Yn_e y2 y1
    rw [fhN_s]
    simp only [hlK, cK]
    rw [List.length_append, List.length_replicate]
    by_cases e : yy = y
    · have e1 : mA 8 M k = nI y := by rw [y2, e]
      have e2 : hC M y k = HLn M k := by unfold hC; rw [eY, if_pos e]
      have e3 : yC M y k = 1 := by unfold yC; rw [eY, if_pos e]
      rw [if_pos e1, fhC_n hv (show k < uNeeds M by omega), e2, e3, nI_1]
      obtain ⟨l1, l2⟩ := fhL_L k (HLn M k) M l h
      have hS := fhL_S k (HLn M k) M
      rcases Nat.lt_or_ge 8 (l.length + HLn M k) with hb | hb
      · rw [l2 hb, if_neg Bool.false_ne_true]
        exact ⟨fun z => absurd z (by omega), fun _ => rfl⟩
      · obtain ⟨a1, a2⟩ := l1 hb
        rw [a1, if_pos rfl]
        obtain ⟨i1, i2⟩ := ih (k + 1) (c + 1) _ _ (fhS_VB hS hv) (by rw [fhS_nn hS]; omega) a2
        rw [fhS_K hS, List.length_append, List.length_replicate] at i1 i2
        refine ⟨fun z => ?_, fun z => i2 (by omega)⟩
        obtain ⟨b1, b2, b3⟩ := i1 (by omega)
        rw [List.append_assoc] at b3
        refine ⟨b1, ?_, b3⟩
        rw [b2, fhS_cK hS]
        exact congrArg nI (by omega)
    · have e1 : ¬ mA 8 M k = nI y := fun z => e ((nI_inj (by omega) (by omega)).mp (y2.symm.trans z))
      have e2 : hC M y k = 0 := by unfold hC; rw [eY, if_neg e]
      have e3 : yC M y k = 0 := by unfold yC; rw [eY, if_neg e]
      rw [if_neg e1, e2, e3, Nat.zero_add, Nat.zero_add, List.replicate_zero, List.nil_append]
      exact ih (k + 1) c M l hv (by omega) h
theorem fhY_L : ∀ n y c (M : MS) (l : List Nat), VB M → y + n < 1000 → LmM M l → (l.length + (hlY M y n).length ≤ 8 → (fhY y n (nI c) M).1 = true ∧ (fhY y n (nI c) M).2.1 = nI (c + cY M y n) ∧ LmM (fhY y n (nI c) M).2.2 (l ++ hlY M y n)) ∧ (8 < l.length + (hlY M y n).length → (fhY y n (nI c) M).1 = false) := by
  intro n
  induction n with
  | zero => exact fun y c M l _ _ h => ⟨fun _ => ⟨rfl, rfl, by show LmM M (l ++ []); rw [List.append_nil]; exact h⟩, fun z => absurd h.1 (by have : 8 < l.length + 0 := z; omega)⟩
  | succ n ih =>
    intro y c M l hv hy h
    rw [fhY_s]
    simp only [hlY, cY]
    rw [List.length_append]
    obtain ⟨l1, l2⟩ := fhN_L (show y < 1000 by omega) (uNeeds M) 0 c M l hv (by omega) h
    have hS := fhN_S (nI y) (uNeeds M) 0 (nI c) M
    rcases Nat.lt_or_ge 8 (l.length + (hlK M y 0 (uNeeds M)).length) with hb | hb
    · rw [l2 hb, if_neg Bool.false_ne_true]
      exact ⟨fun z => absurd z (by omega), fun _ => l2 hb⟩
    · obtain ⟨a1, a2, a3⟩ := l1 hb
      rw [a1, if_pos rfl, a2]
      obtain ⟨i1, i2⟩ := ih (y + 1) (c + cK M y 0 (uNeeds M)) _ _ (fhS_VB hS hv) (by omega) a3
      rw [fhS_hY hS, List.length_append] at i1 i2
      refine ⟨fun z => ?_, fun z => i2 (by omega)⟩
      obtain ⟨b1, b2, b3⟩ := i1 (by omega)
      rw [List.append_assoc] at b3
      refine ⟨b1, ?_, b3⟩
      rw [b2, fhS_cY hS]
      exact congrArg nI (by omega)
theorem sumN_add (f g : Nat → Nat) : ∀ n, sumN (fun k => f k + g k) n = sumN f n + sumN g n := by
  intro n
  induction n with
  | zero => rfl
  | succ n ih =>
    simp only [sumN]
    rw [ih]
    omega
theorem hlK_len (M : MS) (y : Nat) : ∀ n k, (hlK M y k n).length = sumN (fun i => hC M y (k + i)) n ∧ cK M y k n = sumN (fun i => yC M y (k + i)) n := by
  have front : ∀ (f : Nat → Nat) n, sumN f (n + 1) = f 0 + sumN (fun i => f (i + 1)) n := by
    intro f n
    induction n with
    | zero => simp only [sumN]; omega
    | succ n ih =>
      have e : sumN f (n + 1 + 1) = sumN f (n + 1) + f (n + 1) := rfl
      rw [e, ih]
      simp only [sumN]
      omega
  intro n
  induction n with
  | zero => exact fun _ => ⟨rfl, rfl⟩
  | succ n ih =>
    intro k
    simp only [hlK, cK]
    rw [List.length_append, List.length_replicate, (ih (k + 1)).1, (ih (k + 1)).2, front, front]
    have e : ∀ i, k + 1 + i = k + (i + 1) := fun i => by omega
    simp only [e, Nat.add_zero, and_self]
theorem hlY_len (M : MS) : ∀ n y, (hlY M y n).length = sumN (fun k => if y ≤ Yn M k ∧ Yn M k < y + n then HLn M k else 0) (uNeeds M) ∧ cY M y n = sumN (fun k => if y ≤ Yn M k ∧ Yn M k < y + n then 1 else 0) (uNeeds M) := by
  intro n
  induction n with
  | zero =>
    intro y
    have z : ∀ (f : Nat → Nat) N, (∀ k, k < N → f k = 0) → sumN f N = 0 := by
      intro f N
      induction N with
      | zero => exact fun _ => rfl
      | succ N ih =>
        intro h
        simp only [sumN]
        rw [ih (fun k hk => h k (by omega)), h N (by omega)]
    rw [z _ _ (fun k _ => if_neg (by omega)), z _ _ (fun k _ => if_neg (by omega))]
    exact ⟨rfl, rfl⟩
  | succ n ih =>
    intro y
    simp only [hlY, cY]
    rw [List.length_append, (ih (y + 1)).1, (ih (y + 1)).2, (hlK_len M y (uNeeds M) 0).1, (hlK_len M y (uNeeds M) 0).2, ← sumN_add, ← sumN_add]
    refine ⟨sumN_congr _ (fun k _ => ?_), sumN_congr _ (fun k _ => ?_)⟩
    · rw [Nat.zero_add]
      unfold hC
      by_cases e : Yn M k = y
      · rw [if_pos e, if_neg (by omega), if_pos (by omega)]
        rfl
      · rw [if_neg e, Nat.zero_add]
        by_cases e2 : y + 1 ≤ Yn M k ∧ Yn M k < y + 1 + n
        · rw [if_pos e2, if_pos (by omega)]
        · rw [if_neg e2, if_neg (by omega)]
    · rw [Nat.zero_add]
      unfold yC
      by_cases e : Yn M k = y
      · rw [if_pos e, if_neg (by omega), if_pos (by omega)]
      · rw [if_neg e, Nat.zero_add]
        by_cases e2 : y + 1 ≤ Yn M k ∧ Yn M k < y + 1 + n
        · rw [if_pos e2, if_pos (by omega)]
        · rw [if_neg e2, if_neg (by omega)]
end
