noncomputable section
def iterN {α : Type} (f : α → α) : Nat → α → α
  | 0, a => a
  | n + 1, a => iterN f n (f a)
def upto {α : Type} (f : Nat → α → α) : Nat → Nat → α → α
  | _, 0, a => a
  | k, n + 1, a => upto f (k + 1) n (f k a)
abbrev RS : Type := Int32 × Int32 × TS
def hStep (ro : Nat → Int32) (N : Nat) (rule n : Int32) (r : RS) : RS :=
  if cChose ro N r.2.2 rule n < 0 then (if 0 < r.2.1 then (r.1 + 3 * tOfN r.2.2 n 2, r.2.1 + (-1), r.2.2) else r) else (r.1 + tGood r.2.2 (cChose ro N r.2.2 rule n) n, r.2.1, tDo r.2.2 (cChose ro N r.2.2 rule n) n)
def hHd (T : TS) (n : Int32) : Int32 := if tOpen T n = true then tHL T n else 0
def nStep (ro : Nat → Int32) (N : Nat) (rule n : Int32) (r : RS) : RS := iterN (hStep ro N rule n) (hHd r.2.2 n).toNatClampNeg r
def yStep (ro : Nat → Int32) (N : Nat) (rule : Int32) (y : Nat) (r : RS) : RS := upto (fun k => nStep ro N rule (nI k)) 0 (tNeeds r.2.2) (r.1, r.2.1, tsYr r.2.2 (nI y))
def runF (ro : Nat → Int32) (N : Nat) (rule str : Int32) (T : TS) : RS := upto (yStep ro N rule) (tYr T).toNatClampNeg (10 - (tYr T).toNatClampNeg) (0, str, T)
theorem tNn_putN (T : TS) (p k v : Int32) : tNn (tPutN T p k v) = tNn T := by unfold tPutN; split <;> rfl
theorem tNn_write (T : TS) (a b c d : Int32) : tNn (tWrite T a b c d) = tNn T := by unfold tWrite; split <;> rfl
theorem tNn_do (T : TS) (p n : Int32) : tNn (tDo T p n) = tNn T := by unfold tDo; rw [tNn_putN, tNn_write]
theorem hS_1 (ro : Nat → Int32) (N : Nat) (rule n sm lf : Int32) (T : TS) (h : cChose ro N T rule n < 0) (h2 : 0 < lf) : hStep ro N rule n (sm, lf, T) = (sm + 3 * tOfN T n 2, lf + (-1), T) := by
  unfold hStep
  rw [if_pos h, if_pos h2]
theorem hS_2 (ro : Nat → Int32) (N : Nat) (rule n sm lf : Int32) (T : TS) (h : cChose ro N T rule n < 0) (h2 : ¬ 0 < lf) : hStep ro N rule n (sm, lf, T) = (sm, lf, T) := by
  unfold hStep
  rw [if_pos h, if_neg h2]
theorem hS_3 (ro : Nat → Int32) (N : Nat) (rule n sm lf : Int32) (T : TS) (h : ¬ cChose ro N T rule n < 0) : hStep ro N rule n (sm, lf, T) = (sm + tGood T (cChose ro N T rule n) n, lf, tDo T (cChose ro N T rule n) n) := by
  unfold hStep
  rw [if_neg h]
theorem tNn_hStep (ro : Nat → Int32) (N : Nat) (rule n : Int32) (r : RS) : tNn (hStep ro N rule n r).2.2 = tNn r.2.2 := by
  obtain ⟨sm, lf, T⟩ := r
  by_cases h : cChose ro N T rule n < 0
  · by_cases h2 : 0 < lf
    · rw [hS_1 ro N rule n sm lf T h h2]
    · rw [hS_2 ro N rule n sm lf T h h2]
  · rw [hS_3 ro N rule n sm lf T h]
    exact tNn_do _ _ _
theorem tNn_iter (ro : Nat → Int32) (N : Nat) (rule n : Int32) : ∀ (j : Nat) (r : RS), tNn (iterN (hStep ro N rule n) j r).2.2 = tNn r.2.2 := by
  intro j
  induction j with
  | zero => intro r; rfl
  | succ j ih => intro r; show tNn (iterN _ j (hStep ro N rule n r)).2.2 = _; rw [ih, tNn_hStep]
theorem tNn_nStep (ro : Nat → Int32) (N : Nat) (rule n : Int32) (r : RS) : tNn (nStep ro N rule n r).2.2 = tNn r.2.2 := tNn_iter ro N rule n _ r
end
