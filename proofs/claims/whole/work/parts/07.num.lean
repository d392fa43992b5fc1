theorem tl_some {v : Value} {r : List Value} : (some v).toList ++ r = v :: r := rfl
theorem tl_none {r : List Value} : (none : Option Value).toList ++ r = r := rfl
theorem ixN {p M : Int32} {n : Nat} (hM : M.toInt = n) (h0 : ¬ p < 0) (h1 : ¬ M ≤ p) : ∃ a, a < n ∧ p = nI a := by
  obtain ⟨j, hj, rfl⟩ := nI_of h0
  refine ⟨j, ?_, rfl⟩
  rw [Int32.le_iff_toInt_le, hM, nI_toInt hj] at h1
  omega
theorem vpN {p : Int32} {a n : Nat} (h : p = nI a) (ha : a < n) (hn : n < 2 ^ 31) : vp_in p n := by subst h; exact vp_in_nI ha hn
def b2i (b : Bool) : Int32 := if b = true then 1 else 0
theorem b2i_t : b2i true = 1 := rfl
theorem b2i_f : b2i false = 0 := rfl
theorem b2i_eq0 (b : Bool) : (b2i b = 0) = (b = false) := by cases b <;> simp [b2i]
theorem b2i_01 (b : Bool) : b2i b = 0 ∨ b2i b = 1 := by cases b <;> simp [b2i]
theorem ixN' {p M : Int32} {n : Nat} (hM : M.toInt = n) (h0 : ¬ p < 0) (h1 : p < M) : ∃ a, a < n ∧ p = nI a := by
  obtain ⟨j, hj, rfl⟩ := nI_of h0
  refine ⟨j, ?_, rfl⟩
  rw [Int32.lt_iff_toInt_lt, hM, nI_toInt hj] at h1
  omega
theorem vp_lin {p k : Int32} {a b m n : Nat} (hp : p = nI a) (hk : k = nI b) (hb : b < m) (hn : n < 2 ^ 31) (ha : a * m + m ≤ n) : vp_in (p * nI m + k) n := by
  subst hp; subst hk
  rw [pk_mul, nI_add]
  exact vp_in_nI (by omega) hn
theorem le_nI {x : Int32} {k : Nat} (hk : k < 2 ^ 31) : x ≤ nI k ↔ x.toNatClampNeg ≤ k := by
  rw [Int32.le_iff_toInt_le, nI_toInt hk]
  show x.toInt ≤ k ↔ x.toInt.toNat ≤ k
  omega
theorem nI_lt_x {x : Int32} {k : Nat} (hk : k < 2 ^ 31) : nI k < x ↔ k < x.toNatClampNeg := by
  rw [Int32.lt_iff_toInt_lt, nI_toInt hk]
  show (k : Int) < x.toInt ↔ k < x.toInt.toNat
  omega
theorem clamp_lt (x : Int32) : x.toNatClampNeg < 2 ^ 31 := by
  have := x.toInt_lt
  show x.toInt.toNat < 2 ^ 31
  omega
theorem ix_ma {a b c : Nat} (h : a * b + c < 2 ^ 31) : (nI a * nI b + nI c).toNatClampNeg = a * b + c := by rw [pk_mul, nI_add, nI_clamp h]
theorem vp_ma {a b c n : Nat} (h : a * b + c < n) (hn : n < 2 ^ 31) : vp_in (nI a * nI b + nI c) n := by rw [pk_mul, nI_add]; exact vp_in_nI h hn
theorem vp_lit {n : Nat} (k : Nat) (h : k < n) (hn : n < 2 ^ 31) : vp_in (nI k) n := vp_in_nI h hn
theorem clamp_n (k : Nat) (h : k < 2 ^ 31) : (nI k).toNatClampNeg = k := nI_clamp h
def sumU (f : Nat → Int32) : Nat → Int32
  | 0 => 0
  | n + 1 => sumU f n + f n
def imax (x y : Int32) : Int32 := if x < y then y else x
