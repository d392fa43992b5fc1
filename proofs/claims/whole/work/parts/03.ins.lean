def wIload {σ : Type} (i : Nat) (P : PT σ) (L : Lc) (st : List Value) (s : σ) : Prop := match nth L i with | some (.int x) => P L (.int x :: st) s | _ => False
theorem s_iload_n {σ : Type} {X : Cx} {G : Gx} {nL : Nat} {enc : σ → va_W} {cc : ByteArray} {Ts : List Cond} {own : String} {rm : Room} (C : OkX X G cc nL Ts own rm) {k : Fin 4} {i pc : Nat} {P : PT σ} (hi : (k : Nat) = i) (hd : decode cc pc = .ok (.iload_n k, 1)) (hn : Snd X G nL enc (pc + 1) P) : Snd X G nL enc pc (wIload i P) := by
  intro H locs ls L st s hl hP hD hS hw
  unfold wIload at hw
  split at hw
  · rename_i x hx
    exact lv_iload_n C.1 C.2.1 hd hi (hl.2.2 i _ hx) (hn H locs ls L _ s hl hP hD hS hw)
  · exact hw.elim
theorem s_iload {σ : Type} {X : Cx} {G : Gx} {nL : Nat} {enc : σ → va_W} {cc : ByteArray} {Ts : List Cond} {own : String} {rm : Room} (C : OkX X G cc nL Ts own rm) {i pc : Nat} {P : PT σ} (hd : decode cc pc = .ok (.iload i, 2)) (hn : Snd X G nL enc (pc + 2) P) : Snd X G nL enc pc (wIload i P) := by
  intro H locs ls L st s hl hP hD hS hw
  unfold wIload at hw
  split at hw
  · rename_i x hx
    exact lv_iload C.1 C.2.1 hd (hl.2.2 i _ hx) (hn H locs ls L _ s hl hP hD hS hw)
  · exact hw.elim
def wAload {σ : Type} (i : Nat) (P : PT σ) (L : Lc) (st : List Value) (s : σ) : Prop := match nth L i with | some (.ref x) => P L (.ref x :: st) s | _ => False
theorem s_aload_n {σ : Type} {X : Cx} {G : Gx} {nL : Nat} {enc : σ → va_W} {cc : ByteArray} {Ts : List Cond} {own : String} {rm : Room} (C : OkX X G cc nL Ts own rm) {k : Fin 4} {i pc : Nat} {P : PT σ} (hi : (k : Nat) = i) (hd : decode cc pc = .ok (.aload_n k, 1)) (hn : Snd X G nL enc (pc + 1) P) : Snd X G nL enc pc (wAload i P) := by
  intro H locs ls L st s hl hP hD hS hw
  unfold wAload at hw
  split at hw
  · rename_i x hx
    exact lv_aload_n C.1 C.2.1 hd hi (hl.2.2 i _ hx) (hn H locs ls L _ s hl hP hD hS hw)
  · exact hw.elim
theorem s_aload {σ : Type} {X : Cx} {G : Gx} {nL : Nat} {enc : σ → va_W} {cc : ByteArray} {Ts : List Cond} {own : String} {rm : Room} (C : OkX X G cc nL Ts own rm) {i pc : Nat} {P : PT σ} (hd : decode cc pc = .ok (.aload i, 2)) (hn : Snd X G nL enc (pc + 2) P) : Snd X G nL enc pc (wAload i P) := by
  intro H locs ls L st s hl hP hD hS hw
  unfold wAload at hw
  split at hw
  · rename_i x hx
    exact lv_aload C.1 C.2.1 hd (hl.2.2 i _ hx) (hn H locs ls L _ s hl hP hD hS hw)
  · exact hw.elim
def wLload {σ : Type} (i : Nat) (P : PT σ) (L : Lc) (st : List Value) (s : σ) : Prop := match nth L i with | some (.long x) => P L (.long x :: st) s | _ => False
theorem s_lload_n {σ : Type} {X : Cx} {G : Gx} {nL : Nat} {enc : σ → va_W} {cc : ByteArray} {Ts : List Cond} {own : String} {rm : Room} (C : OkX X G cc nL Ts own rm) {k : Fin 4} {i pc : Nat} {P : PT σ} (hi : (k : Nat) = i) (hd : decode cc pc = .ok (.lload_n k, 1)) (hn : Snd X G nL enc (pc + 1) P) : Snd X G nL enc pc (wLload i P) := by
  intro H locs ls L st s hl hP hD hS hw
  unfold wLload at hw
  split at hw
  · rename_i x hx
    exact lv_lload_n C.1 C.2.1 hd hi (hl.2.2 i _ hx) (hn H locs ls L _ s hl hP hD hS hw)
  · exact hw.elim
theorem s_lload {σ : Type} {X : Cx} {G : Gx} {nL : Nat} {enc : σ → va_W} {cc : ByteArray} {Ts : List Cond} {own : String} {rm : Room} (C : OkX X G cc nL Ts own rm) {i pc : Nat} {P : PT σ} (hd : decode cc pc = .ok (.lload i, 2)) (hn : Snd X G nL enc (pc + 2) P) : Snd X G nL enc pc (wLload i P) := by
  intro H locs ls L st s hl hP hD hS hw
  unfold wLload at hw
  split at hw
  · rename_i x hx
    exact lv_lload C.1 C.2.1 hd (hl.2.2 i _ hx) (hn H locs ls L _ s hl hP hD hS hw)
  · exact hw.elim
def wK {σ : Type} (v : Value) (P : PT σ) (L : Lc) (st : List Value) (s : σ) : Prop := P L (v :: st) s
theorem s_iconst {σ : Type} {X : Cx} {G : Gx} {nL : Nat} {enc : σ → va_W} {cc : ByteArray} {Ts : List Cond} {own : String} {rm : Room} (C : OkX X G cc nL Ts own rm) {n : Int} {v : Int32} {pc : Nat} {P : PT σ} (hv : Int32.ofInt n = v) (hd : decode cc pc = .ok (.iconst n, 1)) (hn : Snd X G nL enc (pc + 1) P) : Snd X G nL enc pc (wK (.int v) P) := by
  intro H locs ls L st s hl hP hD hS hw
  exact lv_iconst C.1 C.2.1 hd hv (hn H locs ls L _ s hl hP hD hS hw)
theorem s_bipush {σ : Type} {X : Cx} {G : Gx} {nL : Nat} {enc : σ → va_W} {cc : ByteArray} {Ts : List Cond} {own : String} {rm : Room} (C : OkX X G cc nL Ts own rm) {n : Int} {v : Int32} {pc : Nat} {P : PT σ} (hv : (Int8.ofInt n).toInt32 = v) (hd : decode cc pc = .ok (.bipush n, 2)) (hn : Snd X G nL enc (pc + 2) P) : Snd X G nL enc pc (wK (.int v) P) := by
  intro H locs ls L st s hl hP hD hS hw
  exact lv_bipush C.1 C.2.1 hd hv (hn H locs ls L _ s hl hP hD hS hw)
theorem s_sipush {σ : Type} {X : Cx} {G : Gx} {nL : Nat} {enc : σ → va_W} {cc : ByteArray} {Ts : List Cond} {own : String} {rm : Room} (C : OkX X G cc nL Ts own rm) {n : Int} {v : Int32} {pc : Nat} {P : PT σ} (hv : (Int16.ofInt n).toInt32 = v) (hd : decode cc pc = .ok (.sipush n, 3)) (hn : Snd X G nL enc (pc + 3) P) : Snd X G nL enc pc (wK (.int v) P) := by
  intro H locs ls L st s hl hP hD hS hw
  exact lv_sipush C.1 C.2.1 hd hv (hn H locs ls L _ s hl hP hD hS hw)
theorem s_lconst {σ : Type} {X : Cx} {G : Gx} {nL : Nat} {enc : σ → va_W} {cc : ByteArray} {Ts : List Cond} {own : String} {rm : Room} (C : OkX X G cc nL Ts own rm) {n : Fin 2} {v : Int64} {pc : Nat} {P : PT σ} (hv : Int64.ofNat (n : Nat) = v) (hd : decode cc pc = .ok (.lconst n, 1)) (hn : Snd X G nL enc (pc + 1) P) : Snd X G nL enc pc (wK (.long v) P) := by
  intro H locs ls L st s hl hP hD hS hw
  exact lv_lconst C.1 C.2.1 hd hv (hn H locs ls L _ s hl hP hD hS hw)
theorem s_ldc {σ : Type} {X : Cx} {G : Gx} {nL : Nat} {enc : σ → va_W} {cc : ByteArray} {Ts : List Cond} {own : String} {rm : Room} (C : OkX X G cc nL Ts own rm) {index pc : Nat} {v : Int32} {P : PT σ} (hc : Cond.constant own index v ∈ Ts) (hd : decode cc pc = .ok (.ldc index, 2)) (hn : Snd X G nL enc (pc + 2) P) : Snd X G nL enc pc (wK (.int v) P) := by
  intro H locs ls L st s hl hP hD hS hw
  exact lv_ldc C.1 C.2.1 C.2.2.2.1 (C.2.2.2.2.1 _ hc) hd (hn H locs ls L _ s hl hP hD hS hw)
theorem s_ldc_w {σ : Type} {X : Cx} {G : Gx} {nL : Nat} {enc : σ → va_W} {cc : ByteArray} {Ts : List Cond} {own : String} {rm : Room} (C : OkX X G cc nL Ts own rm) {index pc : Nat} {v : Int32} {P : PT σ} (hc : Cond.constant own index v ∈ Ts) (hd : decode cc pc = .ok (.ldc_w index, 3)) (hn : Snd X G nL enc (pc + 3) P) : Snd X G nL enc pc (wK (.int v) P) := by
  intro H locs ls L st s hl hP hD hS hw
  exact lv_ldcw C.1 C.2.1 C.2.2.2.1 (C.2.2.2.2.1 _ hc) hd (hn H locs ls L _ s hl hP hD hS hw)
theorem s_ldc2_w {σ : Type} {X : Cx} {G : Gx} {nL : Nat} {enc : σ → va_W} {cc : ByteArray} {Ts : List Cond} {own : String} {rm : Room} (C : OkX X G cc nL Ts own rm) {index pc : Nat} {v : Int64} {P : PT σ} (hc : Cond.constantLong own index v ∈ Ts) (hd : decode cc pc = .ok (.ldc2_w index, 3)) (hn : Snd X G nL enc (pc + 3) P) : Snd X G nL enc pc (wK (.long v) P) := by
  intro H locs ls L st s hl hP hD hS hw
  exact lv_ldc2 C.1 C.2.1 C.2.2.2.1 (C.2.2.2.2.1 _ hc) hd (hn H locs ls L _ s hl hP hD hS hw)
def wB {σ : Type} (f : Int32 → Int32 → Int32) (P : PT σ) (L : Lc) (st : List Value) (s : σ) : Prop := match st with | .int y :: .int x :: r => P L (.int (f x y) :: r) s | _ => False
theorem s_iadd {σ : Type} {X : Cx} {G : Gx} {nL : Nat} {enc : σ → va_W} {cc : ByteArray} {Ts : List Cond} {own : String} {rm : Room} (C : OkX X G cc nL Ts own rm) {pc : Nat} {P : PT σ} (hd : decode cc pc = .ok (.iadd, 1)) (hn : Snd X G nL enc (pc + 1) P) : Snd X G nL enc pc (wB (fun x y => x + y) P) := by
  intro H locs ls L st s hl hP hD hS hw
  unfold wB at hw
  split at hw
  · exact lv_iadd C.1 C.2.1 hd (hn H locs ls L _ s hl hP hD hS hw)
  · exact hw.elim
theorem s_isub {σ : Type} {X : Cx} {G : Gx} {nL : Nat} {enc : σ → va_W} {cc : ByteArray} {Ts : List Cond} {own : String} {rm : Room} (C : OkX X G cc nL Ts own rm) {pc : Nat} {P : PT σ} (hd : decode cc pc = .ok (.isub, 1)) (hn : Snd X G nL enc (pc + 1) P) : Snd X G nL enc pc (wB (fun x y => x - y) P) := by
  intro H locs ls L st s hl hP hD hS hw
  unfold wB at hw
  split at hw
  · exact lv_isub C.1 C.2.1 hd (hn H locs ls L _ s hl hP hD hS hw)
  · exact hw.elim
theorem s_imul {σ : Type} {X : Cx} {G : Gx} {nL : Nat} {enc : σ → va_W} {cc : ByteArray} {Ts : List Cond} {own : String} {rm : Room} (C : OkX X G cc nL Ts own rm) {pc : Nat} {P : PT σ} (hd : decode cc pc = .ok (.imul, 1)) (hn : Snd X G nL enc (pc + 1) P) : Snd X G nL enc pc (wB (fun x y => x * y) P) := by
  intro H locs ls L st s hl hP hD hS hw
  unfold wB at hw
  split at hw
  · exact lv_imul C.1 C.2.1 hd (hn H locs ls L _ s hl hP hD hS hw)
  · exact hw.elim
theorem s_iand {σ : Type} {X : Cx} {G : Gx} {nL : Nat} {enc : σ → va_W} {cc : ByteArray} {Ts : List Cond} {own : String} {rm : Room} (C : OkX X G cc nL Ts own rm) {pc : Nat} {P : PT σ} (hd : decode cc pc = .ok (.iand, 1)) (hn : Snd X G nL enc (pc + 1) P) : Snd X G nL enc pc (wB (fun x y => x &&& y) P) := by
  intro H locs ls L st s hl hP hD hS hw
  unfold wB at hw
  split at hw
  · exact lv_iand C.1 C.2.1 hd (hn H locs ls L _ s hl hP hD hS hw)
  · exact hw.elim
theorem s_ior {σ : Type} {X : Cx} {G : Gx} {nL : Nat} {enc : σ → va_W} {cc : ByteArray} {Ts : List Cond} {own : String} {rm : Room} (C : OkX X G cc nL Ts own rm) {pc : Nat} {P : PT σ} (hd : decode cc pc = .ok (.ior, 1)) (hn : Snd X G nL enc (pc + 1) P) : Snd X G nL enc pc (wB (fun x y => x ||| y) P) := by
  intro H locs ls L st s hl hP hD hS hw
  unfold wB at hw
  split at hw
  · exact lv_ior C.1 C.2.1 hd (hn H locs ls L _ s hl hP hD hS hw)
  · exact hw.elim
theorem s_ixor {σ : Type} {X : Cx} {G : Gx} {nL : Nat} {enc : σ → va_W} {cc : ByteArray} {Ts : List Cond} {own : String} {rm : Room} (C : OkX X G cc nL Ts own rm) {pc : Nat} {P : PT σ} (hd : decode cc pc = .ok (.ixor, 1)) (hn : Snd X G nL enc (pc + 1) P) : Snd X G nL enc pc (wB (fun x y => x ^^^ y) P) := by
  intro H locs ls L st s hl hP hD hS hw
  unfold wB at hw
  split at hw
  · exact lv_ixor C.1 C.2.1 hd (hn H locs ls L _ s hl hP hD hS hw)
  · exact hw.elim
theorem s_ishl {σ : Type} {X : Cx} {G : Gx} {nL : Nat} {enc : σ → va_W} {cc : ByteArray} {Ts : List Cond} {own : String} {rm : Room} (C : OkX X G cc nL Ts own rm) {pc : Nat} {P : PT σ} (hd : decode cc pc = .ok (.ishl, 1)) (hn : Snd X G nL enc (pc + 1) P) : Snd X G nL enc pc (wB (fun x y => x <<< (y &&& 31)) P) := by
  intro H locs ls L st s hl hP hD hS hw
  unfold wB at hw
  split at hw
  · exact lv_ishl C.1 C.2.1 hd (hn H locs ls L _ s hl hP hD hS hw)
  · exact hw.elim
theorem s_iushr {σ : Type} {X : Cx} {G : Gx} {nL : Nat} {enc : σ → va_W} {cc : ByteArray} {Ts : List Cond} {own : String} {rm : Room} (C : OkX X G cc nL Ts own rm) {pc : Nat} {P : PT σ} (hd : decode cc pc = .ok (.iushr, 1)) (hn : Snd X G nL enc (pc + 1) P) : Snd X G nL enc pc (wB (fun x y => (x.toUInt32 >>> (y.toUInt32 &&& Int32.toUInt32 31)).toInt32) P) := by
  intro H locs ls L st s hl hP hD hS hw
  unfold wB at hw
  split at hw
  · exact lv_iushr C.1 C.2.1 hd rfl (hn H locs ls L _ s hl hP hD hS hw)
  · exact hw.elim
def wDv {σ : Type} (f : Int32 → Int32 → Int32) (P : PT σ) (L : Lc) (st : List Value) (s : σ) : Prop := match st with | .int y :: .int x :: r => ¬ y = 0 ∧ P L (.int (f x y) :: r) s | _ => False
theorem s_idiv {σ : Type} {X : Cx} {G : Gx} {nL : Nat} {enc : σ → va_W} {cc : ByteArray} {Ts : List Cond} {own : String} {rm : Room} (C : OkX X G cc nL Ts own rm) {pc : Nat} {P : PT σ} (hd : decode cc pc = .ok (.idiv, 1)) (hn : Snd X G nL enc (pc + 1) P) : Snd X G nL enc pc (wDv (fun x y => x / y) P) := by
  intro H locs ls L st s hl hP hD hS hw
  unfold wDv at hw
  split at hw
  · exact lv_idiv C.1 C.2.1 hd hw.1 (hn H locs ls L _ s hl hP hD hS hw.2)
  · exact hw.elim
theorem s_irem {σ : Type} {X : Cx} {G : Gx} {nL : Nat} {enc : σ → va_W} {cc : ByteArray} {Ts : List Cond} {own : String} {rm : Room} (C : OkX X G cc nL Ts own rm) {pc : Nat} {P : PT σ} (hd : decode cc pc = .ok (.irem, 1)) (hn : Snd X G nL enc (pc + 1) P) : Snd X G nL enc pc (wDv (fun x y => x - x / y * y) P) := by
  intro H locs ls L st s hl hP hD hS hw
  unfold wDv at hw
  split at hw
  · exact lv_irem C.1 C.2.1 hd hw.1 (hn H locs ls L _ s hl hP hD hS hw.2)
  · exact hw.elim
def wU {σ : Type} (f : Int32 → Int32) (P : PT σ) (L : Lc) (st : List Value) (s : σ) : Prop := match st with | .int x :: r => P L (.int (f x) :: r) s | _ => False
theorem s_ineg {σ : Type} {X : Cx} {G : Gx} {nL : Nat} {enc : σ → va_W} {cc : ByteArray} {Ts : List Cond} {own : String} {rm : Room} (C : OkX X G cc nL Ts own rm) {pc : Nat} {P : PT σ} (hd : decode cc pc = .ok (.ineg, 1)) (hn : Snd X G nL enc (pc + 1) P) : Snd X G nL enc pc (wU (fun x => -x) P) := by
  intro H locs ls L st s hl hP hD hS hw
  unfold wU at hw
  split at hw
  · exact lv_ineg C.1 C.2.1 hd (hn H locs ls L _ s hl hP hD hS hw)
  · exact hw.elim
def wLB {σ : Type} (f : Int64 → Int64 → Int64) (P : PT σ) (L : Lc) (st : List Value) (s : σ) : Prop := match st with | .long y :: .long x :: r => P L (.long (f x y) :: r) s | _ => False
theorem s_lmul {σ : Type} {X : Cx} {G : Gx} {nL : Nat} {enc : σ → va_W} {cc : ByteArray} {Ts : List Cond} {own : String} {rm : Room} (C : OkX X G cc nL Ts own rm) {pc : Nat} {P : PT σ} (hd : decode cc pc = .ok (.lmul, 1)) (hn : Snd X G nL enc (pc + 1) P) : Snd X G nL enc pc (wLB (fun x y => x * y) P) := by
  intro H locs ls L st s hl hP hD hS hw
  unfold wLB at hw
  split at hw
  · exact lv_lmul C.1 C.2.1 hd (hn H locs ls L _ s hl hP hD hS hw)
  · exact hw.elim
theorem s_land {σ : Type} {X : Cx} {G : Gx} {nL : Nat} {enc : σ → va_W} {cc : ByteArray} {Ts : List Cond} {own : String} {rm : Room} (C : OkX X G cc nL Ts own rm) {pc : Nat} {P : PT σ} (hd : decode cc pc = .ok (.land, 1)) (hn : Snd X G nL enc (pc + 1) P) : Snd X G nL enc pc (wLB (fun x y => x &&& y) P) := by
  intro H locs ls L st s hl hP hD hS hw
  unfold wLB at hw
  split at hw
  · exact lv_land C.1 C.2.1 hd (hn H locs ls L _ s hl hP hD hS hw)
  · exact hw.elim
theorem s_lor {σ : Type} {X : Cx} {G : Gx} {nL : Nat} {enc : σ → va_W} {cc : ByteArray} {Ts : List Cond} {own : String} {rm : Room} (C : OkX X G cc nL Ts own rm) {pc : Nat} {P : PT σ} (hd : decode cc pc = .ok (.lor, 1)) (hn : Snd X G nL enc (pc + 1) P) : Snd X G nL enc pc (wLB (fun x y => x ||| y) P) := by
  intro H locs ls L st s hl hP hD hS hw
  unfold wLB at hw
  split at hw
  · exact lv_lor C.1 C.2.1 hd (hn H locs ls L _ s hl hP hD hS hw)
  · exact hw.elim
def wLU {σ : Type} (f : Int64 → Int64) (P : PT σ) (L : Lc) (st : List Value) (s : σ) : Prop := match st with | .long x :: r => P L (.long (f x) :: r) s | _ => False
theorem s_lneg {σ : Type} {X : Cx} {G : Gx} {nL : Nat} {enc : σ → va_W} {cc : ByteArray} {Ts : List Cond} {own : String} {rm : Room} (C : OkX X G cc nL Ts own rm) {pc : Nat} {P : PT σ} (hd : decode cc pc = .ok (.lneg, 1)) (hn : Snd X G nL enc (pc + 1) P) : Snd X G nL enc pc (wLU (fun x => -x) P) := by
  intro H locs ls L st s hl hP hD hS hw
  unfold wLU at hw
  split at hw
  · exact lv_lneg C.1 C.2.1 hd (hn H locs ls L _ s hl hP hD hS hw)
  · exact hw.elim
def wLS {σ : Type} (f : Int64 → Int32 → Int64) (P : PT σ) (L : Lc) (st : List Value) (s : σ) : Prop := match st with | .int y :: .long x :: r => P L (.long (f x y) :: r) s | _ => False
theorem s_lshl {σ : Type} {X : Cx} {G : Gx} {nL : Nat} {enc : σ → va_W} {cc : ByteArray} {Ts : List Cond} {own : String} {rm : Room} (C : OkX X G cc nL Ts own rm) {pc : Nat} {P : PT σ} (hd : decode cc pc = .ok (.lshl, 1)) (hn : Snd X G nL enc (pc + 1) P) : Snd X G nL enc pc (wLS (fun x y => x <<< (y.toInt64 &&& 63)) P) := by
  intro H locs ls L st s hl hP hD hS hw
  unfold wLS at hw
  split at hw
  · exact lv_lshl C.1 C.2.1 hd rfl (hn H locs ls L _ s hl hP hD hS hw)
  · exact hw.elim
theorem s_lushr {σ : Type} {X : Cx} {G : Gx} {nL : Nat} {enc : σ → va_W} {cc : ByteArray} {Ts : List Cond} {own : String} {rm : Room} (C : OkX X G cc nL Ts own rm) {pc : Nat} {P : PT σ} (hd : decode cc pc = .ok (.lushr, 1)) (hn : Snd X G nL enc (pc + 1) P) : Snd X G nL enc pc (wLS (fun x y => (x.toUInt64 >>> (y.toInt64.toUInt64 &&& Int64.toUInt64 63)).toInt64) P) := by
  intro H locs ls L st s hl hP hD hS hw
  unfold wLS at hw
  split at hw
  · exact lv_lushr C.1 C.2.1 hd rfl (hn H locs ls L _ s hl hP hD hS hw)
  · exact hw.elim
def wL2i {σ : Type} (P : PT σ) (L : Lc) (st : List Value) (s : σ) : Prop := match st with | .long x :: r => P L (.int x.toInt32 :: r) s | _ => False
theorem s_l2i {σ : Type} {X : Cx} {G : Gx} {nL : Nat} {enc : σ → va_W} {cc : ByteArray} {Ts : List Cond} {own : String} {rm : Room} (C : OkX X G cc nL Ts own rm) {pc : Nat} {P : PT σ} (hd : decode cc pc = .ok (.l2i, 1)) (hn : Snd X G nL enc (pc + 1) P) : Snd X G nL enc pc (wL2i P) := by
  intro H locs ls L st s hl hP hD hS hw
  unfold wL2i at hw
  split at hw
  · exact lv_l2i C.1 C.2.1 hd rfl (hn H locs ls L _ s hl hP hD hS hw)
  · exact hw.elim
def wLcmp {σ : Type} (P : PT σ) (L : Lc) (st : List Value) (s : σ) : Prop := match st with | .long y :: .long x :: r => P L (.int (lg_cmp x y) :: r) s | _ => False
theorem s_lcmp {σ : Type} {X : Cx} {G : Gx} {nL : Nat} {enc : σ → va_W} {cc : ByteArray} {Ts : List Cond} {own : String} {rm : Room} (C : OkX X G cc nL Ts own rm) {pc : Nat} {P : PT σ} (hd : decode cc pc = .ok (.lcmp, 1)) (hn : Snd X G nL enc (pc + 1) P) : Snd X G nL enc pc (wLcmp P) := by
  intro H locs ls L st s hl hP hD hS hw
  unfold wLcmp at hw
  split at hw
  · exact W.lcmp C.1 C.2.1 hd (hn H locs ls L _ s hl hP hD hS hw)
  · exact hw.elim
def wIf1 {σ : Type} (c : Int32 → Prop) (P Q : PT σ) (L : Lc) (st : List Value) (s : σ) : Prop := match st with | .int x :: r => (c x → P L r s) ∧ (¬ c x → Q L r s) | _ => False
def wIf2 {σ : Type} (c : Int32 → Int32 → Prop) (P Q : PT σ) (L : Lc) (st : List Value) (s : σ) : Prop := match st with | .int y :: .int x :: r => (c x y → P L r s) ∧ (¬ c x y → Q L r s) | _ => False
theorem s_if_eq {σ : Type} {X : Cx} {G : Gx} {nL : Nat} {enc : σ → va_W} {cc : ByteArray} {Ts : List Cond} {own : String} {rm : Room} (C : OkX X G cc nL Ts own rm) {off : Int} {tgt pc : Nat} {P Q : PT σ} (ht : (pc : Int) + off = (tgt : Int)) (hd : decode cc pc = .ok (.ifCond .eq off, 3)) (hp : Snd X G nL enc tgt P) (hq : Snd X G nL enc (pc + 3) Q) : Snd X G nL enc pc (wIf1 (fun x => x = 0) P Q) := by
  intro H locs ls L st s hl hP hD hS hw
  unfold wIf1 at hw
  split at hw
  · exact lv_if_eq C.1 C.2.1 hd ht (fun h => hp H locs ls L _ s hl hP hD hS (hw.1 h)) (fun h => hq H locs ls L _ s hl hP hD hS (hw.2 h))
  · exact hw.elim
theorem s_if_lt {σ : Type} {X : Cx} {G : Gx} {nL : Nat} {enc : σ → va_W} {cc : ByteArray} {Ts : List Cond} {own : String} {rm : Room} (C : OkX X G cc nL Ts own rm) {off : Int} {tgt pc : Nat} {P Q : PT σ} (ht : (pc : Int) + off = (tgt : Int)) (hd : decode cc pc = .ok (.ifCond .lt off, 3)) (hp : Snd X G nL enc tgt P) (hq : Snd X G nL enc (pc + 3) Q) : Snd X G nL enc pc (wIf1 (fun x => x < 0) P Q) := by
  intro H locs ls L st s hl hP hD hS hw
  unfold wIf1 at hw
  split at hw
  · exact lv_if_lt C.1 C.2.1 hd ht (fun h => hp H locs ls L _ s hl hP hD hS (hw.1 h)) (fun h => hq H locs ls L _ s hl hP hD hS (hw.2 h))
  · exact hw.elim
theorem s_if_ge {σ : Type} {X : Cx} {G : Gx} {nL : Nat} {enc : σ → va_W} {cc : ByteArray} {Ts : List Cond} {own : String} {rm : Room} (C : OkX X G cc nL Ts own rm) {off : Int} {tgt pc : Nat} {P Q : PT σ} (ht : (pc : Int) + off = (tgt : Int)) (hd : decode cc pc = .ok (.ifCond .ge off, 3)) (hp : Snd X G nL enc tgt P) (hq : Snd X G nL enc (pc + 3) Q) : Snd X G nL enc pc (wIf1 (fun x => 0 ≤ x) P Q) := by
  intro H locs ls L st s hl hP hD hS hw
  unfold wIf1 at hw
  split at hw
  · exact lv_if_ge C.1 C.2.1 hd ht (fun h => hp H locs ls L _ s hl hP hD hS (hw.1 h)) (fun h => hq H locs ls L _ s hl hP hD hS (hw.2 h))
  · exact hw.elim
theorem s_if_gt {σ : Type} {X : Cx} {G : Gx} {nL : Nat} {enc : σ → va_W} {cc : ByteArray} {Ts : List Cond} {own : String} {rm : Room} (C : OkX X G cc nL Ts own rm) {off : Int} {tgt pc : Nat} {P Q : PT σ} (ht : (pc : Int) + off = (tgt : Int)) (hd : decode cc pc = .ok (.ifCond .gt off, 3)) (hp : Snd X G nL enc tgt P) (hq : Snd X G nL enc (pc + 3) Q) : Snd X G nL enc pc (wIf1 (fun x => 0 < x) P Q) := by
  intro H locs ls L st s hl hP hD hS hw
  unfold wIf1 at hw
  split at hw
  · exact lv_if_gt C.1 C.2.1 hd ht (fun h => hp H locs ls L _ s hl hP hD hS (hw.1 h)) (fun h => hq H locs ls L _ s hl hP hD hS (hw.2 h))
  · exact hw.elim
theorem s_if_le {σ : Type} {X : Cx} {G : Gx} {nL : Nat} {enc : σ → va_W} {cc : ByteArray} {Ts : List Cond} {own : String} {rm : Room} (C : OkX X G cc nL Ts own rm) {off : Int} {tgt pc : Nat} {P Q : PT σ} (ht : (pc : Int) + off = (tgt : Int)) (hd : decode cc pc = .ok (.ifCond .le off, 3)) (hp : Snd X G nL enc tgt P) (hq : Snd X G nL enc (pc + 3) Q) : Snd X G nL enc pc (wIf1 (fun x => x ≤ 0) P Q) := by
  intro H locs ls L st s hl hP hD hS hw
  unfold wIf1 at hw
  split at hw
  · exact lv_if_le C.1 C.2.1 hd ht (fun h => hp H locs ls L _ s hl hP hD hS (hw.1 h)) (fun h => hq H locs ls L _ s hl hP hD hS (hw.2 h))
  · exact hw.elim
theorem s_if_ne {σ : Type} {X : Cx} {G : Gx} {nL : Nat} {enc : σ → va_W} {cc : ByteArray} {Ts : List Cond} {own : String} {rm : Room} (C : OkX X G cc nL Ts own rm) {off : Int} {tgt pc : Nat} {P Q : PT σ} (ht : (pc : Int) + off = (tgt : Int)) (hd : decode cc pc = .ok (.ifCond .ne off, 3)) (hp : Snd X G nL enc tgt P) (hq : Snd X G nL enc (pc + 3) Q) : Snd X G nL enc pc (wIf1 (fun x => x = 0) Q P) := by
  intro H locs ls L st s hl hP hD hS hw
  unfold wIf1 at hw
  split at hw
  · exact lv_if_ne C.1 C.2.1 hd ht (fun h => hp H locs ls L _ s hl hP hD hS (hw.2 h)) (fun h => hq H locs ls L _ s hl hP hD hS (hw.1 h))
  · exact hw.elim
theorem s_icmp_eq {σ : Type} {X : Cx} {G : Gx} {nL : Nat} {enc : σ → va_W} {cc : ByteArray} {Ts : List Cond} {own : String} {rm : Room} (C : OkX X G cc nL Ts own rm) {off : Int} {tgt pc : Nat} {P Q : PT σ} (ht : (pc : Int) + off = (tgt : Int)) (hd : decode cc pc = .ok (.if_icmp .eq off, 3)) (hp : Snd X G nL enc tgt P) (hq : Snd X G nL enc (pc + 3) Q) : Snd X G nL enc pc (wIf2 (fun x y => x = y) P Q) := by
  intro H locs ls L st s hl hP hD hS hw
  unfold wIf2 at hw
  split at hw
  · exact lv_icmp_eq C.1 C.2.1 hd ht (fun h => hp H locs ls L _ s hl hP hD hS (hw.1 h)) (fun h => hq H locs ls L _ s hl hP hD hS (hw.2 h))
  · exact hw.elim
theorem s_icmp_lt {σ : Type} {X : Cx} {G : Gx} {nL : Nat} {enc : σ → va_W} {cc : ByteArray} {Ts : List Cond} {own : String} {rm : Room} (C : OkX X G cc nL Ts own rm) {off : Int} {tgt pc : Nat} {P Q : PT σ} (ht : (pc : Int) + off = (tgt : Int)) (hd : decode cc pc = .ok (.if_icmp .lt off, 3)) (hp : Snd X G nL enc tgt P) (hq : Snd X G nL enc (pc + 3) Q) : Snd X G nL enc pc (wIf2 (fun x y => x < y) P Q) := by
  intro H locs ls L st s hl hP hD hS hw
  unfold wIf2 at hw
  split at hw
  · exact lv_icmp_lt C.1 C.2.1 hd ht (fun h => hp H locs ls L _ s hl hP hD hS (hw.1 h)) (fun h => hq H locs ls L _ s hl hP hD hS (hw.2 h))
  · exact hw.elim
theorem s_icmp_ge {σ : Type} {X : Cx} {G : Gx} {nL : Nat} {enc : σ → va_W} {cc : ByteArray} {Ts : List Cond} {own : String} {rm : Room} (C : OkX X G cc nL Ts own rm) {off : Int} {tgt pc : Nat} {P Q : PT σ} (ht : (pc : Int) + off = (tgt : Int)) (hd : decode cc pc = .ok (.if_icmp .ge off, 3)) (hp : Snd X G nL enc tgt P) (hq : Snd X G nL enc (pc + 3) Q) : Snd X G nL enc pc (wIf2 (fun x y => y ≤ x) P Q) := by
  intro H locs ls L st s hl hP hD hS hw
  unfold wIf2 at hw
  split at hw
  · exact lv_icmp_ge C.1 C.2.1 hd ht (fun h => hp H locs ls L _ s hl hP hD hS (hw.1 h)) (fun h => hq H locs ls L _ s hl hP hD hS (hw.2 h))
  · exact hw.elim
theorem s_icmp_gt {σ : Type} {X : Cx} {G : Gx} {nL : Nat} {enc : σ → va_W} {cc : ByteArray} {Ts : List Cond} {own : String} {rm : Room} (C : OkX X G cc nL Ts own rm) {off : Int} {tgt pc : Nat} {P Q : PT σ} (ht : (pc : Int) + off = (tgt : Int)) (hd : decode cc pc = .ok (.if_icmp .gt off, 3)) (hp : Snd X G nL enc tgt P) (hq : Snd X G nL enc (pc + 3) Q) : Snd X G nL enc pc (wIf2 (fun x y => y < x) P Q) := by
  intro H locs ls L st s hl hP hD hS hw
  unfold wIf2 at hw
  split at hw
  · exact lv_icmp_gt C.1 C.2.1 hd ht (fun h => hp H locs ls L _ s hl hP hD hS (hw.1 h)) (fun h => hq H locs ls L _ s hl hP hD hS (hw.2 h))
  · exact hw.elim
theorem s_icmp_le {σ : Type} {X : Cx} {G : Gx} {nL : Nat} {enc : σ → va_W} {cc : ByteArray} {Ts : List Cond} {own : String} {rm : Room} (C : OkX X G cc nL Ts own rm) {off : Int} {tgt pc : Nat} {P Q : PT σ} (ht : (pc : Int) + off = (tgt : Int)) (hd : decode cc pc = .ok (.if_icmp .le off, 3)) (hp : Snd X G nL enc tgt P) (hq : Snd X G nL enc (pc + 3) Q) : Snd X G nL enc pc (wIf2 (fun x y => x ≤ y) P Q) := by
  intro H locs ls L st s hl hP hD hS hw
  unfold wIf2 at hw
  split at hw
  · exact lv_icmp_le C.1 C.2.1 hd ht (fun h => hp H locs ls L _ s hl hP hD hS (hw.1 h)) (fun h => hq H locs ls L _ s hl hP hD hS (hw.2 h))
  · exact hw.elim
theorem s_icmp_ne {σ : Type} {X : Cx} {G : Gx} {nL : Nat} {enc : σ → va_W} {cc : ByteArray} {Ts : List Cond} {own : String} {rm : Room} (C : OkX X G cc nL Ts own rm) {off : Int} {tgt pc : Nat} {P Q : PT σ} (ht : (pc : Int) + off = (tgt : Int)) (hd : decode cc pc = .ok (.if_icmp .ne off, 3)) (hp : Snd X G nL enc tgt P) (hq : Snd X G nL enc (pc + 3) Q) : Snd X G nL enc pc (wIf2 (fun x y => x = y) Q P) := by
  intro H locs ls L st s hl hP hD hS hw
  unfold wIf2 at hw
  split at hw
  · exact lv_icmp_ne C.1 C.2.1 hd ht (fun h => hp H locs ls L _ s hl hP hD hS (hw.2 h)) (fun h => hq H locs ls L _ s hl hP hD hS (hw.1 h))
  · exact hw.elim
theorem s_goto {σ : Type} {X : Cx} {G : Gx} {nL : Nat} {enc : σ → va_W} {cc : ByteArray} {Ts : List Cond} {own : String} {rm : Room} (C : OkX X G cc nL Ts own rm) {off : Int} {tgt pc : Nat} {P : PT σ} (ht : (pc : Int) + off = (tgt : Int)) (hd : decode cc pc = .ok (.goto off, 3)) (hp : Snd X G nL enc tgt P) : Snd X G nL enc pc P := by
  intro H locs ls L st s hl hP hD hS hw
  exact lv_goto C.1 C.2.1 hd ht (hp H locs ls L _ s hl hP hD hS hw)
/-- only the locals that are read later go on -/
def wKeep {σ : Type} (ks : List Bool) (P : PT σ) (L : Lc) (st : List Value) (s : σ) : Prop := P (keepL L ks) st s
theorem s_keep {σ : Type} {X : Cx} {G : Gx} {nL pc : Nat} {enc : σ → va_W} (ks : List Bool) {P : PT σ} (hn : Snd X G nL enc pc P) : Snd X G nL enc pc (wKeep ks P) := fun H locs ls L st s hl hP hD hS hw => hn H locs ls _ st s (hl.keep ks) hP hD hS hw
def wInc {σ : Type} (i : Nat) (k : Int32) (P : PT σ) (L : Lc) (st : List Value) (s : σ) : Prop := match nth L i with | some (.int x) => P (stL L i (.int (x + k))) st s | _ => False
theorem s_iinc {σ : Type} {X : Cx} {G : Gx} {nL : Nat} {enc : σ → va_W} {cc : ByteArray} {Ts : List Cond} {own : String} {rm : Room} (C : OkX X G cc nL Ts own rm) {i pc : Nat} {n : Int} {k : Int32} {P : PT σ} (hk : Int32.ofInt n = k) (hi : i < nL) (hd : decode cc pc = .ok (.iinc i n, 3)) (hn : Snd X G nL enc (pc + 3) P) : Snd X G nL enc pc (wInc i k P) := by
  intro H locs ls L st s hl hP hD hS hw
  unfold wInc at hw
  split at hw
  · rename_i x hx
    have hm := mem_lvOf L 0 i _ hx
    rw [Nat.zero_add] at hm
    obtain ⟨j, hj⟩ := List.getElem?_of_mem hm
    exact lv_iinc C.1 C.2.1 hd hl.has hj (by rw [hk]) hi rfl (fun ls' h' => hn H locs ls' _ _ s (lh.st1 h') hP hD hS hw)
  · exact hw.elim
def wIst {σ : Type} (i : Nat) (P : PT σ) (L : Lc) (st : List Value) (s : σ) : Prop := match st with | .int x :: r => P (stL L i (.int x)) r s | _ => False
theorem s_istore_n {σ : Type} {X : Cx} {G : Gx} {nL : Nat} {enc : σ → va_W} {cc : ByteArray} {Ts : List Cond} {own : String} {rm : Room} (C : OkX X G cc nL Ts own rm) {k : Fin 4} {i pc : Nat} {P : PT σ} (hk : (k : Nat) = i) (hi : i < nL) (hd : decode cc pc = .ok (.istore_n k, 1)) (hn : Snd X G nL enc (pc + 1) P) : Snd X G nL enc pc (wIst i P) := by
  intro H locs ls L st s hl hP hD hS hw
  unfold wIst at hw
  split at hw
  · exact lv_istore_n C.1 C.2.1 hd hk hl.has hi rfl (fun ls' h' => hn H locs ls' _ _ s (lh.st1 h') hP hD hS hw)
  · exact hw.elim
theorem s_istore {σ : Type} {X : Cx} {G : Gx} {nL : Nat} {enc : σ → va_W} {cc : ByteArray} {Ts : List Cond} {own : String} {rm : Room} (C : OkX X G cc nL Ts own rm) {i pc : Nat} {P : PT σ} (hi : i < nL) (hd : decode cc pc = .ok (.istore i, 2)) (hn : Snd X G nL enc (pc + 2) P) : Snd X G nL enc pc (wIst i P) := by
  intro H locs ls L st s hl hP hD hS hw
  unfold wIst at hw
  split at hw
  · exact lv_istore C.1 C.2.1 hd hl.has hi rfl (fun ls' h' => hn H locs ls' _ _ s (lh.st1 h') hP hD hS hw)
  · exact hw.elim
def wAst {σ : Type} (i : Nat) (P : PT σ) (L : Lc) (st : List Value) (s : σ) : Prop := match st with | .ref x :: r => P (stL L i (.ref x)) r s | _ => False
theorem s_astore_n {σ : Type} {X : Cx} {G : Gx} {nL : Nat} {enc : σ → va_W} {cc : ByteArray} {Ts : List Cond} {own : String} {rm : Room} (C : OkX X G cc nL Ts own rm) {k : Fin 4} {i pc : Nat} {P : PT σ} (hk : (k : Nat) = i) (hi : i < nL) (hd : decode cc pc = .ok (.astore_n k, 1)) (hn : Snd X G nL enc (pc + 1) P) : Snd X G nL enc pc (wAst i P) := by
  intro H locs ls L st s hl hP hD hS hw
  unfold wAst at hw
  split at hw
  · exact lv_astore_n C.1 C.2.1 hd hk hl.has hi rfl (fun ls' h' => hn H locs ls' _ _ s (lh.st1 h') hP hD hS hw)
  · exact hw.elim
theorem s_astore {σ : Type} {X : Cx} {G : Gx} {nL : Nat} {enc : σ → va_W} {cc : ByteArray} {Ts : List Cond} {own : String} {rm : Room} (C : OkX X G cc nL Ts own rm) {i pc : Nat} {P : PT σ} (hi : i < nL) (hd : decode cc pc = .ok (.astore i, 2)) (hn : Snd X G nL enc (pc + 2) P) : Snd X G nL enc pc (wAst i P) := by
  intro H locs ls L st s hl hP hD hS hw
  unfold wAst at hw
  split at hw
  · exact lv_astore C.1 C.2.1 hd hl.has hi rfl (fun ls' h' => hn H locs ls' _ _ s (lh.st1 h') hP hD hS hw)
  · exact hw.elim
def wLst {σ : Type} (i : Nat) (P : PT σ) (L : Lc) (st : List Value) (s : σ) : Prop := match st with | .long x :: r => P (stL2 L i (.long x)) r s | _ => False
theorem s_lstore_n {σ : Type} {X : Cx} {G : Gx} {nL : Nat} {enc : σ → va_W} {cc : ByteArray} {Ts : List Cond} {own : String} {rm : Room} (C : OkX X G cc nL Ts own rm) {k : Fin 4} {i pc : Nat} {P : PT σ} (hk : (k : Nat) = i) (hi : i + 1 < nL) (hd : decode cc pc = .ok (.lstore_n k, 1)) (hn : Snd X G nL enc (pc + 1) P) : Snd X G nL enc pc (wLst i P) := by
  intro H locs ls L st s hl hP hD hS hw
  unfold wLst at hw
  split at hw
  · exact lv_lstore_n C.1 C.2.1 hd hk hl.has hi rfl (fun ls' h' => hn H locs ls' _ _ s (lh.st2 h') hP hD hS hw)
  · exact hw.elim
theorem s_lstore {σ : Type} {X : Cx} {G : Gx} {nL : Nat} {enc : σ → va_W} {cc : ByteArray} {Ts : List Cond} {own : String} {rm : Room} (C : OkX X G cc nL Ts own rm) {i pc : Nat} {P : PT σ} (hi : i + 1 < nL) (hd : decode cc pc = .ok (.lstore i, 2)) (hn : Snd X G nL enc (pc + 2) P) : Snd X G nL enc pc (wLst i P) := by
  intro H locs ls L st s hl hP hD hS hw
  unfold wLst at hw
  split at hw
  · exact lv_lstore C.1 C.2.1 hd hl.has hi rfl (fun ls' h' => hn H locs ls' _ _ s (lh.st2 h') hP hD hS hw)
  · exact hw.elim
def wDup {σ : Type} (P : PT σ) (L : Lc) (st : List Value) (s : σ) : Prop := match st with | .int x :: r => P L (.int x :: .int x :: r) s | .ref x :: r => P L (.ref x :: .ref x :: r) s | _ => False
theorem s_dup {σ : Type} {X : Cx} {G : Gx} {nL : Nat} {enc : σ → va_W} {cc : ByteArray} {Ts : List Cond} {own : String} {rm : Room} (C : OkX X G cc nL Ts own rm) {pc : Nat} {P : PT σ} (hd : decode cc pc = .ok (.dup, 1)) (hn : Snd X G nL enc (pc + 1) P) : Snd X G nL enc pc (wDup P) := by
  intro H locs ls L st s hl hP hD hS hw
  unfold wDup at hw
  split at hw
  · exact lv_dup C.1 C.2.1 hd rfl (hn H locs ls L _ s hl hP hD hS hw)
  · exact lv_dup C.1 C.2.1 hd rfl (hn H locs ls L _ s hl hP hD hS hw)
  · exact hw.elim
def wPop {σ : Type} (P : PT σ) (L : Lc) (st : List Value) (s : σ) : Prop := match st with | .int _ :: r => P L r s | .ref _ :: r => P L r s | _ => False
theorem s_pop {σ : Type} {X : Cx} {G : Gx} {nL : Nat} {enc : σ → va_W} {cc : ByteArray} {Ts : List Cond} {own : String} {rm : Room} (C : OkX X G cc nL Ts own rm) {pc : Nat} {P : PT σ} (hd : decode cc pc = .ok (.pop, 1)) (hn : Snd X G nL enc (pc + 1) P) : Snd X G nL enc pc (wPop P) := by
  intro H locs ls L st s hl hP hD hS hw
  unfold wPop at hw
  split at hw
  · exact lv_pop C.1 C.2.1 hd rfl (hn H locs ls L _ s hl hP hD hS hw)
  · exact lv_pop C.1 C.2.1 hd rfl (hn H locs ls L _ s hl hP hD hS hw)
  · exact hw.elim
def wDup2 {σ : Type} (P : PT σ) (L : Lc) (st : List Value) (s : σ) : Prop := match st with | .int x :: .ref a :: r => P L (.int x :: .ref a :: .int x :: .ref a :: r) s | _ => False
theorem s_dup2 {σ : Type} {X : Cx} {G : Gx} {nL : Nat} {enc : σ → va_W} {cc : ByteArray} {Ts : List Cond} {own : String} {rm : Room} (C : OkX X G cc nL Ts own rm) {pc : Nat} {P : PT σ} (hd : decode cc pc = .ok (.dup2, 1)) (hn : Snd X G nL enc (pc + 1) P) : Snd X G nL enc pc (wDup2 P) := by
  intro H locs ls L st s hl hP hD hS hw
  unfold wDup2 at hw
  split at hw
  · exact lv_dup2_11 C.1 C.2.1 hd rfl rfl (hn H locs ls L _ s hl hP hD hS hw)
  · exact hw.elim
def wGet {σ : Type} (a : Nat) (f : σ → Value) (P : PT σ) (L : Lc) (st : List Value) (s : σ) : Prop := match st with | .ref b :: r => b = a ∧ P L (f s :: r) s | _ => False
theorem s_get {σ : Type} {X : Cx} {G : Gx} {nL : Nat} {enc : σ → va_W} {cc : ByteArray} {Ts : List Cond} {own : String} {rm : Room} (C : OkX X G cc nL Ts own rm) {ci index q0 a pc N k : Nat} {CN : String} {T : u_T} {fs : σ → List Value} {f : σ → Value} {P : PT σ} (hin : ∀ w ∈ u_ws CN T N, w ∈ Ts) (hc : G.2.1[ci]? = some (CN, T, N)) (hk : k < N) (hlink : Cond.fieldLink own index (T k).1 (T k).2.1 (T k).2.2.1 ∈ Ts) (he : ∀ s, (enc s)[q0]? = some (a, .inr (ci, fs s))) (hv : ∀ s, (fs s)[k]? = some (f s)) (hd : decode cc pc = .ok (.getfield index, 3)) (hn : Snd X G nL enc (pc + 3) P) : Snd X G nL enc pc (wGet a f P) := by
  intro H locs ls L st s hl hP hD hS hw
  unfold wGet at hw
  split at hw
  · obtain ⟨rfl, hw⟩ := hw
    exact va_get C.1 C.2.1 C.2.2.2.2.1 hin C.2.2.2.1 C.2.2.2.2.2.1 hP q0 (he s) hc k hk (C.2.2.2.2.1 _ hlink) (fun _ h => h) (hv s) hd (hn H locs ls L _ s hl hP hD hS hw)
  · exact hw.elim
def wPut {σ : Type} (a : Nat) (g : σ → Int32 → σ) (P : PT σ) (L : Lc) (st : List Value) (s : σ) : Prop := match st with | .int v :: .ref b :: r => b = a ∧ P L r (g s v) | _ => False
theorem s_put {σ : Type} {X : Cx} {G : Gx} {nL : Nat} {enc : σ → va_W} {cc : ByteArray} {Ts : List Cond} {own : String} {rm : Room} (C : OkX X G cc nL Ts own rm) {ci index q0 a pc N k : Nat} {CN : String} {T : u_T} {fs : σ → List Value} {g : σ → Int32 → σ} {P : PT σ} {ty : Nat → FieldType} (hin : ∀ w ∈ u_ws CN T N, w ∈ Ts) (hc : G.2.1[ci]? = some (CN, T, N)) (hk : k < N) (hlink : Cond.fieldLink own index (T k).1 (T k).2.1 (T k).2.2.1 ∈ Ts) (hty : ∀ k, k < N → parseFieldDescriptor (T k).2.2.1 = some (ty k)) (hnm : ∀ a, a < N → ∀ b, b < N → a ≠ b → (T a).2.1 ≠ (T b).2.1) (hfin : (T k).2.2.2 = false) (hint : parseFieldDescriptor (T k).2.2.1 = some .int) (he : ∀ s, (enc s)[q0]? = some (a, .inr (ci, fs s))) (hlen : ∀ s, k < (fs s).length) (hg : ∀ s v, (enc s).set q0 (a, .inr (ci, (fs s).set k (.int v))) = enc (g s v)) (hd : decode cc pc = .ok (.putfield index, 3)) (hn : Snd X G nL enc (pc + 3) P) : Snd X G nL enc pc (wPut a g P) := by
  intro H locs ls L st s hl hP hD hS hw
  unfold wPut at hw
  split at hw
  · obtain ⟨rfl, hw⟩ := hw
    refine va_put C.1 C.2.1 C.2.2.2.2.1 hin ty hty hnm C.2.2.2.1 C.2.2.2.2.2.1 hP hD hS q0 (he s) hc k hk (C.2.2.2.2.1 _ hlink) (fun _ h => h) hfin hint rfl rfl (hlen s) hd (fun H1 locs1 hP1 hD1 hS1 => ?_)
    rw [hg] at hP1 hD1
    exact hn H1 locs1 ls L _ _ hl hP1 hD1 hS1 hw
  · exact hw.elim
/-- a boolean field -/
def wPutZ {σ : Type} (a : Nat) (g : σ → Int32 → σ) (P : PT σ) (L : Lc) (st : List Value) (s : σ) : Prop := match st with | .int v :: .ref b :: r => b = a ∧ (v = 0 ∨ v = 1) ∧ P L r (g s v) | _ => False
theorem s_putZ {σ : Type} {X : Cx} {G : Gx} {nL : Nat} {enc : σ → va_W} {cc : ByteArray} {Ts : List Cond} {own : String} {rm : Room} (C : OkX X G cc nL Ts own rm) {ci index q0 a pc N k : Nat} {CN : String} {T : u_T} {fs : σ → List Value} {g : σ → Int32 → σ} {P : PT σ} {ty : Nat → FieldType} (hin : ∀ w ∈ u_ws CN T N, w ∈ Ts) (hc : G.2.1[ci]? = some (CN, T, N)) (hk : k < N) (hlink : Cond.fieldLink own index (T k).1 (T k).2.1 (T k).2.2.1 ∈ Ts) (hty : ∀ k, k < N → parseFieldDescriptor (T k).2.2.1 = some (ty k)) (hnm : ∀ a, a < N → ∀ b, b < N → a ≠ b → (T a).2.1 ≠ (T b).2.1) (hfin : (T k).2.2.2 = false) (hint : parseFieldDescriptor (T k).2.2.1 = some .boolean) (he : ∀ s, (enc s)[q0]? = some (a, .inr (ci, fs s))) (hlen : ∀ s, k < (fs s).length) (hg : ∀ s v, (enc s).set q0 (a, .inr (ci, (fs s).set k (.int v))) = enc (g s v)) (hd : decode cc pc = .ok (.putfield index, 3)) (hn : Snd X G nL enc (pc + 3) P) : Snd X G nL enc pc (wPutZ a g P) := by
  intro H locs ls L st s hl hP hD hS hw
  unfold wPutZ at hw
  split at hw
  · obtain ⟨rfl, hv, hw⟩ := hw
    refine va_put C.1 C.2.1 C.2.2.2.2.1 hin ty hty hnm C.2.2.2.1 C.2.2.2.2.2.1 hP hD hS q0 (he s) hc k hk (C.2.2.2.2.1 _ hlink) (fun _ h => h) hfin hint (by rcases hv with rfl | rfl <;> rfl) (by rcases hv with rfl | rfl <;> rfl) (hlen s) hd (fun H1 locs1 hP1 hD1 hS1 => ?_)
    rw [hg] at hP1 hD1
    exact hn H1 locs1 ls L _ _ hl hP1 hD1 hS1 hw
  · exact hw.elim
def wIald {σ : Type} (a n : Nat) (f : σ → Nat → Int32) (P : PT σ) (L : Lc) (st : List Value) (s : σ) : Prop := match st with | .int i :: .ref b :: r => b = a ∧ vp_in i n ∧ P L (.int (f s i.toNatClampNeg) :: r) s | _ => False
theorem s_iald {σ : Type} {X : Cx} {G : Gx} {nL : Nat} {enc : σ → va_W} {cc : ByteArray} {Ts : List Cond} {own : String} {rm : Room} (C : OkX X G cc nL Ts own rm) {q0 a n pc : Nat} {f : σ → Nat → Int32} {P : PT σ} (he : ∀ s, (enc s)[q0]? = some (a, .inl (G.2.2.1, n, .inl (f s)))) (hd : decode cc pc = .ok (.iaload, 1)) (hn : Snd X G nL enc (pc + 1) P) : Snd X G nL enc pc (wIald a n f P) := by
  intro H locs ls L st s hl hP hD hS hw
  unfold wIald at hw
  split at hw
  · obtain ⟨rfl, hi, hw⟩ := hw
    exact va_iald C.1 C.2.1 C.2.2.2.2.2.1 hP q0 0 (he s) rfl hi hd (hn H locs ls L _ s hl hP hD hS hw)
  · exact hw.elim
def wIast {σ : Type} (a n : Nat) (g : σ → Nat → Int32 → σ) (P : PT σ) (L : Lc) (st : List Value) (s : σ) : Prop := match st with | .int v :: .int i :: .ref b :: r => b = a ∧ vp_in i n ∧ P L r (g s i.toNatClampNeg v) | _ => False
theorem s_iast {σ : Type} {X : Cx} {G : Gx} {nL : Nat} {enc : σ → va_W} {cc : ByteArray} {Ts : List Cond} {own : String} {rm : Room} (C : OkX X G cc nL Ts own rm) {q0 a n pc : Nat} {f : σ → Nat → Int32} {g : σ → Nat → Int32 → σ} {P : PT σ} (he : ∀ s, (enc s)[q0]? = some (a, .inl (G.2.2.1, n, .inl (f s)))) (hg : ∀ s i v, (enc s).set q0 (a, .inl (G.2.2.1, n, .inl (upd (f s) i v))) = enc (g s i v)) (hd : decode cc pc = .ok (.iastore, 1)) (hn : Snd X G nL enc (pc + 1) P) : Snd X G nL enc pc (wIast a n g P) := by
  intro H locs ls L st s hl hP hD hS hw
  unfold wIast at hw
  split at hw
  · obtain ⟨rfl, hi, hw⟩ := hw
    refine va_iast C.1 C.2.1 C.2.2.2.2.2.1 hP hD hS q0 0 (he s) rfl hi hd (fun H1 locs1 hP1 hD1 hS1 => ?_)
    rw [hg] at hP1 hD1
    exact hn H1 locs1 ls L _ _ hl hP1 hD1 hS1 hw
  · exact hw.elim
def wLald {σ : Type} (a n : Nat) (f : σ → Nat → Int64) (P : PT σ) (L : Lc) (st : List Value) (s : σ) : Prop := match st with | .int i :: .ref b :: r => b = a ∧ vp_in i n ∧ P L (.long (f s i.toNatClampNeg) :: r) s | _ => False
theorem s_lald {σ : Type} {X : Cx} {G : Gx} {nL : Nat} {enc : σ → va_W} {cc : ByteArray} {Ts : List Cond} {own : String} {rm : Room} (C : OkX X G cc nL Ts own rm) {q0 a n pc : Nat} {f : σ → Nat → Int64} {P : PT σ} (he : ∀ s, (enc s)[q0]? = some (a, .inl (G.2.2.2.1, n, .inr (.inl (f s))))) (hd : decode cc pc = .ok (.laload, 1)) (hn : Snd X G nL enc (pc + 1) P) : Snd X G nL enc pc (wLald a n f P) := by
  intro H locs ls L st s hl hP hD hS hw
  unfold wLald at hw
  split at hw
  · obtain ⟨rfl, hi, hw⟩ := hw
    exact va_lald C.1 C.2.1 C.2.2.2.2.2.1 hP q0 1 (he s) rfl hi hd (hn H locs ls L _ s hl hP hD hS hw)
  · exact hw.elim
def wLast {σ : Type} (a n : Nat) (g : σ → Nat → Int64 → σ) (P : PT σ) (L : Lc) (st : List Value) (s : σ) : Prop := match st with | .long v :: .int i :: .ref b :: r => b = a ∧ vp_in i n ∧ P L r (g s i.toNatClampNeg v) | _ => False
theorem s_last {σ : Type} {X : Cx} {G : Gx} {nL : Nat} {enc : σ → va_W} {cc : ByteArray} {Ts : List Cond} {own : String} {rm : Room} (C : OkX X G cc nL Ts own rm) {q0 a n pc : Nat} {f : σ → Nat → Int64} {g : σ → Nat → Int64 → σ} {P : PT σ} (he : ∀ s, (enc s)[q0]? = some (a, .inl (G.2.2.2.1, n, .inr (.inl (f s))))) (hg : ∀ s i v, (enc s).set q0 (a, .inl (G.2.2.2.1, n, .inr (.inl (vp_updL (f s) i v)))) = enc (g s i v)) (hd : decode cc pc = .ok (.lastore, 1)) (hn : Snd X G nL enc (pc + 1) P) : Snd X G nL enc pc (wLast a n g P) := by
  intro H locs ls L st s hl hP hD hS hw
  unfold wLast at hw
  split at hw
  · obtain ⟨rfl, hi, hw⟩ := hw
    refine va_last C.1 C.2.1 C.2.2.2.2.2.1 hP hD hS q0 1 (he s) rfl hi hd (fun H1 locs1 hP1 hD1 hS1 => ?_)
    rw [hg] at hP1 hD1
    exact hn H1 locs1 ls L _ _ hl hP1 hD1 hS1 hw
  · exact hw.elim
def wLen {σ : Type} (a : Nat) (v : Int32) (P : PT σ) (L : Lc) (st : List Value) (s : σ) : Prop := match st with | .ref b :: r => b = a ∧ P L (.int v :: r) s | _ => False
theorem s_alen {σ : Type} {X : Cx} {G : Gx} {nL : Nat} {enc : σ → va_W} {cc : ByteArray} {Ts : List Cond} {own : String} {rm : Room} (C : OkX X G cc nL Ts own rm) {q0 a pc t0 : Nat} {cA : ClassId} {ty : FieldType} {x : σ → vp_A} {v : Int32} {P : PT σ} (he : ∀ s, (enc s)[q0]? = some (a, .inl (cA, x s))) (hty : (tyG G)[t0]? = some (cA, ty)) (hv : ∀ s, Int32.ofNat (x s).1 = v) (hd : decode cc pc = .ok (.arraylength, 1)) (hn : Snd X G nL enc (pc + 1) P) : Snd X G nL enc pc (wLen a v P) := by
  intro H locs ls L st s hl hP hD hS hw
  unfold wLen at hw
  split at hw
  · obtain ⟨rfl, hw⟩ := hw
    exact va_alen C.1 C.2.1 C.2.2.2.2.2.1 hP q0 t0 (he s) hty (hv s) hd (hn H locs ls L _ s hl hP hD hS hw)
  · exact hw.elim
def wRet {σ : Type} (Post : Option Value → σ → Prop) (_ : Lc) (st : List Value) (s : σ) : Prop := match st with | [v] => Post (some v) s | _ => False
def wRetI {σ : Type} (Post : Option Value → σ → Prop) (_ : Lc) (st : List Value) (s : σ) : Prop := match st with | [.int v] => Post (some (.int v)) s | _ => False
def wRetZ {σ : Type} (Post : Option Value → σ → Prop) (_ : Lc) (st : List Value) (s : σ) : Prop := match st with | [.int v] => (v = 0 ∨ v = 1) ∧ Post (some (.int v)) s | _ => False
def wRetL {σ : Type} (Post : Option Value → σ → Prop) (_ : Lc) (st : List Value) (s : σ) : Prop := match st with | [.long v] => Post (some (.long v)) s | _ => False
def wRetA {σ : Type} (Post : Option Value → σ → Prop) (_ : Lc) (st : List Value) (s : σ) : Prop := match st with | [.ref v] => Post (some (.ref v)) s | _ => False
def wRetV {σ : Type} (Post : Option Value → σ → Prop) (_ : Lc) (st : List Value) (s : σ) : Prop := match st with | [] => Post none s | _ => False
theorem s_iret {σ : Type} {X : Cx} {G : Gx} {nL : Nat} {enc : σ → va_W} {cc : ByteArray} {Ts : List Cond} {own : String} {rm : Room} (C : OkX X G cc nL Ts own rm) {pc : Nat} {Post : Option Value → σ → Prop} (hR : RtX X G (some .int) enc Post) (hd : decode cc pc = .ok (.ireturn, 1)) : Snd X G nL enc pc (wRetI Post) := by
  intro H locs ls L st s hl hP hD hS hw
  obtain ⟨hr, hq⟩ := hR
  rw [hq]
  unfold wRetI at hw
  split at hw
  · exact W.iret C.1 C.2.1 hr (fun t ht hW => ⟨⟨_, s, rfl, hw, by rw [ht]; exact hP, va_K.moved hW.alike C.2.2.2.2.2.1, hD⟩, hS.F ht⟩) hS.2.2 hd C.2.2.2.2.2.2.2.1
  · exact hw.elim
theorem s_zret {σ : Type} {X : Cx} {G : Gx} {nL : Nat} {enc : σ → va_W} {cc : ByteArray} {Ts : List Cond} {own : String} {rm : Room} (C : OkX X G cc nL Ts own rm) {pc : Nat} {Post : Option Value → σ → Prop} (hR : RtX X G (some .boolean) enc Post) (hd : decode cc pc = .ok (.ireturn, 1)) : Snd X G nL enc pc (wRetZ Post) := by
  intro H locs ls L st s hl hP hD hS hw
  obtain ⟨hr, hq⟩ := hR
  rw [hq]
  unfold wRetZ at hw
  split at hw
  · obtain ⟨hv, hw⟩ := hw
    exact W.zret C.1 C.2.1 hr (by rcases hv with rfl | rfl <;> rfl) (fun t ht hW => ⟨⟨_, s, rfl, hw, by rw [ht]; exact hP, va_K.moved hW.alike C.2.2.2.2.2.1, hD⟩, hS.F ht⟩) hS.2.2 hd C.2.2.2.2.2.2.2.1
  · exact hw.elim
theorem s_lret {σ : Type} {X : Cx} {G : Gx} {nL : Nat} {enc : σ → va_W} {cc : ByteArray} {Ts : List Cond} {own : String} {rm : Room} (C : OkX X G cc nL Ts own rm) {pc : Nat} {Post : Option Value → σ → Prop} (hR : RtX X G (some .long) enc Post) (hd : decode cc pc = .ok (.lreturn, 1)) : Snd X G nL enc pc (wRetL Post) := by
  intro H locs ls L st s hl hP hD hS hw
  obtain ⟨hr, hq⟩ := hR
  rw [hq]
  unfold wRetL at hw
  split at hw
  · exact W.lret C.1 C.2.1 hr (fun t ht hW => ⟨⟨_, s, rfl, hw, by rw [ht]; exact hP, va_K.moved hW.alike C.2.2.2.2.2.1, hD⟩, hS.F ht⟩) hS.2.2 hd C.2.2.2.2.2.2.2.1
  · exact hw.elim
theorem s_aret {σ : Type} {X : Cx} {G : Gx} {nL : Nat} {enc : σ → va_W} {cc : ByteArray} {Ts : List Cond} {own : String} {rm : Room} (C : OkX X G cc nL Ts own rm) {pc : Nat} {Post : Option Value → σ → Prop} {rt : String} (hR : RtX X G (some (.object rt)) enc Post) (hd : decode cc pc = .ok (.areturn, 1)) : Snd X G nL enc pc (wRetA Post) := by
  intro H locs ls L st s hl hP hD hS hw
  obtain ⟨hr, hq⟩ := hR
  rw [hq]
  unfold wRetA at hw
  split at hw
  · exact W.aret C.1 C.2.1 hr (Or.inl ⟨_, rfl⟩) (Or.inr ⟨_, rfl⟩) (fun t ht hW => ⟨⟨_, s, rfl, hw, by rw [ht]; exact hP, va_K.moved hW.alike C.2.2.2.2.2.1, hD⟩, hS.F ht⟩) hS.2.2 hd C.2.2.2.2.2.2.2.1
  · exact hw.elim
theorem s_vret {σ : Type} {X : Cx} {G : Gx} {nL : Nat} {enc : σ → va_W} {cc : ByteArray} {Ts : List Cond} {own : String} {rm : Room} (C : OkX X G cc nL Ts own rm) {pc : Nat} {Post : Option Value → σ → Prop} (hR : RtX X G none enc Post) (hd : decode cc pc = .ok (.return_, 1)) : Snd X G nL enc pc (wRetV Post) := by
  intro H locs ls L st s hl hP hD hS hw
  obtain ⟨hr, hq⟩ := hR
  rw [hq]
  unfold wRetV at hw
  split at hw
  · exact W.vret C.1 C.2.1 hr (fun t ht hW => ⟨⟨_, s, rfl, hw, by rw [ht]; exact hP, va_K.moved hW.alike C.2.2.2.2.2.1, hD⟩, hS.F ht⟩) hS.2.2 hd C.2.2.2.2.2.2.2.1
  · exact hw.elim
def restOKn : Nat → List Value → Prop
  | _, [] => True
  | n + 1, .int _ :: r => restOKn n r
  | n + 1, .ref _ :: r => restOKn n r
  | n + 2, .long _ :: r => restOKn n r
  | _, _ => False
theorem restOKn_le : ∀ (r : List Value) (n : Nat), restOKn n r → (r.map fun v => v.category).sum ≤ n := by
  intro r
  induction r with
  | nil => intro n _; simp
  | cons v r ih =>
    intro n h
    cases v with
    | int x =>
      cases n with
      | zero => exact absurd h id
      | succ n => have := ih n h; rw [List.map_cons, List.sum_cons]; show 1 + (List.map (fun v => v.category) r).sum ≤ n + 1; omega
    | ref x =>
      cases n with
      | zero => exact absurd h id
      | succ n => have := ih n h; rw [List.map_cons, List.sum_cons]; show 1 + (List.map (fun v => v.category) r).sum ≤ n + 1; omega
    | long x =>
      match n, h with
      | n + 2, h => have := ih n h; rw [List.map_cons, List.sum_cons]; show 2 + (List.map (fun v => v.category) r).sum ≤ n + 2; omega
      | 1, h => exact absurd h id
      | 0, h => exact absurd h id
    | float x => cases n <;> exact absurd h id
    | double x => cases n <;> exact absurd h id
    | null => cases n <;> exact absurd h id
    | retAddr x => cases n <;> exact absurd h id
def restOK (r : List Value) : Prop := restOKn 8 r
theorem restOK_le {r : List Value} (h : restOK r) : (r.map fun v => v.category).sum ≤ 8 := restOKn_le r 8 h
def wM1 {σ : Type} (f : Int32 → Int32) (P : PT σ) (L : Lc) (st : List Value) (s : σ) : Prop := match st with | .int x :: r => restOK r ∧ P L (.int (f x) :: r) s | _ => False
def wM2 {σ : Type} (f : Int32 → Int32 → Int32) (P : PT σ) (L : Lc) (st : List Value) (s : σ) : Prop := match st with | .int y :: .int x :: r => restOK r ∧ P L (.int (f x y) :: r) s | _ => False
theorem s_mabs {σ : Type} {X : Cx} {G : Gx} {nL : Nat} {enc : σ → va_W} {cc : ByteArray} {Ts : List Cond} {own : String} {rm : Room} (C : OkX X G cc nL Ts own rm) {index pc : Nat} {P : PT σ} (h1 : Cond.methodLink own index Lib.Math.abs.name ∈ Ts) (h2 : Cond.static Lib.Math.abs.name ∈ Ts) (h3 : Cond.initialized "java/lang/Math" ∈ Ts) (h4 : Cond.code Lib.Math.abs.name Lib.Math.abs.code 1 (some .int) ∈ Ts) (hrm : 1 ≤ rm.frames ∧ 21 ≤ rm.locals) (hd : decode cc pc = .ok (.invokestatic index, 3)) (hn : Snd X G nL enc (pc + 3) P) : Snd X G nL enc pc (wM1 (fun x => if 0 ≤ x then x else 0 - x) P) := by
  intro H locs ls L st s hl hP hD hS hw
  unfold wM1 at hw
  split at hw
  · obtain ⟨hr, hw⟩ := hw
    have hr := restOK_le hr
    exact va_mabs C.1 C.2.1 (C.2.2.1.trans hl.1.symm) C.2.2.2.1 (C.2.2.2.2.1 _ h1) (C.2.2.2.2.1 _ h2) (C.2.2.2.2.1 _ h3) (C.2.2.2.2.1 _ h4) (by rw [C.2.2.2.2.2.2.2.2.1]; exact hrm.1) (by rw [C.2.2.2.2.2.2.2.2.1]; omega) (Nat.zero_le _) (Nat.zero_le _) hd (hn H locs ls L _ s hl hP hD hS hw)
  · exact hw.elim
theorem s_mmax {σ : Type} {X : Cx} {G : Gx} {nL : Nat} {enc : σ → va_W} {cc : ByteArray} {Ts : List Cond} {own : String} {rm : Room} (C : OkX X G cc nL Ts own rm) {index pc : Nat} {P : PT σ} (h1 : Cond.methodLink own index Lib.Math.max.name ∈ Ts) (h2 : Cond.static Lib.Math.max.name ∈ Ts) (h3 : Cond.initialized "java/lang/Math" ∈ Ts) (h4 : Cond.code Lib.Math.max.name Lib.Math.max.code 2 (some .int) ∈ Ts) (hrm : 1 ≤ rm.frames ∧ 21 ≤ rm.locals) (hd : decode cc pc = .ok (.invokestatic index, 3)) (hn : Snd X G nL enc (pc + 3) P) : Snd X G nL enc pc (wM2 (fun x y => if x < y then y else x) P) := by
  intro H locs ls L st s hl hP hD hS hw
  unfold wM2 at hw
  split at hw
  · obtain ⟨hr, hw⟩ := hw
    have hr := restOK_le hr
    exact va_mmax C.1 C.2.1 (C.2.2.1.trans hl.1.symm) C.2.2.2.1 (C.2.2.2.2.1 _ h1) (C.2.2.2.2.1 _ h2) (C.2.2.2.2.1 _ h3) (C.2.2.2.2.1 _ h4) (by rw [C.2.2.2.2.2.2.2.2.1]; exact hrm.1) (by rw [C.2.2.2.2.2.2.2.2.1]; omega) (Nat.zero_le _) (Nat.zero_le _) hd (hn H locs ls L _ s hl hP hD hS hw)
  · exact hw.elim
theorem s_mmin {σ : Type} {X : Cx} {G : Gx} {nL : Nat} {enc : σ → va_W} {cc : ByteArray} {Ts : List Cond} {own : String} {rm : Room} (C : OkX X G cc nL Ts own rm) {index pc : Nat} {P : PT σ} (h1 : Cond.methodLink own index Lib.Math.min.name ∈ Ts) (h2 : Cond.static Lib.Math.min.name ∈ Ts) (h3 : Cond.initialized "java/lang/Math" ∈ Ts) (h4 : Cond.code Lib.Math.min.name Lib.Math.min.code 2 (some .int) ∈ Ts) (hrm : 1 ≤ rm.frames ∧ 21 ≤ rm.locals) (hd : decode cc pc = .ok (.invokestatic index, 3)) (hn : Snd X G nL enc (pc + 3) P) : Snd X G nL enc pc (wM2 (fun x y => if y < x then y else x) P) := by
  intro H locs ls L st s hl hP hD hS hw
  unfold wM2 at hw
  split at hw
  · obtain ⟨hr, hw⟩ := hw
    have hr := restOK_le hr
    exact va_mmin C.1 C.2.1 (C.2.2.1.trans hl.1.symm) C.2.2.2.1 (C.2.2.2.2.1 _ h1) (C.2.2.2.2.1 _ h2) (C.2.2.2.2.1 _ h3) (C.2.2.2.2.1 _ h4) (by rw [C.2.2.2.2.2.2.2.2.1]; exact hrm.1) (by rw [C.2.2.2.2.2.2.2.2.1]; omega) (Nat.zero_le _) (Nat.zero_le _) hd (hn H locs ls L _ s hl hP hD hS hw)
  · exact hw.elim
def wCpy {σ : Type} (a b n0 n1 : Nat) (f g : σ → Nat → Int32) (set : σ → (Nat → Int32) → σ) (P : PT σ) (L : Lc) (st : List Value) (s : σ) : Prop := match st with | .int n :: .int dp :: .ref a1 :: .int sp :: .ref a0 :: r => a0 = a ∧ a1 = b ∧ restOK r ∧ (¬ sp < 0 ∧ ¬ dp < 0 ∧ ¬ n < 0 ∧ sp.toNatClampNeg + n.toNatClampNeg ≤ n0 ∧ dp.toNatClampNeg + n.toNatClampNeg ≤ n1) ∧ P L r (set s (va_cpy (f s) (g s) sp.toNatClampNeg dp.toNatClampNeg n.toNatClampNeg)) | _ => False
theorem s_copyi {σ : Type} {X : Cx} {G : Gx} {nL : Nat} {enc : σ → va_W} {cc : ByteArray} {Ts : List Cond} {own : String} {rm : Room} (C : OkX X G cc nL Ts own rm) {index pc q0 q1 a b n0 n1 : Nat} {f g : σ → Nat → Int32} {set : σ → (Nat → Int32) → σ} {P : PT σ} (h1 : Cond.methodLink own index arraycopyName ∈ Ts) (h2 : Cond.native arraycopyName ∈ Ts) (h3 : Cond.static arraycopyName ∈ Ts) (h4 : Cond.initialized "java/lang/System" ∈ Ts) (hrm : 1 ≤ rm.frames ∧ 8 + (nativeFrameWords "java/lang/System" "arraycopy" 5 + 11) ≤ rm.locals) (he0 : ∀ s, (enc s)[q0]? = some (a, .inl (G.2.2.1, n0, .inl (f s)))) (he1 : ∀ s, (enc s)[q1]? = some (b, .inl (G.2.2.1, n1, .inl (g s)))) (hset : ∀ s h, (enc s).set q1 (b, .inl (G.2.2.1, n1, .inl h)) = enc (set s h)) (hd : decode cc pc = .ok (.invokestatic index, 3)) (hn : Snd X G nL enc (pc + 3) P) : Snd X G nL enc pc (wCpy a b n0 n1 f g set P) := by
  intro H locs ls L st s hl hP hD hS hw
  unfold wCpy at hw
  split at hw
  · obtain ⟨rfl, rfl, hr, ⟨k1, k2, k3, k4, k5⟩, hw⟩ := hw
    have hr := restOK_le hr
    refine va_copyi C.1 C.2.1 (C.2.2.1.trans hl.1.symm) C.2.2.2.1 (C.2.2.2.2.1 _ h1) (C.2.2.2.2.1 _ h2) (C.2.2.2.2.1 _ h3) (C.2.2.2.2.1 _ h4) C.2.2.2.2.2.1 hP hD hS q0 q1 0 0 (he0 s) (he1 s) rfl rfl rfl k1 k2 k3 k4 k5 (fun _ _ => rfl) (by rw [C.2.2.2.2.2.2.2.2.1]; exact hrm.1) (by rw [C.2.2.2.2.2.2.2.2.1]; omega) hd (fun H1 locs1 hP1 hD1 hS1 => ?_)
    rw [hset] at hP1 hD1
    exact hn H1 locs1 ls L _ _ hl hP1 hD1 hS1 hw
  · exact hw.elim
